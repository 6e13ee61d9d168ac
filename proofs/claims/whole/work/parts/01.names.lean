-- ===== PART A: goes FIRST, ahead of the names: the tables' words, and 'selects' of the private methods out of them =====
/-- a private method of a class that the tables say can be made, by its rows of tables_1 -/
def lw_okq (q : MethodName × Nat) : Prop := (q.1.cls ≠ "java/lang/invoke/MethodHandle" ∧ q.1.cls ≠ "java/lang/invoke/VarHandle") ∧ Cond.instantiable q.1.cls q.2 ∈ tables_1 ∧ Cond.privateMethod q.1 ∈ tables_1 ∧ Cond.instanceMethod q.1 ∈ tables_1
theorem lw_p0 : lw_okq (⟨"StampedSlots$History", "dropOldest", "()V"⟩, 2) := ⟨⟨by decide +kernel, by decide +kernel⟩, List.mem_of_getElem? (i := 105) (by decide +kernel), List.mem_of_getElem? (i := 155) (by decide +kernel), List.mem_of_getElem? (i := 156) (by decide +kernel)⟩
theorem lw_p1 : lw_okq (⟨"StampedSlots$Row", "thingIn", "(I)I"⟩, 3) := ⟨⟨by decide +kernel, by decide +kernel⟩, List.mem_of_getElem? (i := 61) (by decide +kernel), List.mem_of_getElem? (i := 183) (by decide +kernel), List.mem_of_getElem? (i := 184) (by decide +kernel)⟩
theorem lw_p2 : lw_okq (⟨"StampedSlots$Row", "isEntry", "(I)Z"⟩, 3) := ⟨⟨by decide +kernel, by decide +kernel⟩, List.mem_of_getElem? (i := 61) (by decide +kernel), List.mem_of_getElem? (i := 187) (by decide +kernel), List.mem_of_getElem? (i := 188) (by decide +kernel)⟩
theorem lw_p3 : lw_okq (⟨"StampedSlots$Slots", "giveCells", "(III)V"⟩, 7) := ⟨⟨by decide +kernel, by decide +kernel⟩, List.mem_of_getElem? (i := 32) (by decide +kernel), List.mem_of_getElem? (i := 219) (by decide +kernel), List.mem_of_getElem? (i := 220) (by decide +kernel)⟩
theorem lw_p4 : lw_okq (⟨"StampedSlots$Row", "sweep", "(I)V"⟩, 3) := ⟨⟨by decide +kernel, by decide +kernel⟩, List.mem_of_getElem? (i := 61) (by decide +kernel), List.mem_of_getElem? (i := 231) (by decide +kernel), List.mem_of_getElem? (i := 232) (by decide +kernel)⟩
theorem lw_p5 : lw_okq (⟨"StampedSlots$Slots", "growTo", "(I)V"⟩, 7) := ⟨⟨by decide +kernel, by decide +kernel⟩, List.mem_of_getElem? (i := 32) (by decide +kernel), List.mem_of_getElem? (i := 259) (by decide +kernel), List.mem_of_getElem? (i := 260) (by decide +kernel)⟩
theorem lw_p6 : lw_okq (⟨"StampedSlots$Row", "thingsFrom", "(I)I"⟩, 3) := ⟨⟨by decide +kernel, by decide +kernel⟩, List.mem_of_getElem? (i := 61) (by decide +kernel), List.mem_of_getElem? (i := 373) (by decide +kernel), List.mem_of_getElem? (i := 374) (by decide +kernel)⟩
theorem lw_p7 : lw_okq (⟨"java/lang/Throwable", "fillInStackTrace", "(I)Ljava/lang/Throwable;"⟩, 6) := ⟨⟨by decide +kernel, by decide +kernel⟩, List.mem_of_getElem? (i := 431) (by decide +kernel), List.mem_of_getElem? (i := 429) (by decide +kernel), List.mem_of_getElem? (i := 430) (by decide +kernel)⟩
theorem lw_p8 : lw_okq (⟨"StampedSlots", "hashThings", "(J)J"⟩, 4) := ⟨⟨by decide +kernel, by decide +kernel⟩, List.mem_of_getElem? (i := 18) (by decide +kernel), List.mem_of_getElem? (i := 461) (by decide +kernel), List.mem_of_getElem? (i := 462) (by decide +kernel)⟩
theorem lw_p9 : lw_okq (⟨"StampedSlots", "hashCellsAndWalkers", "(J)J"⟩, 4) := ⟨⟨by decide +kernel, by decide +kernel⟩, List.mem_of_getElem? (i := 18) (by decide +kernel), List.mem_of_getElem? (i := 509) (by decide +kernel), List.mem_of_getElem? (i := 510) (by decide +kernel)⟩
theorem lw_p10 : lw_okq (⟨"StampedSlots$Row", "indexUnder", "(I)I"⟩, 3) := ⟨⟨by decide +kernel, by decide +kernel⟩, List.mem_of_getElem? (i := 61) (by decide +kernel), List.mem_of_getElem? (i := 534) (by decide +kernel), List.mem_of_getElem? (i := 535) (by decide +kernel)⟩
theorem lw_p11 : lw_okq (⟨"StampedSlots", "hashGaps", "(J)J"⟩, 4) := ⟨⟨by decide +kernel, by decide +kernel⟩, List.mem_of_getElem? (i := 18) (by decide +kernel), List.mem_of_getElem? (i := 548) (by decide +kernel), List.mem_of_getElem? (i := 549) (by decide +kernel)⟩
theorem lw_p12 : lw_okq (⟨"StampedSlots", "tryEvents", "(I)I"⟩, 4) := ⟨⟨by decide +kernel, by decide +kernel⟩, List.mem_of_getElem? (i := 18) (by decide +kernel), List.mem_of_getElem? (i := 574) (by decide +kernel), List.mem_of_getElem? (i := 575) (by decide +kernel)⟩
theorem lw_p13 : lw_okq (⟨"StampedSlots", "hashRoom", "(J)J"⟩, 4) := ⟨⟨by decide +kernel, by decide +kernel⟩, List.mem_of_getElem? (i := 18) (by decide +kernel), List.mem_of_getElem? (i := 579) (by decide +kernel), List.mem_of_getElem? (i := 580) (by decide +kernel)⟩
theorem lw_p14 : lw_okq (⟨"StampedSlots", "hashBuffer", "(J)J"⟩, 4) := ⟨⟨by decide +kernel, by decide +kernel⟩, List.mem_of_getElem? (i := 18) (by decide +kernel), List.mem_of_getElem? (i := 595) (by decide +kernel), List.mem_of_getElem? (i := 596) (by decide +kernel)⟩
theorem lw_p15 : lw_okq (⟨"StampedSlots$Row", "send", "(II)V"⟩, 3) := ⟨⟨by decide +kernel, by decide +kernel⟩, List.mem_of_getElem? (i := 61) (by decide +kernel), List.mem_of_getElem? (i := 673) (by decide +kernel), List.mem_of_getElem? (i := 674) (by decide +kernel)⟩
def lw_privs_1 : List (MethodName × Nat) := [(⟨"StampedSlots$History", "dropOldest", "()V"⟩, 2), (⟨"StampedSlots$Row", "thingIn", "(I)I"⟩, 3), (⟨"StampedSlots$Row", "isEntry", "(I)Z"⟩, 3), (⟨"StampedSlots$Slots", "giveCells", "(III)V"⟩, 7), (⟨"StampedSlots$Row", "sweep", "(I)V"⟩, 3), (⟨"StampedSlots$Slots", "growTo", "(I)V"⟩, 7), (⟨"StampedSlots$Row", "thingsFrom", "(I)I"⟩, 3), (⟨"java/lang/Throwable", "fillInStackTrace", "(I)Ljava/lang/Throwable;"⟩, 6), (⟨"StampedSlots", "hashThings", "(J)J"⟩, 4), (⟨"StampedSlots", "hashCellsAndWalkers", "(J)J"⟩, 4), (⟨"StampedSlots$Row", "indexUnder", "(I)I"⟩, 3), (⟨"StampedSlots", "hashGaps", "(J)J"⟩, 4), (⟨"StampedSlots", "tryEvents", "(I)I"⟩, 4), (⟨"StampedSlots", "hashRoom", "(J)J"⟩, 4), (⟨"StampedSlots", "hashBuffer", "(J)J"⟩, 4), (⟨"StampedSlots$Row", "send", "(II)V"⟩, 3)]
theorem lw_r1 : ∀ q ∈ lw_privs_1, lw_okq q := List.forall_mem_cons.mpr ⟨lw_p0, List.forall_mem_cons.mpr ⟨lw_p1, List.forall_mem_cons.mpr ⟨lw_p2, List.forall_mem_cons.mpr ⟨lw_p3, List.forall_mem_cons.mpr ⟨lw_p4, List.forall_mem_cons.mpr ⟨lw_p5, List.forall_mem_cons.mpr ⟨lw_p6, List.forall_mem_cons.mpr ⟨lw_p7, List.forall_mem_cons.mpr ⟨lw_p8, List.forall_mem_cons.mpr ⟨lw_p9, List.forall_mem_cons.mpr ⟨lw_p10, List.forall_mem_cons.mpr ⟨lw_p11, List.forall_mem_cons.mpr ⟨lw_p12, List.forall_mem_cons.mpr ⟨lw_p13, List.forall_mem_cons.mpr ⟨lw_p14, List.forall_mem_cons.mpr ⟨lw_p15, fun _ h => absurd h List.not_mem_nil⟩⟩⟩⟩⟩⟩⟩⟩⟩⟩⟩⟩⟩⟩⟩⟩
theorem lw_p16 : lw_okq (⟨"StampedSlots$Row", "nextThing", "(I)I"⟩, 3) := ⟨⟨by decide +kernel, by decide +kernel⟩, List.mem_of_getElem? (i := 61) (by decide +kernel), List.mem_of_getElem? (i := 688) (by decide +kernel), List.mem_of_getElem? (i := 689) (by decide +kernel)⟩
theorem lw_p17 : lw_okq (⟨"StampedSlots", "putParts", "()I"⟩, 4) := ⟨⟨by decide +kernel, by decide +kernel⟩, List.mem_of_getElem? (i := 18) (by decide +kernel), List.mem_of_getElem? (i := 729) (by decide +kernel), List.mem_of_getElem? (i := 730) (by decide +kernel)⟩
theorem lw_p18 : lw_okq (⟨"StampedSlotsModel", "refuses", "(I)Z"⟩, 11) := ⟨⟨by decide +kernel, by decide +kernel⟩, List.mem_of_getElem? (i := 796) (by decide +kernel), List.mem_of_getElem? (i := 868) (by decide +kernel), List.mem_of_getElem? (i := 869) (by decide +kernel)⟩
theorem lw_p19 : lw_okq (⟨"StampedSlotsModel", "saves", "()V"⟩, 11) := ⟨⟨by decide +kernel, by decide +kernel⟩, List.mem_of_getElem? (i := 796) (by decide +kernel), List.mem_of_getElem? (i := 872) (by decide +kernel), List.mem_of_getElem? (i := 873) (by decide +kernel)⟩
theorem lw_p20 : lw_okq (⟨"StampedSlotsModel", "underHandle", "(I)I"⟩, 11) := ⟨⟨by decide +kernel, by decide +kernel⟩, List.mem_of_getElem? (i := 796) (by decide +kernel), List.mem_of_getElem? (i := 929) (by decide +kernel), List.mem_of_getElem? (i := 930) (by decide +kernel)⟩
theorem lw_p21 : lw_okq (⟨"StampedSlotsModel", "isText", "()Z"⟩, 11) := ⟨⟨by decide +kernel, by decide +kernel⟩, List.mem_of_getElem? (i := 796) (by decide +kernel), List.mem_of_getElem? (i := 972) (by decide +kernel), List.mem_of_getElem? (i := 973) (by decide +kernel)⟩
theorem lw_p22 : lw_okq (⟨"StampedSlotsModel", "isThingTold", "()Z"⟩, 11) := ⟨⟨by decide +kernel, by decide +kernel⟩, List.mem_of_getElem? (i := 796) (by decide +kernel), List.mem_of_getElem? (i := 976) (by decide +kernel), List.mem_of_getElem? (i := 977) (by decide +kernel)⟩
theorem lw_p23 : lw_okq (⟨"StampedSlotsModel", "isNumber", "(III)Z"⟩, 11) := ⟨⟨by decide +kernel, by decide +kernel⟩, List.mem_of_getElem? (i := 796) (by decide +kernel), List.mem_of_getElem? (i := 980) (by decide +kernel), List.mem_of_getElem? (i := 981) (by decide +kernel)⟩
theorem lw_p24 : lw_okq (⟨"StampedSlotsModel", "sees", "(II)Z"⟩, 11) := ⟨⟨by decide +kernel, by decide +kernel⟩, List.mem_of_getElem? (i := 796) (by decide +kernel), List.mem_of_getElem? (i := 984) (by decide +kernel), List.mem_of_getElem? (i := 985) (by decide +kernel)⟩
theorem lw_p25 : lw_okq (⟨"StampedSlotsModel", "takes", "(I)Z"⟩, 11) := ⟨⟨by decide +kernel, by decide +kernel⟩, List.mem_of_getElem? (i := 796) (by decide +kernel), List.mem_of_getElem? (i := 988) (by decide +kernel), List.mem_of_getElem? (i := 989) (by decide +kernel)⟩
theorem lw_p26 : lw_okq (⟨"StampedSlotsModel", "ofThing", "(II)I"⟩, 11) := ⟨⟨by decide +kernel, by decide +kernel⟩, List.mem_of_getElem? (i := 796) (by decide +kernel), List.mem_of_getElem? (i := 1008) (by decide +kernel), List.mem_of_getElem? (i := 1009) (by decide +kernel)⟩
theorem lw_p27 : lw_okq (⟨"StampedSlotsModel", "placeOf", "(I)I"⟩, 11) := ⟨⟨by decide +kernel, by decide +kernel⟩, List.mem_of_getElem? (i := 796) (by decide +kernel), List.mem_of_getElem? (i := 1012) (by decide +kernel), List.mem_of_getElem? (i := 1013) (by decide +kernel)⟩
theorem lw_p28 : lw_okq (⟨"StampedSlotsModel", "ofCell", "(I)I"⟩, 11) := ⟨⟨by decide +kernel, by decide +kernel⟩, List.mem_of_getElem? (i := 796) (by decide +kernel), List.mem_of_getElem? (i := 1024) (by decide +kernel), List.mem_of_getElem? (i := 1025) (by decide +kernel)⟩
theorem lw_p29 : lw_okq (⟨"StampedSlotsModel", "ofWalker", "(II)I"⟩, 11) := ⟨⟨by decide +kernel, by decide +kernel⟩, List.mem_of_getElem? (i := 796) (by decide +kernel), List.mem_of_getElem? (i := 1032) (by decide +kernel), List.mem_of_getElem? (i := 1033) (by decide +kernel)⟩
theorem lw_p30 : lw_okq (⟨"StampedSlotsModel", "behind", "(I)I"⟩, 11) := ⟨⟨by decide +kernel, by decide +kernel⟩, List.mem_of_getElem? (i := 796) (by decide +kernel), List.mem_of_getElem? (i := 1036) (by decide +kernel), List.mem_of_getElem? (i := 1037) (by decide +kernel)⟩
theorem lw_p31 : lw_okq (⟨"StampedSlotsModel", "counted", "(I)I"⟩, 11) := ⟨⟨by decide +kernel, by decide +kernel⟩, List.mem_of_getElem? (i := 796) (by decide +kernel), List.mem_of_getElem? (i := 1044) (by decide +kernel), List.mem_of_getElem? (i := 1045) (by decide +kernel)⟩
def lw_privs_2 : List (MethodName × Nat) := [(⟨"StampedSlots$Row", "nextThing", "(I)I"⟩, 3), (⟨"StampedSlots", "putParts", "()I"⟩, 4), (⟨"StampedSlotsModel", "refuses", "(I)Z"⟩, 11), (⟨"StampedSlotsModel", "saves", "()V"⟩, 11), (⟨"StampedSlotsModel", "underHandle", "(I)I"⟩, 11), (⟨"StampedSlotsModel", "isText", "()Z"⟩, 11), (⟨"StampedSlotsModel", "isThingTold", "()Z"⟩, 11), (⟨"StampedSlotsModel", "isNumber", "(III)Z"⟩, 11), (⟨"StampedSlotsModel", "sees", "(II)Z"⟩, 11), (⟨"StampedSlotsModel", "takes", "(I)Z"⟩, 11), (⟨"StampedSlotsModel", "ofThing", "(II)I"⟩, 11), (⟨"StampedSlotsModel", "placeOf", "(I)I"⟩, 11), (⟨"StampedSlotsModel", "ofCell", "(I)I"⟩, 11), (⟨"StampedSlotsModel", "ofWalker", "(II)I"⟩, 11), (⟨"StampedSlotsModel", "behind", "(I)I"⟩, 11), (⟨"StampedSlotsModel", "counted", "(I)I"⟩, 11)]
theorem lw_r2 : ∀ q ∈ lw_privs_2, lw_okq q := List.forall_mem_cons.mpr ⟨lw_p16, List.forall_mem_cons.mpr ⟨lw_p17, List.forall_mem_cons.mpr ⟨lw_p18, List.forall_mem_cons.mpr ⟨lw_p19, List.forall_mem_cons.mpr ⟨lw_p20, List.forall_mem_cons.mpr ⟨lw_p21, List.forall_mem_cons.mpr ⟨lw_p22, List.forall_mem_cons.mpr ⟨lw_p23, List.forall_mem_cons.mpr ⟨lw_p24, List.forall_mem_cons.mpr ⟨lw_p25, List.forall_mem_cons.mpr ⟨lw_p26, List.forall_mem_cons.mpr ⟨lw_p27, List.forall_mem_cons.mpr ⟨lw_p28, List.forall_mem_cons.mpr ⟨lw_p29, List.forall_mem_cons.mpr ⟨lw_p30, List.forall_mem_cons.mpr ⟨lw_p31, fun _ h => absurd h List.not_mem_nil⟩⟩⟩⟩⟩⟩⟩⟩⟩⟩⟩⟩⟩⟩⟩⟩
theorem lw_p32 : lw_okq (⟨"StampedSlotsModel", "used", "()I"⟩, 11) := ⟨⟨by decide +kernel, by decide +kernel⟩, List.mem_of_getElem? (i := 796) (by decide +kernel), List.mem_of_getElem? (i := 1048) (by decide +kernel), List.mem_of_getElem? (i := 1049) (by decide +kernel)⟩
theorem lw_p33 : lw_okq (⟨"StampedSlotsModel", "values", "()I"⟩, 11) := ⟨⟨by decide +kernel, by decide +kernel⟩, List.mem_of_getElem? (i := 796) (by decide +kernel), List.mem_of_getElem? (i := 1052) (by decide +kernel), List.mem_of_getElem? (i := 1053) (by decide +kernel)⟩
theorem lw_p34 : lw_okq (⟨"StampedSlotsModel", "beginsAt", "(I)I"⟩, 11) := ⟨⟨by decide +kernel, by decide +kernel⟩, List.mem_of_getElem? (i := 796) (by decide +kernel), List.mem_of_getElem? (i := 1060) (by decide +kernel), List.mem_of_getElem? (i := 1061) (by decide +kernel)⟩
theorem lw_p35 : lw_okq (⟨"StampedSlotsModel", "longest", "(I)I"⟩, 11) := ⟨⟨by decide +kernel, by decide +kernel⟩, List.mem_of_getElem? (i := 796) (by decide +kernel), List.mem_of_getElem? (i := 1068) (by decide +kernel), List.mem_of_getElem? (i := 1069) (by decide +kernel)⟩
theorem lw_p36 : lw_okq (⟨"StampedSlotsModel", "fired", "(II)I"⟩, 11) := ⟨⟨by decide +kernel, by decide +kernel⟩, List.mem_of_getElem? (i := 796) (by decide +kernel), List.mem_of_getElem? (i := 1076) (by decide +kernel), List.mem_of_getElem? (i := 1077) (by decide +kernel)⟩
theorem lw_p37 : lw_okq (⟨"StampedSlotsModel", "roomFor", "(IZ)I"⟩, 11) := ⟨⟨by decide +kernel, by decide +kernel⟩, List.mem_of_getElem? (i := 796) (by decide +kernel), List.mem_of_getElem? (i := 1084) (by decide +kernel), List.mem_of_getElem? (i := 1085) (by decide +kernel)⟩
theorem lw_p38 : lw_okq (⟨"StampedSlotsModel", "full", "()D"⟩, 11) := ⟨⟨by decide +kernel, by decide +kernel⟩, List.mem_of_getElem? (i := 796) (by decide +kernel), List.mem_of_getElem? (i := 1092) (by decide +kernel), List.mem_of_getElem? (i := 1093) (by decide +kernel)⟩
theorem lw_p39 : lw_okq (⟨"StampedSlotsModel", "mixes", "(J)V"⟩, 11) := ⟨⟨by decide +kernel, by decide +kernel⟩, List.mem_of_getElem? (i := 796) (by decide +kernel), List.mem_of_getElem? (i := 1101) (by decide +kernel), List.mem_of_getElem? (i := 1102) (by decide +kernel)⟩
theorem lw_p40 : lw_okq (⟨"StampedSlotsModel", "mixesRow", "()V"⟩, 11) := ⟨⟨by decide +kernel, by decide +kernel⟩, List.mem_of_getElem? (i := 796) (by decide +kernel), List.mem_of_getElem? (i := 1106) (by decide +kernel), List.mem_of_getElem? (i := 1107) (by decide +kernel)⟩
def lw_privs_3 : List (MethodName × Nat) := [(⟨"StampedSlotsModel", "used", "()I"⟩, 11), (⟨"StampedSlotsModel", "values", "()I"⟩, 11), (⟨"StampedSlotsModel", "beginsAt", "(I)I"⟩, 11), (⟨"StampedSlotsModel", "longest", "(I)I"⟩, 11), (⟨"StampedSlotsModel", "fired", "(II)I"⟩, 11), (⟨"StampedSlotsModel", "roomFor", "(IZ)I"⟩, 11), (⟨"StampedSlotsModel", "full", "()D"⟩, 11), (⟨"StampedSlotsModel", "mixes", "(J)V"⟩, 11), (⟨"StampedSlotsModel", "mixesRow", "()V"⟩, 11)]
theorem lw_r3 : ∀ q ∈ lw_privs_3, lw_okq q := List.forall_mem_cons.mpr ⟨lw_p32, List.forall_mem_cons.mpr ⟨lw_p33, List.forall_mem_cons.mpr ⟨lw_p34, List.forall_mem_cons.mpr ⟨lw_p35, List.forall_mem_cons.mpr ⟨lw_p36, List.forall_mem_cons.mpr ⟨lw_p37, List.forall_mem_cons.mpr ⟨lw_p38, List.forall_mem_cons.mpr ⟨lw_p39, List.forall_mem_cons.mpr ⟨lw_p40, fun _ h => absurd h List.not_mem_nil⟩⟩⟩⟩⟩⟩⟩⟩⟩
def lw_privs : List (MethodName × Nat) := lw_privs_1 ++ (lw_privs_2 ++ (lw_privs_3))
def lw_tbl : List Cond := k2_sels lw_privs ++ tables_1
theorem lw_privs_ok : ∀ q ∈ lw_privs, lw_okq q := by
  show ∀ q ∈ lw_privs_1 ++ (lw_privs_2 ++ (lw_privs_3)), lw_okq q
  exact List.forall_mem_append.mpr ⟨lw_r1, List.forall_mem_append.mpr ⟨lw_r2, lw_r3⟩⟩
/-- the streams that the claim lets the run draw from -/
abbrev lw_cs : List Choice := [Jvm.Choice.named "NaN.bits"]
theorem lw_bits : nanBits ∈ lw_cs := by first | decide | exact List.mem_cons_self | simp [lw_cs, nanBits]
-- ===== end of PART A; then your names; then what follows =====
/-! ===== BEGIN exceptions that leave a method, and their catching by the caller (launches without stack traces) ===== -/
section VXA
/-! The laws vx_back, vx_callV, vx_callS, vx_callSW, vx_throw0, vx_throwS follow proofs of the library, with one case more: JvmDerived/Free/Laws.lean (Back.of_free), Shelf42/LK1.lean (callV, callS), Shelf/KitTraced.lean (throwNew0V, throwNewS). -/
/-- where a method has thrown q: the class by its name, the cell, what was written, the world -/
def vx_T (XC : String → State → State → Prop) (st : State) (q : Addr) (t : State) (mc ms : Nat) (free : Addr → Prop) : Prop :=
  ∃ (E : String) (ce : Cell) (L : List Loc), XC E st t ∧ t.heap[q]? = some ce ∧ ce.vm = .none ∧ st.vm.findClass E = some ce.cls ∧ st.WarmedH t.vm ∧ st.sameButNew ({ t with vm := st.vm } : State) L mc ms ∧ ∀ z ∈ L, free z.base
def vx_Q (Qc : Array Value → State → Outcome → State → Prop) (XC : String → State → State → Prop) (mc ms : Nat) (free : Addr → Prop) : Array Value → State → Outcome → State → Prop := fun a st o t =>
  (Qc a st o t ∧ ∃ L, FrameEnd st o t L mc ms ∧ ∀ q ∈ L, free q.base) ∨ ∃ q, o = .threw q ∧ vx_T XC st q t mc ms free
/-- a callee that returns or throws -/
def vx_Met (l : Launch) (y : MethodName) (ws : List Cond) (rm : Room) (Pc : Array Value → State → Prop) (Qc : Array Value → State → Outcome → State → Prop) (XC : String → State → State → Prop) (mc ms : Nat) (free : Addr → Prop) : Prop :=
  MetFree l y (headSpec ws rm) Pc (fun _ _ _ _ _ => True) (vx_Q Qc XC mc ms free)
def vx_Post (XC : String → State → State → Prop) (mc ms : Nat) (free : Addr → Prop) : Pt → Array Value → Addr → Pt → Prop := fun A a q B =>
  ∃ (g : JFrame) (mk : MethodId) (t : State) (L : List Loc) (E : String) (ce : Cell), B.U.heap = t.heap ∧ B.U.vm = t.vm ∧ XC E (A.U.calling g mk a) t ∧ t.heap[q]? = some ce ∧ ce.vm = .none ∧ A.U.vm.findClass E = some ce.cls ∧ B.locs = A.locs ++ L ∧ (∀ z ∈ L, free z.base) ∧ B.cells = A.cells + mc ∧ B.slots = A.slots + ms
def vx_Back (l : Launch) (R : Room) (p : Program) (e : Env) (below : List Frame) (s : State) (sargs : Array Value) (y : MethodName) (len W9 : Nat)
    (Pre : Pt → Array Value → Prop) (Post : Pt → Array Value → Option Value → Pt → Prop) (PostX : Pt → Array Value → Addr → Pt → Prop) : Prop :=
  ∀ (m : MethodId) (meth : Method) (c : Code) (A : Pt) (g : JFrame) (ig : Instr) (mk : MethodId) (a : Array Value),
    Stand p l e R s m sargs below meth c A.U A.locs A.cells A.slots → g.method = m → g.locals.size = c.maxLocals → decode c.code g.pc = .ok (ig, len) →
    2 * g.monitorRoom + (g.stack.map fun v => v.category).sum ≤ W9 → A.U.methodNamed? y = some mk → Pre A a →
    (∃ (v : Option Value) (B : Pt), Stand p l e R s m sargs below meth c B.U B.locs B.cells B.slots ∧ Post A a v B ∧
      Steps p.tables e below (doInvoke e (A.U.setTop g) [] mk a).1 (B.U.setTop { g with pc := g.pc + len, stack := v.toList ++ g.stack })) ∨
    (∃ (q : Addr) (B : Pt), Stand p l e R s m sargs below meth c B.U B.locs B.cells B.slots ∧ PostX A a q B ∧
      Steps p.tables e below (doInvoke e (A.U.setTop g) [] mk a).1 ((B.U.setTop g).pushFrame (.throwing q)))
section Payer
variable {l : Launch} {R : Room} {p : Program} {e : Env} {below : List Frame} {s : State} {sargs : Array Value} {y : MethodName} {len W9 : Nat}
theorem vx_back {ws : List Cond} {rm : Room} {Pc : Array Value → State → Prop} {Qc : Array Value → State → Outcome → State → Prop} {XC : String → State → State → Prop} {mc ms : Nat} {free : Addr → Prop} {bytes : ByteArray} {maxL : Nat} {ret : Option FieldType}
    (hM : vx_Met l y ws rm Pc Qc XC mc ms free) (hblind : FrameBlind Pc) (hrc : rm.cells = mc) (hrs : rm.slots = ms)
    (hframes : rm.frames + 1 ≤ R.frames) (hlocals : W9 + (maxL + 11) + rm.locals ≤ R.locals)
    (hws : ∀ w ∈ ws, ∀ a' U, s.WarmedH U.vm → w.before a' U = true) (hcode : Cond.code y bytes maxL ret ∈ ws) (hinit : ∀ a' U, s.WarmedH U.vm → (Cond.initialized y.cls).before a' U = true) :
    vx_Back l R p e below s sargs y len W9 (PreOf R mc ms Pc) (PostOf Qc mc ms free) (vx_Post XC mc ms free) := by
  intro m meth c A g ig mk a X hg hsize hdg hW hn hp
  have h1 : (headSpec ws rm).pre.before a A.U = true := atoms_intro fun w hw => hws w hw _ _ X.warmed
  have h2 : (Cond.code y bytes maxL ret).before a A.U = true := hws _ hcode _ _ X.warmed
  have h3 : (Cond.initialized y.cls).before a A.U = true := hinit _ _ X.warmed
  have h4 : A.cells + (headSpec ws rm).room.cells ≤ R.cells := by rw [show (headSpec ws rm).room.cells = mc from hrc]; exact hp.1
  have h5 : A.slots + (headSpec ws rm).room.slots ≤ R.slots := by rw [show (headSpec ws rm).room.slots = ms from hrs]; exact hp.2.1
  have hPc : Pc a (A.U.calling g mk a) := hblind _ _ _ _ hp.2.2
  obtain ⟨U, Ls, c0, s0⟩ := A
  dsimp only [Pt.U, Pt.locs, Pt.cells, Pt.slots] at h1 h2 h3 h4 h5 X hn hPc ⊢
  obtain ⟨methY, cY, hmY, hcY, -, hlY, -, -, -, -⟩ := Cond.code_spec hn h2
  obtain ⟨kY, hkY, -⟩ := className_of_methodNamed hn
  have hinitY : kY.init = .initialized := Cond.initialized_spec (findClass_of_methodNamed hn) hkY h3
  have h : At U g.method c below := by rw [hg]; exact X.here
  have hlocals9 : W9 + (maxL + 11) + (headSpec ws rm).room.locals ≤ R.locals := hlocals
  have happ : (headSpec ws rm).appliesLoose y e.platform (U.calling g mk a) = true :=
    Spec.appliesLoose_calling (g := g) h hdg hn hkY hinitY
      (X.room_calling (g := g) (R' := (headSpec ws rm).room) hsize hmY hcY hframes (by rw [hlY]; omega) h4 h5) h1
  obtain ⟨mid, hmid⟩ := h.above
  have hfr : (U.setTop g).frames = (.java g :: mid) ++ below := by rw [State.frames_setTop' g h.top, hmid]; rfl
  obtain ⟨o, s₂, hsteps, -, hend, hq⟩ := Steps.callFree hM p X.admits X.cas X.clock (acts := []) hfr happ hPc trivial
  have hq' : vx_Q Qc XC mc ms free a (U.calling g mk a) o s₂ := hq
  rw [State.frames_setTop' g h.top] at hend
  obtain ⟨g₀, hg0⟩ := Option.isSome_iff_exists.mp h.top
  obtain ⟨r, hr⟩ := State.topJava?_eq_some.mp hg0
  have hr' : (({ U with heap := s₂.heap, slotsUsed := s₂.slotsUsed } : State).setVm s₂.vm).frames = .java g₀ :: r := hr
  rcases hq' with ⟨hqc, L, hfe, hL⟩ | ⟨q, rfl, E, ce, L, hx, hce, hcv, hcl, hW₂, hsm, hL⟩
  · obtain ⟨⟨v, rfl⟩, hW₂, e2, q2, q3, q4, q5, q6⟩ := id hfe
    have e3 : s₂ = ({ (U.calling g mk a).setFrames s₂.frames with heap := s₂.heap, slotsUsed := s₂.slotsUsed } : State).setVm s₂.vm := by
      have : s₂ = ({ s₂ with vm := (U.calling g mk a).vm } : State).setVm s₂.vm := rfl
      rw [e2] at this
      exact this
    obtain ⟨c₂, i₂, len₂, hc₂, hd₂, hf₂⟩ := hend
    have hW' : U.WarmedH s₂.vm := hW₂
    have hcc : c₂ = c := by
      have h1 : s₂.code? g.method = U.code? g.method := by
        rw [State.code?_eq, State.code?_eq, hW'.alike.method?]
      exact Option.some.inj (hc₂.symm.trans (h1.trans h.code))
    subst hcc
    have hlen : len₂ = len := by rw [hdg] at hd₂; cases hd₂; rfl
    subst hlen
    have hs₂ : s₂ = (({ U with heap := s₂.heap, slotsUsed := s₂.slotsUsed } : State).setVm s₂.vm).setTop { g with pc := g.pc + len₂, stack := v.toList ++ g.stack } := by
      refine e3.trans ?_
      rw [hf₂, State.calling_eq h.top, State.setFrames_setFrames, State.setTop_of_frames _ hr', hr]
      rfl
    have hsame : U.sameButNew ({ U with heap := s₂.heap, slotsUsed := s₂.slotsUsed } : State) L mc ms := by
      refine ⟨?_, q2, q3, q4, q5, q6⟩
      obtain ⟨t, ht, -⟩ := State.frames_cons hr
      show ({ U with heap := s₂.heap, slotsUsed := s₂.slotsUsed } : State) = { U.setFrames U.frames with heap := s₂.heap, slotsUsed := s₂.slotsUsed }
      rw [State.setFrames_self ht]
    subst hg
    refine Or.inl ⟨v, ⟨(({ U with heap := s₂.heap, slotsUsed := s₂.slotsUsed } : State).setVm s₂.vm), Ls ++ L, c0 + mc, s0 + ms⟩,
      ⟨X.admits, X.cas, X.clock, X.frames, X.room, X.hears, X.method, X.code, (X.here.setHeapUsed s₂.heap s₂.slotsUsed).setVm hW'.alike, X.tail, State.WarmedH.trans X.warmed hW', X.limits, X.bytes, X.same.trans (hsame.setVm s.vm)⟩,
      ⟨g, mk, s₂, L, rfl, rfl, hqc, rfl, hL, rfl, rfl⟩, ?_⟩
    show Steps p.tables e below _ ((({ U with heap := s₂.heap, slotsUsed := s₂.slotsUsed } : State).setVm s₂.vm).setTop { g with pc := g.pc + len₂, stack := v.toList ++ g.stack })
    rw [← hs₂]
    exact hsteps
  · obtain ⟨e2, q2, q3, q4, q5, q6⟩ := id hsm
    have e3 : s₂ = ({ (U.calling g mk a).setFrames s₂.frames with heap := s₂.heap, slotsUsed := s₂.slotsUsed } : State).setVm s₂.vm := by
      have : s₂ = ({ s₂ with vm := (U.calling g mk a).vm } : State).setVm s₂.vm := rfl
      rw [e2] at this
      exact this
    have hf₂ : s₂.frames = .throwing q :: .java g :: U.frames.tail := hend
    have hW' : U.WarmedH s₂.vm := hW₂
    have hs₂ : s₂ = ((({ U with heap := s₂.heap, slotsUsed := s₂.slotsUsed } : State).setVm s₂.vm).setTop g).pushFrame (.throwing q) := by
      refine e3.trans ?_
      rw [hf₂, State.calling_eq h.top, State.setFrames_setFrames, State.pushFrame, State.frames_setTop _ hr', State.setTop_of_frames _ hr', State.setFrames_setFrames, hr]
      rfl
    have hsame : U.sameButNew ({ U with heap := s₂.heap, slotsUsed := s₂.slotsUsed } : State) L mc ms := by
      refine ⟨?_, q2, q3, q4, q5, q6⟩
      obtain ⟨t, ht, -⟩ := State.frames_cons hr
      show ({ U with heap := s₂.heap, slotsUsed := s₂.slotsUsed } : State) = { U.setFrames U.frames with heap := s₂.heap, slotsUsed := s₂.slotsUsed }
      rw [State.setFrames_self ht]
    subst hg
    refine Or.inr ⟨q, ⟨(({ U with heap := s₂.heap, slotsUsed := s₂.slotsUsed } : State).setVm s₂.vm), Ls ++ L, c0 + mc, s0 + ms⟩,
      ⟨X.admits, X.cas, X.clock, X.frames, X.room, X.hears, X.method, X.code, (X.here.setHeapUsed s₂.heap s₂.slotsUsed).setVm hW'.alike, X.tail, State.WarmedH.trans X.warmed hW', X.limits, X.bytes, X.same.trans (hsame.setVm s.vm)⟩,
      ⟨g, mk, s₂, L, E, ce, rfl, rfl, hx, hce, hcv, hcl, rfl, hL, rfl, rfl⟩, ?_⟩
    show Steps p.tables e below _ (((({ U with heap := s₂.heap, slotsUsed := s₂.slotsUsed } : State).setVm s₂.vm).setTop g).pushFrame (.throwing q))
    rw [← hs₂]
    exact hsteps
end Payer
section Calls
variable {p : Program} {l : Launch} {e : Env} {R : Room} {s : State} {m : MethodId} {args : Array Value} {below : List Frame} {meth : Method} {c : Code} {T : State} {locs : List Loc} {cells slots : Nat}
theorem vx_callV (X : Stand p l e R s m args below meth c T locs cells slots) (hexec : p.tables.exec = Jvm.exec) {own C : String} {index : Nat} {y : MethodName} {bytes : ByteArray} {maxL : Nat} {ret : Option FieldType}
    (hown : s.vm.findClass own = some m.cls) (hlink : (Cond.methodLink own index y).before args s = true) (hinst : (Cond.instanceMethod y).before args s = true) (hsel : (Cond.selects C y y).before args s = true)
    (hcode : (Cond.code y bytes maxL ret).before args s = true) (hy : y.cls ≠ "java/lang/invoke/MethodHandle" ∧ y.cls ≠ "java/lang/invoke/VarHandle")
    {W9 : Nat} {Pre : Pt → Array Value → Prop} {Post : Pt → Array Value → Option Value → Pt → Prop} {PostX : Pt → Array Value → Addr → Pt → Prop} (hK : vx_Back l R p e below s args y 3 W9 Pre Post PostX)
    {b : Addr} {cellB : Cell} (hcell : T.heap[b]? = some cellB) (hobj : cellB.vm.isStatics = false) (hcls : s.vm.findClass C = some cellB.cls)
    {g : JFrame} (hg : g.method = m) (hsize : g.locals.size = c.maxLocals) {argsL rest : List Value} (hlen : ∀ sig, parseMethodDescriptor y.desc = some sig → argsL.length = sig.parameters.length)
    (hstack : g.stack = argsL.reverse ++ .ref b :: rest) (hW : 2 * g.monitorRoom + (rest.map fun v => v.category).sum ≤ W9) (hdg : decode c.code g.pc = .ok (.invokevirtual index, 3))
    (hpre : ∀ vm₁, s.WarmedH vm₁ → Pre ⟨T.setVm vm₁, locs, cells, slots⟩ (Value.ref b :: argsL).toArray) :
    (∃ (v : Option Value) (vm₁ : Vm) (B : Pt), s.WarmedH vm₁ ∧ Stand p l e R s m args below meth c B.U B.locs B.cells B.slots ∧ Post ⟨T.setVm vm₁, locs, cells, slots⟩ (Value.ref b :: argsL).toArray v B ∧
      ∀ target, Steps p.tables e below (B.U.setTop { g with pc := g.pc + 3, stack := v.toList ++ rest }) target → Steps p.tables e below (T.setTop g) target) ∨
    (∃ (q : Addr) (vm₁ : Vm) (B : Pt), s.WarmedH vm₁ ∧ Stand p l e R s m args below meth c B.U B.locs B.cells B.slots ∧ PostX ⟨T.setVm vm₁, locs, cells, slots⟩ (Value.ref b :: argsL).toArray q B ∧
      Steps p.tables e below (T.setTop g) ((B.U.setTop { g with stack := rest }).pushFrame (.throwing q))) := by
  obtain ⟨mk, methM, hnamed, hmethM, hstM, habM⟩ := Cond.instanceMethod_spec hinst
  obtain ⟨methM', cM, hmethM', -, -, -, -, -, -, hsigM⟩ := Cond.code_spec hnamed hcode
  cases hmethM.symm.trans hmethM'
  obtain ⟨c2, r2, m2, q1, q2, q3, q4, kP, hkP, hkPi⟩ := Cond.selects_spec hsel
  cases hcls.symm.trans q1
  cases (State.methodFound?_of_named hnamed hy).symm.trans q2
  cases hnamed.symm.trans q3
  have hselP : selectMethod e.platform s.vm cellB.cls mk = .method mk := by rw [Launch.admits_selectMethod X.admits]; exact q4
  obtain ⟨vm₁, X₁, hstep₁⟩ := X.invokevirtual hexec hown hlink hnamed hmethM hstM hkP hkPi hy (a := b) (cell := cellB) hcell
    (fun z h => by rw [h] at hobj; cases hobj) hselP hmethM habM hkP hkPi (g := g) hg (argsL := argsL) (rest := rest) (hlen _ hsigM) hstack hdg
  rcases hK m meth c ⟨T.setVm vm₁, locs, cells, slots⟩ { g with stack := rest } (.invokevirtual index) mk (Value.ref b :: argsL).toArray X₁ hg hsize hdg hW (X₁.named hnamed) (hpre vm₁ X₁.warmed) with ⟨v, B, X', hpost, hsteps⟩ | ⟨q, B, X', hpost, hsteps⟩
  · exact Or.inl ⟨v, vm₁, B, X₁.warmed, X', hpost, fun target h => hstep₁ _ fun acts => by rw [doInvoke_state]; exact hsteps.trans h⟩
  · exact Or.inr ⟨q, vm₁, B, X₁.warmed, X', hpost, hstep₁ _ fun acts => by rw [doInvoke_state]; exact hsteps⟩
theorem vx_callS (X : Stand p l e R s m args below meth c T locs cells slots) (hexec : p.tables.exec = Jvm.exec) {own : String} {index : Nat} {y : MethodName} {bytes : ByteArray} {maxL : Nat} {ret : Option FieldType}
    (hown : s.vm.findClass own = some m.cls) (hlink : (Cond.methodLink own index y).before args s = true) (hstat : (Cond.static y).before args s = true) (hinit : (Cond.initialized y.cls).before args s = true)
    (hcode : (Cond.code y bytes maxL ret).before args s = true) (hy : y.cls ≠ "java/lang/invoke/MethodHandle" ∧ y.cls ≠ "java/lang/invoke/VarHandle")
    {W9 : Nat} {Pre : Pt → Array Value → Prop} {Post : Pt → Array Value → Option Value → Pt → Prop} {PostX : Pt → Array Value → Addr → Pt → Prop} (hK : vx_Back l R p e below s args y 3 W9 Pre Post PostX)
    {g : JFrame} (hg : g.method = m) (hsize : g.locals.size = c.maxLocals) {argsL rest : List Value} (hlen : ∀ sig, parseMethodDescriptor y.desc = some sig → argsL.length = sig.parameters.length)
    (hstack : g.stack = argsL.reverse ++ rest) (hW : 2 * g.monitorRoom + (rest.map fun v => v.category).sum ≤ W9) (hdg : decode c.code g.pc = .ok (.invokestatic index, 3))
    (hpre : ∀ vm₁, s.WarmedH vm₁ → Pre ⟨T.setVm vm₁, locs, cells, slots⟩ argsL.toArray) :
    (∃ (v : Option Value) (vm₁ : Vm) (B : Pt), s.WarmedH vm₁ ∧ Stand p l e R s m args below meth c B.U B.locs B.cells B.slots ∧ Post ⟨T.setVm vm₁, locs, cells, slots⟩ argsL.toArray v B ∧
      ∀ target, Steps p.tables e below (B.U.setTop { g with pc := g.pc + 3, stack := v.toList ++ rest }) target → Steps p.tables e below (T.setTop g) target) ∨
    (∃ (q : Addr) (vm₁ : Vm) (B : Pt), s.WarmedH vm₁ ∧ Stand p l e R s m args below meth c B.U B.locs B.cells B.slots ∧ PostX ⟨T.setVm vm₁, locs, cells, slots⟩ argsL.toArray q B ∧
      Steps p.tables e below (T.setTop g) ((B.U.setTop { g with stack := rest }).pushFrame (.throwing q))) := by
  obtain ⟨mk, hnamed⟩ := Cond.code_named hcode
  obtain ⟨methM, cM, hmethM, -, -, -, -, -, -, hsigM⟩ := Cond.code_spec hnamed hcode
  have hstatic : methM.isStatic = true := Cond.static_spec hnamed hmethM hstat
  obtain ⟨kP, hkP, -⟩ := className_of_methodNamed hnamed
  have hinitP : kP.init = .initialized := Cond.initialized_spec (findClass_of_methodNamed hnamed) hkP hinit
  obtain ⟨vm₁, X₁, hstep₁⟩ := X.invokestatic hexec hown hlink hnamed hmethM hstatic hkP hinitP hy (g := g) hg (argsL := argsL) (rest := rest) (hlen _ hsigM) hstack hdg
  rcases hK m meth c ⟨T.setVm vm₁, locs, cells, slots⟩ { g with stack := rest } (.invokestatic index) mk argsL.toArray X₁ hg hsize hdg hW (X₁.named hnamed) (hpre vm₁ X₁.warmed) with ⟨v, B, X', hpost, hsteps⟩ | ⟨q, B, X', hpost, hsteps⟩
  · exact Or.inl ⟨v, vm₁, B, X₁.warmed, X', hpost, fun target h => hstep₁ _ fun acts => by rw [doInvoke_state]; exact hsteps.trans h⟩
  · exact Or.inr ⟨q, vm₁, B, X₁.warmed, X', hpost, hstep₁ _ fun acts => by rw [doInvoke_state]; exact hsteps⟩
end Calls
theorem vx_cls {s : State} {T : State} {vm₁ : Vm} {E : String} {k : ClassId} (hW : s.WarmedH vm₁) (h : (T.setVm vm₁).vm.findClass E = some k) : s.vm.findClass E = some k := by
  have h1 : vm₁.findClass E = some k := h
  rw [hW.alike.findClass] at h1
  exact h1
/-- the method's frame g, with q thrown over it -/
def vx_W (p : Program) (l : Launch) (e : Env) (R : Room) (s : State) (m : MethodId) (args : Array Value) (below : List Frame) (meth : Method) (c : Code) (H : Heap) (locs : List Loc) (cells slots : Nat) (Q : State → Prop) (g : JFrame) (q : Addr) : Prop :=
  ∀ T : State, T.heap = H → Stand p l e R s m args below meth c T locs cells slots → ∃ t, Steps p.tables e below ((T.setTop g).pushFrame (.throwing q)) t ∧ Q t
def vx_Run (p : Program) (l : Launch) (e : Env) (R : Room) (s : State) (m : MethodId) (args : Array Value) (below : List Frame) (meth : Method) (c : Code) (H : Heap) (locs : List Loc) (cells slots mc ms : Nat) (g : JFrame) (rest : List Value) (Qa : State → Outcome → State → Prop) (XC : String → State → State → Prop) (free : Addr → Prop) : Prop :=
  ∀ T : State, T.heap = H → Stand p l e R s m args below meth c T locs cells slots →
    (∃ (v : Option Value) (st₀ t T' : State) (L : List Loc), st₀.heap = H ∧ Stand p l e R s m args below meth c T' (locs ++ L) (cells + mc) (slots + ms) ∧ (∀ q ∈ L, free q.base) ∧ T'.heap = t.heap ∧ T'.vm = t.vm ∧ Qa st₀ (.returned v) t ∧
      Goes p e below T g T' { g with pc := g.pc + 3, stack := v.toList ++ rest }) ∨
    (∃ (q : Addr) (st₀ t T' : State) (L : List Loc) (E : String) (ce : Cell), st₀.heap = H ∧ Stand p l e R s m args below meth c T' (locs ++ L) (cells + mc) (slots + ms) ∧ (∀ z ∈ L, free z.base) ∧ T'.heap = t.heap ∧ T'.vm = t.vm ∧ XC E st₀ t ∧ t.heap[q]? = some ce ∧ ce.vm = .none ∧ s.vm.findClass E = some ce.cls ∧
      Steps p.tables e below (T.setTop g) ((T'.setTop { g with stack := rest }).pushFrame (.throwing q)))
def vx_X {S : Type} (px : S → Prop) (B : String → S → State → Prop) (A : Nat → Prop) : String → State → State → Prop := fun E st t => ∃ u : S, px u ∧ B E u t ∧ va_F A st t
section Runs
variable {p : Program} {l : Launch} {e : Env} {R : Room} {s : State} {m : MethodId} {args : Array Value} {below : List Frame} {meth : Method} {c : Code} {H : Heap} {locs : List Loc} {cells slots : Nat}
variable {y : MethodName} {bytes cc : ByteArray} {maxL nL mc ms n index : Nat} {ret : Option FieldType} {ws : List Cond} {rm : Room} {Pc : Array Value → State → Prop} {Qc : Array Value → State → Outcome → State → Prop} {XC : String → State → State → Prop} {free : Addr → Prop} {Ts : List Cond} {own C : String} {b : Addr} {As rest : List Value} {g : JFrame}
theorem vx_callBack (cb : CallB R s args own index y bytes maxL ret ws rm mc ms n) (hM : vx_Met l y ws rm Pc Qc XC mc ms free) (hbl : FrameBlind Pc) : vx_Back l R p e below s args y 3 8 (PreOf R mc ms Pc) (PostOf Qc mc ms free) (vx_Post XC mc ms free) := by
  obtain ⟨hrc, hrs, hfr, hlo, hws, hcw, -, hini, -⟩ := cb
  exact vx_back (bytes := bytes) (maxL := maxL) (ret := ret) hM hbl hrc hrs hfr hlo hws hcw (fun a' U hW => word_at hW (Or.inl (by first | rfl | simp [Cond.onTables, Cond.keeps, Cond.steady])) hini)
theorem vx_runV (S : CallFix p m c cc nL s args Ts own) (hM : vx_Met l y ws rm Pc Qc XC mc ms free) (cw : CallW R s args own C index y bytes maxL ret ws rm mc ms n) (hp : PreV s H C b Pc As)
    (hg : g.method = m) (hn : As.length = n) (hsize : g.locals.size = nL) (hstack : g.stack = As.reverse ++ .ref b :: rest) (hW : 2 * g.monitorRoom + (rest.map fun v => v.category).sum ≤ 8) (hdg : decode cc g.pc = .ok (.invokevirtual index, 3)) (hf : cells + mc ≤ R.cells ∧ slots + ms ≤ R.slots) :
    vx_Run p l e R s m args below meth c H locs cells slots mc ms g rest (Qc (Value.ref b :: As).toArray) XC free := by
  have hK : vx_Back l R p e below s args y 3 8 (PreOf R mc ms Pc) (PostOf Qc mc ms free) (vx_Post XC mc ms free) := vx_callBack cw.1 hM hp.1
  obtain ⟨⟨-, -, -, -, -, -, hcode, -, hy, hlen, hl⟩, hin, hse⟩ := cw
  obtain ⟨hx, hb, hml, ho, -⟩ := S
  obtain ⟨-, ⟨cellB, hcB, hoB, hclB⟩, hPc⟩ := hp
  intro T hT X
  rcases vx_callV X hx (C := C) (bytes := bytes) (maxL := maxL) (ret := ret) ho hl hin hse hcode hy hK (by rw [hT]; exact hcB) hoB hclB hg (hsize.trans hml.symm) (argsL := As) (rest := rest) (fun sig h => hn.trans (hlen sig h)) hstack hW (by rw [hb]; exact hdg)
    (fun vm₁ hW₁ => ⟨hf.1, hf.2, hPc (T.setVm vm₁) hT hW₁⟩) with ⟨v, vm₁, ⟨U', l2, c2, s2⟩, hW₁, X', ⟨g', mk, t, L, e1, e2, hq, h1, hL, h2, h3⟩, st⟩ | ⟨q, vm₁, ⟨U', l2, c2, s2⟩, hW₁, X', ⟨g', mk, t, L, E, ce, e1, e2, hq, hce, hcv, hcl, h1, hL, h2, h3⟩, st⟩
  · dsimp only [Pt.U, Pt.locs, Pt.cells, Pt.slots] at X' e1 e2 h1 h2 h3 st
    subst h1; subst h2; subst h3
    exact Or.inl ⟨v, (T.setVm vm₁).calling g' mk (Value.ref b :: As).toArray, t, U', L, hT, X', hL, e1, e2, hq, st⟩
  · dsimp only [Pt.U, Pt.locs, Pt.cells, Pt.slots] at X' e1 e2 h1 h2 h3 st hcl
    subst h1; subst h2; subst h3
    exact Or.inr ⟨q, (T.setVm vm₁).calling g' mk (Value.ref b :: As).toArray, t, U', L, E, ce, hT, X', hL, e1, e2, hq, hce, hcv, vx_cls hW₁ hcl, st⟩
theorem vx_runS (S : CallFix p m c cc nL s args Ts own) (hM : vx_Met l y ws rm Pc Qc XC mc ms free) (cw : CallB R s args own index y bytes maxL ret ws rm mc ms n ∧ (Cond.static y).before args s = true) (hp : PreS s H Pc As)
    (hg : g.method = m) (hn : As.length = n) (hsize : g.locals.size = nL) (hstack : g.stack = As.reverse ++ rest) (hW : 2 * g.monitorRoom + (rest.map fun v => v.category).sum ≤ 8) (hdg : decode cc g.pc = .ok (.invokestatic index, 3)) (hf : cells + mc ≤ R.cells ∧ slots + ms ≤ R.slots) :
    vx_Run p l e R s m args below meth c H locs cells slots mc ms g rest (Qc As.toArray) XC free := by
  have hK : vx_Back l R p e below s args y 3 8 (PreOf R mc ms Pc) (PostOf Qc mc ms free) (vx_Post XC mc ms free) := vx_callBack cw.1 hM hp.1
  obtain ⟨⟨-, -, -, -, -, -, hcode, hini, hy, hlen, hl⟩, hstt⟩ := cw
  obtain ⟨hx, hb, hml, ho, -⟩ := S
  intro T hT X
  rcases vx_callS X hx (bytes := bytes) (maxL := maxL) (ret := ret) ho hl hstt hini hcode hy hK hg (hsize.trans hml.symm) (argsL := As) (rest := rest) (fun sig h => hn.trans (hlen sig h)) hstack hW (by rw [hb]; exact hdg)
    (fun vm₁ hW₁ => ⟨hf.1, hf.2, hp.2 (T.setVm vm₁) hT hW₁⟩) with ⟨v, vm₁, ⟨U', l2, c2, s2⟩, hW₁, X', ⟨g', mk, t, L, e1, e2, hq, h1, hL, h2, h3⟩, st⟩ | ⟨q, vm₁, ⟨U', l2, c2, s2⟩, hW₁, X', ⟨g', mk, t, L, E, ce, e1, e2, hq, hce, hcv, hcl, h1, hL, h2, h3⟩, st⟩
  · dsimp only [Pt.U, Pt.locs, Pt.cells, Pt.slots] at X' e1 e2 h1 h2 h3 st
    subst h1; subst h2; subst h3
    exact Or.inl ⟨v, (T.setVm vm₁).calling g' mk As.toArray, t, U', L, hT, X', hL, e1, e2, hq, st⟩
  · dsimp only [Pt.U, Pt.locs, Pt.cells, Pt.slots] at X' e1 e2 h1 h2 h3 st hcl
    subst h1; subst h2; subst h3
    exact Or.inr ⟨q, (T.setVm vm₁).calling g' mk As.toArray, t, U', L, E, ce, hT, X', hL, e1, e2, hq, hce, hcv, vx_cls hW₁ hcl, st⟩
end Runs
section Rows
variable {p : Program} {l : Launch} {e : Env} {R : Room} {s : State} {m : MethodId} {args : Array Value} {below : List Frame} {meth : Method} {c : Code} {H : Heap} {locs : List Loc} {cells slots : Nat} {Q : State → Prop}
variable {mc ms : Nat} {free : Addr → Prop} {A0 A1 : Nat → Prop} {H0 : Heap} {a : Array Value} {pc : Nat} {ls : Array Slot} {st0 rest : List Value}
theorem vx_keep {st₀ t T' : State} {L : List Loc} (h0 : st₀.heap = H) (e1 : T'.heap = t.heap) (hS : va_S A0 H0 H locs) (hA : ∀ q, q < H.size → A1 q → A0 q) (hf : ∀ q, free q → A0 q) (hL : ∀ q ∈ L, free q.base) (hF : va_F A1 st₀ t) :
    H.size ≤ T'.heap.size ∧ (∀ q : Nat, q < H.size → ¬ A1 q → T'.heap[q]? = H[q]?) ∧ va_S A0 H0 T'.heap (locs ++ L) := by
  obtain ⟨hz, hk⟩ := hF
  rw [h0] at hz hk
  exact ⟨by rw [e1]; exact hz, fun q h1 h2 => by rw [e1]; exact hk q h1 h2,
    ⟨Nat.le_trans hS.1 (by rw [e1]; exact hz), fun q h1 h2 => by rw [e1, hk q (Nat.lt_of_lt_of_le h1 hS.1) (fun z => h2 (hA q (Nat.lt_of_lt_of_le h1 hS.1) z))]; exact hS.2.1 q h1 h2, fun q hq => by
      rcases List.mem_append.mp hq with h | h
      · exact hS.2.2 q h
      · exact hf _ (hL q h)⟩⟩
theorem vx_calli {S SX : Type} {post : Int32 → S → Prop} {px : SX → Prop} {B : S → State → Prop} {BX : String → SX → State → Prop} {AX : Nat → Prop} (hr : vx_Run p l e R s m args below meth c H locs cells slots mc ms (F0 m pc ls st0) rest (va_Qi post B A1 a) (vx_X px BX AX) free) (hS : va_S A0 H0 H locs) (hA : ∀ q, q < H.size → A1 q → A0 q) (hf : ∀ q, free q → A0 q) (hAX : ∀ q, q < H.size → AX q → A0 q)
    (kx : ∀ (E : String) (ce : Cell) (q9 : Addr) (u : SX) (t : State) (H1 : Heap) (locs1 : List Loc), t.heap = H1 → s.vm.Alike t.vm → px u → BX E u t → H.size ≤ H1.size → (∀ q : Nat, q < H.size → ¬ AX q → H1[q]? = H[q]?) → va_S A0 H0 H1 locs1 → H1[q9]? = some ce → ce.vm = .none → s.vm.findClass E = some ce.cls → vx_W p l e R s m args below meth c H1 locs1 (cells + mc) (slots + ms) Q (F0 m pc ls rest) q9)
    (kk : ∀ (r : Int32) (u : S) (t : State) (H1 : Heap) (locs1 : List Loc), t.heap = H1 → s.vm.Alike t.vm → post r u → B u t → H.size ≤ H1.size → (∀ q : Nat, q < H.size → ¬ A1 q → H1[q]? = H[q]?) → va_S A0 H0 H1 locs1 → W p l e R s m args below meth c H1 locs1 (cells + mc) (slots + ms) Q (F0 m (pc + 3) ls (.int r :: rest))) : W p l e R s m args below meth c H locs cells slots Q (F0 m pc ls st0) := by
  intro T hT X
  rcases hr T hT X with ⟨v, st₀, t, T', L, h0, X', hL, e1, e2, ⟨⟨r, u, hv, hp, hb⟩, hF⟩, st⟩ | ⟨q, st₀, t, T', L, E, ce, h0, X', hL, e1, e2, ⟨u, hp, hb, hF⟩, hce, hcv, hcl, st⟩
  · cases hv
    obtain ⟨k1, k2, k3⟩ := vx_keep h0 e1 hS hA hf hL hF
    obtain ⟨t2, a1, b1⟩ := kk r u t T'.heap (locs ++ L) e1.symm (by rw [← e2]; exact X'.warmed.alike) hp hb k1 k2 k3 T' rfl X'
    exact ⟨t2, st t2 a1, b1⟩
  · obtain ⟨k1, k2, k3⟩ := vx_keep h0 e1 hS hAX hf hL hF
    obtain ⟨t2, a1, b1⟩ := kx E ce q u t T'.heap (locs ++ L) e1.symm (by rw [← e2]; exact X'.warmed.alike) hp hb k1 k2 k3 (by rw [e1]; exact hce) hcv hcl T' rfl X'
    exact ⟨t2, st.trans a1, b1⟩
theorem vx_calll {S SX : Type} {post : Int64 → S → Prop} {px : SX → Prop} {B : S → State → Prop} {BX : String → SX → State → Prop} {AX : Nat → Prop} (hr : vx_Run p l e R s m args below meth c H locs cells slots mc ms (F0 m pc ls st0) rest (va_Ql post B A1 a) (vx_X px BX AX) free) (hS : va_S A0 H0 H locs) (hA : ∀ q, q < H.size → A1 q → A0 q) (hf : ∀ q, free q → A0 q) (hAX : ∀ q, q < H.size → AX q → A0 q)
    (kx : ∀ (E : String) (ce : Cell) (q9 : Addr) (u : SX) (t : State) (H1 : Heap) (locs1 : List Loc), t.heap = H1 → s.vm.Alike t.vm → px u → BX E u t → H.size ≤ H1.size → (∀ q : Nat, q < H.size → ¬ AX q → H1[q]? = H[q]?) → va_S A0 H0 H1 locs1 → H1[q9]? = some ce → ce.vm = .none → s.vm.findClass E = some ce.cls → vx_W p l e R s m args below meth c H1 locs1 (cells + mc) (slots + ms) Q (F0 m pc ls rest) q9)
    (kk : ∀ (r : Int64) (u : S) (t : State) (H1 : Heap) (locs1 : List Loc), t.heap = H1 → s.vm.Alike t.vm → post r u → B u t → H.size ≤ H1.size → (∀ q : Nat, q < H.size → ¬ A1 q → H1[q]? = H[q]?) → va_S A0 H0 H1 locs1 → W p l e R s m args below meth c H1 locs1 (cells + mc) (slots + ms) Q (F0 m (pc + 3) ls (.long r :: rest))) : W p l e R s m args below meth c H locs cells slots Q (F0 m pc ls st0) := by
  intro T hT X
  rcases hr T hT X with ⟨v, st₀, t, T', L, h0, X', hL, e1, e2, ⟨⟨r, u, hv, hp, hb⟩, hF⟩, st⟩ | ⟨q, st₀, t, T', L, E, ce, h0, X', hL, e1, e2, ⟨u, hp, hb, hF⟩, hce, hcv, hcl, st⟩
  · cases hv
    obtain ⟨k1, k2, k3⟩ := vx_keep h0 e1 hS hA hf hL hF
    obtain ⟨t2, a1, b1⟩ := kk r u t T'.heap (locs ++ L) e1.symm (by rw [← e2]; exact X'.warmed.alike) hp hb k1 k2 k3 T' rfl X'
    exact ⟨t2, st t2 a1, b1⟩
  · obtain ⟨k1, k2, k3⟩ := vx_keep h0 e1 hS hAX hf hL hF
    obtain ⟨t2, a1, b1⟩ := kx E ce q u t T'.heap (locs ++ L) e1.symm (by rw [← e2]; exact X'.warmed.alike) hp hb k1 k2 k3 (by rw [e1]; exact hce) hcv hcl T' rfl X'
    exact ⟨t2, st.trans a1, b1⟩
theorem vx_callf {S SX : Type} {post : UInt32 → S → Prop} {px : SX → Prop} {B : S → State → Prop} {BX : String → SX → State → Prop} {AX : Nat → Prop} (hr : vx_Run p l e R s m args below meth c H locs cells slots mc ms (F0 m pc ls st0) rest (va_Qf post B A1 a) (vx_X px BX AX) free) (hS : va_S A0 H0 H locs) (hA : ∀ q, q < H.size → A1 q → A0 q) (hf : ∀ q, free q → A0 q) (hAX : ∀ q, q < H.size → AX q → A0 q)
    (kx : ∀ (E : String) (ce : Cell) (q9 : Addr) (u : SX) (t : State) (H1 : Heap) (locs1 : List Loc), t.heap = H1 → s.vm.Alike t.vm → px u → BX E u t → H.size ≤ H1.size → (∀ q : Nat, q < H.size → ¬ AX q → H1[q]? = H[q]?) → va_S A0 H0 H1 locs1 → H1[q9]? = some ce → ce.vm = .none → s.vm.findClass E = some ce.cls → vx_W p l e R s m args below meth c H1 locs1 (cells + mc) (slots + ms) Q (F0 m pc ls rest) q9)
    (kk : ∀ (r : UInt32) (u : S) (t : State) (H1 : Heap) (locs1 : List Loc), t.heap = H1 → s.vm.Alike t.vm → post r u → B u t → H.size ≤ H1.size → (∀ q : Nat, q < H.size → ¬ A1 q → H1[q]? = H[q]?) → va_S A0 H0 H1 locs1 → W p l e R s m args below meth c H1 locs1 (cells + mc) (slots + ms) Q (F0 m (pc + 3) ls (.float r :: rest))) : W p l e R s m args below meth c H locs cells slots Q (F0 m pc ls st0) := by
  intro T hT X
  rcases hr T hT X with ⟨v, st₀, t, T', L, h0, X', hL, e1, e2, ⟨⟨r, u, hv, hp, hb⟩, hF⟩, st⟩ | ⟨q, st₀, t, T', L, E, ce, h0, X', hL, e1, e2, ⟨u, hp, hb, hF⟩, hce, hcv, hcl, st⟩
  · cases hv
    obtain ⟨k1, k2, k3⟩ := vx_keep h0 e1 hS hA hf hL hF
    obtain ⟨t2, a1, b1⟩ := kk r u t T'.heap (locs ++ L) e1.symm (by rw [← e2]; exact X'.warmed.alike) hp hb k1 k2 k3 T' rfl X'
    exact ⟨t2, st t2 a1, b1⟩
  · obtain ⟨k1, k2, k3⟩ := vx_keep h0 e1 hS hAX hf hL hF
    obtain ⟨t2, a1, b1⟩ := kx E ce q u t T'.heap (locs ++ L) e1.symm (by rw [← e2]; exact X'.warmed.alike) hp hb k1 k2 k3 (by rw [e1]; exact hce) hcv hcl T' rfl X'
    exact ⟨t2, st.trans a1, b1⟩
theorem vx_calld {S SX : Type} {post : UInt64 → S → Prop} {px : SX → Prop} {B : S → State → Prop} {BX : String → SX → State → Prop} {AX : Nat → Prop} (hr : vx_Run p l e R s m args below meth c H locs cells slots mc ms (F0 m pc ls st0) rest (va_Qd post B A1 a) (vx_X px BX AX) free) (hS : va_S A0 H0 H locs) (hA : ∀ q, q < H.size → A1 q → A0 q) (hf : ∀ q, free q → A0 q) (hAX : ∀ q, q < H.size → AX q → A0 q)
    (kx : ∀ (E : String) (ce : Cell) (q9 : Addr) (u : SX) (t : State) (H1 : Heap) (locs1 : List Loc), t.heap = H1 → s.vm.Alike t.vm → px u → BX E u t → H.size ≤ H1.size → (∀ q : Nat, q < H.size → ¬ AX q → H1[q]? = H[q]?) → va_S A0 H0 H1 locs1 → H1[q9]? = some ce → ce.vm = .none → s.vm.findClass E = some ce.cls → vx_W p l e R s m args below meth c H1 locs1 (cells + mc) (slots + ms) Q (F0 m pc ls rest) q9)
    (kk : ∀ (r : UInt64) (u : S) (t : State) (H1 : Heap) (locs1 : List Loc), t.heap = H1 → s.vm.Alike t.vm → post r u → B u t → H.size ≤ H1.size → (∀ q : Nat, q < H.size → ¬ A1 q → H1[q]? = H[q]?) → va_S A0 H0 H1 locs1 → W p l e R s m args below meth c H1 locs1 (cells + mc) (slots + ms) Q (F0 m (pc + 3) ls (.double r :: rest))) : W p l e R s m args below meth c H locs cells slots Q (F0 m pc ls st0) := by
  intro T hT X
  rcases hr T hT X with ⟨v, st₀, t, T', L, h0, X', hL, e1, e2, ⟨⟨r, u, hv, hp, hb⟩, hF⟩, st⟩ | ⟨q, st₀, t, T', L, E, ce, h0, X', hL, e1, e2, ⟨u, hp, hb, hF⟩, hce, hcv, hcl, st⟩
  · cases hv
    obtain ⟨k1, k2, k3⟩ := vx_keep h0 e1 hS hA hf hL hF
    obtain ⟨t2, a1, b1⟩ := kk r u t T'.heap (locs ++ L) e1.symm (by rw [← e2]; exact X'.warmed.alike) hp hb k1 k2 k3 T' rfl X'
    exact ⟨t2, st t2 a1, b1⟩
  · obtain ⟨k1, k2, k3⟩ := vx_keep h0 e1 hS hAX hf hL hF
    obtain ⟨t2, a1, b1⟩ := kx E ce q u t T'.heap (locs ++ L) e1.symm (by rw [← e2]; exact X'.warmed.alike) hp hb k1 k2 k3 (by rw [e1]; exact hce) hcv hcl T' rfl X'
    exact ⟨t2, st.trans a1, b1⟩
theorem vx_callv {S SX : Type} {post : S → Prop} {px : SX → Prop} {B : S → State → Prop} {BX : String → SX → State → Prop} {AX : Nat → Prop} (hr : vx_Run p l e R s m args below meth c H locs cells slots mc ms (F0 m pc ls st0) rest (va_Qv post B A1 a) (vx_X px BX AX) free) (hS : va_S A0 H0 H locs) (hA : ∀ q, q < H.size → A1 q → A0 q) (hf : ∀ q, free q → A0 q) (hAX : ∀ q, q < H.size → AX q → A0 q)
    (kx : ∀ (E : String) (ce : Cell) (q9 : Addr) (u : SX) (t : State) (H1 : Heap) (locs1 : List Loc), t.heap = H1 → s.vm.Alike t.vm → px u → BX E u t → H.size ≤ H1.size → (∀ q : Nat, q < H.size → ¬ AX q → H1[q]? = H[q]?) → va_S A0 H0 H1 locs1 → H1[q9]? = some ce → ce.vm = .none → s.vm.findClass E = some ce.cls → vx_W p l e R s m args below meth c H1 locs1 (cells + mc) (slots + ms) Q (F0 m pc ls rest) q9)
    (kk : ∀ (u : S) (t : State) (H1 : Heap) (locs1 : List Loc), t.heap = H1 → s.vm.Alike t.vm → post u → B u t → H.size ≤ H1.size → (∀ q : Nat, q < H.size → ¬ A1 q → H1[q]? = H[q]?) → va_S A0 H0 H1 locs1 → W p l e R s m args below meth c H1 locs1 (cells + mc) (slots + ms) Q (F0 m (pc + 3) ls (rest))) : W p l e R s m args below meth c H locs cells slots Q (F0 m pc ls st0) := by
  intro T hT X
  rcases hr T hT X with ⟨v, st₀, t, T', L, h0, X', hL, e1, e2, ⟨⟨u, hv, hp, hb⟩, hF⟩, st⟩ | ⟨q, st₀, t, T', L, E, ce, h0, X', hL, e1, e2, ⟨u, hp, hb, hF⟩, hce, hcv, hcl, st⟩
  · cases hv
    obtain ⟨k1, k2, k3⟩ := vx_keep h0 e1 hS hA hf hL hF
    obtain ⟨t2, a1, b1⟩ := kk u t T'.heap (locs ++ L) e1.symm (by rw [← e2]; exact X'.warmed.alike) hp hb k1 k2 k3 T' rfl X'
    exact ⟨t2, st t2 a1, b1⟩
  · obtain ⟨k1, k2, k3⟩ := vx_keep h0 e1 hS hAX hf hL hF
    obtain ⟨t2, a1, b1⟩ := kx E ce q u t T'.heap (locs ++ L) e1.symm (by rw [← e2]; exact X'.warmed.alike) hp hb k1 k2 k3 (by rw [e1]; exact hce) hcv hcl T' rfl X'
    exact ⟨t2, st.trans a1, b1⟩
/-- caught by the row x of this method's table; the rows ahead don't take it -/
theorem vx_catch {own name : String} {E : String} {ce : Cell} {q : Addr} (hown : s.vm.findClass own = some m.cls) (pre : List ExceptionTableEntry) (x : ExceptionTableEntry) (suf : List ExceptionTableEntry) (hsplit : c.exceptionTable.toList = pre ++ x :: suf)
    (hpass : ∀ z ∈ pre, covers z pc = false ∨ (z.catchType ≠ 0 ∧ ∃ nm : String, (Cond.classLink own z.catchType nm).before args s = true ∧ va_Nc E nm s)) (hx : covers x pc = true) (h0 : x.catchType ≠ 0)
    (hlink : (Cond.classLink own x.catchType name).before args s = true) (hcast : (Cond.castable E name).before args s = true) (hcell : H[q]? = some ce) (hv : ce.vm = .none) (hcl : s.vm.findClass E = some ce.cls)
    (kk : W p l e R s m args below meth c H locs cells slots Q (F0 m x.handlerPc ls [.ref q])) : vx_W p l e R s m args below meth c H locs cells slots Q (F0 m pc ls rest) q := by
  intro T hT X
  have hpl : e.platform.magicAccessors = ({} : Platform).magicAccessors := by rw [X.admits.platform]
  obtain ⟨c3, c4, hc3, hc4, hasg⟩ := Cond.castable_spec hcast
  cases Option.some.inj (hc3.symm.trans hcl)
  obtain ⟨c5, hc5, hcl5⟩ := Cond.classLink_spec hown hlink e.platform hpl
  cases Option.some.inj (hc4.symm.trans hc5)
  obtain ⟨vm', X', st⟩ := X.thenCaughtThrough q (g := F0 m pc ls rest) rfl (Steps.refl _) (by rw [hT]; exact hcell) (by rw [hv]; rfl) (by obtain ⟨k9, h9, -⟩ := Vm.findClass_spec hcl; exact ⟨k9, h9⟩) pre x suf hsplit
    (fun z hz => by
      rcases hpass z hz with h | ⟨hz0, nm, hl1, hn1⟩
      · exact Or.inl h
      · obtain ⟨c6, hc6, hcl6⟩ := Cond.classLink_spec hown hl1 e.platform hpl
        obtain ⟨a8, b8, h1, h2, h3⟩ := hn1
        cases Option.some.inj (h1.symm.trans hcl)
        cases Option.some.inj (h2.symm.trans hc6)
        exact Or.inr ⟨hz0, _, hcl6, h3⟩) hx (Or.inr ⟨h0, c4, hcl5, hasg⟩)
  obtain ⟨t, a1, b1⟩ := kk (T.setVm vm') hT X'
  exact ⟨t, st.trans a1, b1⟩
end Rows
section Ends
variable {p : Program} {l : Launch} {e : Env} {R : Room} {s : State} {m : MethodId} {args : Array Value} {below : List Frame} {meth : Method} {c : Code} {H : Heap} {locs : List Loc} {cells slots : Nat} {Q : State → Prop}
variable {mc ms : Nat} {free : Addr → Prop} {A0 A1 : Nat → Prop} {H0 : Heap} {a : Array Value} {ls : Array Slot} {st0 rest : List Value}
variable {Qc : Array Value → State → Outcome → State → Prop} {XC : String → State → State → Prop}
/-- what a body that may throw owes at its end -/
def vx_MQ (below : List Frame) (Qc : Array Value → State → Outcome → State → Prop) (XC : String → State → State → Prop) (a : Array Value) (s : State) (mc ms : Nat) (free : Addr → Prop) : State → Prop := fun t =>
  ∃ o, t.status = .running ∧ Ended t below o ∧ vx_Q Qc XC mc ms free a s o t
theorem vx_ret {g : JFrame} {mc ms : Nat} (k : W p l e R s m args below meth c H locs cells slots (MQ below Qc args s mc ms free) g) : W p l e R s m args below meth c H locs cells slots (vx_MQ below Qc XC args s mc ms free) g := by
  intro T hT X
  obtain ⟨t, a1, o, b1, b2, b3, b4⟩ := k T hT X
  exact ⟨t, a1, o, b1, b2, Or.inl ⟨b3, b4⟩⟩
/-- not caught here: it goes on to the caller -/
theorem vx_widen {g : JFrame} {q : Addr} {k n : Nat} (h1 : cells ≤ k) (h2 : slots ≤ n) (kk : vx_W p l e R s m args below meth c H locs k n Q g q) : vx_W p l e R s m args below meth c H locs cells slots Q g q := fun T hT X => kk T hT (stand_widen X h1 h2)
theorem vx_out {pc : Nat} {E : String} {ce : Cell} {q : Addr} {mc ms : Nat} (hout : ∀ x ∈ c.exceptionTable.toList, covers x pc = false) (hlocks : meth.locks = false) (hcell : H[q]? = some ce) (hv : ce.vm = .none) (hcl : s.vm.findClass E = some ce.cls)
    (hx : ∀ t : State, t.heap = H → s.vm.Alike t.vm → XC E s t) (hf : ∀ z ∈ locs, free z.base) (hc : cells ≤ mc) (hs : slots ≤ ms) :
    vx_W p l e R s m args below meth c H locs cells slots (vx_MQ below Qc XC args s mc ms free) (F0 m pc ls rest) q := by
  intro T hT X
  obtain ⟨st1, hrun, hend, hW, hsm⟩ := X.leaveThrown q (g := F0 m pc ls rest) rfl rfl rfl hout hlocks
  have hcell9 : (T.setFrames (.throwing q :: below)).heap[q]? = some ce := by
    show T.heap[q]? = some ce
    rw [hT]; exact hcell
  exact ⟨_, st1, .threw q, hrun, hend, Or.inr ⟨q, rfl, E, ce, locs, hx _ hT hW.alike, hcell9, hv, hcl, hW, hsm.mono hc hs, hf⟩⟩
theorem vx_frame {U : State} {k n : Nat} (h : s.sameButNew ({ U with vm := s.vm } : State) locs k n) : s.heap.size ≤ U.heap.size ∧ ∀ q : Nat, q < s.heap.size → (∀ z ∈ locs, z.base ≠ q) → U.heap[q]? = s.heap[q]? := by
  obtain ⟨-, h2, -, -, -, h6⟩ := h
  refine ⟨h2, fun q hq hz => ?_⟩
  obtain ⟨c9, e1, e2, e3, e4⟩ := h6 q _ (Array.getElem?_eq_getElem hq)
  have hs : c9.slots = (s.heap[q]).slots := Array.ext_getElem? fun i => e4 i fun hm => hz _ hm rfl
  have h9 : c9 = s.heap[q] := by
    rw [hs] at e2
    exact e2
  have e5 : U.heap[q]? = some c9 := e1
  rw [e5, h9, Array.getElem?_eq_getElem hq]
/-- the words of a throw but the four that speak of the heap -/
def vx_no (w : Cond) : Bool := decide (w ≠ .isRef (.static Bundle.tN "UNASSIGNED_STACK" Bundle.steD)) && decide (w ≠ .isRef (.static Bundle.tN "SUPPRESSED_SENTINEL" Bundle.listD)) && decide (w ≠ .laysStatic Bundle.tN "UNASSIGNED_STACK" Bundle.steD) && decide (w ≠ .laysStatic Bundle.tN "SUPPRESSED_SENTINEL" Bundle.listD)
def vx_at0 (own : String) (ic : Nat) (X : String) (names : List String) : List Cond := (Bundle.ownAtoms0 own ic X names).filter vx_no
def vx_atS (own : String) (ic : Nat) (X : String) (names : List String) : List Cond := (Bundle.ownAtoms own ic X names).filter vx_no
/-- a word that the tables alone decide, or a good one -/
def vx_ot (w : Cond) : Bool := w.onTables || goodWord w
theorem vx_ot_at {args a' : Array Value} {s U : State} {w : Cond} (hW : s.WarmedH U.vm) (hvm : s.vm = U.vm) (hg : vx_ot w = true) (h : w.before args s = true) : w.before a' U = true := by
  simp only [vx_ot, Bool.or_eq_true] at hg
  rcases hg with hg | hg
  · exact va_tabs hg hvm h
  · exact word_at hW (good_of_word hg) h
/-- a list's words: the good ones out of the method's own list, the others by premises of their own -/
theorem vx_hat {args : Array Value} {s : State} {L B : List Cond} (h1 : ∀ w ∈ L.filter goodWord, w.before args s = true) (h2 : ∀ w ∈ L.filter (fun w => !goodWord w), w ∈ B) (h3 : ∀ w ∈ B, w.before args s = true) : ∀ w ∈ L, w.before args s = true := by
  intro w hw
  by_cases g : goodWord w = true
  · exact h1 w (List.mem_filter.mpr ⟨hw, g⟩)
  · refine h3 w (h2 w (List.mem_filter.mpr ⟨hw, ?_⟩))
    show (!goodWord w) = true
    cases hgw : goodWord w
    · rfl
    · exact absurd hgw g
theorem vx_c {args : Array Value} {s : State} {w : Cond} {B : List Cond} (h : w.before args s = true) (t : ∀ w ∈ B, w.before args s = true) : ∀ w' ∈ w :: B, w'.before args s = true := fun w' h' => (List.mem_cons.mp h').elim (fun e => by rw [e]; exact h) (t w')
theorem vx_n {args : Array Value} {s : State} : ∀ w ∈ ([] : List Cond), w.before args s = true := fun _ h => nomatch h
theorem vx_own {args : Array Value} {s : State} {L : List Cond} (h1 : ∀ w ∈ L.filter vx_no, w.before args s = true)
    (hU : (Cond.isRef (.static Bundle.tN "UNASSIGNED_STACK" Bundle.steD)).before args s = true) (hN : (Cond.isRef (.static Bundle.tN "SUPPRESSED_SENTINEL" Bundle.listD)).before args s = true)
    (lU : (Cond.laysStatic Bundle.tN "UNASSIGNED_STACK" Bundle.steD).before args s = true) (lN : (Cond.laysStatic Bundle.tN "SUPPRESSED_SENTINEL" Bundle.listD).before args s = true) : ∀ w ∈ L, w.before args s = true := by
  intro w hw
  by_cases e1 : w = .isRef (.static Bundle.tN "UNASSIGNED_STACK" Bundle.steD)
  · rw [e1]; exact hU
  · by_cases e2 : w = .isRef (.static Bundle.tN "SUPPRESSED_SENTINEL" Bundle.listD)
    · rw [e2]; exact hN
    · by_cases e3 : w = .laysStatic Bundle.tN "UNASSIGNED_STACK" Bundle.steD
      · rw [e3]; exact lU
      · by_cases e4 : w = .laysStatic Bundle.tN "SUPPRESSED_SENTINEL" Bundle.listD
        · rw [e4]; exact lN
        · exact h1 w (List.mem_filter.mpr ⟨hw, by unfold vx_no; rw [decide_eq_true e1, decide_eq_true e2, decide_eq_true e3, decide_eq_true e4]; rfl⟩)
/-- where a static field lies, its class's statics cell in H -/
def vx_L (C n d : String) (A : Nat → Prop) (U : State) (H : Heap) : Prop := ∃ (c : ClassId) (k : Class) (i : Nat) (f : Field) (a : Nat) (cell : Cell), U.vm.findClass C = some c ∧ U.fieldFound? C n d = some (c, k, i, f) ∧ f.isStatic = true ∧ k.statics = some a ∧ H[a]? = some cell ∧ cell.vm.isStatics = true ∧ cell.cls = c ∧ f.slot < cell.slots.size ∧ k.staticTypes[f.slot]? = some f.type ∧ ¬ A a
theorem vx_L.moved {C n d : String} {A : Nat → Prop} {u U : State} {H : Heap} (hvm : u.vm.Alike U.vm) (h : vx_L C n d A u H) : vx_L C n d A U H := by
  obtain ⟨c, k, i, f, a, cell, h1, h2, h3, h4, h5, h6, h7, h8, h9, h10⟩ := h
  obtain ⟨k', hi', he⟩ := State.fieldFound?_setVm hvm h2
  exact ⟨c, k', i, f, a, cell, by rw [hvm.findClass]; exact h1, hi', h3, by rw [he]; exact h4, h5, h6, h7, h8, by rw [he]; exact h9, h10⟩
theorem vx_L.kept {C n d : String} {A : Nat → Prop} {U : State} {H H1 : Heap} (h : vx_L C n d A U H) (hq : ∀ a : Nat, a < H.size → ¬ A a → H1[a]? = H[a]?) : vx_L C n d A U H1 := by
  obtain ⟨c, k, i, f, a, cell, h1, h2, h3, h4, h5, h6, h7, h8, h9, h10⟩ := h
  exact ⟨c, k, i, f, a, cell, h1, h2, h3, h4, by rw [hq a (Array.getElem?_eq_some_iff.mp h5).1 h10]; exact h5, h6, h7, h8, h9, h10⟩
theorem vx_L.narrow {C n d : String} {A B : Nat → Prop} {U : State} {H : Heap} (h : vx_L C n d A U H) (hAB : ∀ q, B q → A q) : vx_L C n d B U H := by
  obtain ⟨c, k, i, f, a, cell, h1, h2, h3, h4, h5, h6, h7, h8, h9, h10⟩ := h
  exact ⟨c, k, i, f, a, cell, h1, h2, h3, h4, h5, h6, h7, h8, h9, fun z => h10 (hAB _ z)⟩
theorem vx_L.word {C n d : String} {A : Nat → Prop} {s : State} {args : Array Value} (h : vx_L C n d A s s.heap) : (Cond.laysStatic C n d).before args s = true := by
  obtain ⟨c, k, i, f, a, cell, h1, h2, h3, h4, h5, h6, h7, h8, h9, -⟩ := h
  show (Cond.laysStatic C n d).holds args s none s [] = true
  exact Cond.laysStatic_of h1 h2 h3 h4 h5 h6 h7 h8 h9
/-- .. and what it holds: null or some reference -/
def vx_Zq (C n d : String) (A : Nat → Prop) (U : State) (H : Heap) : Prop := va_Zq C n d A U H ∧ vx_L C n d A U H
theorem vx_Zq.moved {C n d : String} {A : Nat → Prop} {u U : State} {H : Heap} (hvm : u.vm.Alike U.vm) (h : vx_Zq C n d A u H) : vx_Zq C n d A U H := ⟨va_Zq.moved hvm h.1, vx_L.moved hvm h.2⟩
theorem vx_Zq.kept {C n d : String} {A : Nat → Prop} {U : State} {H H1 : Heap} (h : vx_Zq C n d A U H) (hq : ∀ a : Nat, a < H.size → ¬ A a → H1[a]? = H[a]?) : vx_Zq C n d A U H1 := ⟨va_Zq.kept h.1 hq, vx_L.kept h.2 hq⟩
theorem vx_Zq.narrow {C n d : String} {A B : Nat → Prop} {U : State} {H : Heap} (h : vx_Zq C n d A U H) (hAB : ∀ q, B q → A q) : vx_Zq C n d B U H := ⟨va_Zq.narrow h.1 hAB, vx_L.narrow h.2 hAB⟩
theorem vx_Zqof {args : Array Value} {s : State} {C n d : String} {A : Nat → Prop} (hl : (Cond.laysStatic C n d).before args s = true) (hini : (Cond.initialized C).before args s = true) (h : (Cond.isRef (.static C n d)).before args s = true) (hA : ∀ a : Nat, a < s.heap.size → ¬ A a) : vx_Zq C n d A s s.heap := by
  refine ⟨va_Zqof hl hini h hA, ?_⟩
  obtain ⟨c, k, i, f, a, cell, h1, h2, h3, h4, h5, h6, h7, h8, h9⟩ := Cond.laysStatic_spec hl
  exact ⟨c, k, i, f, a, cell, h1, h2, h3, h4, h5, h6, h7, h8, h9, hA a (Array.getElem?_eq_some_iff.mp h5).1⟩
theorem vx_isRef {C n d : String} {v : Value} {A : Nat → Prop} {s : State} {args : Array Value} (h : va_Z C n d v A s s.heap) (hv : v.isRef = true) : (Cond.isRef (.static C n d)).before args s = true := by
  obtain ⟨cf, kf, fi, f, a, cell, h1, h2, h3, h4, h5, h6, h7, -⟩ := h
  have he : (Term.static C n d).eval args s none [] s = some v := by
    simp [Term.eval, State.fieldNamed?, h1, h2, h4, h5, h6, h7]
  simp only [Cond.before, Cond.holds, Cond.value, he]
  cases v <;> simp_all [Value.isRef]
theorem vx_isRefq {C n d : String} {A : Nat → Prop} {s : State} {args : Array Value} (h : va_Zq C n d A s s.heap) : (Cond.isRef (.static C n d)).before args s = true := by
  rcases h with h | ⟨t, h⟩
  · exact vx_isRef h rfl
  · exact vx_isRef h rfl
/-- the same frame, seen from here: as if the method were called anew in this heap -/
theorem vx_rebase {T : State} (X : Stand p l e R s m args below meth c T locs cells slots) {R' : Room} (hf : R'.frames ≤ R.frames) (hl : R'.locals ≤ R.locals) (hc : cells + R'.cells ≤ R.cells) (hs : slots + R'.slots ≤ R.slots) :
    Stand p l e R' ((T.setVm s.vm).setFrames (.invoking m args :: below)) m args below meth c T [] 0 0 := by
  have htop : (T.setVm s.vm).topJava?.isSome := X.here.top
  have hF : ((T.setVm s.vm).setFrames (.invoking m args :: below)).frames = .invoking m args :: below := State.frames_setFrames _ (State.cur_lt_of_top htop)
  obtain ⟨g₀, hg0⟩ := Option.isSome_iff_exists.mp htop
  obtain ⟨r, hr⟩ := State.topJava?_eq_some.mp hg0
  have hl9 : e.platform.stackLimits (T.setVm s.vm).me = e.platform.stackLimits s.me := X.limits
  have hb9 : (T.setVm s.vm).me.stackBytes = s.me.stackBytes := X.bytes
  refine ⟨X.admits, X.cas, X.clock, hF, ?_, X.hears, X.method, X.code, X.here, X.tail, X.warmed, ?_, ?_, ?_⟩
  · have h := X.room
    have hU : ((T.setVm s.vm).setFrames (.invoking m args :: below)).localsInUse = s.localsInUse := by
      rw [State.localsInUse_invoking hF (meth := meth) (c := c) X.method X.code, State.localsInUse_invoking X.frames X.method X.code]
    simp only [State.hasRoom, Bool.and_eq_true, decide_eq_true_eq] at h ⊢
    obtain ⟨⟨⟨⟨h1, h2, h3, h4, h5, h6⟩, h7⟩, h8⟩, h9⟩ := h
    rw [X.frames, List.length_cons] at h2 h3
    have q1 := X.heapSize
    have q2 := X.used
    simp only [hF, hU, List.length_cons, State.stackLimits_setFrames, State.stackBytes_setFrames, hl9, hb9]
    refine ⟨⟨⟨⟨by omega, by omega, by omega, by omega, by omega, h6⟩, ?_⟩, ?_⟩, X.book⟩
    · show T.heap.size + R'.cells ≤ e.platform.maxCells
      omega
    · show T.slotsUsed + R'.slots ≤ e.platform.maxSlots
      omega
  · rw [State.stackLimits_setFrames]; rfl
  · rw [State.stackBytes_setFrames]; rfl
  · refine ⟨?_, Nat.le_refl _, Nat.le_refl _, ?_, ?_, fun a c9 h9 => ⟨c9, h9, rfl, rfl, fun _ _ => rfl⟩⟩
    · obtain ⟨t, ht, -⟩ := State.frames_cons hr
      show T.setVm s.vm = { ((T.setVm s.vm).setFrames (.invoking m args :: below)).setFrames (T.setVm s.vm).frames with heap := T.heap, slotsUsed := T.slotsUsed }
      rw [State.setFrames_setFrames, State.setFrames_self ht]
      rfl
    · show T.slotsUsed = T.slotsUsed + ((T.heap.toList.drop T.heap.size).map (·.slots.size)).sum
      rw [List.drop_eq_nil_of_le (Nat.le_of_eq Array.length_toList)]
      rfl
    · show ((T.heap.toList.drop T.heap.size).map (·.slots.size)).sum ≤ 0
      rw [List.drop_eq_nil_of_le (Nat.le_of_eq Array.length_toList)]
      exact Nat.le_refl _
/-- 'throw new E()': new; dup; invokespecial; athrow -/
theorem vx_throw0 {cc : ByteArray} {pc : Nat} (hexec : p.tables.exec = Jvm.exec) (hb : c.code = cc) (hl : l.stackTraces = false) {own cls : String} {names : List String} {ik ic mc ms : Nat} {A : Nat → Prop}
    (hown : s.vm.findClass own = some m.cls) (hcls : Bundle.fit cls = true) (hnames : ∀ n ∈ names, Bundle.fit n = true)
    (hk : (Cond.classLink own ik cls).before args s = true) (hini : (Cond.initialized cls).before args s = true) (hat : ∀ w ∈ vx_at0 own ic cls names, w.before args s = true)
    (hgood : ∀ w ∈ Cond.classLink own ik cls :: Cond.initialized cls :: vx_at0 own ic cls names, vx_ot w = true)
    (hU : vx_Zq Bundle.tN "UNASSIGNED_STACK" Bundle.steD A s s.heap) (hN : vx_Zq Bundle.tN "SUPPRESSED_SENTINEL" Bundle.listD A s s.heap) (hS : va_S A s.heap H locs) (hsize : ls.size = c.maxLocals)
    (d0 : decode cc pc = .ok (.new ik, 3)) (d3 : decode cc (pc + 3) = .ok (.dup, 1)) (d4 : decode cc (pc + 4) = .ok (.invokespecial ic, 3)) (d7 : decode cc (pc + 7) = .ok (.athrow, 1))
    (hout : ∀ x ∈ c.exceptionTable.toList, covers x (pc + 7) = false)
    (hRframes : names.length + 3 < R.frames) (hRlocals : (rest.map fun v => v.category).sum + (13 * (names.length + 1) + 42) ≤ R.locals) (hRcells : cells + 1 ≤ R.cells) (hRslots : slots + 6 ≤ R.slots) (hlocks : meth.locks = false)
    (hx : ∀ t : State, s.vm.Alike t.vm → H.size ≤ t.heap.size → (∀ q : Nat, q < H.size → t.heap[q]? = H[q]?) → XC cls s t)
    (hf : ∀ z ∈ locs, free z.base) (hc : cells + 1 ≤ mc) (hs : slots + 6 ≤ ms) :
    W p l e R s m args below meth c H locs cells slots (vx_MQ below Qc XC args s mc ms free) (F0 m pc ls rest) := by
  intro T hT X
  have htr : e.platform.stackTraces = false := (show e.platform.stackTraces = l.stackTraces by rw [X.admits.platform]).trans hl
  have Y := vx_rebase X (R' := { frames := R.frames, locals := R.locals, cells := 1, slots := 6 }) (Nat.le_refl _) (Nat.le_refl _) hRcells hRslots
  obtain ⟨s', hA⟩ : ∃ z, z = (T.setVm s.vm).setFrames (.invoking m args :: below) := ⟨_, rfl⟩
  rw [← hA] at Y
  have hvm : s'.vm = s.vm := by rw [hA]; rfl
  have hhp : s'.heap = H := by rw [hA]; exact hT
  have hW0 : s.WarmedH s'.vm := by rw [hvm]; exact State.WarmedH.refl s
  have hat' : ∀ w ∈ vx_at0 own ic cls names, w.before args s' = true := fun w hw => vx_ot_at hW0 hvm.symm (hgood w (List.mem_cons_of_mem _ (List.mem_cons_of_mem _ hw))) (hat w hw)
  have hk' : (Cond.classLink own ik cls).before args s' = true := vx_ot_at hW0 hvm.symm (hgood _ List.mem_cons_self) hk
  have hini' : (Cond.initialized cls).before args s' = true := vx_ot_at hW0 hvm.symm (hgood _ (List.mem_cons_of_mem _ List.mem_cons_self)) hini
  have hU' : vx_Zq Bundle.tN "UNASSIGNED_STACK" Bundle.steD A s' s'.heap := by rw [hhp]; exact vx_Zq.moved hW0.alike (hU.kept hS.2.1)
  have hN' : vx_Zq Bundle.tN "SUPPRESSED_SENTINEL" Bundle.listD A s' s'.heap := by rw [hhp]; exact vx_Zq.moved hW0.alike (hN.kept hS.2.1)
  have h : ∀ w ∈ Bundle.ownAtoms0 own ic cls names, w.before args s' = true := vx_own hat' (vx_isRefq hU'.1) (vx_isRefq hN'.1) hU'.2.word hN'.2.word
  have hown' : s'.vm.findClass own = some m.cls := by rw [hvm]; exact hown
  have hins : (Cond.instantiable cls 6).before args s' = true := h _ (by simp [Bundle.ownAtoms0])
  obtain ⟨vm₁, cX, kX, hfX, hkX, -, -, X₁, st1⟩ := Y.newCold hexec (own := own) (C := cls) (index := ik) (n := 6) hown' hk' hins hini'
    (g := F0 m pc ls rest) rfl (by rw [hb]; exact d0) (Nat.le_refl _) (Nat.le_refl _)
  generalize hT1 : (T.setVm vm₁).pushCell { cls := cX, slots := kX.instanceTypes.map defaultValue, vm := .none } = T1 at X₁ st1
  have hcat : (Value.ref T.heap.size).category = 1 := rfl
  have hcellA : T1.heap[T.heap.size]? = some (freshCell cX kX) := by rw [← hT1]; exact State.heap_pushCell_size _ _
  have d3' : decode c.code (pc + 3) = .ok (.dup, 1) := by rw [hb]; exact d3
  obtain ⟨U, hsteps, hrun, hend, hW, hsame, ce, hce, hO⟩ := X₁.ctorThrow0 hexec htr (own := own) (cls := cls) (names := names) (ic := ic) hown' hcls hnames h (fun x hx => nomatch hx) hfX hkX hcellA (by rw [hhp, hT]; exact Nat.le_refl _)
    (g := { method := m, pc := pc + 4, locals := ls, stack := .ref T.heap.size :: .ref T.heap.size :: rest, locked := none }) rfl hsize rfl rfl (rest := rest) rfl
    (by rw [hb]; exact d4) (by rw [hb]; exact d7) hout hRframes (by simp only [List.map_cons, List.sum_cons, hcat]; omega) hlocks
  obtain ⟨f1, f2⟩ := vx_frame hsame
  rw [hhp] at f1 f2
  have hWs : s.WarmedH U.vm := State.WarmedH.trans hW0 hW
  have hcl : s.vm.findClass cls = some ce.cls := by
    have h9 := hO.cls
    rw [hvm] at h9
    exact h9
  have hall : s.sameButNew ({ U with vm := s.vm } : State) locs mc ms := by
    subst hA
    obtain ⟨e1, e2⟩ := hsame
    rw [State.setFrames_setFrames] at e1
    have h2 : (T.setVm s.vm).sameButNew ({ U with vm := s.vm } : State) [] (0 + 1) (0 + 6) := ⟨e1, e2⟩
    have h3 := X.same.trans h2
    rw [List.append_nil] at h3
    exact h3.mono hc hs
  refine ⟨U, ?_, .threw T.heap.size, hrun, hend, Or.inr ⟨T.heap.size, rfl, cls, ce, locs, hx U hWs.alike f1 (fun q hq => f2 q hq (fun z hz => nomatch hz)), hce, hO.vm, hcl, hWs, hall, hf⟩⟩
  refine st1 _ ?_
  show Steps p.tables e below (T1.setTop { method := m, pc := pc + 3, locals := ls, stack := .ref T.heap.size :: rest, locked := none }) _
  jvm_step X₁.here [X₁.here.top, hexec, d3', Value.category]
  exact hsteps
/-- 'throw new E("text")': new; dup; ldc; invokespecial; athrow -/
theorem vx_throwS {cc : ByteArray} {pc : Nat} (hexec : p.tables.exec = Jvm.exec) (hb : c.code = cc) (hl : l.stackTraces = false) {own cls text : String} {names : List String} {ik is ic mc ms sa : Nat} {A : Nat → Prop}
    (hown : s.vm.findClass own = some m.cls) (hcls : Bundle.fit cls = true) (hnames : ∀ n ∈ names, Bundle.fit n = true)
    (hk : (Cond.classLink own ik cls).before args s = true) (hini : (Cond.initialized cls).before args s = true) (hstr : vk_R own is text sa s) (hat : ∀ w ∈ vx_atS own ic cls names, w.before args s = true)
    (hgood : ∀ w ∈ Cond.classLink own ik cls :: Cond.initialized cls :: vx_atS own ic cls names, vx_ot w = true)
    (hU : vx_Zq Bundle.tN "UNASSIGNED_STACK" Bundle.steD A s s.heap) (hN : vx_Zq Bundle.tN "SUPPRESSED_SENTINEL" Bundle.listD A s s.heap) (hS : va_S A s.heap H locs) (hsize : ls.size = c.maxLocals)
    (d0 : decode cc pc = .ok (.new ik, 3)) (d3 : decode cc (pc + 3) = .ok (.dup, 1)) (d4 : decode cc (pc + 4) = .ok (.ldc is, 2)) (d6 : decode cc (pc + 6) = .ok (.invokespecial ic, 3)) (d9 : decode cc (pc + 9) = .ok (.athrow, 1))
    (hout : ∀ x ∈ c.exceptionTable.toList, covers x (pc + 9) = false)
    (hRframes : names.length + 3 < R.frames) (hRlocals : (rest.map fun v => v.category).sum + (13 * (names.length + 1) + 43) ≤ R.locals) (hRcells : cells + 1 ≤ R.cells) (hRslots : slots + 6 ≤ R.slots) (hlocks : meth.locks = false)
    (hx : ∀ t : State, s.vm.Alike t.vm → H.size ≤ t.heap.size → (∀ q : Nat, q < H.size → t.heap[q]? = H[q]?) → XC cls s t)
    (hf : ∀ z ∈ locs, free z.base) (hc : cells + 1 ≤ mc) (hs : slots + 6 ≤ ms) :
    W p l e R s m args below meth c H locs cells slots (vx_MQ below Qc XC args s mc ms free) (F0 m pc ls rest) := by
  intro T hT X
  have htr : e.platform.stackTraces = false := (show e.platform.stackTraces = l.stackTraces by rw [X.admits.platform]).trans hl
  have Y := vx_rebase X (R' := { frames := R.frames, locals := R.locals, cells := 1, slots := 6 }) (Nat.le_refl _) (Nat.le_refl _) hRcells hRslots
  obtain ⟨s', hA⟩ : ∃ z, z = (T.setVm s.vm).setFrames (.invoking m args :: below) := ⟨_, rfl⟩
  rw [← hA] at Y
  have hvm : s'.vm = s.vm := by rw [hA]; rfl
  have hhp : s'.heap = H := by rw [hA]; exact hT
  have hW0 : s.WarmedH s'.vm := by rw [hvm]; exact State.WarmedH.refl s
  have hat' : ∀ w ∈ vx_atS own ic cls names, w.before args s' = true := fun w hw => vx_ot_at hW0 hvm.symm (hgood w (List.mem_cons_of_mem _ (List.mem_cons_of_mem _ hw))) (hat w hw)
  have hk' : (Cond.classLink own ik cls).before args s' = true := vx_ot_at hW0 hvm.symm (hgood _ List.mem_cons_self) hk
  have hini' : (Cond.initialized cls).before args s' = true := vx_ot_at hW0 hvm.symm (hgood _ (List.mem_cons_of_mem _ List.mem_cons_self)) hini
  have hU' : vx_Zq Bundle.tN "UNASSIGNED_STACK" Bundle.steD A s' s'.heap := by rw [hhp]; exact vx_Zq.moved hW0.alike (hU.kept hS.2.1)
  have hN' : vx_Zq Bundle.tN "SUPPRESSED_SENTINEL" Bundle.listD A s' s'.heap := by rw [hhp]; exact vx_Zq.moved hW0.alike (hN.kept hS.2.1)
  have h : ∀ w ∈ Bundle.ownAtoms own ic cls names, w.before args s' = true := vx_own hat' (vx_isRefq hU'.1) (vx_isRefq hN'.1) hU'.2.word hN'.2.word
  have hown' : s'.vm.findClass own = some m.cls := by rw [hvm]; exact hown
  have hins : (Cond.instantiable cls 6).before args s' = true := h _ (by simp [Bundle.ownAtoms])
  obtain ⟨vm₁, cX, kX, hfX, hkX, -, -, X₁, st1⟩ := Y.newCold hexec (own := own) (C := cls) (index := ik) (n := 6) hown' hk' hins hini'
    (g := F0 m pc ls rest) rfl (by rw [hb]; exact d0) (Nat.le_refl _) (Nat.le_refl _)
  generalize hT1 : (T.setVm vm₁).pushCell { cls := cX, slots := kX.instanceTypes.map defaultValue, vm := .none } = T1 at X₁ st1
  have hcat : (Value.ref T.heap.size).category = 1 := rfl
  have hcellA : T1.heap[T.heap.size]? = some (freshCell cX kX) := by rw [← hT1]; exact State.heap_pushCell_size _ _
  have d3' : decode c.code (pc + 3) = .ok (.dup, 1) := by rw [hb]; exact d3
  have d4' : decode c.code (pc + 4) = .ok (.ldc is, 2) := by rw [hb]; exact d4
  have hstr' : vk_R own is text sa s' := vk_R.warm hW0 hstr
  obtain ⟨U, hsteps, hrun, hend, hW, hsame, ce, hce, hO⟩ := X₁.ctorThrowS hexec htr (own := own) (cls := cls) (names := names) (ic := ic) hown' hcls hnames h (fun x hx => nomatch hx) hfX hkX hcellA (by rw [hhp, hT]; exact Nat.le_refl _) (msg := .ref sa) rfl
    (g := { method := m, pc := pc + 6, locals := ls, stack := .ref sa :: .ref T.heap.size :: .ref T.heap.size :: rest, locked := none }) rfl hsize rfl rfl (rest := rest) rfl
    (by rw [hb]; exact d6) (by rw [hb]; exact d9) hout hRframes (by simp only [List.map_cons, List.sum_cons, hcat]; omega) hlocks
  obtain ⟨f1, f2⟩ := vx_frame hsame
  rw [hhp] at f1 f2
  have hWs : s.WarmedH U.vm := State.WarmedH.trans hW0 hW
  have hcl : s.vm.findClass cls = some ce.cls := by
    have h9 := hO.cls
    rw [hvm] at h9
    exact h9
  have hall : s.sameButNew ({ U with vm := s.vm } : State) locs mc ms := by
    subst hA
    obtain ⟨e1, e2⟩ := hsame
    rw [State.setFrames_setFrames] at e1
    have h2 : (T.setVm s.vm).sameButNew ({ U with vm := s.vm } : State) [] (0 + 1) (0 + 6) := ⟨e1, e2⟩
    have h3 := X.same.trans h2
    rw [List.append_nil] at h3
    exact h3.mono hc hs
  refine ⟨U, ?_, .threw T.heap.size, hrun, hend, Or.inr ⟨T.heap.size, rfl, cls, ce, locs, hx U hWs.alike f1 (fun q hq => f2 q hq (fun z hz => nomatch hz)), hce, hO.vm, hcl, hWs, hall, hf⟩⟩
  refine st1 _ ?_
  show Steps p.tables e below (T1.setTop { method := m, pc := pc + 3, locals := ls, stack := .ref T.heap.size :: rest, locked := none }) _
  jvm_step X₁.here [X₁.here.top, hexec, d3', Value.category]
  exact X₁.ldcString hexec (own := own) (text := text) (index := is) (a := sa) hown' hstr'.1 hstr'.2
    (g := { method := m, pc := pc + 4, locals := ls, stack := .ref T.heap.size :: .ref T.heap.size :: rest, locked := none }) rfl d4' _ hsteps
/-- 'throw new E("text")', the text by a wide index -/
theorem vx_throwSW {cc : ByteArray} {pc : Nat} (hexec : p.tables.exec = Jvm.exec) (hb : c.code = cc) (hl : l.stackTraces = false) {own cls text : String} {names : List String} {ik is ic mc ms sa : Nat} {A : Nat → Prop}
    (hown : s.vm.findClass own = some m.cls) (hcls : Bundle.fit cls = true) (hnames : ∀ n ∈ names, Bundle.fit n = true)
    (hk : (Cond.classLink own ik cls).before args s = true) (hini : (Cond.initialized cls).before args s = true) (hstr : vk_R own is text sa s) (hat : ∀ w ∈ vx_atS own ic cls names, w.before args s = true)
    (hgood : ∀ w ∈ Cond.classLink own ik cls :: Cond.initialized cls :: vx_atS own ic cls names, vx_ot w = true)
    (hU : vx_Zq Bundle.tN "UNASSIGNED_STACK" Bundle.steD A s s.heap) (hN : vx_Zq Bundle.tN "SUPPRESSED_SENTINEL" Bundle.listD A s s.heap) (hS : va_S A s.heap H locs) (hsize : ls.size = c.maxLocals)
    (d0 : decode cc pc = .ok (.new ik, 3)) (d3 : decode cc (pc + 3) = .ok (.dup, 1)) (d4 : decode cc (pc + 4) = .ok (.ldc_w is, 3)) (d7 : decode cc (pc + 7) = .ok (.invokespecial ic, 3)) (d10 : decode cc (pc + 10) = .ok (.athrow, 1))
    (hout : ∀ x ∈ c.exceptionTable.toList, covers x (pc + 10) = false)
    (hRframes : names.length + 3 < R.frames) (hRlocals : (rest.map fun v => v.category).sum + (13 * (names.length + 1) + 43) ≤ R.locals) (hRcells : cells + 1 ≤ R.cells) (hRslots : slots + 6 ≤ R.slots) (hlocks : meth.locks = false)
    (hx : ∀ t : State, s.vm.Alike t.vm → H.size ≤ t.heap.size → (∀ q : Nat, q < H.size → t.heap[q]? = H[q]?) → XC cls s t)
    (hf : ∀ z ∈ locs, free z.base) (hc : cells + 1 ≤ mc) (hs : slots + 6 ≤ ms) :
    W p l e R s m args below meth c H locs cells slots (vx_MQ below Qc XC args s mc ms free) (F0 m pc ls rest) := by
  intro T hT X
  have htr : e.platform.stackTraces = false := (show e.platform.stackTraces = l.stackTraces by rw [X.admits.platform]).trans hl
  have Y := vx_rebase X (R' := { frames := R.frames, locals := R.locals, cells := 1, slots := 6 }) (Nat.le_refl _) (Nat.le_refl _) hRcells hRslots
  obtain ⟨s', hA⟩ : ∃ z, z = (T.setVm s.vm).setFrames (.invoking m args :: below) := ⟨_, rfl⟩
  rw [← hA] at Y
  have hvm : s'.vm = s.vm := by rw [hA]; rfl
  have hhp : s'.heap = H := by rw [hA]; exact hT
  have hW0 : s.WarmedH s'.vm := by rw [hvm]; exact State.WarmedH.refl s
  have hat' : ∀ w ∈ vx_atS own ic cls names, w.before args s' = true := fun w hw => vx_ot_at hW0 hvm.symm (hgood w (List.mem_cons_of_mem _ (List.mem_cons_of_mem _ hw))) (hat w hw)
  have hk' : (Cond.classLink own ik cls).before args s' = true := vx_ot_at hW0 hvm.symm (hgood _ List.mem_cons_self) hk
  have hini' : (Cond.initialized cls).before args s' = true := vx_ot_at hW0 hvm.symm (hgood _ (List.mem_cons_of_mem _ List.mem_cons_self)) hini
  have hU' : vx_Zq Bundle.tN "UNASSIGNED_STACK" Bundle.steD A s' s'.heap := by rw [hhp]; exact vx_Zq.moved hW0.alike (hU.kept hS.2.1)
  have hN' : vx_Zq Bundle.tN "SUPPRESSED_SENTINEL" Bundle.listD A s' s'.heap := by rw [hhp]; exact vx_Zq.moved hW0.alike (hN.kept hS.2.1)
  have h : ∀ w ∈ Bundle.ownAtoms own ic cls names, w.before args s' = true := vx_own hat' (vx_isRefq hU'.1) (vx_isRefq hN'.1) hU'.2.word hN'.2.word
  have hown' : s'.vm.findClass own = some m.cls := by rw [hvm]; exact hown
  have hins : (Cond.instantiable cls 6).before args s' = true := h _ (by simp [Bundle.ownAtoms])
  obtain ⟨vm₁, cX, kX, hfX, hkX, -, -, X₁, st1⟩ := Y.newCold hexec (own := own) (C := cls) (index := ik) (n := 6) hown' hk' hins hini'
    (g := F0 m pc ls rest) rfl (by rw [hb]; exact d0) (Nat.le_refl _) (Nat.le_refl _)
  generalize hT1 : (T.setVm vm₁).pushCell { cls := cX, slots := kX.instanceTypes.map defaultValue, vm := .none } = T1 at X₁ st1
  have hcat : (Value.ref T.heap.size).category = 1 := rfl
  have hcellA : T1.heap[T.heap.size]? = some (freshCell cX kX) := by rw [← hT1]; exact State.heap_pushCell_size _ _
  have d3' : decode c.code (pc + 3) = .ok (.dup, 1) := by rw [hb]; exact d3
  have d4' : decode c.code (pc + 4) = .ok (.ldc_w is, 3) := by rw [hb]; exact d4
  have hstr' : vk_R own is text sa s' := vk_R.warm hW0 hstr
  obtain ⟨U, hsteps, hrun, hend, hW, hsame, ce, hce, hO⟩ := X₁.ctorThrowS hexec htr (own := own) (cls := cls) (names := names) (ic := ic) hown' hcls hnames h (fun x hx => nomatch hx) hfX hkX hcellA (by rw [hhp, hT]; exact Nat.le_refl _) (msg := .ref sa) rfl
    (g := { method := m, pc := pc + 7, locals := ls, stack := .ref sa :: .ref T.heap.size :: .ref T.heap.size :: rest, locked := none }) rfl hsize rfl rfl (rest := rest) rfl
    (by rw [hb]; exact d7) (by rw [hb]; exact d10) hout hRframes (by simp only [List.map_cons, List.sum_cons, hcat]; omega) hlocks
  obtain ⟨f1, f2⟩ := vx_frame hsame
  rw [hhp] at f1 f2
  have hWs : s.WarmedH U.vm := State.WarmedH.trans hW0 hW
  have hcl : s.vm.findClass cls = some ce.cls := by
    have h9 := hO.cls
    rw [hvm] at h9
    exact h9
  have hall : s.sameButNew ({ U with vm := s.vm } : State) locs mc ms := by
    subst hA
    obtain ⟨e1, e2⟩ := hsame
    rw [State.setFrames_setFrames] at e1
    have h2 : (T.setVm s.vm).sameButNew ({ U with vm := s.vm } : State) [] (0 + 1) (0 + 6) := ⟨e1, e2⟩
    have h3 := X.same.trans h2
    rw [List.append_nil] at h3
    exact h3.mono hc hs
  refine ⟨U, ?_, .threw T.heap.size, hrun, hend, Or.inr ⟨T.heap.size, rfl, cls, ce, locs, hx U hWs.alike f1 (fun q hq => f2 q hq (fun z hz => nomatch hz)), hce, hO.vm, hcl, hWs, hall, hf⟩⟩
  refine st1 _ ?_
  show Steps p.tables e below (T1.setTop { method := m, pc := pc + 3, locals := ls, stack := .ref T.heap.size :: rest, locked := none }) _
  jvm_step X₁.here [X₁.here.top, hexec, d3', Value.category]
  exact X₁.ldcStringW hexec (own := own) (text := text) (index := is) (a := sa) hown' hstr'.1 hstr'.2
    (g := { method := m, pc := pc + 4, locals := ls, stack := .ref T.heap.size :: .ref T.heap.size :: rest, locked := none }) rfl d4' _ hsteps
end Ends
section Bodies
variable {l : Launch}
theorem vx_ofW {y : MethodName} {ws ws' : List Cond} {rm : Room} {Pc : Array Value → State → Prop} {Qc : Array Value → State → Outcome → State → Prop} {XC : String → State → State → Prop} {mc ms : Nat} {free : Addr → Prop} {cc : ByteArray} {maxL : Nat} {ret : Option FieldType}
    (hy : plainName y.cls = true) (hw : ws = Cond.code y cc maxL ret :: ws')
    (body : ∀ p e s m args below meth c s₁, BodyLoose p l y (headSpec ws rm) cc maxL ret e s m args below meth c s₁ → c.maxLocals = maxL → (∀ x ∈ c.exceptionTable.toList, False) → Pc args s →
      W p l e (headSpec ws rm).room s m args below meth c s.heap [] 0 0 (vx_MQ below Qc XC args s mc ms free) (entryFrame m args maxL)) : vx_Met l y ws rm Pc Qc XC mc ms free := by
  refine MetFree.of_bodyS (code := cc) (maxLocals := maxL) (ret := ret) hy ?_ ?_
  · intro args s m h hn
    obtain ⟨meth, c, h1, h2, h3, h4, h5, h6, -, -⟩ := Cond.code_spec hn (atoms_spec (ws := ws) h _ (by rw [hw]; exact List.mem_cons_self))
    exact ⟨meth, c, h1, h2, h3, h4, h5, h6⟩
  · intro p e s m args below meth c s₁ B hml hP _
    have hh0 : s₁.heap = s.heap := by rw [B.state]; rfl
    have ht : ∀ x ∈ c.exceptionTable.toList, False := by
      obtain ⟨meth9, c9, h1, h2, -, -, -, -, h7, -⟩ := Cond.code_spec B.named (atoms_spec (ws := ws) B.pre _ (by rw [hw]; exact List.mem_cons_self))
      cases Option.some.inj (h1.symm.trans B.method)
      cases Option.some.inj (h2.symm.trans (Stand.of_body B).code)
      intro x hx
      rw [Array.isEmpty_iff.mp h7] at hx
      cases hx
    obtain ⟨t, a1, o, b1, b2, b3⟩ := body p e s m args below meth c s₁ B hml ht hP s₁ hh0 (Stand.of_body B)
    exact ⟨t, o, a1, b1, b2, b3⟩
/-- the table of a body with handlers -/
theorem vx_table {p : Program} {x y : MethodName} {S : Spec} {cc bytes : ByteArray} {maxL maxL' : Nat} {ret ret' : Option FieldType} {e : Env} {s s₁ : State} {m : MethodId} {args : Array Value} {below : List Frame} {meth : Method} {c : Code} {hh : List (Nat × Nat × Nat × Nat)}
    (B : BodyLoose p l y S cc maxL ret e s m args below meth c s₁) (h : (Cond.codeWith y bytes maxL' ret' hh).before args s = true) : c.exceptionTable.toList = tableOf hh := by
  obtain ⟨m9, meth9, c9, hn9, h1, h2, -, -, h6, -⟩ := Cond.codeWith_spec h
  cases Option.some.inj (hn9.symm.trans B.named)
  cases Option.some.inj (h1.symm.trans B.method)
  cases Option.some.inj (h2.symm.trans (Stand.of_body B).code)
  rw [← h6, table_eq]
end Bodies
end VXA
/-! ===== END ===== -/
/-! ===== BEGIN a static call of a method with an exception table ===== -/
section VXS
variable {p : Program} {l : Launch} {e : Env} {R : Room} {s : State} {m : MethodId} {args : Array Value} {below : List Frame} {meth : Method} {c : Code} {T : State} {H : Heap} {locs : List Loc} {cells slots : Nat}
abbrev vx_CSW (R : Room) (s : State) (args : Array Value) (own : String) (index : Nat) (y : MethodName) (bytes : ByteArray) (maxL : Nat) (ret : Option FieldType) (hh : List (Nat × Nat × Nat × Nat)) (ws : List Cond) (rm : Room) (mc ms n : Nat) : Prop :=
  (rm.cells = mc ∧ rm.slots = ms ∧ rm.frames + 1 ≤ R.frames ∧ 8 + (maxL + 11) + rm.locals ≤ R.locals ∧ (∀ w ∈ ws, ∀ (a' : Array Value) (U : State), s.WarmedH U.vm → w.before a' U = true) ∧ Cond.codeWith y bytes maxL ret hh ∈ ws) ∧
  (Cond.codeWith y bytes maxL ret hh).before args s = true ∧ (Cond.initialized y.cls).before args s = true ∧ (y.cls ≠ "java/lang/invoke/MethodHandle" ∧ y.cls ≠ "java/lang/invoke/VarHandle") ∧
  (∀ sig, parseMethodDescriptor y.desc = some sig → n = sig.parameters.length) ∧ (Cond.methodLink own index y).before args s = true ∧ (Cond.static y).before args s = true
theorem vx_cwSW {own : String} {index maxL mc ms : Nat} {y : MethodName} {bytes : ByteArray} {ret : Option FieldType} {hh : List (Nat × Nat × Nat × Nat)} {Ts ws ws' : List Cond} {rm : Room} (n : Nat) (ht : ∀ w ∈ Ts, w.before args s = true) (hT : GoodIn Ts (va_wsS own index y ws)) (hw : ws = Cond.codeWith y bytes maxL ret hh :: ws') (hrc : rm.cells = mc) (hrs : rm.slots = ms)
    (hd : y.cls ≠ "java/lang/invoke/MethodHandle" ∧ y.cls ≠ "java/lang/invoke/VarHandle" ∧ (parseMethodDescriptor y.desc).map (fun d => d.parameters.length) = some n) (hR : rm.frames + 1 ≤ R.frames ∧ 8 + (maxL + 11) + rm.locals ≤ R.locals) :
    vx_CSW R s args own index y bytes maxL ret hh ws rm mc ms n := by
  have ok : ∀ w ∈ va_wsS own index y ws, w.before args s = true := fun w h => ht w (hT w h).1
  have hG : GoodIn Ts ws := fun w h => hT w (by unfold va_wsS; exact List.mem_append_right _ h)
  have hc : Cond.codeWith y bytes maxL ret hh ∈ ws := by rw [hw]; exact List.mem_cons_self
  refine ⟨⟨hrc, hrs, hR.1, hR.2, pay_in ht hG, hc⟩, ht _ (hG _ hc).1, ok _ (by simp [va_wsS]), ⟨hd.1, hd.2.1⟩, fun sig h => ?_, ok _ (by simp [va_wsS]), ok _ (by simp [va_wsS])⟩
  have h2 := hd.2.2
  rw [h] at h2
  exact (Option.some.inj h2).symm
theorem vx_callSW (X : Stand p l e R s m args below meth c T locs cells slots) (hexec : p.tables.exec = Jvm.exec) {own : String} {index : Nat} {y : MethodName} {bytes : ByteArray} {maxL : Nat} {ret : Option FieldType} {hh : List (Nat × Nat × Nat × Nat)}
    (hown : s.vm.findClass own = some m.cls) (hlink : (Cond.methodLink own index y).before args s = true) (hstat : (Cond.static y).before args s = true) (hinit : (Cond.initialized y.cls).before args s = true)
    (hcode : (Cond.codeWith y bytes maxL ret hh).before args s = true) (hy : y.cls ≠ "java/lang/invoke/MethodHandle" ∧ y.cls ≠ "java/lang/invoke/VarHandle")
    {W9 : Nat} {Pre : Pt → Array Value → Prop} {Post : Pt → Array Value → Option Value → Pt → Prop} (hK : Back l R p e below s args y 3 W9 Pre Post)
    {g : JFrame} (hg : g.method = m) (hsize : g.locals.size = c.maxLocals) {argsL rest : List Value} (hlen : ∀ sig, parseMethodDescriptor y.desc = some sig → argsL.length = sig.parameters.length)
    (hstack : g.stack = argsL.reverse ++ rest) (hW : 2 * g.monitorRoom + (rest.map fun v => v.category).sum ≤ W9) (hdg : decode c.code g.pc = .ok (.invokestatic index, 3))
    (hpre : ∀ vm₁, s.WarmedH vm₁ → Pre ⟨T.setVm vm₁, locs, cells, slots⟩ argsL.toArray) :
    ∃ (v : Option Value) (vm₁ : Vm) (B : Pt), s.WarmedH vm₁ ∧ Stand p l e R s m args below meth c B.U B.locs B.cells B.slots ∧ Post ⟨T.setVm vm₁, locs, cells, slots⟩ argsL.toArray v B ∧
      ∀ target, Steps p.tables e below (B.U.setTop { g with pc := g.pc + 3, stack := v.toList ++ rest }) target → Steps p.tables e below (T.setTop g) target := by
  obtain ⟨mk, methM, cM, hnamed, hmethM, -, -, -, -, -, -, hsigM⟩ := Cond.codeWith_spec hcode
  have hstatic : methM.isStatic = true := Cond.static_spec hnamed hmethM hstat
  obtain ⟨kP, hkP, -⟩ := className_of_methodNamed hnamed
  have hinitP : kP.init = .initialized := Cond.initialized_spec (findClass_of_methodNamed hnamed) hkP hinit
  obtain ⟨vm₁, X₁, hstep₁⟩ := X.invokestatic hexec hown hlink hnamed hmethM hstatic hkP hinitP hy (g := g) hg (argsL := argsL) (rest := rest) (hlen _ hsigM) hstack hdg
  obtain ⟨v, B, X', hpost, hsteps⟩ := hK m meth c ⟨T.setVm vm₁, locs, cells, slots⟩ { g with stack := rest } (.invokestatic index) mk argsL.toArray X₁ hg hsize hdg hW (X₁.named hnamed) (hpre vm₁ X₁.warmed)
  exact ⟨v, vm₁, B, X₁.warmed, X', hpost, fun target h => hstep₁ _ fun acts => by rw [doInvoke_state]; exact hsteps.trans h⟩
theorem vx_runSW {y : MethodName} {bytes cc : ByteArray} {maxL nL mc ms n index : Nat} {ret : Option FieldType} {hh : List (Nat × Nat × Nat × Nat)} {ws : List Cond} {rm : Room} {Pc : Array Value → State → Prop} {Qc : Array Value → State → Outcome → State → Prop} {free : Addr → Prop} {Ts : List Cond} {own : String} {As rest : List Value} {g : JFrame}
    (S : CallFix p m c cc nL s args Ts own) (hM : Met l y ws rm Pc Qc mc ms free) (cw : vx_CSW R s args own index y bytes maxL ret hh ws rm mc ms n) (hp : PreS s H Pc As)
    (hg : g.method = m) (hn : As.length = n) (hsize : g.locals.size = nL) (hstack : g.stack = As.reverse ++ rest) (hW : 2 * g.monitorRoom + (rest.map fun v => v.category).sum ≤ 8) (hdg : decode cc g.pc = .ok (.invokestatic index, 3)) (hf : cells + mc ≤ R.cells ∧ slots + ms ≤ R.slots) :
    va_Run p l e R s m args below meth c H locs cells slots mc ms g rest (Qc As.toArray) (free) := by
  obtain ⟨⟨hrc, hrs, hfr, hlo, hws, hcw⟩, hcode, hini, hy, hlen, hl, hstt⟩ := cw
  have hK : Back l R p e below s args y 3 8 (PreOf R mc ms Pc) (PostOf Qc mc ms free) := va_backW (hh := hh) (bytes := bytes) (maxL := maxL) (ret := ret) hM hp.1 hrc hrs hfr hlo hws hcw (fun a' U hW => word_at hW (Or.inl (by first | rfl | simp [Cond.onTables, Cond.keeps, Cond.steady])) hini)
  obtain ⟨hx, hb, hml, ho, -⟩ := S
  intro T hT X
  obtain ⟨v, vm₁, ⟨U', l2, c2, s2⟩, hW₁, X', ⟨g', mk, t, L, e1, e2, hq, h1, hL, h2, h3⟩, st⟩ := vx_callSW X hx (hh := hh) (bytes := bytes) (maxL := maxL) (ret := ret) ho hl hstt hini hcode hy hK hg (hsize.trans hml.symm) (argsL := As) (rest := rest) (fun sig h => hn.trans (hlen sig h)) hstack hW (by rw [hb]; exact hdg)
    (fun vm₁ hW₁ => ⟨hf.1, hf.2, hp.2 (T.setVm vm₁) hT hW₁⟩)
  dsimp only [Pt.U, Pt.locs, Pt.cells, Pt.slots] at X' e1 e2 h1 h2 h3 st
  subst h1; subst h2; subst h3
  exact ⟨v, (T.setVm vm₁).calling g' mk As.toArray, t, U', L, hT, X', hL, e1, e2, hq, st⟩
/-- not caught here, past rows that name other classes: it goes on to the caller -/
theorem vx_outP {p : Program} {l : Launch} {e : Env} {R : Room} {s : State} {m : MethodId} {args : Array Value} {below : List Frame} {meth : Method} {c : Code} {H : Heap} {locs : List Loc} {cells slots : Nat} {free : Addr → Prop} {ls : Array Slot} {rest : List Value} {Qc : Array Value → State → Outcome → State → Prop} {XC : String → State → State → Prop}
    {pc : Nat} {own E : String} {ce : Cell} {q : Addr} {mc ms : Nat} (hown : s.vm.findClass own = some m.cls) (hlocks : meth.locks = false)
    (hpass : ∀ z ∈ c.exceptionTable.toList, covers z pc = false ∨ (z.catchType ≠ 0 ∧ ∃ nm : String, (Cond.classLink own z.catchType nm).before args s = true ∧ va_Nc E nm s)) (hcell : H[q]? = some ce) (hv : ce.vm = .none) (hcl : s.vm.findClass E = some ce.cls)
    (hx : ∀ t : State, t.heap = H → s.vm.Alike t.vm → XC E s t) (hf : ∀ z ∈ locs, free z.base) (hc : cells ≤ mc) (hs : slots ≤ ms) :
    vx_W p l e R s m args below meth c H locs cells slots (vx_MQ below Qc XC args s mc ms free) (F0 m pc ls rest) q := by
  intro T hT X
  have hpl : e.platform.magicAccessors = ({} : Platform).magicAccessors := by rw [X.admits.platform]
  obtain ⟨vm', hW', X', st⟩ := X.outThrough hlocks q (g := F0 m pc ls rest) rfl rfl rfl (cell := ce) (by rw [hT]; exact hcell) (by rw [hv]; rfl)
    (by obtain ⟨k9, h9, -⟩ := Vm.findClass_spec hcl; exact ⟨k9, h9⟩) (fun z hz => by
      rcases hpass z hz with h | ⟨hz0, nm, hl1, hn1⟩
      · exact Or.inl h
      · obtain ⟨c6, hc6, hcl6⟩ := Cond.classLink_spec hown hl1 e.platform hpl
        obtain ⟨a8, b8, h1, h2, h3⟩ := hn1
        cases Option.some.inj (h1.symm.trans hcl)
        cases Option.some.inj (h2.symm.trans hc6)
        exact Or.inr ⟨hz0, _, hcl6, h3⟩)
  obtain ⟨g₀, hfr⟩ := X'.frames_eq
  have hcell9 : ((T.setVm vm').setFrames (.throwing q :: below)).heap[q]? = some ce := by
    show T.heap[q]? = some ce
    rw [hT]; exact hcell
  have hend : Ended ((T.setVm vm').setFrames (.throwing q :: below)) below (.threw q) := State.frames_setFrames _ (State.cur_lt_of_frames hfr)
  refine ⟨(T.setVm vm').setFrames (.throwing q :: below), ?_, .threw q, X'.here.running, hend, Or.inr ⟨q, rfl, E, ce, locs, hx _ hT (X'.ends _).1.alike, hcell9, hv, hcl, (X'.ends _).1, (X'.ends _).2.mono hc hs, hf⟩⟩
  rw [X.pushThrowing_eq]
  exact st
/-- a thing of a world lies in the heap -/
theorem vx_lt {D : va_G} {cl : List vw_C} {ws : va_W} {H1 : Heap} (h : va_P D cl ws H1) {k : Nat} {q : Nat × va_E} (hk : ws[k]? = some q) : q.1 < H1.size := (h k q hk).lt
end VXS
/-! ===== END ===== -/
/-! ===== BEGIN methods with a table of their own: called by a name, returning or throwing ===== -/
section VXH
/-! vx_backW, vx_callVX, vx_callSX, vx_callVW, vx_runVW, vx_runVX, vx_runSX, vx_ofWH follow the same proofs as their sisters above (Free/Laws.lean, Shelf42/LK1.lean); vx_outP calls Shelf42/NT130.lean (outThrough). -/
section
variable {l : Launch} {R : Room} {p : Program} {e : Env} {below : List Frame} {s : State} {sargs : Array Value} {y : MethodName} {len W9 : Nat}
theorem vx_backW {ws : List Cond} {rm : Room} {Pc : Array Value → State → Prop} {Qc : Array Value → State → Outcome → State → Prop} {XC : String → State → State → Prop} {mc ms : Nat} {free : Addr → Prop} {bytes : ByteArray} {maxL : Nat} {ret : Option FieldType} {hh : List (Nat × Nat × Nat × Nat)}
    (hM : vx_Met l y ws rm Pc Qc XC mc ms free) (hblind : FrameBlind Pc) (hrc : rm.cells = mc) (hrs : rm.slots = ms)
    (hframes : rm.frames + 1 ≤ R.frames) (hlocals : W9 + (maxL + 11) + rm.locals ≤ R.locals)
    (hws : ∀ w ∈ ws, ∀ a' U, s.WarmedH U.vm → w.before a' U = true) (hcode : Cond.codeWith y bytes maxL ret hh ∈ ws) (hinit : ∀ a' U, s.WarmedH U.vm → (Cond.initialized y.cls).before a' U = true) :
    vx_Back l R p e below s sargs y len W9 (PreOf R mc ms Pc) (PostOf Qc mc ms free) (vx_Post XC mc ms free) := by
  intro m meth c A g ig mk a X hg hsize hdg hW hn hp
  have h1 : (headSpec ws rm).pre.before a A.U = true := atoms_intro fun w hw => hws w hw _ _ X.warmed
  have h2 : (Cond.codeWith y bytes maxL ret hh).before a A.U = true := hws _ hcode _ _ X.warmed
  have h3 : (Cond.initialized y.cls).before a A.U = true := hinit _ _ X.warmed
  have h4 : A.cells + (headSpec ws rm).room.cells ≤ R.cells := by rw [show (headSpec ws rm).room.cells = mc from hrc]; exact hp.1
  have h5 : A.slots + (headSpec ws rm).room.slots ≤ R.slots := by rw [show (headSpec ws rm).room.slots = ms from hrs]; exact hp.2.1
  have hPc : Pc a (A.U.calling g mk a) := hblind _ _ _ _ hp.2.2
  obtain ⟨U, Ls, c0, s0⟩ := A
  dsimp only [Pt.U, Pt.locs, Pt.cells, Pt.slots] at h1 h2 h3 h4 h5 X hn hPc ⊢
  obtain ⟨m9, methY, cY, hn9, hmY, hcY, -, hlY, -⟩ := Cond.codeWith_spec h2
  cases Option.some.inj (hn9.symm.trans hn)
  obtain ⟨kY, hkY, -⟩ := className_of_methodNamed hn
  have hinitY : kY.init = .initialized := Cond.initialized_spec (findClass_of_methodNamed hn) hkY h3
  have h : At U g.method c below := by rw [hg]; exact X.here
  have hlocals9 : W9 + (maxL + 11) + (headSpec ws rm).room.locals ≤ R.locals := hlocals
  have happ : (headSpec ws rm).appliesLoose y e.platform (U.calling g mk a) = true :=
    Spec.appliesLoose_calling (g := g) h hdg hn hkY hinitY
      (X.room_calling (g := g) (R' := (headSpec ws rm).room) hsize hmY hcY hframes (by rw [hlY]; omega) h4 h5) h1
  obtain ⟨mid, hmid⟩ := h.above
  have hfr : (U.setTop g).frames = (.java g :: mid) ++ below := by rw [State.frames_setTop' g h.top, hmid]; rfl
  obtain ⟨o, s₂, hsteps, -, hend, hq⟩ := Steps.callFree hM p X.admits X.cas X.clock (acts := []) hfr happ hPc trivial
  have hq' : vx_Q Qc XC mc ms free a (U.calling g mk a) o s₂ := hq
  rw [State.frames_setTop' g h.top] at hend
  obtain ⟨g₀, hg0⟩ := Option.isSome_iff_exists.mp h.top
  obtain ⟨r, hr⟩ := State.topJava?_eq_some.mp hg0
  have hr' : (({ U with heap := s₂.heap, slotsUsed := s₂.slotsUsed } : State).setVm s₂.vm).frames = .java g₀ :: r := hr
  rcases hq' with ⟨hqc, L, hfe, hL⟩ | ⟨q, rfl, E, ce, L, hx, hce, hcv, hcl, hW₂, hsm, hL⟩
  · obtain ⟨⟨v, rfl⟩, hW₂, e2, q2, q3, q4, q5, q6⟩ := id hfe
    have e3 : s₂ = ({ (U.calling g mk a).setFrames s₂.frames with heap := s₂.heap, slotsUsed := s₂.slotsUsed } : State).setVm s₂.vm := by
      have : s₂ = ({ s₂ with vm := (U.calling g mk a).vm } : State).setVm s₂.vm := rfl
      rw [e2] at this
      exact this
    obtain ⟨c₂, i₂, len₂, hc₂, hd₂, hf₂⟩ := hend
    have hW' : U.WarmedH s₂.vm := hW₂
    have hcc : c₂ = c := by
      have h1 : s₂.code? g.method = U.code? g.method := by
        rw [State.code?_eq, State.code?_eq, hW'.alike.method?]
      exact Option.some.inj (hc₂.symm.trans (h1.trans h.code))
    subst hcc
    have hlen : len₂ = len := by rw [hdg] at hd₂; cases hd₂; rfl
    subst hlen
    have hs₂ : s₂ = (({ U with heap := s₂.heap, slotsUsed := s₂.slotsUsed } : State).setVm s₂.vm).setTop { g with pc := g.pc + len₂, stack := v.toList ++ g.stack } := by
      refine e3.trans ?_
      rw [hf₂, State.calling_eq h.top, State.setFrames_setFrames, State.setTop_of_frames _ hr', hr]
      rfl
    have hsame : U.sameButNew ({ U with heap := s₂.heap, slotsUsed := s₂.slotsUsed } : State) L mc ms := by
      refine ⟨?_, q2, q3, q4, q5, q6⟩
      obtain ⟨t, ht, -⟩ := State.frames_cons hr
      show ({ U with heap := s₂.heap, slotsUsed := s₂.slotsUsed } : State) = { U.setFrames U.frames with heap := s₂.heap, slotsUsed := s₂.slotsUsed }
      rw [State.setFrames_self ht]
    subst hg
    refine Or.inl ⟨v, ⟨(({ U with heap := s₂.heap, slotsUsed := s₂.slotsUsed } : State).setVm s₂.vm), Ls ++ L, c0 + mc, s0 + ms⟩,
      ⟨X.admits, X.cas, X.clock, X.frames, X.room, X.hears, X.method, X.code, (X.here.setHeapUsed s₂.heap s₂.slotsUsed).setVm hW'.alike, X.tail, State.WarmedH.trans X.warmed hW', X.limits, X.bytes, X.same.trans (hsame.setVm s.vm)⟩,
      ⟨g, mk, s₂, L, rfl, rfl, hqc, rfl, hL, rfl, rfl⟩, ?_⟩
    show Steps p.tables e below _ ((({ U with heap := s₂.heap, slotsUsed := s₂.slotsUsed } : State).setVm s₂.vm).setTop { g with pc := g.pc + len₂, stack := v.toList ++ g.stack })
    rw [← hs₂]
    exact hsteps
  · obtain ⟨e2, q2, q3, q4, q5, q6⟩ := id hsm
    have e3 : s₂ = ({ (U.calling g mk a).setFrames s₂.frames with heap := s₂.heap, slotsUsed := s₂.slotsUsed } : State).setVm s₂.vm := by
      have : s₂ = ({ s₂ with vm := (U.calling g mk a).vm } : State).setVm s₂.vm := rfl
      rw [e2] at this
      exact this
    have hf₂ : s₂.frames = .throwing q :: .java g :: U.frames.tail := hend
    have hW' : U.WarmedH s₂.vm := hW₂
    have hs₂ : s₂ = ((({ U with heap := s₂.heap, slotsUsed := s₂.slotsUsed } : State).setVm s₂.vm).setTop g).pushFrame (.throwing q) := by
      refine e3.trans ?_
      rw [hf₂, State.calling_eq h.top, State.setFrames_setFrames, State.pushFrame, State.frames_setTop _ hr', State.setTop_of_frames _ hr', State.setFrames_setFrames, hr]
      rfl
    have hsame : U.sameButNew ({ U with heap := s₂.heap, slotsUsed := s₂.slotsUsed } : State) L mc ms := by
      refine ⟨?_, q2, q3, q4, q5, q6⟩
      obtain ⟨t, ht, -⟩ := State.frames_cons hr
      show ({ U with heap := s₂.heap, slotsUsed := s₂.slotsUsed } : State) = { U.setFrames U.frames with heap := s₂.heap, slotsUsed := s₂.slotsUsed }
      rw [State.setFrames_self ht]
    subst hg
    refine Or.inr ⟨q, ⟨(({ U with heap := s₂.heap, slotsUsed := s₂.slotsUsed } : State).setVm s₂.vm), Ls ++ L, c0 + mc, s0 + ms⟩,
      ⟨X.admits, X.cas, X.clock, X.frames, X.room, X.hears, X.method, X.code, (X.here.setHeapUsed s₂.heap s₂.slotsUsed).setVm hW'.alike, X.tail, State.WarmedH.trans X.warmed hW', X.limits, X.bytes, X.same.trans (hsame.setVm s.vm)⟩,
      ⟨g, mk, s₂, L, E, ce, rfl, rfl, hx, hce, hcv, hcl, rfl, hL, rfl, rfl⟩, ?_⟩
    show Steps p.tables e below _ (((({ U with heap := s₂.heap, slotsUsed := s₂.slotsUsed } : State).setVm s₂.vm).setTop g).pushFrame (.throwing q))
    rw [← hs₂]
    exact hsteps
end
variable {p : Program} {l : Launch} {e : Env} {R : Room} {s : State} {m : MethodId} {args : Array Value} {below : List Frame} {meth : Method} {c : Code} {T : State} {H : Heap} {locs : List Loc} {cells slots : Nat}
theorem vx_callVX (X : Stand p l e R s m args below meth c T locs cells slots) (hexec : p.tables.exec = Jvm.exec) {own C : String} {index : Nat} {y : MethodName} {bytes : ByteArray} {maxL : Nat} {ret : Option FieldType} {hh : List (Nat × Nat × Nat × Nat)}
    (hown : s.vm.findClass own = some m.cls) (hlink : (Cond.methodLink own index y).before args s = true) (hinst : (Cond.instanceMethod y).before args s = true) (hsel : (Cond.selects C y y).before args s = true)
    (hcode : (Cond.codeWith y bytes maxL ret hh).before args s = true) (hy : y.cls ≠ "java/lang/invoke/MethodHandle" ∧ y.cls ≠ "java/lang/invoke/VarHandle")
    {W9 : Nat} {Pre : Pt → Array Value → Prop} {Post : Pt → Array Value → Option Value → Pt → Prop} {PostX : Pt → Array Value → Addr → Pt → Prop} (hK : vx_Back l R p e below s args y 3 W9 Pre Post PostX)
    {b : Addr} {cellB : Cell} (hcell : T.heap[b]? = some cellB) (hobj : cellB.vm.isStatics = false) (hcls : s.vm.findClass C = some cellB.cls)
    {g : JFrame} (hg : g.method = m) (hsize : g.locals.size = c.maxLocals) {argsL rest : List Value} (hlen : ∀ sig, parseMethodDescriptor y.desc = some sig → argsL.length = sig.parameters.length)
    (hstack : g.stack = argsL.reverse ++ .ref b :: rest) (hW : 2 * g.monitorRoom + (rest.map fun v => v.category).sum ≤ W9) (hdg : decode c.code g.pc = .ok (.invokevirtual index, 3))
    (hpre : ∀ vm₁, s.WarmedH vm₁ → Pre ⟨T.setVm vm₁, locs, cells, slots⟩ (Value.ref b :: argsL).toArray) :
    (∃ (v : Option Value) (vm₁ : Vm) (B : Pt), s.WarmedH vm₁ ∧ Stand p l e R s m args below meth c B.U B.locs B.cells B.slots ∧ Post ⟨T.setVm vm₁, locs, cells, slots⟩ (Value.ref b :: argsL).toArray v B ∧
      ∀ target, Steps p.tables e below (B.U.setTop { g with pc := g.pc + 3, stack := v.toList ++ rest }) target → Steps p.tables e below (T.setTop g) target) ∨
    (∃ (q : Addr) (vm₁ : Vm) (B : Pt), s.WarmedH vm₁ ∧ Stand p l e R s m args below meth c B.U B.locs B.cells B.slots ∧ PostX ⟨T.setVm vm₁, locs, cells, slots⟩ (Value.ref b :: argsL).toArray q B ∧
      Steps p.tables e below (T.setTop g) ((B.U.setTop { g with stack := rest }).pushFrame (.throwing q))) := by
  obtain ⟨mk, methM, hnamed, hmethM, hstM, habM⟩ := Cond.instanceMethod_spec hinst
  obtain ⟨m8, methM', cM, hn8, hmethM', -, -, -, -, -, -, hsigM⟩ := Cond.codeWith_spec hcode
  cases Option.some.inj (hn8.symm.trans hnamed)
  cases hmethM.symm.trans hmethM'
  obtain ⟨c2, r2, m2, q1, q2, q3, q4, kP, hkP, hkPi⟩ := Cond.selects_spec hsel
  cases hcls.symm.trans q1
  cases (State.methodFound?_of_named hnamed hy).symm.trans q2
  cases hnamed.symm.trans q3
  have hselP : selectMethod e.platform s.vm cellB.cls mk = .method mk := by rw [Launch.admits_selectMethod X.admits]; exact q4
  obtain ⟨vm₁, X₁, hstep₁⟩ := X.invokevirtual hexec hown hlink hnamed hmethM hstM hkP hkPi hy (a := b) (cell := cellB) hcell
    (fun z h => by rw [h] at hobj; cases hobj) hselP hmethM habM hkP hkPi (g := g) hg (argsL := argsL) (rest := rest) (hlen _ hsigM) hstack hdg
  rcases hK m meth c ⟨T.setVm vm₁, locs, cells, slots⟩ { g with stack := rest } (.invokevirtual index) mk (Value.ref b :: argsL).toArray X₁ hg hsize hdg hW (X₁.named hnamed) (hpre vm₁ X₁.warmed) with ⟨v, B, X', hpost, hsteps⟩ | ⟨q, B, X', hpost, hsteps⟩
  · exact Or.inl ⟨v, vm₁, B, X₁.warmed, X', hpost, fun target h => hstep₁ _ fun acts => by rw [doInvoke_state]; exact hsteps.trans h⟩
  · exact Or.inr ⟨q, vm₁, B, X₁.warmed, X', hpost, hstep₁ _ fun acts => by rw [doInvoke_state]; exact hsteps⟩
theorem vx_callSX (X : Stand p l e R s m args below meth c T locs cells slots) (hexec : p.tables.exec = Jvm.exec) {own : String} {index : Nat} {y : MethodName} {bytes : ByteArray} {maxL : Nat} {ret : Option FieldType} {hh : List (Nat × Nat × Nat × Nat)}
    (hown : s.vm.findClass own = some m.cls) (hlink : (Cond.methodLink own index y).before args s = true) (hstat : (Cond.static y).before args s = true) (hinit : (Cond.initialized y.cls).before args s = true)
    (hcode : (Cond.codeWith y bytes maxL ret hh).before args s = true) (hy : y.cls ≠ "java/lang/invoke/MethodHandle" ∧ y.cls ≠ "java/lang/invoke/VarHandle")
    {W9 : Nat} {Pre : Pt → Array Value → Prop} {Post : Pt → Array Value → Option Value → Pt → Prop} {PostX : Pt → Array Value → Addr → Pt → Prop} (hK : vx_Back l R p e below s args y 3 W9 Pre Post PostX)
    {g : JFrame} (hg : g.method = m) (hsize : g.locals.size = c.maxLocals) {argsL rest : List Value} (hlen : ∀ sig, parseMethodDescriptor y.desc = some sig → argsL.length = sig.parameters.length)
    (hstack : g.stack = argsL.reverse ++ rest) (hW : 2 * g.monitorRoom + (rest.map fun v => v.category).sum ≤ W9) (hdg : decode c.code g.pc = .ok (.invokestatic index, 3))
    (hpre : ∀ vm₁, s.WarmedH vm₁ → Pre ⟨T.setVm vm₁, locs, cells, slots⟩ argsL.toArray) :
    (∃ (v : Option Value) (vm₁ : Vm) (B : Pt), s.WarmedH vm₁ ∧ Stand p l e R s m args below meth c B.U B.locs B.cells B.slots ∧ Post ⟨T.setVm vm₁, locs, cells, slots⟩ argsL.toArray v B ∧
      ∀ target, Steps p.tables e below (B.U.setTop { g with pc := g.pc + 3, stack := v.toList ++ rest }) target → Steps p.tables e below (T.setTop g) target) ∨
    (∃ (q : Addr) (vm₁ : Vm) (B : Pt), s.WarmedH vm₁ ∧ Stand p l e R s m args below meth c B.U B.locs B.cells B.slots ∧ PostX ⟨T.setVm vm₁, locs, cells, slots⟩ argsL.toArray q B ∧
      Steps p.tables e below (T.setTop g) ((B.U.setTop { g with stack := rest }).pushFrame (.throwing q))) := by
  obtain ⟨mk, methM, cM, hnamed, hmethM, -, -, -, -, -, -, hsigM⟩ := Cond.codeWith_spec hcode
  have hstatic : methM.isStatic = true := Cond.static_spec hnamed hmethM hstat
  obtain ⟨kP, hkP, -⟩ := className_of_methodNamed hnamed
  have hinitP : kP.init = .initialized := Cond.initialized_spec (findClass_of_methodNamed hnamed) hkP hinit
  obtain ⟨vm₁, X₁, hstep₁⟩ := X.invokestatic hexec hown hlink hnamed hmethM hstatic hkP hinitP hy (g := g) hg (argsL := argsL) (rest := rest) (hlen _ hsigM) hstack hdg
  rcases hK m meth c ⟨T.setVm vm₁, locs, cells, slots⟩ { g with stack := rest } (.invokestatic index) mk argsL.toArray X₁ hg hsize hdg hW (X₁.named hnamed) (hpre vm₁ X₁.warmed) with ⟨v, B, X', hpost, hsteps⟩ | ⟨q, B, X', hpost, hsteps⟩
  · exact Or.inl ⟨v, vm₁, B, X₁.warmed, X', hpost, fun target h => hstep₁ _ fun acts => by rw [doInvoke_state]; exact hsteps.trans h⟩
  · exact Or.inr ⟨q, vm₁, B, X₁.warmed, X', hpost, hstep₁ _ fun acts => by rw [doInvoke_state]; exact hsteps⟩
theorem vx_callVW (X : Stand p l e R s m args below meth c T locs cells slots) (hexec : p.tables.exec = Jvm.exec) {own C : String} {index : Nat} {y : MethodName} {bytes : ByteArray} {maxL : Nat} {ret : Option FieldType} {hh : List (Nat × Nat × Nat × Nat)}
    (hown : s.vm.findClass own = some m.cls) (hlink : (Cond.methodLink own index y).before args s = true) (hinst : (Cond.instanceMethod y).before args s = true) (hsel : (Cond.selects C y y).before args s = true)
    (hcode : (Cond.codeWith y bytes maxL ret hh).before args s = true) (hy : y.cls ≠ "java/lang/invoke/MethodHandle" ∧ y.cls ≠ "java/lang/invoke/VarHandle")
    {W9 : Nat} {Pre : Pt → Array Value → Prop} {Post : Pt → Array Value → Option Value → Pt → Prop} (hK : Back l R p e below s args y 3 W9 Pre Post)
    {b : Addr} {cellB : Cell} (hcell : T.heap[b]? = some cellB) (hobj : cellB.vm.isStatics = false) (hcls : s.vm.findClass C = some cellB.cls)
    {g : JFrame} (hg : g.method = m) (hsize : g.locals.size = c.maxLocals) {argsL rest : List Value} (hlen : ∀ sig, parseMethodDescriptor y.desc = some sig → argsL.length = sig.parameters.length)
    (hstack : g.stack = argsL.reverse ++ .ref b :: rest) (hW : 2 * g.monitorRoom + (rest.map fun v => v.category).sum ≤ W9) (hdg : decode c.code g.pc = .ok (.invokevirtual index, 3))
    (hpre : ∀ vm₁, s.WarmedH vm₁ → Pre ⟨T.setVm vm₁, locs, cells, slots⟩ (Value.ref b :: argsL).toArray) :
    ∃ (v : Option Value) (vm₁ : Vm) (B : Pt), s.WarmedH vm₁ ∧ Stand p l e R s m args below meth c B.U B.locs B.cells B.slots ∧ Post ⟨T.setVm vm₁, locs, cells, slots⟩ (Value.ref b :: argsL).toArray v B ∧
      ∀ target, Steps p.tables e below (B.U.setTop { g with pc := g.pc + 3, stack := v.toList ++ rest }) target → Steps p.tables e below (T.setTop g) target := by
  obtain ⟨mk, methM, hnamed, hmethM, hstM, habM⟩ := Cond.instanceMethod_spec hinst
  obtain ⟨m8, methM', cM, hn8, hmethM', -, -, -, -, -, -, hsigM⟩ := Cond.codeWith_spec hcode
  cases Option.some.inj (hn8.symm.trans hnamed)
  cases hmethM.symm.trans hmethM'
  obtain ⟨c2, r2, m2, q1, q2, q3, q4, kP, hkP, hkPi⟩ := Cond.selects_spec hsel
  cases hcls.symm.trans q1
  cases (State.methodFound?_of_named hnamed hy).symm.trans q2
  cases hnamed.symm.trans q3
  have hselP : selectMethod e.platform s.vm cellB.cls mk = .method mk := by rw [Launch.admits_selectMethod X.admits]; exact q4
  obtain ⟨vm₁, X₁, hstep₁⟩ := X.invokevirtual hexec hown hlink hnamed hmethM hstM hkP hkPi hy (a := b) (cell := cellB) hcell
    (fun z h => by rw [h] at hobj; cases hobj) hselP hmethM habM hkP hkPi (g := g) hg (argsL := argsL) (rest := rest) (hlen _ hsigM) hstack hdg
  obtain ⟨v, B, X', hpost, hsteps⟩ := hK m meth c ⟨T.setVm vm₁, locs, cells, slots⟩ { g with stack := rest } (.invokevirtual index) mk (Value.ref b :: argsL).toArray X₁ hg hsize hdg hW (X₁.named hnamed) (hpre vm₁ X₁.warmed)
  exact ⟨v, vm₁, B, X₁.warmed, X', hpost, fun target h => hstep₁ _ fun acts => by rw [doInvoke_state]; exact hsteps.trans h⟩
abbrev vx_CVW (R : Room) (s : State) (args : Array Value) (own C : String) (index : Nat) (y : MethodName) (bytes : ByteArray) (maxL : Nat) (ret : Option FieldType) (hh : List (Nat × Nat × Nat × Nat)) (ws : List Cond) (rm : Room) (mc ms n : Nat) : Prop :=
  (rm.cells = mc ∧ rm.slots = ms ∧ rm.frames + 1 ≤ R.frames ∧ 8 + (maxL + 11) + rm.locals ≤ R.locals ∧ (∀ w ∈ ws, ∀ (a' : Array Value) (U : State), s.WarmedH U.vm → w.before a' U = true) ∧ Cond.codeWith y bytes maxL ret hh ∈ ws) ∧
  (Cond.codeWith y bytes maxL ret hh).before args s = true ∧ (Cond.initialized y.cls).before args s = true ∧ (y.cls ≠ "java/lang/invoke/MethodHandle" ∧ y.cls ≠ "java/lang/invoke/VarHandle") ∧
  (∀ sig, parseMethodDescriptor y.desc = some sig → n = sig.parameters.length) ∧ (Cond.methodLink own index y).before args s = true ∧ (Cond.instanceMethod y).before args s = true ∧ (Cond.selects C y y).before args s = true
theorem vx_cwVW {own C : String} {index maxL mc ms : Nat} {y : MethodName} {bytes : ByteArray} {ret : Option FieldType} {hh : List (Nat × Nat × Nat × Nat)} {Ts ws ws' : List Cond} {rm : Room} (n : Nat) (ht : ∀ w ∈ Ts, w.before args s = true) (hT : GoodIn Ts (wsV own index C y ws)) (hw : ws = Cond.codeWith y bytes maxL ret hh :: ws') (hrc : rm.cells = mc) (hrs : rm.slots = ms)
    (hd : y.cls = C ∧ y.cls ≠ "java/lang/invoke/MethodHandle" ∧ y.cls ≠ "java/lang/invoke/VarHandle" ∧ (parseMethodDescriptor y.desc).map (fun d => d.parameters.length) = some n) (hR : rm.frames + 1 ≤ R.frames ∧ 8 + (maxL + 11) + rm.locals ≤ R.locals) :
    vx_CVW R s args own C index y bytes maxL ret hh ws rm mc ms n := by
  obtain ⟨hC, hd⟩ := hd
  subst hC
  have ok : ∀ w ∈ wsV own index y.cls y ws, w.before args s = true := fun w h => ht w (hT w h).1
  have hG : GoodIn Ts ws := fun w h => hT w (by unfold wsV; exact List.mem_append_right _ h)
  have hc : Cond.codeWith y bytes maxL ret hh ∈ ws := by rw [hw]; exact List.mem_cons_self
  refine ⟨⟨hrc, hrs, hR.1, hR.2, pay_in ht hG, hc⟩, ht _ (hG _ hc).1, ok _ (by simp [wsV]), ⟨hd.1, hd.2.1⟩, fun sig h => ?_, ok _ (by simp [wsV]), ok _ (by simp [wsV]), ok _ (by simp [wsV])⟩
  have h2 := hd.2.2
  rw [h] at h2
  exact (Option.some.inj h2).symm
theorem vx_runVW {y : MethodName} {bytes cc : ByteArray} {maxL nL mc ms n index : Nat} {ret : Option FieldType} {hh : List (Nat × Nat × Nat × Nat)} {ws : List Cond} {rm : Room} {Pc : Array Value → State → Prop} {Qc : Array Value → State → Outcome → State → Prop} {free : Addr → Prop} {Ts : List Cond} {own C : String} {b : Addr} {As rest : List Value} {g : JFrame}
    (S : CallFix p m c cc nL s args Ts own) (hM : Met l y ws rm Pc Qc mc ms free) (cw : vx_CVW R s args own C index y bytes maxL ret hh ws rm mc ms n) (hp : PreV s H C b Pc As)
    (hg : g.method = m) (hn : As.length = n) (hsize : g.locals.size = nL) (hstack : g.stack = As.reverse ++ .ref b :: rest) (hW : 2 * g.monitorRoom + (rest.map fun v => v.category).sum ≤ 8) (hdg : decode cc g.pc = .ok (.invokevirtual index, 3)) (hf : cells + mc ≤ R.cells ∧ slots + ms ≤ R.slots) :
    va_Run p l e R s m args below meth c H locs cells slots mc ms g rest (Qc (Value.ref b :: As).toArray) free := by
  obtain ⟨⟨hrc, hrs, hfr, hlo, hws, hcw⟩, hcode, hini, hy, hlen, hl, hin, hse⟩ := cw
  have hK : Back l R p e below s args y 3 8 (PreOf R mc ms Pc) (PostOf Qc mc ms free) := va_backW (hh := hh) (bytes := bytes) (maxL := maxL) (ret := ret) hM hp.1 hrc hrs hfr hlo hws hcw (fun a' U hW => word_at hW (Or.inl (by first | rfl | simp [Cond.onTables, Cond.keeps, Cond.steady])) hini)
  obtain ⟨hx, hb, hml, ho, -⟩ := S
  obtain ⟨-, ⟨cellB, hcB, hoB, hclB⟩, hPc⟩ := hp
  intro T hT X
  obtain ⟨v, vm₁, ⟨U', l2, c2, s2⟩, hW₁, X', ⟨g', mk, t, L, e1, e2, hq, h1, hL, h2, h3⟩, st⟩ := vx_callVW X hx (C := C) (hh := hh) (bytes := bytes) (maxL := maxL) (ret := ret) ho hl hin hse hcode hy hK (by rw [hT]; exact hcB) hoB hclB hg (hsize.trans hml.symm) (argsL := As) (rest := rest) (fun sig h => hn.trans (hlen sig h)) hstack hW (by rw [hb]; exact hdg)
    (fun vm₁ hW₁ => ⟨hf.1, hf.2, hPc (T.setVm vm₁) hT hW₁⟩)
  dsimp only [Pt.U, Pt.locs, Pt.cells, Pt.slots] at X' e1 e2 h1 h2 h3 st
  subst h1; subst h2; subst h3
  exact ⟨v, (T.setVm vm₁).calling g' mk (Value.ref b :: As).toArray, t, U', L, hT, X', hL, e1, e2, hq, st⟩
section
variable {y : MethodName} {bytes cc : ByteArray} {maxL nL mc ms n index : Nat} {ret : Option FieldType} {ws : List Cond} {rm : Room} {Pc : Array Value → State → Prop} {Qc : Array Value → State → Outcome → State → Prop} {XC : String → State → State → Prop} {free : Addr → Prop} {Ts : List Cond} {own C : String} {b : Addr} {As rest : List Value} {g : JFrame}
theorem vx_runVX {hh : List (Nat × Nat × Nat × Nat)} (S : CallFix p m c cc nL s args Ts own) (hM : vx_Met l y ws rm Pc Qc XC mc ms free) (cw : vx_CVW R s args own C index y bytes maxL ret hh ws rm mc ms n) (hp : PreV s H C b Pc As)
    (hg : g.method = m) (hn : As.length = n) (hsize : g.locals.size = nL) (hstack : g.stack = As.reverse ++ .ref b :: rest) (hW : 2 * g.monitorRoom + (rest.map fun v => v.category).sum ≤ 8) (hdg : decode cc g.pc = .ok (.invokevirtual index, 3)) (hf : cells + mc ≤ R.cells ∧ slots + ms ≤ R.slots) :
    vx_Run p l e R s m args below meth c H locs cells slots mc ms g rest (Qc (Value.ref b :: As).toArray) XC free := by
  obtain ⟨⟨hrc, hrs, hfr, hlo, hws, hcw⟩, hcode, hini, hy, hlen, hl, hin, hse⟩ := cw
  have hK : vx_Back l R p e below s args y 3 8 (PreOf R mc ms Pc) (PostOf Qc mc ms free) (vx_Post XC mc ms free) := vx_backW (hh := hh) (bytes := bytes) (maxL := maxL) (ret := ret) hM hp.1 hrc hrs hfr hlo hws hcw (fun a' U hW => word_at hW (Or.inl (by first | rfl | simp [Cond.onTables, Cond.keeps, Cond.steady])) hini)
  obtain ⟨hx, hb, hml, ho, -⟩ := S
  obtain ⟨-, ⟨cellB, hcB, hoB, hclB⟩, hPc⟩ := hp
  intro T hT X
  rcases vx_callVX X hx (C := C) (hh := hh) (bytes := bytes) (maxL := maxL) (ret := ret) ho hl hin hse hcode hy hK (by rw [hT]; exact hcB) hoB hclB hg (hsize.trans hml.symm) (argsL := As) (rest := rest) (fun sig h => hn.trans (hlen sig h)) hstack hW (by rw [hb]; exact hdg)
    (fun vm₁ hW₁ => ⟨hf.1, hf.2, hPc (T.setVm vm₁) hT hW₁⟩) with ⟨v, vm₁, ⟨U', l2, c2, s2⟩, hW₁, X', ⟨g', mk, t, L, e1, e2, hq, h1, hL, h2, h3⟩, st⟩ | ⟨q, vm₁, ⟨U', l2, c2, s2⟩, hW₁, X', ⟨g', mk, t, L, E, ce, e1, e2, hq, hce, hcv, hcl, h1, hL, h2, h3⟩, st⟩
  · dsimp only [Pt.U, Pt.locs, Pt.cells, Pt.slots] at X' e1 e2 h1 h2 h3 st
    subst h1; subst h2; subst h3
    exact Or.inl ⟨v, (T.setVm vm₁).calling g' mk (Value.ref b :: As).toArray, t, U', L, hT, X', hL, e1, e2, hq, st⟩
  · dsimp only [Pt.U, Pt.locs, Pt.cells, Pt.slots] at X' e1 e2 h1 h2 h3 st hcl
    subst h1; subst h2; subst h3
    exact Or.inr ⟨q, (T.setVm vm₁).calling g' mk (Value.ref b :: As).toArray, t, U', L, E, ce, hT, X', hL, e1, e2, hq, hce, hcv, vx_cls hW₁ hcl, st⟩
theorem vx_runSX {hh : List (Nat × Nat × Nat × Nat)} (S : CallFix p m c cc nL s args Ts own) (hM : vx_Met l y ws rm Pc Qc XC mc ms free) (cw : vx_CSW R s args own index y bytes maxL ret hh ws rm mc ms n) (hp : PreS s H Pc As)
    (hg : g.method = m) (hn : As.length = n) (hsize : g.locals.size = nL) (hstack : g.stack = As.reverse ++ rest) (hW : 2 * g.monitorRoom + (rest.map fun v => v.category).sum ≤ 8) (hdg : decode cc g.pc = .ok (.invokestatic index, 3)) (hf : cells + mc ≤ R.cells ∧ slots + ms ≤ R.slots) :
    vx_Run p l e R s m args below meth c H locs cells slots mc ms g rest (Qc As.toArray) XC free := by
  obtain ⟨⟨hrc, hrs, hfr, hlo, hws, hcw⟩, hcode, hini, hy, hlen, hl, hstt⟩ := cw
  have hK : vx_Back l R p e below s args y 3 8 (PreOf R mc ms Pc) (PostOf Qc mc ms free) (vx_Post XC mc ms free) := vx_backW (hh := hh) (bytes := bytes) (maxL := maxL) (ret := ret) hM hp.1 hrc hrs hfr hlo hws hcw (fun a' U hW => word_at hW (Or.inl (by first | rfl | simp [Cond.onTables, Cond.keeps, Cond.steady])) hini)
  obtain ⟨hx, hb, hml, ho, -⟩ := S
  intro T hT X
  rcases vx_callSX X hx (hh := hh) (bytes := bytes) (maxL := maxL) (ret := ret) ho hl hstt hini hcode hy hK hg (hsize.trans hml.symm) (argsL := As) (rest := rest) (fun sig h => hn.trans (hlen sig h)) hstack hW (by rw [hb]; exact hdg)
    (fun vm₁ hW₁ => ⟨hf.1, hf.2, hp.2 (T.setVm vm₁) hT hW₁⟩) with ⟨v, vm₁, ⟨U', l2, c2, s2⟩, hW₁, X', ⟨g', mk, t, L, e1, e2, hq, h1, hL, h2, h3⟩, st⟩ | ⟨q, vm₁, ⟨U', l2, c2, s2⟩, hW₁, X', ⟨g', mk, t, L, E, ce, e1, e2, hq, hce, hcv, hcl, h1, hL, h2, h3⟩, st⟩
  · dsimp only [Pt.U, Pt.locs, Pt.cells, Pt.slots] at X' e1 e2 h1 h2 h3 st
    subst h1; subst h2; subst h3
    exact Or.inl ⟨v, (T.setVm vm₁).calling g' mk As.toArray, t, U', L, hT, X', hL, e1, e2, hq, st⟩
  · dsimp only [Pt.U, Pt.locs, Pt.cells, Pt.slots] at X' e1 e2 h1 h2 h3 st hcl
    subst h1; subst h2; subst h3
    exact Or.inr ⟨q, (T.setVm vm₁).calling g' mk As.toArray, t, U', L, E, ce, hT, X', hL, e1, e2, hq, hce, hcv, vx_cls hW₁ hcl, st⟩
end
end VXH
theorem vx_ofWH {l : Launch} {y : MethodName} {ws ws' : List Cond} {rm : Room} {Pc : Array Value → State → Prop} {Qc : Array Value → State → Outcome → State → Prop} {XC : String → State → State → Prop} {mc ms : Nat} {free : Addr → Prop} {cc : ByteArray} {maxL : Nat} {ret : Option FieldType} {hh : List (Nat × Nat × Nat × Nat)}
    (hy : plainName y.cls = true) (hw : ws = Cond.codeWith y cc maxL ret hh :: ws')
    (body : ∀ p e s m args below meth c s₁, BodyLoose p l y (headSpec ws rm) cc maxL ret e s m args below meth c s₁ → c.maxLocals = maxL → Pc args s →
      W p l e (headSpec ws rm).room s m args below meth c s.heap [] 0 0 (vx_MQ below Qc XC args s mc ms free) (entryFrame m args maxL)) : vx_Met l y ws rm Pc Qc XC mc ms free := by
  refine MetFree.of_bodyS (code := cc) (maxLocals := maxL) (ret := ret) hy ?_ ?_
  · intro args s m h hn
    obtain ⟨m9, meth, c, hn9, h1, h2, h3, h4, -, h5, h6, -⟩ := Cond.codeWith_spec (atoms_spec (ws := ws) h _ (by rw [hw]; exact List.mem_cons_self))
    cases hn.symm.trans hn9
    exact ⟨meth, c, h1, h2, h3, h4, h5, h6⟩
  · intro p e s m args below meth c s₁ B hml hP _
    have hh0 : s₁.heap = s.heap := by rw [B.state]; rfl
    obtain ⟨t, a1, o, b1, b2, b3⟩ := body p e s m args below meth c s₁ B hml hP s₁ hh0 (Stand.of_body B)
    exact ⟨t, o, a1, b1, b2, b3⟩
/-! ===== END ===== -/

def RX0 : String := "StampedSlots$History"
def TX0 : u_T := fun k => match k with
  | 0 => ("StampedSlots$History", "states", "[LStampedSlots$State;", true)
  | _ => ("StampedSlots$History", "length", "I", false)
def tyX0 : Nat → FieldType := fun k => match k with
  | 0 => .array (.object "StampedSlots$State")
  | _ => .int
theorem nmX0 : ∀ a, a < 2 → ∀ b, b < 2 → a ≠ b → (TX0 a).2.1 ≠ (TX0 b).2.1 := by decide +kernel
theorem tyX0_ok : ∀ k, k < 2 → parseFieldDescriptor (TX0 k).2.2.1 = some (tyX0 k) := by decide +kernel
abbrev cX0_init : ByteArray := prog_2_method_1_code
def yX0_init : MethodName := ⟨RX0, "<init>", "()V"⟩
abbrev cX0_size : ByteArray := prog_2_method_2_code
def yX0_size : MethodName := ⟨RX0, "size", "()I"⟩
abbrev cX0_save : ByteArray := prog_2_method_3_code
def yX0_save : MethodName := ⟨RX0, "save", "(LStampedSlots$State;)V"⟩
abbrev cX0_dropOldest : ByteArray := prog_2_method_4_code
def yX0_dropOldest : MethodName := ⟨RX0, "dropOldest", "()V"⟩
abbrev cX0_bringBack : ByteArray := prog_2_method_5_code
def yX0_bringBack : MethodName := ⟨RX0, "bringBack", "(LStampedSlots$State;)V"⟩
def RX1 : String := "StampedSlots$Row"
def TX1 : u_T := fun k => match k with
  | 0 => ("StampedSlots$Row", "length", "I", false)
  | 1 => ("StampedSlots$Row", "entries", "[I", true)
  | _ => ("StampedSlots$Row", "stands", "[I", true)
def tyX1 : Nat → FieldType := fun k => match k with
  | 0 => .int
  | 1 => .array .int
  | _ => .array .int
theorem nmX1 : ∀ a, a < 3 → ∀ b, b < 3 → a ≠ b → (TX1 a).2.1 ≠ (TX1 b).2.1 := by decide +kernel
theorem tyX1_ok : ∀ k, k < 3 → parseFieldDescriptor (TX1 k).2.2.1 = some (tyX1 k) := by decide +kernel
abbrev cX1_init : ByteArray := prog_3_method_1_code
def yX1_init : MethodName := ⟨RX1, "<init>", "()V"⟩
abbrev cX1_copyFrom : ByteArray := prog_3_method_2_code
def yX1_copyFrom : MethodName := ⟨RX1, "copyFrom", "(LStampedSlots$Row;)V"⟩
abbrev cX1_size : ByteArray := prog_3_method_3_code
def yX1_size : MethodName := ⟨RX1, "size", "()I"⟩
abbrev cX1_isEntry : ByteArray := prog_3_method_4_code
def yX1_isEntry : MethodName := ⟨RX1, "isEntry", "(I)Z"⟩
abbrev cX1_thingIn : ByteArray := prog_3_method_5_code
def yX1_thingIn : MethodName := ⟨RX1, "thingIn", "(I)I"⟩
abbrev cX1_things : ByteArray := prog_3_method_6_code
def yX1_things : MethodName := ⟨RX1, "things", "()I"⟩
abbrev cX1_tombstones : ByteArray := prog_3_method_7_code
def yX1_tombstones : MethodName := ⟨RX1, "tombstones", "()I"⟩
abbrev cX1_thingsFrom : ByteArray := prog_3_method_8_code
def yX1_thingsFrom : MethodName := ⟨RX1, "thingsFrom", "(I)I"⟩
abbrev cX1_thingAtPlace : ByteArray := prog_3_method_9_code
def yX1_thingAtPlace : MethodName := ⟨RX1, "thingAtPlace", "(I)I"⟩
abbrev cX1_placeOf : ByteArray := prog_3_method_10_code
def yX1_placeOf : MethodName := ⟨RX1, "placeOf", "(I)I"⟩
abbrev cX1_indexOf : ByteArray := prog_3_method_11_code
def yX1_indexOf : MethodName := ⟨RX1, "indexOf", "(I)I"⟩
abbrev cX1_list : ByteArray := prog_3_method_12_code
def yX1_list : MethodName := ⟨RX1, "list", "([I)I"⟩
abbrev cX1_insert : ByteArray := prog_3_method_13_code
def yX1_insert : MethodName := ⟨RX1, "insert", "(II)V"⟩
abbrev cX1_sweep : ByteArray := prog_3_method_14_code
def yX1_sweep : MethodName := ⟨RX1, "sweep", "(I)V"⟩
abbrev cX1_bury : ByteArray := prog_3_method_15_code
def yX1_bury : MethodName := ⟨RX1, "bury", "(I)V"⟩
abbrev cX1_rename : ByteArray := prog_3_method_16_code
def yX1_rename : MethodName := ⟨RX1, "rename", "(II)V"⟩
abbrev cX1_walkersOn : ByteArray := prog_3_method_17_code
def yX1_walkersOn : MethodName := ⟨RX1, "walkersOn", "(I)I"⟩
abbrev cX1_standOf : ByteArray := prog_3_method_18_code
def yX1_standOf : MethodName := ⟨RX1, "standOf", "(I)I"⟩
abbrev cX1_thingUnder : ByteArray := prog_3_method_19_code
def yX1_thingUnder : MethodName := ⟨RX1, "thingUnder", "(I)I"⟩
abbrev cX1_thingsBehind : ByteArray := prog_3_method_20_code
def yX1_thingsBehind : MethodName := ⟨RX1, "thingsBehind", "(I)I"⟩
abbrev cX1_sendAhead : ByteArray := prog_3_method_21_code
def yX1_sendAhead : MethodName := ⟨RX1, "sendAhead", "(I)V"⟩
abbrev cX1_sendOn : ByteArray := prog_3_method_22_code
def yX1_sendOn : MethodName := ⟨RX1, "sendOn", "(I)V"⟩
abbrev cX1_indexUnder : ByteArray := prog_3_method_23_code
def yX1_indexUnder : MethodName := ⟨RX1, "indexUnder", "(I)I"⟩
abbrev cX1_nextThing : ByteArray := prog_3_method_24_code
def yX1_nextThing : MethodName := ⟨RX1, "nextThing", "(I)I"⟩
abbrev cX1_send : ByteArray := prog_3_method_25_code
def yX1_send : MethodName := ⟨RX1, "send", "(II)V"⟩
def RX2 : String := "StampedSlots$Slots"
def TX2 : u_T := fun k => match k with
  | 0 => ("StampedSlots$Slots", "cells", "I", false)
  | 1 => ("StampedSlots$Slots", "stamps", "[I", true)
  | 2 => ("StampedSlots$Slots", "owners", "[I", true)
  | 3 => ("StampedSlots$Slots", "sizes", "[I", true)
  | 4 => ("StampedSlots$Slots", "values", "[I", true)
  | 5 => ("StampedSlots$Slots", "kinds", "[I", true)
  | _ => ("StampedSlots$Slots", "fired", "[I", true)
def tyX2 : Nat → FieldType := fun k => match k with
  | 0 => .int
  | 1 => .array .int
  | 2 => .array .int
  | 3 => .array .int
  | 4 => .array .int
  | 5 => .array .int
  | _ => .array .int
theorem nmX2 : ∀ a, a < 7 → ∀ b, b < 7 → a ≠ b → (TX2 a).2.1 ≠ (TX2 b).2.1 := by decide +kernel
theorem tyX2_ok : ∀ k, k < 7 → parseFieldDescriptor (TX2 k).2.2.1 = some (tyX2 k) := by decide +kernel
abbrev cX2_init : ByteArray := prog_4_method_1_code
def yX2_init : MethodName := ⟨RX2, "<init>", "()V"⟩
abbrev cX2_copyFrom : ByteArray := prog_4_method_2_code
def yX2_copyFrom : MethodName := ⟨RX2, "copyFrom", "(LStampedSlots$Slots;)V"⟩
abbrev cX2_isCell : ByteArray := prog_4_method_3_code
def yX2_isCell : MethodName := ⟨RX2, "isCell", "(I)Z"⟩
abbrev cX2_cellsNow : ByteArray := prog_4_method_4_code
def yX2_cellsNow : MethodName := ⟨RX2, "cellsNow", "()I"⟩
abbrev cX2_stampAt : ByteArray := prog_4_method_5_code
def yX2_stampAt : MethodName := ⟨RX2, "stampAt", "(I)I"⟩
abbrev cX2_ownerOf : ByteArray := prog_4_method_6_code
def yX2_ownerOf : MethodName := ⟨RX2, "ownerOf", "(I)I"⟩
abbrev cX2_sizeAt : ByteArray := prog_4_method_7_code
def yX2_sizeAt : MethodName := ⟨RX2, "sizeAt", "(I)I"⟩
abbrev cX2_valueAt : ByteArray := prog_4_method_8_code
def yX2_valueAt : MethodName := ⟨RX2, "valueAt", "(I)I"⟩
abbrev cX2_kindAt : ByteArray := prog_4_method_9_code
def yX2_kindAt : MethodName := ⟨RX2, "kindAt", "(I)I"⟩
abbrev cX2_timesFired : ByteArray := prog_4_method_10_code
def yX2_timesFired : MethodName := ⟨RX2, "timesFired", "(I)I"⟩
abbrev cX2_handleOf : ByteArray := prog_4_method_11_code
def yX2_handleOf : MethodName := ⟨RX2, "handleOf", "(I)I"⟩
abbrev cX2_whyRefused : ByteArray := prog_4_method_12_code
def yX2_whyRefused : MethodName := ⟨RX2, "whyRefused", "(I)I"⟩
abbrev cX2_lowestFor : ByteArray := prog_4_method_13_code
def yX2_lowestFor : MethodName := ⟨RX2, "lowestFor", "(I)I"⟩
abbrev cX2_occupy : ByteArray := prog_4_method_14_code
def yX2_occupy : MethodName := ⟨RX2, "occupy", "(IIII)V"⟩
abbrev cX2_growTo : ByteArray := prog_4_method_15_code
def yX2_growTo : MethodName := ⟨RX2, "growTo", "(I)V"⟩
abbrev cX2_giveCells : ByteArray := prog_4_method_16_code
def yX2_giveCells : MethodName := ⟨RX2, "giveCells", "(III)V"⟩
abbrev cX2_release : ByteArray := prog_4_method_17_code
def yX2_release : MethodName := ⟨RX2, "release", "(I)V"⟩
abbrev cX2_carry : ByteArray := prog_4_method_18_code
def yX2_carry : MethodName := ⟨RX2, "carry", "(II)V"⟩
abbrev cX2_setValue : ByteArray := prog_4_method_19_code
def yX2_setValue : MethodName := ⟨RX2, "setValue", "(II)V"⟩
abbrev cX2_setTimesFired : ByteArray := prog_4_method_20_code
def yX2_setTimesFired : MethodName := ⟨RX2, "setTimesFired", "(II)V"⟩
abbrev cX2_freeCells : ByteArray := prog_4_method_21_code
def yX2_freeCells : MethodName := ⟨RX2, "freeCells", "()I"⟩
abbrev cX2_sumOfValues : ByteArray := prog_4_method_22_code
def yX2_sumOfValues : MethodName := ⟨RX2, "sumOfValues", "()I"⟩
abbrev cX2_roomFor : ByteArray := prog_4_method_23_code
def yX2_roomFor : MethodName := ⟨RX2, "roomFor", "(I)I"⟩
abbrev cX2_longestGap : ByteArray := prog_4_method_24_code
def yX2_longestGap : MethodName := ⟨RX2, "longestGap", "()I"⟩
abbrev cX2_beginOfLongestGap : ByteArray := prog_4_method_25_code
def yX2_beginOfLongestGap : MethodName := ⟨RX2, "beginOfLongestGap", "()I"⟩
def RX3 : String := "StampedSlots$State"
def TX3 : u_T := fun k => match k with
  | 0 => ("StampedSlots$State", "slots", "LStampedSlots$Slots;", true)
  | 1 => ("StampedSlots$State", "row", "LStampedSlots$Row;", true)
  | 2 => ("StampedSlots$State", "toFire", "[I", true)
  | 3 => ("StampedSlots$State", "events", "I", false)
  | 4 => ("StampedSlots$State", "thingsPut", "I", false)
  | 5 => ("StampedSlots$State", "thingsRemoved", "I", false)
  | _ => ("StampedSlots$State", "thingsMoved", "I", false)
def tyX3 : Nat → FieldType := fun k => match k with
  | 0 => .object "StampedSlots$Slots"
  | 1 => .object "StampedSlots$Row"
  | 2 => .array .int
  | 3 => .int
  | 4 => .int
  | 5 => .int
  | _ => .int
theorem nmX3 : ∀ a, a < 7 → ∀ b, b < 7 → a ≠ b → (TX3 a).2.1 ≠ (TX3 b).2.1 := by decide +kernel
theorem tyX3_ok : ∀ k, k < 7 → parseFieldDescriptor (TX3 k).2.2.1 = some (tyX3 k) := by decide +kernel
abbrev cX3_init : ByteArray := prog_5_method_1_code
def yX3_init : MethodName := ⟨RX3, "<init>", "()V"⟩
abbrev cX3_copyFrom : ByteArray := prog_5_method_2_code
def yX3_copyFrom : MethodName := ⟨RX3, "copyFrom", "(LStampedSlots$State;)V"⟩
abbrev cX3_addAt : ByteArray := prog_5_method_3_code
def yX3_addAt : MethodName := ⟨RX3, "addAt", "(IIII)I"⟩
abbrev cX3_drop : ByteArray := prog_5_method_4_code
def yX3_drop : MethodName := ⟨RX3, "drop", "(I)V"⟩
abbrev cX3_fireThings : ByteArray := prog_5_method_5_code
def yX3_fireThings : MethodName := ⟨RX3, "fireThings", "()I"⟩
abbrev cX3_moveThings : ByteArray := prog_5_method_6_code
def yX3_moveThings : MethodName := ⟨RX3, "moveThings", "()I"⟩
def RX4 : String := "StampedSlots$ThingText"
def TX4 : u_T := fun k => match k with
  | 0 => ("StampedSlots$ThingText", "codes", "[I", true)
  | _ => ("StampedSlots$ThingText", "length", "I", false)
def tyX4 : Nat → FieldType := fun k => match k with
  | 0 => .array .int
  | _ => .int
theorem nmX4 : ∀ a, a < 2 → ∀ b, b < 2 → a ≠ b → (TX4 a).2.1 ≠ (TX4 b).2.1 := by decide +kernel
theorem tyX4_ok : ∀ k, k < 2 → parseFieldDescriptor (TX4 k).2.2.1 = some (tyX4 k) := by decide +kernel
abbrev cX4_init : ByteArray := prog_6_method_1_code
def yX4_init : MethodName := ⟨RX4, "<init>", "()V"⟩
abbrev cX4_size : ByteArray := prog_6_method_2_code
def yX4_size : MethodName := ⟨RX4, "size", "()I"⟩
abbrev cX4_isFull : ByteArray := prog_6_method_3_code
def yX4_isFull : MethodName := ⟨RX4, "isFull", "()Z"⟩
abbrev cX4_add : ByteArray := prog_6_method_4_code
def yX4_add : MethodName := ⟨RX4, "add", "(I)V"⟩
abbrev cX4_empty : ByteArray := prog_6_method_5_code
def yX4_empty : MethodName := ⟨RX4, "empty", "()V"⟩
abbrev cX4_codeAt : ByteArray := prog_6_method_6_code
def yX4_codeAt : MethodName := ⟨RX4, "codeAt", "(I)I"⟩
abbrev cX4_indexOf : ByteArray := prog_6_method_7_code
def yX4_indexOf : MethodName := ⟨RX4, "indexOf", "(II)I"⟩
abbrev cX4_numberIn : ByteArray := prog_6_method_8_code
def yX4_numberIn : MethodName := ⟨RX4, "numberIn", "(II)I"⟩
abbrev cX4_firstWrong : ByteArray := prog_6_method_9_code
def yX4_firstWrong : MethodName := ⟨RX4, "firstWrong", "()I"⟩
abbrev cX4_isComplete : ByteArray := prog_6_method_10_code
def yX4_isComplete : MethodName := ⟨RX4, "isComplete", "()Z"⟩
abbrev cX4_stateBehind : ByteArray := prog_6_method_11_code
def yX4_stateBehind : MethodName := ⟨RX4, "stateBehind", "(II)I"⟩
abbrev cX4_firstDigit : ByteArray := prog_6_method_12_code
def yX4_firstDigit : MethodName := ⟨RX4, "firstDigit", "(I)I"⟩
abbrev cX4_laterDigit : ByteArray := prog_6_method_13_code
def yX4_laterDigit : MethodName := ⟨RX4, "laterDigit", "(II)I"⟩
abbrev cX4_behindSize : ByteArray := prog_6_method_14_code
def yX4_behindSize : MethodName := ⟨RX4, "behindSize", "(I)I"⟩
def RX5 : String := "StampedSlots"
def TX5 : u_T := fun k => match k with
  | 0 => ("StampedSlots", "now", "LStampedSlots$State;", true)
  | 1 => ("StampedSlots", "trial", "LStampedSlots$State;", true)
  | 2 => ("StampedSlots", "history", "LStampedSlots$History;", true)
  | _ => ("StampedSlots", "buffer", "LStampedSlots$ThingText;", true)
def tyX5 : Nat → FieldType := fun k => match k with
  | 0 => .object "StampedSlots$State"
  | 1 => .object "StampedSlots$State"
  | 2 => .object "StampedSlots$History"
  | _ => .object "StampedSlots$ThingText"
theorem nmX5 : ∀ a, a < 4 → ∀ b, b < 4 → a ≠ b → (TX5 a).2.1 ≠ (TX5 b).2.1 := by decide +kernel
theorem tyX5_ok : ∀ k, k < 4 → parseFieldDescriptor (TX5 k).2.2.1 = some (tyX5 k) := by decide +kernel
abbrev cX5_init : ByteArray := prog_1_method_1_code
def yX5_init : MethodName := ⟨RX5, "<init>", "()V"⟩
abbrev cX5_put : ByteArray := prog_1_method_2_code
def yX5_put : MethodName := ⟨RX5, "put", "(III)I"⟩
abbrev cX5_putBehind : ByteArray := prog_1_method_3_code
def yX5_putBehind : MethodName := ⟨RX5, "putBehind", "(IIII)I"⟩
abbrev cX5_remove : ByteArray := prog_1_method_4_code
def yX5_remove : MethodName := ⟨RX5, "remove", "(I)I"⟩
abbrev cX5_change : ByteArray := prog_1_method_5_code
def yX5_change : MethodName := ⟨RX5, "change", "(II)I"⟩
abbrev cX5_restart : ByteArray := prog_1_method_6_code
def yX5_restart : MethodName := ⟨RX5, "restart", "(I)I"⟩
abbrev cX5_goOn : ByteArray := prog_1_method_7_code
def yX5_goOn : MethodName := ⟨RX5, "goOn", "(I)I"⟩
abbrev cX5_take : ByteArray := prog_1_method_8_code
def yX5_take : MethodName := ⟨RX5, "take", "(I)I"⟩
abbrev cX5_fire : ByteArray := prog_1_method_9_code
def yX5_fire : MethodName := ⟨RX5, "fire", "()I"⟩
abbrev cX5_together : ByteArray := prog_1_method_10_code
def yX5_together : MethodName := ⟨RX5, "together", "()I"⟩
abbrev cX5_append : ByteArray := prog_1_method_11_code
def yX5_append : MethodName := ⟨RX5, "append", "(I)I"⟩
abbrev cX5_clearBuffer : ByteArray := prog_1_method_12_code
def yX5_clearBuffer : MethodName := ⟨RX5, "clearBuffer", "()I"⟩
abbrev cX5_firstError : ByteArray := prog_1_method_13_code
def yX5_firstError : MethodName := ⟨RX5, "firstError", "()I"⟩
abbrev cX5_putAll : ByteArray := prog_1_method_14_code
def yX5_putAll : MethodName := ⟨RX5, "putAll", "()I"⟩
abbrev cX5_undo : ByteArray := prog_1_method_15_code
def yX5_undo : MethodName := ⟨RX5, "undo", "()I"⟩
abbrev cX5_refusal : ByteArray := prog_1_method_16_code
def yX5_refusal : MethodName := ⟨RX5, "refusal", "(I)I"⟩
abbrev cX5_thing : ByteArray := prog_1_method_17_code
def yX5_thing : MethodName := ⟨RX5, "thing", "(II)I"⟩
abbrev cX5_at : ByteArray := prog_1_method_18_code
def yX5_at : MethodName := ⟨RX5, "at", "(I)I"⟩
abbrev cX5_cell : ByteArray := prog_1_method_19_code
def yX5_cell : MethodName := ⟨RX5, "cell", "(II)I"⟩
abbrev cX5_walker : ByteArray := prog_1_method_20_code
def yX5_walker : MethodName := ⟨RX5, "walker", "(II)I"⟩
abbrev cX5_count : ByteArray := prog_1_method_21_code
def yX5_count : MethodName := ⟨RX5, "count", "(I)I"⟩
abbrev cX5_begins : ByteArray := prog_1_method_22_code
def yX5_begins : MethodName := ⟨RX5, "begins", "(I)I"⟩
abbrev cX5_gap : ByteArray := prog_1_method_23_code
def yX5_gap : MethodName := ⟨RX5, "gap", "(I)I"⟩
abbrev cX5_ifFired : ByteArray := prog_1_method_24_code
def yX5_ifFired : MethodName := ⟨RX5, "ifFired", "(II)I"⟩
abbrev cX5_room : ByteArray := prog_1_method_25_code
def yX5_room : MethodName := ⟨RX5, "room", "(IZ)I"⟩
abbrev cX5_fullness : ByteArray := prog_1_method_26_code
def yX5_fullness : MethodName := ⟨RX5, "fullness", "()D"⟩
abbrev cX5_digest : ByteArray := prog_1_method_27_code
def yX5_digest : MethodName := ⟨RX5, "digest", "()J"⟩
abbrev cX5_hashThings : ByteArray := prog_1_method_28_code
def yX5_hashThings : MethodName := ⟨RX5, "hashThings", "(J)J"⟩
abbrev cX5_hashCellsAndWalkers : ByteArray := prog_1_method_29_code
def yX5_hashCellsAndWalkers : MethodName := ⟨RX5, "hashCellsAndWalkers", "(J)J"⟩
abbrev cX5_hashGaps : ByteArray := prog_1_method_30_code
def yX5_hashGaps : MethodName := ⟨RX5, "hashGaps", "(J)J"⟩
abbrev cX5_hashRoom : ByteArray := prog_1_method_31_code
def yX5_hashRoom : MethodName := ⟨RX5, "hashRoom", "(J)J"⟩
abbrev cX5_tryEvents : ByteArray := prog_1_method_32_code
def yX5_tryEvents : MethodName := ⟨RX5, "tryEvents", "(I)I"⟩
abbrev cX5_hashBuffer : ByteArray := prog_1_method_33_code
def yX5_hashBuffer : MethodName := ⟨RX5, "hashBuffer", "(J)J"⟩
abbrev cX5_bitsOfShare : ByteArray := prog_1_method_34_code
def yX5_bitsOfShare : MethodName := ⟨RX5, "bitsOfShare", "(D)J"⟩
abbrev cX5_putParts : ByteArray := prog_1_method_35_code
def yX5_putParts : MethodName := ⟨RX5, "putParts", "()I"⟩
abbrev cX5_kindOfSign : ByteArray := prog_1_method_36_code
def yX5_kindOfSign : MethodName := ⟨RX5, "kindOfSign", "(I)I"⟩
abbrev cX5_isThing : ByteArray := prog_1_method_37_code
def yX5_isThing : MethodName := ⟨RX5, "isThing", "(III)Z"⟩
abbrev cX5_isValue : ByteArray := prog_1_method_38_code
def yX5_isValue : MethodName := ⟨RX5, "isValue", "(I)Z"⟩
abbrev cX5_isSize : ByteArray := prog_1_method_39_code
def yX5_isSize : MethodName := ⟨RX5, "isSize", "(I)Z"⟩
abbrev cX5_isWalker : ByteArray := prog_1_method_40_code
def yX5_isWalker : MethodName := ⟨RX5, "isWalker", "(I)Z"⟩
def RX6 : String := "StampedSlotsModel"
def TX6 : u_T := fun k => match k with
  | 0 => ("StampedSlotsModel", "thrown", "I", false)
  | 1 => ("StampedSlotsModel", "now", "[I", true)
  | 2 => ("StampedSlotsModel", "then", "[I", true)
  | 3 => ("StampedSlotsModel", "past", "[I", true)
  | 4 => ("StampedSlotsModel", "states", "I", false)
  | 5 => ("StampedSlotsModel", "buffer", "[I", true)
  | 6 => ("StampedSlotsModel", "length", "I", false)
  | 7 => ("StampedSlotsModel", "spot", "I", false)
  | 8 => ("StampedSlotsModel", "told", "[I", true)
  | 9 => ("StampedSlotsModel", "toldMany", "I", false)
  | _ => ("StampedSlotsModel", "hash", "J", false)
def tyX6 : Nat → FieldType := fun k => match k with
  | 0 => .int
  | 1 => .array .int
  | 2 => .array .int
  | 3 => .array .int
  | 4 => .int
  | 5 => .array .int
  | 6 => .int
  | 7 => .int
  | 8 => .array .int
  | 9 => .int
  | _ => .long
theorem nmX6 : ∀ a, a < 11 → ∀ b, b < 11 → a ≠ b → (TX6 a).2.1 ≠ (TX6 b).2.1 := by decide +kernel
theorem tyX6_ok : ∀ k, k < 11 → parseFieldDescriptor (TX6 k).2.2.1 = some (tyX6 k) := by decide +kernel
abbrev cX6_init : ByteArray := prog_8_method_1_code
def yX6_init : MethodName := ⟨RX6, "<init>", "()V"⟩
abbrev cX6_thrown : ByteArray := prog_8_method_2_code
def yX6_thrown : MethodName := ⟨RX6, "thrown", "()I"⟩
abbrev cX6_in : ByteArray := prog_8_method_3_code
def yX6_in : MethodName := ⟨RX6, "in", "(III)Z"⟩
abbrev cX6_refuses : ByteArray := prog_8_method_4_code
def yX6_refuses : MethodName := ⟨RX6, "refuses", "(I)Z"⟩
abbrev cX6_lays : ByteArray := prog_8_method_5_code
def yX6_lays : MethodName := ⟨RX6, "lays", "([II[II)V"⟩
abbrev cX6_saves : ByteArray := prog_8_method_6_code
def yX6_saves : MethodName := ⟨RX6, "saves", "()V"⟩
abbrev cX6_of : ByteArray := prog_8_method_7_code
def yX6_of : MethodName := ⟨RX6, "of", "([III)I"⟩
abbrev cX6_isThing : ByteArray := prog_8_method_8_code
def yX6_isThing : MethodName := ⟨RX6, "isThing", "([II)Z"⟩
abbrev cX6_things : ByteArray := prog_8_method_9_code
def yX6_things : MethodName := ⟨RX6, "things", "([I)I"⟩
abbrev cX6_entryOf : ByteArray := prog_8_method_10_code
def yX6_entryOf : MethodName := ⟨RX6, "entryOf", "([II)I"⟩
abbrev cX6_handleOf : ByteArray := prog_8_method_11_code
def yX6_handleOf : MethodName := ⟨RX6, "handleOf", "([II)I"⟩
abbrev cX6_freeFrom : ByteArray := prog_8_method_12_code
def yX6_freeFrom : MethodName := ⟨RX6, "freeFrom", "([III)I"⟩
abbrev cX6_roomIn : ByteArray := prog_8_method_13_code
def yX6_roomIn : MethodName := ⟨RX6, "roomIn", "([III)I"⟩
abbrev cX6_cellsFor : ByteArray := prog_8_method_14_code
def yX6_cellsFor : MethodName := ⟨RX6, "cellsFor", "([II)I"⟩
abbrev cX6_leaves : ByteArray := prog_8_method_15_code
def yX6_leaves : MethodName := ⟨RX6, "leaves", "([II)V"⟩
abbrev cX6_comes : ByteArray := prog_8_method_16_code
def yX6_comes : MethodName := ⟨RX6, "comes", "([IIIII)I"⟩
abbrev cX6_standing : ByteArray := prog_8_method_17_code
def yX6_standing : MethodName := ⟨RX6, "standing", "([II)I"⟩
abbrev cX6_drops : ByteArray := prog_8_method_18_code
def yX6_drops : MethodName := ⟨RX6, "drops", "([II)V"⟩
abbrev cX6_removes : ByteArray := prog_8_method_19_code
def yX6_removes : MethodName := ⟨RX6, "removes", "([II)Z"⟩
abbrev cX6_walks : ByteArray := prog_8_method_20_code
def yX6_walks : MethodName := ⟨RX6, "walks", "([III)V"⟩
abbrev cX6_nextThing : ByteArray := prog_8_method_21_code
def yX6_nextThing : MethodName := ⟨RX6, "nextThing", "([II)I"⟩
abbrev cX6_whyNot : ByteArray := prog_8_method_22_code
def yX6_whyNot : MethodName := ⟨RX6, "whyNot", "([II)I"⟩
abbrev cX6_isNew : ByteArray := prog_8_method_23_code
def yX6_isNew : MethodName := ⟨RX6, "isNew", "(III)Z"⟩
abbrev cX6_put : ByteArray := prog_8_method_24_code
def yX6_put : MethodName := ⟨RX6, "put", "(III)I"⟩
abbrev cX6_putBehind : ByteArray := prog_8_method_25_code
def yX6_putBehind : MethodName := ⟨RX6, "putBehind", "(IIII)I"⟩
abbrev cX6_remove : ByteArray := prog_8_method_26_code
def yX6_remove : MethodName := ⟨RX6, "remove", "(I)I"⟩
abbrev cX6_change : ByteArray := prog_8_method_27_code
def yX6_change : MethodName := ⟨RX6, "change", "(II)I"⟩
abbrev cX6_isWalker : ByteArray := prog_8_method_28_code
def yX6_isWalker : MethodName := ⟨RX6, "isWalker", "(I)Z"⟩
abbrev cX6_stands : ByteArray := prog_8_method_29_code
def yX6_stands : MethodName := ⟨RX6, "stands", "([II)I"⟩
abbrev cX6_restart : ByteArray := prog_8_method_30_code
def yX6_restart : MethodName := ⟨RX6, "restart", "(I)I"⟩
abbrev cX6_underHandle : ByteArray := prog_8_method_31_code
def yX6_underHandle : MethodName := ⟨RX6, "underHandle", "(I)I"⟩
abbrev cX6_goOn : ByteArray := prog_8_method_32_code
def yX6_goOn : MethodName := ⟨RX6, "goOn", "(I)I"⟩
abbrev cX6_take : ByteArray := prog_8_method_33_code
def yX6_take : MethodName := ⟨RX6, "take", "(I)I"⟩
abbrev cX6_firesOne : ByteArray := prog_8_method_34_code
def yX6_firesOne : MethodName := ⟨RX6, "firesOne", "([II)I"⟩
abbrev cX6_fires : ByteArray := prog_8_method_35_code
def yX6_fires : MethodName := ⟨RX6, "fires", "([I)I"⟩
abbrev cX6_fire : ByteArray := prog_8_method_36_code
def yX6_fire : MethodName := ⟨RX6, "fire", "()I"⟩
abbrev cX6_lowestFrom : ByteArray := prog_8_method_37_code
def yX6_lowestFrom : MethodName := ⟨RX6, "lowestFrom", "([II)I"⟩
abbrev cX6_together : ByteArray := prog_8_method_38_code
def yX6_together : MethodName := ⟨RX6, "together", "()I"⟩
abbrev cX6_append : ByteArray := prog_8_method_39_code
def yX6_append : MethodName := ⟨RX6, "append", "(I)I"⟩
abbrev cX6_clearBuffer : ByteArray := prog_8_method_40_code
def yX6_clearBuffer : MethodName := ⟨RX6, "clearBuffer", "()I"⟩
abbrev cX6_sees : ByteArray := prog_8_method_41_code
def yX6_sees : MethodName := ⟨RX6, "sees", "(II)Z"⟩
abbrev cX6_takes : ByteArray := prog_8_method_42_code
def yX6_takes : MethodName := ⟨RX6, "takes", "(I)Z"⟩
abbrev cX6_isNumber : ByteArray := prog_8_method_43_code
def yX6_isNumber : MethodName := ⟨RX6, "isNumber", "(III)Z"⟩
abbrev cX6_isThingTold : ByteArray := prog_8_method_44_code
def yX6_isThingTold : MethodName := ⟨RX6, "isThingTold", "()Z"⟩
abbrev cX6_isText : ByteArray := prog_8_method_45_code
def yX6_isText : MethodName := ⟨RX6, "isText", "()Z"⟩
abbrev cX6_firstError : ByteArray := prog_8_method_46_code
def yX6_firstError : MethodName := ⟨RX6, "firstError", "()I"⟩
abbrev cX6_putAll : ByteArray := prog_8_method_47_code
def yX6_putAll : MethodName := ⟨RX6, "putAll", "()I"⟩
abbrev cX6_undo : ByteArray := prog_8_method_48_code
def yX6_undo : MethodName := ⟨RX6, "undo", "()I"⟩
abbrev cX6_refusal : ByteArray := prog_8_method_49_code
def yX6_refusal : MethodName := ⟨RX6, "refusal", "(I)I"⟩
abbrev cX6_placeOf : ByteArray := prog_8_method_50_code
def yX6_placeOf : MethodName := ⟨RX6, "placeOf", "(I)I"⟩
abbrev cX6_ofThing : ByteArray := prog_8_method_51_code
def yX6_ofThing : MethodName := ⟨RX6, "ofThing", "(II)I"⟩
abbrev cX6_thing : ByteArray := prog_8_method_52_code
def yX6_thing : MethodName := ⟨RX6, "thing", "(II)I"⟩
abbrev cX6_at : ByteArray := prog_8_method_53_code
def yX6_at : MethodName := ⟨RX6, "at", "(I)I"⟩
abbrev cX6_ofCell : ByteArray := prog_8_method_54_code
def yX6_ofCell : MethodName := ⟨RX6, "ofCell", "(I)I"⟩
abbrev cX6_cell : ByteArray := prog_8_method_55_code
def yX6_cell : MethodName := ⟨RX6, "cell", "(II)I"⟩
abbrev cX6_behind : ByteArray := prog_8_method_56_code
def yX6_behind : MethodName := ⟨RX6, "behind", "(I)I"⟩
abbrev cX6_ofWalker : ByteArray := prog_8_method_57_code
def yX6_ofWalker : MethodName := ⟨RX6, "ofWalker", "(II)I"⟩
abbrev cX6_walker : ByteArray := prog_8_method_58_code
def yX6_walker : MethodName := ⟨RX6, "walker", "(II)I"⟩
abbrev cX6_used : ByteArray := prog_8_method_59_code
def yX6_used : MethodName := ⟨RX6, "used", "()I"⟩
abbrev cX6_values : ByteArray := prog_8_method_60_code
def yX6_values : MethodName := ⟨RX6, "values", "()I"⟩
abbrev cX6_counted : ByteArray := prog_8_method_61_code
def yX6_counted : MethodName := ⟨RX6, "counted", "(I)I"⟩
abbrev cX6_count : ByteArray := prog_8_method_62_code
def yX6_count : MethodName := ⟨RX6, "count", "(I)I"⟩
abbrev cX6_beginsAt : ByteArray := prog_8_method_63_code
def yX6_beginsAt : MethodName := ⟨RX6, "beginsAt", "(I)I"⟩
abbrev cX6_begins : ByteArray := prog_8_method_64_code
def yX6_begins : MethodName := ⟨RX6, "begins", "(I)I"⟩
abbrev cX6_longest : ByteArray := prog_8_method_65_code
def yX6_longest : MethodName := ⟨RX6, "longest", "(I)I"⟩
abbrev cX6_gap : ByteArray := prog_8_method_66_code
def yX6_gap : MethodName := ⟨RX6, "gap", "(I)I"⟩
abbrev cX6_fired : ByteArray := prog_8_method_67_code
def yX6_fired : MethodName := ⟨RX6, "fired", "(II)I"⟩
abbrev cX6_ifFired : ByteArray := prog_8_method_68_code
def yX6_ifFired : MethodName := ⟨RX6, "ifFired", "(II)I"⟩
abbrev cX6_roomFor : ByteArray := prog_8_method_69_code
def yX6_roomFor : MethodName := ⟨RX6, "roomFor", "(IZ)I"⟩
abbrev cX6_room : ByteArray := prog_8_method_70_code
def yX6_room : MethodName := ⟨RX6, "room", "(IZ)I"⟩
abbrev cX6_full : ByteArray := prog_8_method_71_code
def yX6_full : MethodName := ⟨RX6, "full", "()D"⟩
abbrev cX6_fullness : ByteArray := prog_8_method_72_code
def yX6_fullness : MethodName := ⟨RX6, "fullness", "()D"⟩
abbrev cX6_mixes : ByteArray := prog_8_method_73_code
def yX6_mixes : MethodName := ⟨RX6, "mixes", "(J)V"⟩
abbrev cX6_mixesRow : ByteArray := prog_8_method_74_code
def yX6_mixesRow : MethodName := ⟨RX6, "mixesRow", "()V"⟩
abbrev cX6_digest : ByteArray := prog_8_method_75_code
def yX6_digest : MethodName := ⟨RX6, "digest", "()J"⟩
def RJxe99ae : String := "java/lang/Double"
def TJxe99ae : u_T := fun k => match k with
  | _ => ("", "", "", false)
def tyJxe99ae : Nat → FieldType := fun k => match k with
  | _ => .int
theorem nmJxe99ae : ∀ a, a < 0 → ∀ b, b < 0 → a ≠ b → (TJxe99ae a).2.1 ≠ (TJxe99ae b).2.1 := by decide +kernel
theorem tyJxe99ae_ok : ∀ k, k < 0 → parseFieldDescriptor (TJxe99ae k).2.2.1 = some (tyJxe99ae k) := by decide +kernel
abbrev cJxe99ae_isNaN_b9ae7 : ByteArray := prog_9_method_6_code
def yJxe99ae_isNaN_b9ae7 : MethodName := ⟨RJxe99ae, "isNaN", "(D)Z"⟩
abbrev cJxe99ae_doubleToLongBits_ccdee : ByteArray := prog_9_method_23_code
def yJxe99ae_doubleToLongBits_ccdee : MethodName := ⟨RJxe99ae, "doubleToLongBits", "(D)J"⟩
def RJ9 : String := "java/lang/Math"
def TJ9 : u_T := fun k => match k with
  | _ => ("", "", "", false)
def tyJ9 : Nat → FieldType := fun k => match k with
  | _ => .int
theorem nmJ9 : ∀ a, a < 0 → ∀ b, b < 0 → a ≠ b → (TJ9 a).2.1 ≠ (TJ9 b).2.1 := by decide +kernel
theorem tyJ9_ok : ∀ k, k < 0 → parseFieldDescriptor (TJ9 k).2.2.1 = some (tyJ9 k) := by decide +kernel
abbrev cJ9_max_7cf53 : ByteArray := prog_14_method_65_code
def yJ9_max_7cf53 : MethodName := ⟨RJ9, "max", "(II)I"⟩
def RJ0 : String := "java/lang/String"
def TJ0 : u_T := fun k => match k with
  | _ => ("", "", "", false)
def tyJ0 : Nat → FieldType := fun k => match k with
  | _ => .int
theorem nmJ0 : ∀ a, a < 0 → ∀ b, b < 0 → a ≠ b → (TJ0 a).2.1 ≠ (TJ0 b).2.1 := by decide +kernel
theorem tyJ0_ok : ∀ k, k < 0 → parseFieldDescriptor (TJ0 k).2.2.1 = some (tyJ0 k) := by decide +kernel
def RJ10 : String := "java/lang/System"
def TJ10 : u_T := fun k => match k with
  | _ => ("", "", "", false)
def tyJ10 : Nat → FieldType := fun k => match k with
  | _ => .int
theorem nmJ10 : ∀ a, a < 0 → ∀ b, b < 0 → a ≠ b → (TJ10 a).2.1 ≠ (TJ10 b).2.1 := by decide +kernel
theorem tyJ10_ok : ∀ k, k < 0 → parseFieldDescriptor (TJ10 k).2.2.1 = some (tyJ10 k) := by decide +kernel
def RL : String := "StampedSlotsLaw"
abbrev cL_put : ByteArray := method_3_code
def yL_put : MethodName := ⟨RL, "put", "(LStampedSlots;III[J)I"⟩
abbrev cL_putBehind : ByteArray := method_4_code
def yL_putBehind : MethodName := ⟨RL, "putBehind", "(LStampedSlots;IIII[J)I"⟩
abbrev cL_remove : ByteArray := method_5_code
def yL_remove : MethodName := ⟨RL, "remove", "(LStampedSlots;I[J)I"⟩
abbrev cL_change : ByteArray := method_6_code
def yL_change : MethodName := ⟨RL, "change", "(LStampedSlots;II[J)I"⟩
abbrev cL_restart : ByteArray := method_7_code
def yL_restart : MethodName := ⟨RL, "restart", "(LStampedSlots;I[J)I"⟩
abbrev cL_goOn : ByteArray := method_8_code
def yL_goOn : MethodName := ⟨RL, "goOn", "(LStampedSlots;I[J)I"⟩
abbrev cL_take : ByteArray := method_9_code
def yL_take : MethodName := ⟨RL, "take", "(LStampedSlots;I[J)I"⟩
abbrev cL_append : ByteArray := method_10_code
def yL_append : MethodName := ⟨RL, "append", "(LStampedSlots;I[J)I"⟩
abbrev cL_putAll : ByteArray := method_11_code
def yL_putAll : MethodName := ⟨RL, "putAll", "(LStampedSlots;[J)I"⟩
abbrev cL_undo : ByteArray := method_12_code
def yL_undo : MethodName := ⟨RL, "undo", "(LStampedSlots;[J)I"⟩
abbrev cL_thing : ByteArray := method_13_code
def yL_thing : MethodName := ⟨RL, "thing", "(LStampedSlots;II[J)I"⟩
abbrev cL_at : ByteArray := method_14_code
def yL_at : MethodName := ⟨RL, "at", "(LStampedSlots;I[J)I"⟩
abbrev cL_cell : ByteArray := method_15_code
def yL_cell : MethodName := ⟨RL, "cell", "(LStampedSlots;II[J)I"⟩
abbrev cL_walker : ByteArray := method_16_code
def yL_walker : MethodName := ⟨RL, "walker", "(LStampedSlots;II[J)I"⟩
abbrev cL_count : ByteArray := method_17_code
def yL_count : MethodName := ⟨RL, "count", "(LStampedSlots;I[J)I"⟩
abbrev cL_begins : ByteArray := method_18_code
def yL_begins : MethodName := ⟨RL, "begins", "(LStampedSlots;I[J)I"⟩
abbrev cL_gap : ByteArray := method_19_code
def yL_gap : MethodName := ⟨RL, "gap", "(LStampedSlots;I[J)I"⟩
abbrev cL_ifFired : ByteArray := method_20_code
def yL_ifFired : MethodName := ⟨RL, "ifFired", "(LStampedSlots;II[J)I"⟩
abbrev cL_room : ByteArray := method_21_code
def yL_room : MethodName := ⟨RL, "room", "(LStampedSlots;IZ[J)I"⟩
abbrev cL_law : ByteArray := code
def yL_law : MethodName := ⟨RL, "law", "([I)Z"⟩
theorem dX0_init_0 : decode cX0_init 0 = .ok (.aload_n 0, 1) := by decide +kernel
theorem dX0_init_1 : decode cX0_init 1 = .ok (.invokespecial 3, 3) := by decide +kernel
theorem dX0_init_4 : decode cX0_init 4 = .ok (.aload_n 0, 1) := by decide +kernel
theorem dX0_init_5 : decode cX0_init 5 = .ok (.iconst 0, 1) := by decide +kernel
theorem dX0_init_6 : decode cX0_init 6 = .ok (.putfield 9, 3) := by decide +kernel
theorem dX0_init_9 : decode cX0_init 9 = .ok (.aload_n 0, 1) := by decide +kernel
theorem dX0_init_10 : decode cX0_init 10 = .ok (.bipush 6, 2) := by decide +kernel
theorem dX0_init_12 : decode cX0_init 12 = .ok (.anewarray 15, 3) := by decide +kernel
theorem dX0_init_15 : decode cX0_init 15 = .ok (.putfield 17, 3) := by decide +kernel
theorem dX0_init_18 : decode cX0_init 18 = .ok (.iconst 0, 1) := by decide +kernel
theorem dX0_init_19 : decode cX0_init 19 = .ok (.istore_n 1, 1) := by decide +kernel
theorem dX0_init_20 : decode cX0_init 20 = .ok (.iload_n 1, 1) := by decide +kernel
theorem dX0_init_21 : decode cX0_init 21 = .ok (.bipush 6, 2) := by decide +kernel
theorem dX0_init_23 : decode cX0_init 23 = .ok (.if_icmp .ge 22, 3) := by decide +kernel
theorem dX0_init_26 : decode cX0_init 26 = .ok (.aload_n 0, 1) := by decide +kernel
theorem dX0_init_27 : decode cX0_init 27 = .ok (.getfield 17, 3) := by decide +kernel
theorem dX0_init_30 : decode cX0_init 30 = .ok (.iload_n 1, 1) := by decide +kernel
theorem dX0_init_31 : decode cX0_init 31 = .ok (.new 15, 3) := by decide +kernel
theorem dX0_init_34 : decode cX0_init 34 = .ok (.dup, 1) := by decide +kernel
theorem dX0_init_35 : decode cX0_init 35 = .ok (.invokespecial 21, 3) := by decide +kernel
theorem dX0_init_38 : decode cX0_init 38 = .ok (.aastore, 1) := by decide +kernel
theorem dX0_init_39 : decode cX0_init 39 = .ok (.iinc 1 1, 3) := by decide +kernel
theorem dX0_init_42 : decode cX0_init 42 = .ok (.goto (-22), 3) := by decide +kernel
theorem dX0_init_45 : decode cX0_init 45 = .ok (.return_, 1) := by decide +kernel
theorem dX0_size_0 : decode cX0_size 0 = .ok (.aload_n 0, 1) := by decide +kernel
theorem dX0_size_1 : decode cX0_size 1 = .ok (.getfield 9, 3) := by decide +kernel
theorem dX0_size_4 : decode cX0_size 4 = .ok (.ireturn, 1) := by decide +kernel
theorem dX0_save_0 : decode cX0_save 0 = .ok (.aload_n 0, 1) := by decide +kernel
theorem dX0_save_1 : decode cX0_save 1 = .ok (.getfield 9, 3) := by decide +kernel
theorem dX0_save_4 : decode cX0_save 4 = .ok (.bipush 6, 2) := by decide +kernel
theorem dX0_save_6 : decode cX0_save 6 = .ok (.if_icmp .lt 7, 3) := by decide +kernel
theorem dX0_save_9 : decode cX0_save 9 = .ok (.aload_n 0, 1) := by decide +kernel
theorem dX0_save_10 : decode cX0_save 10 = .ok (.invokevirtual 22, 3) := by decide +kernel
theorem dX0_save_13 : decode cX0_save 13 = .ok (.aload_n 0, 1) := by decide +kernel
theorem dX0_save_14 : decode cX0_save 14 = .ok (.getfield 9, 3) := by decide +kernel
theorem dX0_save_17 : decode cX0_save 17 = .ok (.ifCond .lt 12, 3) := by decide +kernel
theorem dX0_save_20 : decode cX0_save 20 = .ok (.aload_n 0, 1) := by decide +kernel
theorem dX0_save_21 : decode cX0_save 21 = .ok (.getfield 9, 3) := by decide +kernel
theorem dX0_save_24 : decode cX0_save 24 = .ok (.bipush 6, 2) := by decide +kernel
theorem dX0_save_26 : decode cX0_save 26 = .ok (.if_icmp .lt 4, 3) := by decide +kernel
theorem dX0_save_29 : decode cX0_save 29 = .ok (.return_, 1) := by decide +kernel
theorem dX0_save_30 : decode cX0_save 30 = .ok (.aload_n 0, 1) := by decide +kernel
theorem dX0_save_31 : decode cX0_save 31 = .ok (.getfield 17, 3) := by decide +kernel
theorem dX0_save_34 : decode cX0_save 34 = .ok (.aload_n 0, 1) := by decide +kernel
theorem dX0_save_35 : decode cX0_save 35 = .ok (.getfield 9, 3) := by decide +kernel
theorem dX0_save_38 : decode cX0_save 38 = .ok (.aaload, 1) := by decide +kernel
theorem dX0_save_39 : decode cX0_save 39 = .ok (.astore_n 2, 1) := by decide +kernel
theorem dX0_save_40 : decode cX0_save 40 = .ok (.aload_n 2, 1) := by decide +kernel
theorem dX0_save_41 : decode cX0_save 41 = .ok (.ifnull 18, 3) := by decide +kernel
theorem dX0_save_44 : decode cX0_save 44 = .ok (.aload_n 2, 1) := by decide +kernel
theorem dX0_save_45 : decode cX0_save 45 = .ok (.aload_n 1, 1) := by decide +kernel
theorem dX0_save_46 : decode cX0_save 46 = .ok (.invokevirtual 25, 3) := by decide +kernel
theorem dX0_save_49 : decode cX0_save 49 = .ok (.aload_n 0, 1) := by decide +kernel
theorem dX0_save_50 : decode cX0_save 50 = .ok (.dup, 1) := by decide +kernel
theorem dX0_save_51 : decode cX0_save 51 = .ok (.getfield 9, 3) := by decide +kernel
theorem dX0_save_54 : decode cX0_save 54 = .ok (.iconst 1, 1) := by decide +kernel
theorem dX0_save_55 : decode cX0_save 55 = .ok (.iadd, 1) := by decide +kernel
theorem dX0_save_56 : decode cX0_save 56 = .ok (.putfield 9, 3) := by decide +kernel
theorem dX0_save_59 : decode cX0_save 59 = .ok (.return_, 1) := by decide +kernel
theorem dX0_dropOldest_0 : decode cX0_dropOldest 0 = .ok (.aload_n 0, 1) := by decide +kernel
theorem dX0_dropOldest_1 : decode cX0_dropOldest 1 = .ok (.getfield 17, 3) := by decide +kernel
theorem dX0_dropOldest_4 : decode cX0_dropOldest 4 = .ok (.iconst 0, 1) := by decide +kernel
theorem dX0_dropOldest_5 : decode cX0_dropOldest 5 = .ok (.aaload, 1) := by decide +kernel
theorem dX0_dropOldest_6 : decode cX0_dropOldest 6 = .ok (.astore_n 1, 1) := by decide +kernel
theorem dX0_dropOldest_7 : decode cX0_dropOldest 7 = .ok (.iconst 1, 1) := by decide +kernel
theorem dX0_dropOldest_8 : decode cX0_dropOldest 8 = .ok (.istore_n 2, 1) := by decide +kernel
theorem dX0_dropOldest_9 : decode cX0_dropOldest 9 = .ok (.iload_n 2, 1) := by decide +kernel
theorem dX0_dropOldest_10 : decode cX0_dropOldest 10 = .ok (.bipush 6, 2) := by decide +kernel
theorem dX0_dropOldest_12 : decode cX0_dropOldest 12 = .ok (.if_icmp .ge 23, 3) := by decide +kernel
theorem dX0_dropOldest_15 : decode cX0_dropOldest 15 = .ok (.aload_n 0, 1) := by decide +kernel
theorem dX0_dropOldest_16 : decode cX0_dropOldest 16 = .ok (.getfield 17, 3) := by decide +kernel
theorem dX0_dropOldest_19 : decode cX0_dropOldest 19 = .ok (.iload_n 2, 1) := by decide +kernel
theorem dX0_dropOldest_20 : decode cX0_dropOldest 20 = .ok (.iconst 1, 1) := by decide +kernel
theorem dX0_dropOldest_21 : decode cX0_dropOldest 21 = .ok (.isub, 1) := by decide +kernel
theorem dX0_dropOldest_22 : decode cX0_dropOldest 22 = .ok (.aload_n 0, 1) := by decide +kernel
theorem dX0_dropOldest_23 : decode cX0_dropOldest 23 = .ok (.getfield 17, 3) := by decide +kernel
theorem dX0_dropOldest_26 : decode cX0_dropOldest 26 = .ok (.iload_n 2, 1) := by decide +kernel
theorem dX0_dropOldest_27 : decode cX0_dropOldest 27 = .ok (.aaload, 1) := by decide +kernel
theorem dX0_dropOldest_28 : decode cX0_dropOldest 28 = .ok (.aastore, 1) := by decide +kernel
theorem dX0_dropOldest_29 : decode cX0_dropOldest 29 = .ok (.iinc 2 1, 3) := by decide +kernel
theorem dX0_dropOldest_32 : decode cX0_dropOldest 32 = .ok (.goto (-23), 3) := by decide +kernel
theorem dX0_dropOldest_35 : decode cX0_dropOldest 35 = .ok (.aload_n 0, 1) := by decide +kernel
theorem dX0_dropOldest_36 : decode cX0_dropOldest 36 = .ok (.getfield 17, 3) := by decide +kernel
theorem dX0_dropOldest_39 : decode cX0_dropOldest 39 = .ok (.iconst 5, 1) := by decide +kernel
theorem dX0_dropOldest_40 : decode cX0_dropOldest 40 = .ok (.aload_n 1, 1) := by decide +kernel
theorem dX0_dropOldest_41 : decode cX0_dropOldest 41 = .ok (.aastore, 1) := by decide +kernel
theorem dX0_dropOldest_42 : decode cX0_dropOldest 42 = .ok (.aload_n 0, 1) := by decide +kernel
theorem dX0_dropOldest_43 : decode cX0_dropOldest 43 = .ok (.iconst 5, 1) := by decide +kernel
theorem dX0_dropOldest_44 : decode cX0_dropOldest 44 = .ok (.putfield 9, 3) := by decide +kernel
theorem dX0_dropOldest_47 : decode cX0_dropOldest 47 = .ok (.return_, 1) := by decide +kernel
theorem dX0_bringBack_0 : decode cX0_bringBack 0 = .ok (.aload_n 0, 1) := by decide +kernel
theorem dX0_bringBack_1 : decode cX0_bringBack 1 = .ok (.getfield 9, 3) := by decide +kernel
theorem dX0_bringBack_4 : decode cX0_bringBack 4 = .ok (.iconst 1, 1) := by decide +kernel
theorem dX0_bringBack_5 : decode cX0_bringBack 5 = .ok (.if_icmp .lt 12, 3) := by decide +kernel
theorem dX0_bringBack_8 : decode cX0_bringBack 8 = .ok (.aload_n 0, 1) := by decide +kernel
theorem dX0_bringBack_9 : decode cX0_bringBack 9 = .ok (.getfield 9, 3) := by decide +kernel
theorem dX0_bringBack_12 : decode cX0_bringBack 12 = .ok (.bipush 6, 2) := by decide +kernel
theorem dX0_bringBack_14 : decode cX0_bringBack 14 = .ok (.if_icmp .le 4, 3) := by decide +kernel
theorem dX0_bringBack_17 : decode cX0_bringBack 17 = .ok (.return_, 1) := by decide +kernel
theorem dX0_bringBack_18 : decode cX0_bringBack 18 = .ok (.aload_n 0, 1) := by decide +kernel
theorem dX0_bringBack_19 : decode cX0_bringBack 19 = .ok (.dup, 1) := by decide +kernel
theorem dX0_bringBack_20 : decode cX0_bringBack 20 = .ok (.getfield 9, 3) := by decide +kernel
theorem dX0_bringBack_23 : decode cX0_bringBack 23 = .ok (.iconst 1, 1) := by decide +kernel
theorem dX0_bringBack_24 : decode cX0_bringBack 24 = .ok (.isub, 1) := by decide +kernel
theorem dX0_bringBack_25 : decode cX0_bringBack 25 = .ok (.putfield 9, 3) := by decide +kernel
theorem dX0_bringBack_28 : decode cX0_bringBack 28 = .ok (.aload_n 0, 1) := by decide +kernel
theorem dX0_bringBack_29 : decode cX0_bringBack 29 = .ok (.getfield 17, 3) := by decide +kernel
theorem dX0_bringBack_32 : decode cX0_bringBack 32 = .ok (.aload_n 0, 1) := by decide +kernel
theorem dX0_bringBack_33 : decode cX0_bringBack 33 = .ok (.getfield 9, 3) := by decide +kernel
theorem dX0_bringBack_36 : decode cX0_bringBack 36 = .ok (.aaload, 1) := by decide +kernel
theorem dX0_bringBack_37 : decode cX0_bringBack 37 = .ok (.astore_n 2, 1) := by decide +kernel
theorem dX0_bringBack_38 : decode cX0_bringBack 38 = .ok (.aload_n 2, 1) := by decide +kernel
theorem dX0_bringBack_39 : decode cX0_bringBack 39 = .ok (.ifnull 8, 3) := by decide +kernel
theorem dX0_bringBack_42 : decode cX0_bringBack 42 = .ok (.aload_n 1, 1) := by decide +kernel
theorem dX0_bringBack_43 : decode cX0_bringBack 43 = .ok (.aload_n 2, 1) := by decide +kernel
theorem dX0_bringBack_44 : decode cX0_bringBack 44 = .ok (.invokevirtual 25, 3) := by decide +kernel
theorem dX0_bringBack_47 : decode cX0_bringBack 47 = .ok (.return_, 1) := by decide +kernel
theorem dX1_init_0 : decode cX1_init 0 = .ok (.aload_n 0, 1) := by decide +kernel
theorem dX1_init_1 : decode cX1_init 1 = .ok (.invokespecial 3, 3) := by decide +kernel
theorem dX1_init_4 : decode cX1_init 4 = .ok (.aload_n 0, 1) := by decide +kernel
theorem dX1_init_5 : decode cX1_init 5 = .ok (.iconst 0, 1) := by decide +kernel
theorem dX1_init_6 : decode cX1_init 6 = .ok (.putfield 9, 3) := by decide +kernel
theorem dX1_init_9 : decode cX1_init 9 = .ok (.aload_n 0, 1) := by decide +kernel
theorem dX1_init_10 : decode cX1_init 10 = .ok (.bipush 68, 2) := by decide +kernel
theorem dX1_init_12 : decode cX1_init 12 = .ok (.newarray .int, 2) := by decide +kernel
theorem dX1_init_14 : decode cX1_init 14 = .ok (.putfield 15, 3) := by decide +kernel
theorem dX1_init_17 : decode cX1_init 17 = .ok (.aload_n 0, 1) := by decide +kernel
theorem dX1_init_18 : decode cX1_init 18 = .ok (.iconst 4, 1) := by decide +kernel
theorem dX1_init_19 : decode cX1_init 19 = .ok (.newarray .int, 2) := by decide +kernel
theorem dX1_init_21 : decode cX1_init 21 = .ok (.putfield 19, 3) := by decide +kernel
theorem dX1_init_24 : decode cX1_init 24 = .ok (.iconst 0, 1) := by decide +kernel
theorem dX1_init_25 : decode cX1_init 25 = .ok (.istore_n 1, 1) := by decide +kernel
theorem dX1_init_26 : decode cX1_init 26 = .ok (.iload_n 1, 1) := by decide +kernel
theorem dX1_init_27 : decode cX1_init 27 = .ok (.iconst 4, 1) := by decide +kernel
theorem dX1_init_28 : decode cX1_init 28 = .ok (.if_icmp .ge 16, 3) := by decide +kernel
theorem dX1_init_31 : decode cX1_init 31 = .ok (.aload_n 0, 1) := by decide +kernel
theorem dX1_init_32 : decode cX1_init 32 = .ok (.getfield 19, 3) := by decide +kernel
theorem dX1_init_35 : decode cX1_init 35 = .ok (.iload_n 1, 1) := by decide +kernel
theorem dX1_init_36 : decode cX1_init 36 = .ok (.iconst (-1), 1) := by decide +kernel
theorem dX1_init_37 : decode cX1_init 37 = .ok (.iastore, 1) := by decide +kernel
theorem dX1_init_38 : decode cX1_init 38 = .ok (.iinc 1 1, 3) := by decide +kernel
theorem dX1_init_41 : decode cX1_init 41 = .ok (.goto (-15), 3) := by decide +kernel
theorem dX1_init_44 : decode cX1_init 44 = .ok (.return_, 1) := by decide +kernel
theorem dX1_copyFrom_0 : decode cX1_copyFrom 0 = .ok (.aload_n 0, 1) := by decide +kernel
theorem dX1_copyFrom_1 : decode cX1_copyFrom 1 = .ok (.aload_n 1, 1) := by decide +kernel
theorem dX1_copyFrom_2 : decode cX1_copyFrom 2 = .ok (.getfield 9, 3) := by decide +kernel
theorem dX1_copyFrom_5 : decode cX1_copyFrom 5 = .ok (.putfield 9, 3) := by decide +kernel
theorem dX1_copyFrom_8 : decode cX1_copyFrom 8 = .ok (.aload_n 1, 1) := by decide +kernel
theorem dX1_copyFrom_9 : decode cX1_copyFrom 9 = .ok (.getfield 15, 3) := by decide +kernel
theorem dX1_copyFrom_12 : decode cX1_copyFrom 12 = .ok (.iconst 0, 1) := by decide +kernel
theorem dX1_copyFrom_13 : decode cX1_copyFrom 13 = .ok (.aload_n 0, 1) := by decide +kernel
theorem dX1_copyFrom_14 : decode cX1_copyFrom 14 = .ok (.getfield 15, 3) := by decide +kernel
theorem dX1_copyFrom_17 : decode cX1_copyFrom 17 = .ok (.iconst 0, 1) := by decide +kernel
theorem dX1_copyFrom_18 : decode cX1_copyFrom 18 = .ok (.bipush 68, 2) := by decide +kernel
theorem dX1_copyFrom_20 : decode cX1_copyFrom 20 = .ok (.invokestatic 22, 3) := by decide +kernel
theorem dX1_copyFrom_23 : decode cX1_copyFrom 23 = .ok (.aload_n 1, 1) := by decide +kernel
theorem dX1_copyFrom_24 : decode cX1_copyFrom 24 = .ok (.getfield 19, 3) := by decide +kernel
theorem dX1_copyFrom_27 : decode cX1_copyFrom 27 = .ok (.iconst 0, 1) := by decide +kernel
theorem dX1_copyFrom_28 : decode cX1_copyFrom 28 = .ok (.aload_n 0, 1) := by decide +kernel
theorem dX1_copyFrom_29 : decode cX1_copyFrom 29 = .ok (.getfield 19, 3) := by decide +kernel
theorem dX1_copyFrom_32 : decode cX1_copyFrom 32 = .ok (.iconst 0, 1) := by decide +kernel
theorem dX1_copyFrom_33 : decode cX1_copyFrom 33 = .ok (.iconst 4, 1) := by decide +kernel
theorem dX1_copyFrom_34 : decode cX1_copyFrom 34 = .ok (.invokestatic 22, 3) := by decide +kernel
theorem dX1_copyFrom_37 : decode cX1_copyFrom 37 = .ok (.return_, 1) := by decide +kernel
theorem dX1_size_0 : decode cX1_size 0 = .ok (.aload_n 0, 1) := by decide +kernel
theorem dX1_size_1 : decode cX1_size 1 = .ok (.getfield 9, 3) := by decide +kernel
theorem dX1_size_4 : decode cX1_size 4 = .ok (.ireturn, 1) := by decide +kernel
theorem dX1_isEntry_0 : decode cX1_isEntry 0 = .ok (.iload_n 1, 1) := by decide +kernel
theorem dX1_isEntry_1 : decode cX1_isEntry 1 = .ok (.ifCond .lt 21, 3) := by decide +kernel
theorem dX1_isEntry_4 : decode cX1_isEntry 4 = .ok (.iload_n 1, 1) := by decide +kernel
theorem dX1_isEntry_5 : decode cX1_isEntry 5 = .ok (.aload_n 0, 1) := by decide +kernel
theorem dX1_isEntry_6 : decode cX1_isEntry 6 = .ok (.getfield 9, 3) := by decide +kernel
theorem dX1_isEntry_9 : decode cX1_isEntry 9 = .ok (.if_icmp .ge 13, 3) := by decide +kernel
theorem dX1_isEntry_12 : decode cX1_isEntry 12 = .ok (.iload_n 1, 1) := by decide +kernel
theorem dX1_isEntry_13 : decode cX1_isEntry 13 = .ok (.bipush 68, 2) := by decide +kernel
theorem dX1_isEntry_15 : decode cX1_isEntry 15 = .ok (.if_icmp .ge 7, 3) := by decide +kernel
theorem dX1_isEntry_18 : decode cX1_isEntry 18 = .ok (.iconst 1, 1) := by decide +kernel
theorem dX1_isEntry_19 : decode cX1_isEntry 19 = .ok (.goto 4, 3) := by decide +kernel
theorem dX1_isEntry_22 : decode cX1_isEntry 22 = .ok (.iconst 0, 1) := by decide +kernel
theorem dX1_isEntry_23 : decode cX1_isEntry 23 = .ok (.ireturn, 1) := by decide +kernel
theorem dX1_thingIn_0 : decode cX1_thingIn 0 = .ok (.aload_n 0, 1) := by decide +kernel
theorem dX1_thingIn_1 : decode cX1_thingIn 1 = .ok (.iload_n 1, 1) := by decide +kernel
theorem dX1_thingIn_2 : decode cX1_thingIn 2 = .ok (.invokevirtual 28, 3) := by decide +kernel
theorem dX1_thingIn_5 : decode cX1_thingIn 5 = .ok (.ifCond .eq 12, 3) := by decide +kernel
theorem dX1_thingIn_8 : decode cX1_thingIn 8 = .ok (.aload_n 0, 1) := by decide +kernel
theorem dX1_thingIn_9 : decode cX1_thingIn 9 = .ok (.getfield 15, 3) := by decide +kernel
theorem dX1_thingIn_12 : decode cX1_thingIn 12 = .ok (.iload_n 1, 1) := by decide +kernel
theorem dX1_thingIn_13 : decode cX1_thingIn 13 = .ok (.iaload, 1) := by decide +kernel
theorem dX1_thingIn_14 : decode cX1_thingIn 14 = .ok (.goto 4, 3) := by decide +kernel
theorem dX1_thingIn_17 : decode cX1_thingIn 17 = .ok (.iconst (-1), 1) := by decide +kernel
theorem dX1_thingIn_18 : decode cX1_thingIn 18 = .ok (.ireturn, 1) := by decide +kernel
theorem dX1_things_0 : decode cX1_things 0 = .ok (.aload_n 0, 1) := by decide +kernel
theorem dX1_things_1 : decode cX1_things 1 = .ok (.iconst 0, 1) := by decide +kernel
theorem dX1_things_2 : decode cX1_things 2 = .ok (.invokevirtual 32, 3) := by decide +kernel
theorem dX1_things_5 : decode cX1_things 5 = .ok (.ireturn, 1) := by decide +kernel
theorem dX1_tombstones_0 : decode cX1_tombstones 0 = .ok (.aload_n 0, 1) := by decide +kernel
theorem dX1_tombstones_1 : decode cX1_tombstones 1 = .ok (.getfield 9, 3) := by decide +kernel
theorem dX1_tombstones_4 : decode cX1_tombstones 4 = .ok (.aload_n 0, 1) := by decide +kernel
theorem dX1_tombstones_5 : decode cX1_tombstones 5 = .ok (.invokevirtual 36, 3) := by decide +kernel
theorem dX1_tombstones_8 : decode cX1_tombstones 8 = .ok (.isub, 1) := by decide +kernel
theorem dX1_tombstones_9 : decode cX1_tombstones 9 = .ok (.ireturn, 1) := by decide +kernel
theorem dX1_thingsFrom_0 : decode cX1_thingsFrom 0 = .ok (.iconst 0, 1) := by decide +kernel
theorem dX1_thingsFrom_1 : decode cX1_thingsFrom 1 = .ok (.istore_n 2, 1) := by decide +kernel
theorem dX1_thingsFrom_2 : decode cX1_thingsFrom 2 = .ok (.iload_n 1, 1) := by decide +kernel
theorem dX1_thingsFrom_3 : decode cX1_thingsFrom 3 = .ok (.iconst 0, 1) := by decide +kernel
theorem dX1_thingsFrom_4 : decode cX1_thingsFrom 4 = .ok (.invokestatic 40, 3) := by decide +kernel
theorem dX1_thingsFrom_7 : decode cX1_thingsFrom 7 = .ok (.istore_n 3, 1) := by decide +kernel
theorem dX1_thingsFrom_8 : decode cX1_thingsFrom 8 = .ok (.iload_n 3, 1) := by decide +kernel
theorem dX1_thingsFrom_9 : decode cX1_thingsFrom 9 = .ok (.aload_n 0, 1) := by decide +kernel
theorem dX1_thingsFrom_10 : decode cX1_thingsFrom 10 = .ok (.getfield 9, 3) := by decide +kernel
theorem dX1_thingsFrom_13 : decode cX1_thingsFrom 13 = .ok (.if_icmp .ge 21, 3) := by decide +kernel
theorem dX1_thingsFrom_16 : decode cX1_thingsFrom 16 = .ok (.aload_n 0, 1) := by decide +kernel
theorem dX1_thingsFrom_17 : decode cX1_thingsFrom 17 = .ok (.iload_n 3, 1) := by decide +kernel
theorem dX1_thingsFrom_18 : decode cX1_thingsFrom 18 = .ok (.invokevirtual 46, 3) := by decide +kernel
theorem dX1_thingsFrom_21 : decode cX1_thingsFrom 21 = .ok (.iconst (-1), 1) := by decide +kernel
theorem dX1_thingsFrom_22 : decode cX1_thingsFrom 22 = .ok (.if_icmp .eq 6, 3) := by decide +kernel
theorem dX1_thingsFrom_25 : decode cX1_thingsFrom 25 = .ok (.iinc 2 1, 3) := by decide +kernel
theorem dX1_thingsFrom_28 : decode cX1_thingsFrom 28 = .ok (.iinc 3 1, 3) := by decide +kernel
theorem dX1_thingsFrom_31 : decode cX1_thingsFrom 31 = .ok (.goto (-23), 3) := by decide +kernel
theorem dX1_thingsFrom_34 : decode cX1_thingsFrom 34 = .ok (.iload_n 2, 1) := by decide +kernel
theorem dX1_thingsFrom_35 : decode cX1_thingsFrom 35 = .ok (.ireturn, 1) := by decide +kernel
theorem dX1_thingAtPlace_0 : decode cX1_thingAtPlace 0 = .ok (.iconst 0, 1) := by decide +kernel
theorem dX1_thingAtPlace_1 : decode cX1_thingAtPlace 1 = .ok (.istore_n 2, 1) := by decide +kernel
theorem dX1_thingAtPlace_2 : decode cX1_thingAtPlace 2 = .ok (.iconst 0, 1) := by decide +kernel
theorem dX1_thingAtPlace_3 : decode cX1_thingAtPlace 3 = .ok (.istore_n 3, 1) := by decide +kernel
theorem dX1_thingAtPlace_4 : decode cX1_thingAtPlace 4 = .ok (.iload_n 3, 1) := by decide +kernel
theorem dX1_thingAtPlace_5 : decode cX1_thingAtPlace 5 = .ok (.aload_n 0, 1) := by decide +kernel
theorem dX1_thingAtPlace_6 : decode cX1_thingAtPlace 6 = .ok (.getfield 9, 3) := by decide +kernel
theorem dX1_thingAtPlace_9 : decode cX1_thingAtPlace 9 = .ok (.if_icmp .ge 33, 3) := by decide +kernel
theorem dX1_thingAtPlace_12 : decode cX1_thingAtPlace 12 = .ok (.aload_n 0, 1) := by decide +kernel
theorem dX1_thingAtPlace_13 : decode cX1_thingAtPlace 13 = .ok (.iload_n 3, 1) := by decide +kernel
theorem dX1_thingAtPlace_14 : decode cX1_thingAtPlace 14 = .ok (.invokevirtual 46, 3) := by decide +kernel
theorem dX1_thingAtPlace_17 : decode cX1_thingAtPlace 17 = .ok (.istore 4, 2) := by decide +kernel
theorem dX1_thingAtPlace_19 : decode cX1_thingAtPlace 19 = .ok (.iload 4, 2) := by decide +kernel
theorem dX1_thingAtPlace_21 : decode cX1_thingAtPlace 21 = .ok (.iconst (-1), 1) := by decide +kernel
theorem dX1_thingAtPlace_22 : decode cX1_thingAtPlace 22 = .ok (.if_icmp .eq 14, 3) := by decide +kernel
theorem dX1_thingAtPlace_25 : decode cX1_thingAtPlace 25 = .ok (.iload_n 2, 1) := by decide +kernel
theorem dX1_thingAtPlace_26 : decode cX1_thingAtPlace 26 = .ok (.iload_n 1, 1) := by decide +kernel
theorem dX1_thingAtPlace_27 : decode cX1_thingAtPlace 27 = .ok (.if_icmp .ne 6, 3) := by decide +kernel
theorem dX1_thingAtPlace_30 : decode cX1_thingAtPlace 30 = .ok (.iload 4, 2) := by decide +kernel
theorem dX1_thingAtPlace_32 : decode cX1_thingAtPlace 32 = .ok (.ireturn, 1) := by decide +kernel
theorem dX1_thingAtPlace_33 : decode cX1_thingAtPlace 33 = .ok (.iinc 2 1, 3) := by decide +kernel
theorem dX1_thingAtPlace_36 : decode cX1_thingAtPlace 36 = .ok (.iinc 3 1, 3) := by decide +kernel
theorem dX1_thingAtPlace_39 : decode cX1_thingAtPlace 39 = .ok (.goto (-35), 3) := by decide +kernel
theorem dX1_thingAtPlace_42 : decode cX1_thingAtPlace 42 = .ok (.iconst (-1), 1) := by decide +kernel
theorem dX1_thingAtPlace_43 : decode cX1_thingAtPlace 43 = .ok (.ireturn, 1) := by decide +kernel
theorem dX1_placeOf_0 : decode cX1_placeOf 0 = .ok (.iconst 0, 1) := by decide +kernel
theorem dX1_placeOf_1 : decode cX1_placeOf 1 = .ok (.istore_n 2, 1) := by decide +kernel
theorem dX1_placeOf_2 : decode cX1_placeOf 2 = .ok (.iconst 0, 1) := by decide +kernel
theorem dX1_placeOf_3 : decode cX1_placeOf 3 = .ok (.istore_n 3, 1) := by decide +kernel
theorem dX1_placeOf_4 : decode cX1_placeOf 4 = .ok (.iload_n 3, 1) := by decide +kernel
theorem dX1_placeOf_5 : decode cX1_placeOf 5 = .ok (.aload_n 0, 1) := by decide +kernel
theorem dX1_placeOf_6 : decode cX1_placeOf 6 = .ok (.getfield 9, 3) := by decide +kernel
theorem dX1_placeOf_9 : decode cX1_placeOf 9 = .ok (.if_icmp .ge 30, 3) := by decide +kernel
theorem dX1_placeOf_12 : decode cX1_placeOf 12 = .ok (.aload_n 0, 1) := by decide +kernel
theorem dX1_placeOf_13 : decode cX1_placeOf 13 = .ok (.iload_n 3, 1) := by decide +kernel
theorem dX1_placeOf_14 : decode cX1_placeOf 14 = .ok (.invokevirtual 46, 3) := by decide +kernel
theorem dX1_placeOf_17 : decode cX1_placeOf 17 = .ok (.iload_n 1, 1) := by decide +kernel
theorem dX1_placeOf_18 : decode cX1_placeOf 18 = .ok (.if_icmp .eq 21, 3) := by decide +kernel
theorem dX1_placeOf_21 : decode cX1_placeOf 21 = .ok (.aload_n 0, 1) := by decide +kernel
theorem dX1_placeOf_22 : decode cX1_placeOf 22 = .ok (.iload_n 3, 1) := by decide +kernel
theorem dX1_placeOf_23 : decode cX1_placeOf 23 = .ok (.invokevirtual 46, 3) := by decide +kernel
theorem dX1_placeOf_26 : decode cX1_placeOf 26 = .ok (.iconst (-1), 1) := by decide +kernel
theorem dX1_placeOf_27 : decode cX1_placeOf 27 = .ok (.if_icmp .eq 6, 3) := by decide +kernel
theorem dX1_placeOf_30 : decode cX1_placeOf 30 = .ok (.iinc 2 1, 3) := by decide +kernel
theorem dX1_placeOf_33 : decode cX1_placeOf 33 = .ok (.iinc 3 1, 3) := by decide +kernel
theorem dX1_placeOf_36 : decode cX1_placeOf 36 = .ok (.goto (-32), 3) := by decide +kernel
theorem dX1_placeOf_39 : decode cX1_placeOf 39 = .ok (.iload_n 2, 1) := by decide +kernel
theorem dX1_placeOf_40 : decode cX1_placeOf 40 = .ok (.ireturn, 1) := by decide +kernel
theorem dX1_indexOf_0 : decode cX1_indexOf 0 = .ok (.iconst 0, 1) := by decide +kernel
theorem dX1_indexOf_1 : decode cX1_indexOf 1 = .ok (.istore_n 2, 1) := by decide +kernel
theorem dX1_indexOf_2 : decode cX1_indexOf 2 = .ok (.iload_n 2, 1) := by decide +kernel
theorem dX1_indexOf_3 : decode cX1_indexOf 3 = .ok (.aload_n 0, 1) := by decide +kernel
theorem dX1_indexOf_4 : decode cX1_indexOf 4 = .ok (.getfield 9, 3) := by decide +kernel
theorem dX1_indexOf_7 : decode cX1_indexOf 7 = .ok (.if_icmp .ge 20, 3) := by decide +kernel
theorem dX1_indexOf_10 : decode cX1_indexOf 10 = .ok (.aload_n 0, 1) := by decide +kernel
theorem dX1_indexOf_11 : decode cX1_indexOf 11 = .ok (.iload_n 2, 1) := by decide +kernel
theorem dX1_indexOf_12 : decode cX1_indexOf 12 = .ok (.invokevirtual 46, 3) := by decide +kernel
theorem dX1_indexOf_15 : decode cX1_indexOf 15 = .ok (.iload_n 1, 1) := by decide +kernel
theorem dX1_indexOf_16 : decode cX1_indexOf 16 = .ok (.if_icmp .ne 5, 3) := by decide +kernel
theorem dX1_indexOf_19 : decode cX1_indexOf 19 = .ok (.iload_n 2, 1) := by decide +kernel
theorem dX1_indexOf_20 : decode cX1_indexOf 20 = .ok (.ireturn, 1) := by decide +kernel
theorem dX1_indexOf_21 : decode cX1_indexOf 21 = .ok (.iinc 2 1, 3) := by decide +kernel
theorem dX1_indexOf_24 : decode cX1_indexOf 24 = .ok (.goto (-22), 3) := by decide +kernel
theorem dX1_indexOf_27 : decode cX1_indexOf 27 = .ok (.aload_n 0, 1) := by decide +kernel
theorem dX1_indexOf_28 : decode cX1_indexOf 28 = .ok (.getfield 9, 3) := by decide +kernel
theorem dX1_indexOf_31 : decode cX1_indexOf 31 = .ok (.ireturn, 1) := by decide +kernel
theorem dX1_list_0 : decode cX1_list 0 = .ok (.iconst 0, 1) := by decide +kernel
theorem dX1_list_1 : decode cX1_list 1 = .ok (.istore_n 2, 1) := by decide +kernel
theorem dX1_list_2 : decode cX1_list 2 = .ok (.iconst 0, 1) := by decide +kernel
theorem dX1_list_3 : decode cX1_list 3 = .ok (.istore_n 3, 1) := by decide +kernel
theorem dX1_list_4 : decode cX1_list 4 = .ok (.iload_n 3, 1) := by decide +kernel
theorem dX1_list_5 : decode cX1_list 5 = .ok (.aload_n 0, 1) := by decide +kernel
theorem dX1_list_6 : decode cX1_list 6 = .ok (.getfield 9, 3) := by decide +kernel
theorem dX1_list_9 : decode cX1_list 9 = .ok (.if_icmp .ge 36, 3) := by decide +kernel
theorem dX1_list_12 : decode cX1_list 12 = .ok (.aload_n 0, 1) := by decide +kernel
theorem dX1_list_13 : decode cX1_list 13 = .ok (.iload_n 3, 1) := by decide +kernel
theorem dX1_list_14 : decode cX1_list 14 = .ok (.invokevirtual 46, 3) := by decide +kernel
theorem dX1_list_17 : decode cX1_list 17 = .ok (.istore 4, 2) := by decide +kernel
theorem dX1_list_19 : decode cX1_list 19 = .ok (.iload 4, 2) := by decide +kernel
theorem dX1_list_21 : decode cX1_list 21 = .ok (.iconst (-1), 1) := by decide +kernel
theorem dX1_list_22 : decode cX1_list 22 = .ok (.if_icmp .eq 17, 3) := by decide +kernel
theorem dX1_list_25 : decode cX1_list 25 = .ok (.iload_n 2, 1) := by decide +kernel
theorem dX1_list_26 : decode cX1_list 26 = .ok (.aload_n 1, 1) := by decide +kernel
theorem dX1_list_27 : decode cX1_list 27 = .ok (.arraylength, 1) := by decide +kernel
theorem dX1_list_28 : decode cX1_list 28 = .ok (.if_icmp .ge 11, 3) := by decide +kernel
theorem dX1_list_31 : decode cX1_list 31 = .ok (.aload_n 1, 1) := by decide +kernel
theorem dX1_list_32 : decode cX1_list 32 = .ok (.iload_n 2, 1) := by decide +kernel
theorem dX1_list_33 : decode cX1_list 33 = .ok (.iload 4, 2) := by decide +kernel
theorem dX1_list_35 : decode cX1_list 35 = .ok (.iastore, 1) := by decide +kernel
theorem dX1_list_36 : decode cX1_list 36 = .ok (.iinc 2 1, 3) := by decide +kernel
theorem dX1_list_39 : decode cX1_list 39 = .ok (.iinc 3 1, 3) := by decide +kernel
theorem dX1_list_42 : decode cX1_list 42 = .ok (.goto (-38), 3) := by decide +kernel
theorem dX1_list_45 : decode cX1_list 45 = .ok (.iload_n 2, 1) := by decide +kernel
theorem dX1_list_46 : decode cX1_list 46 = .ok (.ireturn, 1) := by decide +kernel
theorem dX1_insert_0 : decode cX1_insert 0 = .ok (.iload_n 1, 1) := by decide +kernel
theorem dX1_insert_1 : decode cX1_insert 1 = .ok (.ifCond .lt 20, 3) := by decide +kernel
theorem dX1_insert_4 : decode cX1_insert 4 = .ok (.iload_n 1, 1) := by decide +kernel
theorem dX1_insert_5 : decode cX1_insert 5 = .ok (.aload_n 0, 1) := by decide +kernel
theorem dX1_insert_6 : decode cX1_insert 6 = .ok (.getfield 9, 3) := by decide +kernel
theorem dX1_insert_9 : decode cX1_insert 9 = .ok (.if_icmp .gt 12, 3) := by decide +kernel
theorem dX1_insert_12 : decode cX1_insert 12 = .ok (.aload_n 0, 1) := by decide +kernel
theorem dX1_insert_13 : decode cX1_insert 13 = .ok (.getfield 9, 3) := by decide +kernel
theorem dX1_insert_16 : decode cX1_insert 16 = .ok (.bipush 68, 2) := by decide +kernel
theorem dX1_insert_18 : decode cX1_insert 18 = .ok (.if_icmp .lt 4, 3) := by decide +kernel
theorem dX1_insert_21 : decode cX1_insert 21 = .ok (.return_, 1) := by decide +kernel
theorem dX1_insert_22 : decode cX1_insert 22 = .ok (.aload_n 0, 1) := by decide +kernel
theorem dX1_insert_23 : decode cX1_insert 23 = .ok (.getfield 15, 3) := by decide +kernel
theorem dX1_insert_26 : decode cX1_insert 26 = .ok (.iload_n 1, 1) := by decide +kernel
theorem dX1_insert_27 : decode cX1_insert 27 = .ok (.aload_n 0, 1) := by decide +kernel
theorem dX1_insert_28 : decode cX1_insert 28 = .ok (.getfield 15, 3) := by decide +kernel
theorem dX1_insert_31 : decode cX1_insert 31 = .ok (.iload_n 1, 1) := by decide +kernel
theorem dX1_insert_32 : decode cX1_insert 32 = .ok (.iconst 1, 1) := by decide +kernel
theorem dX1_insert_33 : decode cX1_insert 33 = .ok (.iadd, 1) := by decide +kernel
theorem dX1_insert_34 : decode cX1_insert 34 = .ok (.aload_n 0, 1) := by decide +kernel
theorem dX1_insert_35 : decode cX1_insert 35 = .ok (.getfield 9, 3) := by decide +kernel
theorem dX1_insert_38 : decode cX1_insert 38 = .ok (.iload_n 1, 1) := by decide +kernel
theorem dX1_insert_39 : decode cX1_insert 39 = .ok (.isub, 1) := by decide +kernel
theorem dX1_insert_40 : decode cX1_insert 40 = .ok (.invokestatic 22, 3) := by decide +kernel
theorem dX1_insert_43 : decode cX1_insert 43 = .ok (.aload_n 0, 1) := by decide +kernel
theorem dX1_insert_44 : decode cX1_insert 44 = .ok (.getfield 15, 3) := by decide +kernel
theorem dX1_insert_47 : decode cX1_insert 47 = .ok (.iload_n 1, 1) := by decide +kernel
theorem dX1_insert_48 : decode cX1_insert 48 = .ok (.iload_n 2, 1) := by decide +kernel
theorem dX1_insert_49 : decode cX1_insert 49 = .ok (.iastore, 1) := by decide +kernel
theorem dX1_insert_50 : decode cX1_insert 50 = .ok (.aload_n 0, 1) := by decide +kernel
theorem dX1_insert_51 : decode cX1_insert 51 = .ok (.dup, 1) := by decide +kernel
theorem dX1_insert_52 : decode cX1_insert 52 = .ok (.getfield 9, 3) := by decide +kernel
theorem dX1_insert_55 : decode cX1_insert 55 = .ok (.iconst 1, 1) := by decide +kernel
theorem dX1_insert_56 : decode cX1_insert 56 = .ok (.iadd, 1) := by decide +kernel
theorem dX1_insert_57 : decode cX1_insert 57 = .ok (.putfield 9, 3) := by decide +kernel
theorem dX1_insert_60 : decode cX1_insert 60 = .ok (.iconst 0, 1) := by decide +kernel
theorem dX1_insert_61 : decode cX1_insert 61 = .ok (.istore_n 3, 1) := by decide +kernel
theorem dX1_insert_62 : decode cX1_insert 62 = .ok (.iload_n 3, 1) := by decide +kernel
theorem dX1_insert_63 : decode cX1_insert 63 = .ok (.iconst 4, 1) := by decide +kernel
theorem dX1_insert_64 : decode cX1_insert 64 = .ok (.if_icmp .ge 29, 3) := by decide +kernel
theorem dX1_insert_67 : decode cX1_insert 67 = .ok (.aload_n 0, 1) := by decide +kernel
theorem dX1_insert_68 : decode cX1_insert 68 = .ok (.getfield 19, 3) := by decide +kernel
theorem dX1_insert_71 : decode cX1_insert 71 = .ok (.iload_n 3, 1) := by decide +kernel
theorem dX1_insert_72 : decode cX1_insert 72 = .ok (.iaload, 1) := by decide +kernel
theorem dX1_insert_73 : decode cX1_insert 73 = .ok (.iload_n 1, 1) := by decide +kernel
theorem dX1_insert_74 : decode cX1_insert 74 = .ok (.if_icmp .lt 13, 3) := by decide +kernel
theorem dX1_insert_77 : decode cX1_insert 77 = .ok (.aload_n 0, 1) := by decide +kernel
theorem dX1_insert_78 : decode cX1_insert 78 = .ok (.getfield 19, 3) := by decide +kernel
theorem dX1_insert_81 : decode cX1_insert 81 = .ok (.iload_n 3, 1) := by decide +kernel
theorem dX1_insert_82 : decode cX1_insert 82 = .ok (.dup2, 1) := by decide +kernel
theorem dX1_insert_83 : decode cX1_insert 83 = .ok (.iaload, 1) := by decide +kernel
theorem dX1_insert_84 : decode cX1_insert 84 = .ok (.iconst 1, 1) := by decide +kernel
theorem dX1_insert_85 : decode cX1_insert 85 = .ok (.iadd, 1) := by decide +kernel
theorem dX1_insert_86 : decode cX1_insert 86 = .ok (.iastore, 1) := by decide +kernel
theorem dX1_insert_87 : decode cX1_insert 87 = .ok (.iinc 3 1, 3) := by decide +kernel
theorem dX1_insert_90 : decode cX1_insert 90 = .ok (.goto (-28), 3) := by decide +kernel
theorem dX1_insert_93 : decode cX1_insert 93 = .ok (.return_, 1) := by decide +kernel
theorem dX1_sweep_0 : decode cX1_sweep 0 = .ok (.aload_n 0, 1) := by decide +kernel
theorem dX1_sweep_1 : decode cX1_sweep 1 = .ok (.iload_n 1, 1) := by decide +kernel
theorem dX1_sweep_2 : decode cX1_sweep 2 = .ok (.invokevirtual 28, 3) := by decide +kernel
theorem dX1_sweep_5 : decode cX1_sweep 5 = .ok (.ifCond .eq 21, 3) := by decide +kernel
theorem dX1_sweep_8 : decode cX1_sweep 8 = .ok (.aload_n 0, 1) := by decide +kernel
theorem dX1_sweep_9 : decode cX1_sweep 9 = .ok (.getfield 15, 3) := by decide +kernel
theorem dX1_sweep_12 : decode cX1_sweep 12 = .ok (.iload_n 1, 1) := by decide +kernel
theorem dX1_sweep_13 : decode cX1_sweep 13 = .ok (.iaload, 1) := by decide +kernel
theorem dX1_sweep_14 : decode cX1_sweep 14 = .ok (.iconst (-1), 1) := by decide +kernel
theorem dX1_sweep_15 : decode cX1_sweep 15 = .ok (.if_icmp .ne 11, 3) := by decide +kernel
theorem dX1_sweep_18 : decode cX1_sweep 18 = .ok (.aload_n 0, 1) := by decide +kernel
theorem dX1_sweep_19 : decode cX1_sweep 19 = .ok (.iload_n 1, 1) := by decide +kernel
theorem dX1_sweep_20 : decode cX1_sweep 20 = .ok (.invokevirtual 49, 3) := by decide +kernel
theorem dX1_sweep_23 : decode cX1_sweep 23 = .ok (.ifCond .le 4, 3) := by decide +kernel
theorem dX1_sweep_26 : decode cX1_sweep 26 = .ok (.return_, 1) := by decide +kernel
theorem dX1_sweep_27 : decode cX1_sweep 27 = .ok (.aload_n 0, 1) := by decide +kernel
theorem dX1_sweep_28 : decode cX1_sweep 28 = .ok (.getfield 15, 3) := by decide +kernel
theorem dX1_sweep_31 : decode cX1_sweep 31 = .ok (.iload_n 1, 1) := by decide +kernel
theorem dX1_sweep_32 : decode cX1_sweep 32 = .ok (.iconst 1, 1) := by decide +kernel
theorem dX1_sweep_33 : decode cX1_sweep 33 = .ok (.iadd, 1) := by decide +kernel
theorem dX1_sweep_34 : decode cX1_sweep 34 = .ok (.aload_n 0, 1) := by decide +kernel
theorem dX1_sweep_35 : decode cX1_sweep 35 = .ok (.getfield 15, 3) := by decide +kernel
theorem dX1_sweep_38 : decode cX1_sweep 38 = .ok (.iload_n 1, 1) := by decide +kernel
theorem dX1_sweep_39 : decode cX1_sweep 39 = .ok (.aload_n 0, 1) := by decide +kernel
theorem dX1_sweep_40 : decode cX1_sweep 40 = .ok (.getfield 9, 3) := by decide +kernel
theorem dX1_sweep_43 : decode cX1_sweep 43 = .ok (.iload_n 1, 1) := by decide +kernel
theorem dX1_sweep_44 : decode cX1_sweep 44 = .ok (.isub, 1) := by decide +kernel
theorem dX1_sweep_45 : decode cX1_sweep 45 = .ok (.iconst 1, 1) := by decide +kernel
theorem dX1_sweep_46 : decode cX1_sweep 46 = .ok (.isub, 1) := by decide +kernel
theorem dX1_sweep_47 : decode cX1_sweep 47 = .ok (.invokestatic 22, 3) := by decide +kernel
theorem dX1_sweep_50 : decode cX1_sweep 50 = .ok (.aload_n 0, 1) := by decide +kernel
theorem dX1_sweep_51 : decode cX1_sweep 51 = .ok (.dup, 1) := by decide +kernel
theorem dX1_sweep_52 : decode cX1_sweep 52 = .ok (.getfield 9, 3) := by decide +kernel
theorem dX1_sweep_55 : decode cX1_sweep 55 = .ok (.iconst 1, 1) := by decide +kernel
theorem dX1_sweep_56 : decode cX1_sweep 56 = .ok (.isub, 1) := by decide +kernel
theorem dX1_sweep_57 : decode cX1_sweep 57 = .ok (.putfield 9, 3) := by decide +kernel
theorem dX1_sweep_60 : decode cX1_sweep 60 = .ok (.iconst 0, 1) := by decide +kernel
theorem dX1_sweep_61 : decode cX1_sweep 61 = .ok (.istore_n 2, 1) := by decide +kernel
theorem dX1_sweep_62 : decode cX1_sweep 62 = .ok (.iload_n 2, 1) := by decide +kernel
theorem dX1_sweep_63 : decode cX1_sweep 63 = .ok (.iconst 4, 1) := by decide +kernel
theorem dX1_sweep_64 : decode cX1_sweep 64 = .ok (.if_icmp .ge 29, 3) := by decide +kernel
theorem dX1_sweep_67 : decode cX1_sweep 67 = .ok (.aload_n 0, 1) := by decide +kernel
theorem dX1_sweep_68 : decode cX1_sweep 68 = .ok (.getfield 19, 3) := by decide +kernel
theorem dX1_sweep_71 : decode cX1_sweep 71 = .ok (.iload_n 2, 1) := by decide +kernel
theorem dX1_sweep_72 : decode cX1_sweep 72 = .ok (.iaload, 1) := by decide +kernel
theorem dX1_sweep_73 : decode cX1_sweep 73 = .ok (.iload_n 1, 1) := by decide +kernel
theorem dX1_sweep_74 : decode cX1_sweep 74 = .ok (.if_icmp .le 13, 3) := by decide +kernel
theorem dX1_sweep_77 : decode cX1_sweep 77 = .ok (.aload_n 0, 1) := by decide +kernel
theorem dX1_sweep_78 : decode cX1_sweep 78 = .ok (.getfield 19, 3) := by decide +kernel
theorem dX1_sweep_81 : decode cX1_sweep 81 = .ok (.iload_n 2, 1) := by decide +kernel
theorem dX1_sweep_82 : decode cX1_sweep 82 = .ok (.dup2, 1) := by decide +kernel
theorem dX1_sweep_83 : decode cX1_sweep 83 = .ok (.iaload, 1) := by decide +kernel
theorem dX1_sweep_84 : decode cX1_sweep 84 = .ok (.iconst 1, 1) := by decide +kernel
theorem dX1_sweep_85 : decode cX1_sweep 85 = .ok (.isub, 1) := by decide +kernel
theorem dX1_sweep_86 : decode cX1_sweep 86 = .ok (.iastore, 1) := by decide +kernel
theorem dX1_sweep_87 : decode cX1_sweep 87 = .ok (.iinc 2 1, 3) := by decide +kernel
theorem dX1_sweep_90 : decode cX1_sweep 90 = .ok (.goto (-28), 3) := by decide +kernel
theorem dX1_sweep_93 : decode cX1_sweep 93 = .ok (.return_, 1) := by decide +kernel
theorem dX1_bury_0 : decode cX1_bury 0 = .ok (.aload_n 0, 1) := by decide +kernel
theorem dX1_bury_1 : decode cX1_bury 1 = .ok (.iload_n 1, 1) := by decide +kernel
theorem dX1_bury_2 : decode cX1_bury 2 = .ok (.invokevirtual 52, 3) := by decide +kernel
theorem dX1_bury_5 : decode cX1_bury 5 = .ok (.istore_n 2, 1) := by decide +kernel
theorem dX1_bury_6 : decode cX1_bury 6 = .ok (.aload_n 0, 1) := by decide +kernel
theorem dX1_bury_7 : decode cX1_bury 7 = .ok (.iload_n 2, 1) := by decide +kernel
theorem dX1_bury_8 : decode cX1_bury 8 = .ok (.invokevirtual 28, 3) := by decide +kernel
theorem dX1_bury_11 : decode cX1_bury 11 = .ok (.ifCond .eq 15, 3) := by decide +kernel
theorem dX1_bury_14 : decode cX1_bury 14 = .ok (.aload_n 0, 1) := by decide +kernel
theorem dX1_bury_15 : decode cX1_bury 15 = .ok (.getfield 15, 3) := by decide +kernel
theorem dX1_bury_18 : decode cX1_bury 18 = .ok (.iload_n 2, 1) := by decide +kernel
theorem dX1_bury_19 : decode cX1_bury 19 = .ok (.iconst (-1), 1) := by decide +kernel
theorem dX1_bury_20 : decode cX1_bury 20 = .ok (.iastore, 1) := by decide +kernel
theorem dX1_bury_21 : decode cX1_bury 21 = .ok (.aload_n 0, 1) := by decide +kernel
theorem dX1_bury_22 : decode cX1_bury 22 = .ok (.iload_n 2, 1) := by decide +kernel
theorem dX1_bury_23 : decode cX1_bury 23 = .ok (.invokevirtual 55, 3) := by decide +kernel
theorem dX1_bury_26 : decode cX1_bury 26 = .ok (.return_, 1) := by decide +kernel
theorem dX1_rename_0 : decode cX1_rename 0 = .ok (.aload_n 0, 1) := by decide +kernel
theorem dX1_rename_1 : decode cX1_rename 1 = .ok (.iload_n 1, 1) := by decide +kernel
theorem dX1_rename_2 : decode cX1_rename 2 = .ok (.invokevirtual 52, 3) := by decide +kernel
theorem dX1_rename_5 : decode cX1_rename 5 = .ok (.istore_n 3, 1) := by decide +kernel
theorem dX1_rename_6 : decode cX1_rename 6 = .ok (.aload_n 0, 1) := by decide +kernel
theorem dX1_rename_7 : decode cX1_rename 7 = .ok (.iload_n 3, 1) := by decide +kernel
theorem dX1_rename_8 : decode cX1_rename 8 = .ok (.invokevirtual 28, 3) := by decide +kernel
theorem dX1_rename_11 : decode cX1_rename 11 = .ok (.ifCond .eq 10, 3) := by decide +kernel
theorem dX1_rename_14 : decode cX1_rename 14 = .ok (.aload_n 0, 1) := by decide +kernel
theorem dX1_rename_15 : decode cX1_rename 15 = .ok (.getfield 15, 3) := by decide +kernel
theorem dX1_rename_18 : decode cX1_rename 18 = .ok (.iload_n 3, 1) := by decide +kernel
theorem dX1_rename_19 : decode cX1_rename 19 = .ok (.iload_n 2, 1) := by decide +kernel
theorem dX1_rename_20 : decode cX1_rename 20 = .ok (.iastore, 1) := by decide +kernel
theorem dX1_rename_21 : decode cX1_rename 21 = .ok (.return_, 1) := by decide +kernel
theorem dX1_walkersOn_0 : decode cX1_walkersOn 0 = .ok (.iconst 0, 1) := by decide +kernel
theorem dX1_walkersOn_1 : decode cX1_walkersOn 1 = .ok (.istore_n 2, 1) := by decide +kernel
theorem dX1_walkersOn_2 : decode cX1_walkersOn 2 = .ok (.iconst 0, 1) := by decide +kernel
theorem dX1_walkersOn_3 : decode cX1_walkersOn 3 = .ok (.istore_n 3, 1) := by decide +kernel
theorem dX1_walkersOn_4 : decode cX1_walkersOn 4 = .ok (.iload_n 3, 1) := by decide +kernel
theorem dX1_walkersOn_5 : decode cX1_walkersOn 5 = .ok (.iconst 4, 1) := by decide +kernel
theorem dX1_walkersOn_6 : decode cX1_walkersOn 6 = .ok (.if_icmp .ge 22, 3) := by decide +kernel
theorem dX1_walkersOn_9 : decode cX1_walkersOn 9 = .ok (.aload_n 0, 1) := by decide +kernel
theorem dX1_walkersOn_10 : decode cX1_walkersOn 10 = .ok (.getfield 19, 3) := by decide +kernel
theorem dX1_walkersOn_13 : decode cX1_walkersOn 13 = .ok (.iload_n 3, 1) := by decide +kernel
theorem dX1_walkersOn_14 : decode cX1_walkersOn 14 = .ok (.iaload, 1) := by decide +kernel
theorem dX1_walkersOn_15 : decode cX1_walkersOn 15 = .ok (.iload_n 1, 1) := by decide +kernel
theorem dX1_walkersOn_16 : decode cX1_walkersOn 16 = .ok (.if_icmp .ne 6, 3) := by decide +kernel
theorem dX1_walkersOn_19 : decode cX1_walkersOn 19 = .ok (.iinc 2 1, 3) := by decide +kernel
theorem dX1_walkersOn_22 : decode cX1_walkersOn 22 = .ok (.iinc 3 1, 3) := by decide +kernel
theorem dX1_walkersOn_25 : decode cX1_walkersOn 25 = .ok (.goto (-21), 3) := by decide +kernel
theorem dX1_walkersOn_28 : decode cX1_walkersOn 28 = .ok (.iload_n 2, 1) := by decide +kernel
theorem dX1_walkersOn_29 : decode cX1_walkersOn 29 = .ok (.ireturn, 1) := by decide +kernel
theorem dX1_standOf_0 : decode cX1_standOf 0 = .ok (.aload_n 0, 1) := by decide +kernel
theorem dX1_standOf_1 : decode cX1_standOf 1 = .ok (.iload_n 1, 1) := by decide +kernel
theorem dX1_standOf_2 : decode cX1_standOf 2 = .ok (.invokevirtual 59, 3) := by decide +kernel
theorem dX1_standOf_5 : decode cX1_standOf 5 = .ok (.istore_n 2, 1) := by decide +kernel
theorem dX1_standOf_6 : decode cX1_standOf 6 = .ok (.iload_n 2, 1) := by decide +kernel
theorem dX1_standOf_7 : decode cX1_standOf 7 = .ok (.bipush (-2), 2) := by decide +kernel
theorem dX1_standOf_9 : decode cX1_standOf 9 = .ok (.if_icmp .ne 5, 3) := by decide +kernel
theorem dX1_standOf_12 : decode cX1_standOf 12 = .ok (.iconst 3, 1) := by decide +kernel
theorem dX1_standOf_13 : decode cX1_standOf 13 = .ok (.ireturn, 1) := by decide +kernel
theorem dX1_standOf_14 : decode cX1_standOf 14 = .ok (.iload_n 2, 1) := by decide +kernel
theorem dX1_standOf_15 : decode cX1_standOf 15 = .ok (.iconst (-1), 1) := by decide +kernel
theorem dX1_standOf_16 : decode cX1_standOf 16 = .ok (.if_icmp .ne 5, 3) := by decide +kernel
theorem dX1_standOf_19 : decode cX1_standOf 19 = .ok (.iconst 0, 1) := by decide +kernel
theorem dX1_standOf_20 : decode cX1_standOf 20 = .ok (.ireturn, 1) := by decide +kernel
theorem dX1_standOf_21 : decode cX1_standOf 21 = .ok (.aload_n 0, 1) := by decide +kernel
theorem dX1_standOf_22 : decode cX1_standOf 22 = .ok (.iload_n 2, 1) := by decide +kernel
theorem dX1_standOf_23 : decode cX1_standOf 23 = .ok (.invokevirtual 46, 3) := by decide +kernel
theorem dX1_standOf_26 : decode cX1_standOf 26 = .ok (.iconst (-1), 1) := by decide +kernel
theorem dX1_standOf_27 : decode cX1_standOf 27 = .ok (.if_icmp .eq 7, 3) := by decide +kernel
theorem dX1_standOf_30 : decode cX1_standOf 30 = .ok (.iconst 1, 1) := by decide +kernel
theorem dX1_standOf_31 : decode cX1_standOf 31 = .ok (.goto 4, 3) := by decide +kernel
theorem dX1_standOf_34 : decode cX1_standOf 34 = .ok (.iconst 2, 1) := by decide +kernel
theorem dX1_standOf_35 : decode cX1_standOf 35 = .ok (.ireturn, 1) := by decide +kernel
theorem dX1_thingUnder_0 : decode cX1_thingUnder 0 = .ok (.aload_n 0, 1) := by decide +kernel
theorem dX1_thingUnder_1 : decode cX1_thingUnder 1 = .ok (.aload_n 0, 1) := by decide +kernel
theorem dX1_thingUnder_2 : decode cX1_thingUnder 2 = .ok (.iload_n 1, 1) := by decide +kernel
theorem dX1_thingUnder_3 : decode cX1_thingUnder 3 = .ok (.invokevirtual 59, 3) := by decide +kernel
theorem dX1_thingUnder_6 : decode cX1_thingUnder 6 = .ok (.invokevirtual 46, 3) := by decide +kernel
theorem dX1_thingUnder_9 : decode cX1_thingUnder 9 = .ok (.ireturn, 1) := by decide +kernel
theorem dX1_thingsBehind_0 : decode cX1_thingsBehind 0 = .ok (.aload_n 0, 1) := by decide +kernel
theorem dX1_thingsBehind_1 : decode cX1_thingsBehind 1 = .ok (.iload_n 1, 1) := by decide +kernel
theorem dX1_thingsBehind_2 : decode cX1_thingsBehind 2 = .ok (.invokevirtual 59, 3) := by decide +kernel
theorem dX1_thingsBehind_5 : decode cX1_thingsBehind 5 = .ok (.istore_n 2, 1) := by decide +kernel
theorem dX1_thingsBehind_6 : decode cX1_thingsBehind 6 = .ok (.iload_n 2, 1) := by decide +kernel
theorem dX1_thingsBehind_7 : decode cX1_thingsBehind 7 = .ok (.bipush (-2), 2) := by decide +kernel
theorem dX1_thingsBehind_9 : decode cX1_thingsBehind 9 = .ok (.if_icmp .ne 7, 3) := by decide +kernel
theorem dX1_thingsBehind_12 : decode cX1_thingsBehind 12 = .ok (.iconst 0, 1) := by decide +kernel
theorem dX1_thingsBehind_13 : decode cX1_thingsBehind 13 = .ok (.goto 10, 3) := by decide +kernel
theorem dX1_thingsBehind_16 : decode cX1_thingsBehind 16 = .ok (.aload_n 0, 1) := by decide +kernel
theorem dX1_thingsBehind_17 : decode cX1_thingsBehind 17 = .ok (.iload_n 2, 1) := by decide +kernel
theorem dX1_thingsBehind_18 : decode cX1_thingsBehind 18 = .ok (.iconst 1, 1) := by decide +kernel
theorem dX1_thingsBehind_19 : decode cX1_thingsBehind 19 = .ok (.iadd, 1) := by decide +kernel
theorem dX1_thingsBehind_20 : decode cX1_thingsBehind 20 = .ok (.invokevirtual 32, 3) := by decide +kernel
theorem dX1_thingsBehind_23 : decode cX1_thingsBehind 23 = .ok (.ireturn, 1) := by decide +kernel
theorem dX1_sendAhead_0 : decode cX1_sendAhead 0 = .ok (.aload_n 0, 1) := by decide +kernel
theorem dX1_sendAhead_1 : decode cX1_sendAhead 1 = .ok (.iload_n 1, 1) := by decide +kernel
theorem dX1_sendAhead_2 : decode cX1_sendAhead 2 = .ok (.iconst (-1), 1) := by decide +kernel
theorem dX1_sendAhead_3 : decode cX1_sendAhead 3 = .ok (.invokevirtual 62, 3) := by decide +kernel
theorem dX1_sendAhead_6 : decode cX1_sendAhead 6 = .ok (.return_, 1) := by decide +kernel
theorem dX1_sendOn_0 : decode cX1_sendOn 0 = .ok (.aload_n 0, 1) := by decide +kernel
theorem dX1_sendOn_1 : decode cX1_sendOn 1 = .ok (.iload_n 1, 1) := by decide +kernel
theorem dX1_sendOn_2 : decode cX1_sendOn 2 = .ok (.invokevirtual 59, 3) := by decide +kernel
theorem dX1_sendOn_5 : decode cX1_sendOn 5 = .ok (.istore_n 2, 1) := by decide +kernel
theorem dX1_sendOn_6 : decode cX1_sendOn 6 = .ok (.iload_n 2, 1) := by decide +kernel
theorem dX1_sendOn_7 : decode cX1_sendOn 7 = .ok (.bipush (-2), 2) := by decide +kernel
theorem dX1_sendOn_9 : decode cX1_sendOn 9 = .ok (.if_icmp .eq 15, 3) := by decide +kernel
theorem dX1_sendOn_12 : decode cX1_sendOn 12 = .ok (.aload_n 0, 1) := by decide +kernel
theorem dX1_sendOn_13 : decode cX1_sendOn 13 = .ok (.iload_n 1, 1) := by decide +kernel
theorem dX1_sendOn_14 : decode cX1_sendOn 14 = .ok (.aload_n 0, 1) := by decide +kernel
theorem dX1_sendOn_15 : decode cX1_sendOn 15 = .ok (.iload_n 2, 1) := by decide +kernel
theorem dX1_sendOn_16 : decode cX1_sendOn 16 = .ok (.iconst 1, 1) := by decide +kernel
theorem dX1_sendOn_17 : decode cX1_sendOn 17 = .ok (.iadd, 1) := by decide +kernel
theorem dX1_sendOn_18 : decode cX1_sendOn 18 = .ok (.invokevirtual 66, 3) := by decide +kernel
theorem dX1_sendOn_21 : decode cX1_sendOn 21 = .ok (.invokevirtual 62, 3) := by decide +kernel
theorem dX1_sendOn_24 : decode cX1_sendOn 24 = .ok (.return_, 1) := by decide +kernel
theorem dX1_indexUnder_0 : decode cX1_indexUnder 0 = .ok (.iload_n 1, 1) := by decide +kernel
theorem dX1_indexUnder_1 : decode cX1_indexUnder 1 = .ok (.invokestatic 69, 3) := by decide +kernel
theorem dX1_indexUnder_4 : decode cX1_indexUnder 4 = .ok (.ifCond .eq 12, 3) := by decide +kernel
theorem dX1_indexUnder_7 : decode cX1_indexUnder 7 = .ok (.aload_n 0, 1) := by decide +kernel
theorem dX1_indexUnder_8 : decode cX1_indexUnder 8 = .ok (.getfield 19, 3) := by decide +kernel
theorem dX1_indexUnder_11 : decode cX1_indexUnder 11 = .ok (.iload_n 1, 1) := by decide +kernel
theorem dX1_indexUnder_12 : decode cX1_indexUnder 12 = .ok (.iaload, 1) := by decide +kernel
theorem dX1_indexUnder_13 : decode cX1_indexUnder 13 = .ok (.goto 4, 3) := by decide +kernel
theorem dX1_indexUnder_16 : decode cX1_indexUnder 16 = .ok (.iconst (-1), 1) := by decide +kernel
theorem dX1_indexUnder_17 : decode cX1_indexUnder 17 = .ok (.ireturn, 1) := by decide +kernel
theorem dX1_nextThing_0 : decode cX1_nextThing 0 = .ok (.iload_n 1, 1) := by decide +kernel
theorem dX1_nextThing_1 : decode cX1_nextThing 1 = .ok (.istore_n 2, 1) := by decide +kernel
theorem dX1_nextThing_2 : decode cX1_nextThing 2 = .ok (.iload_n 2, 1) := by decide +kernel
theorem dX1_nextThing_3 : decode cX1_nextThing 3 = .ok (.aload_n 0, 1) := by decide +kernel
theorem dX1_nextThing_4 : decode cX1_nextThing 4 = .ok (.getfield 9, 3) := by decide +kernel
theorem dX1_nextThing_7 : decode cX1_nextThing 7 = .ok (.if_icmp .ge 20, 3) := by decide +kernel
theorem dX1_nextThing_10 : decode cX1_nextThing 10 = .ok (.aload_n 0, 1) := by decide +kernel
theorem dX1_nextThing_11 : decode cX1_nextThing 11 = .ok (.iload_n 2, 1) := by decide +kernel
theorem dX1_nextThing_12 : decode cX1_nextThing 12 = .ok (.invokevirtual 46, 3) := by decide +kernel
theorem dX1_nextThing_15 : decode cX1_nextThing 15 = .ok (.iconst (-1), 1) := by decide +kernel
theorem dX1_nextThing_16 : decode cX1_nextThing 16 = .ok (.if_icmp .eq 5, 3) := by decide +kernel
theorem dX1_nextThing_19 : decode cX1_nextThing 19 = .ok (.iload_n 2, 1) := by decide +kernel
theorem dX1_nextThing_20 : decode cX1_nextThing 20 = .ok (.ireturn, 1) := by decide +kernel
theorem dX1_nextThing_21 : decode cX1_nextThing 21 = .ok (.iinc 2 1, 3) := by decide +kernel
theorem dX1_nextThing_24 : decode cX1_nextThing 24 = .ok (.goto (-22), 3) := by decide +kernel
theorem dX1_nextThing_27 : decode cX1_nextThing 27 = .ok (.bipush (-2), 2) := by decide +kernel
theorem dX1_nextThing_29 : decode cX1_nextThing 29 = .ok (.ireturn, 1) := by decide +kernel
theorem dX1_send_0 : decode cX1_send 0 = .ok (.iload_n 1, 1) := by decide +kernel
theorem dX1_send_1 : decode cX1_send 1 = .ok (.invokestatic 69, 3) := by decide +kernel
theorem dX1_send_4 : decode cX1_send 4 = .ok (.ifCond .eq 22, 3) := by decide +kernel
theorem dX1_send_7 : decode cX1_send 7 = .ok (.aload_n 0, 1) := by decide +kernel
theorem dX1_send_8 : decode cX1_send 8 = .ok (.getfield 19, 3) := by decide +kernel
theorem dX1_send_11 : decode cX1_send 11 = .ok (.iload_n 1, 1) := by decide +kernel
theorem dX1_send_12 : decode cX1_send 12 = .ok (.iaload, 1) := by decide +kernel
theorem dX1_send_13 : decode cX1_send 13 = .ok (.istore_n 3, 1) := by decide +kernel
theorem dX1_send_14 : decode cX1_send 14 = .ok (.aload_n 0, 1) := by decide +kernel
theorem dX1_send_15 : decode cX1_send 15 = .ok (.getfield 19, 3) := by decide +kernel
theorem dX1_send_18 : decode cX1_send 18 = .ok (.iload_n 1, 1) := by decide +kernel
theorem dX1_send_19 : decode cX1_send 19 = .ok (.iload_n 2, 1) := by decide +kernel
theorem dX1_send_20 : decode cX1_send 20 = .ok (.iastore, 1) := by decide +kernel
theorem dX1_send_21 : decode cX1_send 21 = .ok (.aload_n 0, 1) := by decide +kernel
theorem dX1_send_22 : decode cX1_send 22 = .ok (.iload_n 3, 1) := by decide +kernel
theorem dX1_send_23 : decode cX1_send 23 = .ok (.invokevirtual 55, 3) := by decide +kernel
theorem dX1_send_26 : decode cX1_send 26 = .ok (.return_, 1) := by decide +kernel
theorem dX2_init_0 : decode cX2_init 0 = .ok (.aload_n 0, 1) := by decide +kernel
theorem dX2_init_1 : decode cX2_init 1 = .ok (.invokespecial 3, 3) := by decide +kernel
theorem dX2_init_4 : decode cX2_init 4 = .ok (.aload_n 0, 1) := by decide +kernel
theorem dX2_init_5 : decode cX2_init 5 = .ok (.bipush 16, 2) := by decide +kernel
theorem dX2_init_7 : decode cX2_init 7 = .ok (.putfield 9, 3) := by decide +kernel
theorem dX2_init_10 : decode cX2_init 10 = .ok (.aload_n 0, 1) := by decide +kernel
theorem dX2_init_11 : decode cX2_init 11 = .ok (.bipush 64, 2) := by decide +kernel
theorem dX2_init_13 : decode cX2_init 13 = .ok (.newarray .int, 2) := by decide +kernel
theorem dX2_init_15 : decode cX2_init 15 = .ok (.putfield 15, 3) := by decide +kernel
theorem dX2_init_18 : decode cX2_init 18 = .ok (.aload_n 0, 1) := by decide +kernel
theorem dX2_init_19 : decode cX2_init 19 = .ok (.bipush 64, 2) := by decide +kernel
theorem dX2_init_21 : decode cX2_init 21 = .ok (.newarray .int, 2) := by decide +kernel
theorem dX2_init_23 : decode cX2_init 23 = .ok (.putfield 19, 3) := by decide +kernel
theorem dX2_init_26 : decode cX2_init 26 = .ok (.aload_n 0, 1) := by decide +kernel
theorem dX2_init_27 : decode cX2_init 27 = .ok (.bipush 64, 2) := by decide +kernel
theorem dX2_init_29 : decode cX2_init 29 = .ok (.newarray .int, 2) := by decide +kernel
theorem dX2_init_31 : decode cX2_init 31 = .ok (.putfield 22, 3) := by decide +kernel
theorem dX2_init_34 : decode cX2_init 34 = .ok (.aload_n 0, 1) := by decide +kernel
theorem dX2_init_35 : decode cX2_init 35 = .ok (.bipush 64, 2) := by decide +kernel
theorem dX2_init_37 : decode cX2_init 37 = .ok (.newarray .int, 2) := by decide +kernel
theorem dX2_init_39 : decode cX2_init 39 = .ok (.putfield 25, 3) := by decide +kernel
theorem dX2_init_42 : decode cX2_init 42 = .ok (.aload_n 0, 1) := by decide +kernel
theorem dX2_init_43 : decode cX2_init 43 = .ok (.bipush 64, 2) := by decide +kernel
theorem dX2_init_45 : decode cX2_init 45 = .ok (.newarray .int, 2) := by decide +kernel
theorem dX2_init_47 : decode cX2_init 47 = .ok (.putfield 28, 3) := by decide +kernel
theorem dX2_init_50 : decode cX2_init 50 = .ok (.aload_n 0, 1) := by decide +kernel
theorem dX2_init_51 : decode cX2_init 51 = .ok (.bipush 64, 2) := by decide +kernel
theorem dX2_init_53 : decode cX2_init 53 = .ok (.newarray .int, 2) := by decide +kernel
theorem dX2_init_55 : decode cX2_init 55 = .ok (.putfield 31, 3) := by decide +kernel
theorem dX2_init_58 : decode cX2_init 58 = .ok (.iconst 0, 1) := by decide +kernel
theorem dX2_init_59 : decode cX2_init 59 = .ok (.istore_n 1, 1) := by decide +kernel
theorem dX2_init_60 : decode cX2_init 60 = .ok (.iload_n 1, 1) := by decide +kernel
theorem dX2_init_61 : decode cX2_init 61 = .ok (.bipush 64, 2) := by decide +kernel
theorem dX2_init_63 : decode cX2_init 63 = .ok (.if_icmp .ge 16, 3) := by decide +kernel
theorem dX2_init_66 : decode cX2_init 66 = .ok (.aload_n 0, 1) := by decide +kernel
theorem dX2_init_67 : decode cX2_init 67 = .ok (.getfield 19, 3) := by decide +kernel
theorem dX2_init_70 : decode cX2_init 70 = .ok (.iload_n 1, 1) := by decide +kernel
theorem dX2_init_71 : decode cX2_init 71 = .ok (.iconst (-1), 1) := by decide +kernel
theorem dX2_init_72 : decode cX2_init 72 = .ok (.iastore, 1) := by decide +kernel
theorem dX2_init_73 : decode cX2_init 73 = .ok (.iinc 1 1, 3) := by decide +kernel
theorem dX2_init_76 : decode cX2_init 76 = .ok (.goto (-16), 3) := by decide +kernel
theorem dX2_init_79 : decode cX2_init 79 = .ok (.return_, 1) := by decide +kernel
theorem dX2_copyFrom_0 : decode cX2_copyFrom 0 = .ok (.aload_n 0, 1) := by decide +kernel
theorem dX2_copyFrom_1 : decode cX2_copyFrom 1 = .ok (.aload_n 1, 1) := by decide +kernel
theorem dX2_copyFrom_2 : decode cX2_copyFrom 2 = .ok (.getfield 9, 3) := by decide +kernel
theorem dX2_copyFrom_5 : decode cX2_copyFrom 5 = .ok (.putfield 9, 3) := by decide +kernel
theorem dX2_copyFrom_8 : decode cX2_copyFrom 8 = .ok (.aload_n 1, 1) := by decide +kernel
theorem dX2_copyFrom_9 : decode cX2_copyFrom 9 = .ok (.getfield 15, 3) := by decide +kernel
theorem dX2_copyFrom_12 : decode cX2_copyFrom 12 = .ok (.iconst 0, 1) := by decide +kernel
theorem dX2_copyFrom_13 : decode cX2_copyFrom 13 = .ok (.aload_n 0, 1) := by decide +kernel
theorem dX2_copyFrom_14 : decode cX2_copyFrom 14 = .ok (.getfield 15, 3) := by decide +kernel
theorem dX2_copyFrom_17 : decode cX2_copyFrom 17 = .ok (.iconst 0, 1) := by decide +kernel
theorem dX2_copyFrom_18 : decode cX2_copyFrom 18 = .ok (.bipush 64, 2) := by decide +kernel
theorem dX2_copyFrom_20 : decode cX2_copyFrom 20 = .ok (.invokestatic 34, 3) := by decide +kernel
theorem dX2_copyFrom_23 : decode cX2_copyFrom 23 = .ok (.aload_n 1, 1) := by decide +kernel
theorem dX2_copyFrom_24 : decode cX2_copyFrom 24 = .ok (.getfield 19, 3) := by decide +kernel
theorem dX2_copyFrom_27 : decode cX2_copyFrom 27 = .ok (.iconst 0, 1) := by decide +kernel
theorem dX2_copyFrom_28 : decode cX2_copyFrom 28 = .ok (.aload_n 0, 1) := by decide +kernel
theorem dX2_copyFrom_29 : decode cX2_copyFrom 29 = .ok (.getfield 19, 3) := by decide +kernel
theorem dX2_copyFrom_32 : decode cX2_copyFrom 32 = .ok (.iconst 0, 1) := by decide +kernel
theorem dX2_copyFrom_33 : decode cX2_copyFrom 33 = .ok (.bipush 64, 2) := by decide +kernel
theorem dX2_copyFrom_35 : decode cX2_copyFrom 35 = .ok (.invokestatic 34, 3) := by decide +kernel
theorem dX2_copyFrom_38 : decode cX2_copyFrom 38 = .ok (.aload_n 1, 1) := by decide +kernel
theorem dX2_copyFrom_39 : decode cX2_copyFrom 39 = .ok (.getfield 22, 3) := by decide +kernel
theorem dX2_copyFrom_42 : decode cX2_copyFrom 42 = .ok (.iconst 0, 1) := by decide +kernel
theorem dX2_copyFrom_43 : decode cX2_copyFrom 43 = .ok (.aload_n 0, 1) := by decide +kernel
theorem dX2_copyFrom_44 : decode cX2_copyFrom 44 = .ok (.getfield 22, 3) := by decide +kernel
theorem dX2_copyFrom_47 : decode cX2_copyFrom 47 = .ok (.iconst 0, 1) := by decide +kernel
theorem dX2_copyFrom_48 : decode cX2_copyFrom 48 = .ok (.bipush 64, 2) := by decide +kernel
theorem dX2_copyFrom_50 : decode cX2_copyFrom 50 = .ok (.invokestatic 34, 3) := by decide +kernel
theorem dX2_copyFrom_53 : decode cX2_copyFrom 53 = .ok (.aload_n 1, 1) := by decide +kernel
theorem dX2_copyFrom_54 : decode cX2_copyFrom 54 = .ok (.getfield 25, 3) := by decide +kernel
theorem dX2_copyFrom_57 : decode cX2_copyFrom 57 = .ok (.iconst 0, 1) := by decide +kernel
theorem dX2_copyFrom_58 : decode cX2_copyFrom 58 = .ok (.aload_n 0, 1) := by decide +kernel
theorem dX2_copyFrom_59 : decode cX2_copyFrom 59 = .ok (.getfield 25, 3) := by decide +kernel
theorem dX2_copyFrom_62 : decode cX2_copyFrom 62 = .ok (.iconst 0, 1) := by decide +kernel
theorem dX2_copyFrom_63 : decode cX2_copyFrom 63 = .ok (.bipush 64, 2) := by decide +kernel
theorem dX2_copyFrom_65 : decode cX2_copyFrom 65 = .ok (.invokestatic 34, 3) := by decide +kernel
theorem dX2_copyFrom_68 : decode cX2_copyFrom 68 = .ok (.aload_n 1, 1) := by decide +kernel
theorem dX2_copyFrom_69 : decode cX2_copyFrom 69 = .ok (.getfield 28, 3) := by decide +kernel
theorem dX2_copyFrom_72 : decode cX2_copyFrom 72 = .ok (.iconst 0, 1) := by decide +kernel
theorem dX2_copyFrom_73 : decode cX2_copyFrom 73 = .ok (.aload_n 0, 1) := by decide +kernel
theorem dX2_copyFrom_74 : decode cX2_copyFrom 74 = .ok (.getfield 28, 3) := by decide +kernel
theorem dX2_copyFrom_77 : decode cX2_copyFrom 77 = .ok (.iconst 0, 1) := by decide +kernel
theorem dX2_copyFrom_78 : decode cX2_copyFrom 78 = .ok (.bipush 64, 2) := by decide +kernel
theorem dX2_copyFrom_80 : decode cX2_copyFrom 80 = .ok (.invokestatic 34, 3) := by decide +kernel
theorem dX2_copyFrom_83 : decode cX2_copyFrom 83 = .ok (.aload_n 1, 1) := by decide +kernel
theorem dX2_copyFrom_84 : decode cX2_copyFrom 84 = .ok (.getfield 31, 3) := by decide +kernel
theorem dX2_copyFrom_87 : decode cX2_copyFrom 87 = .ok (.iconst 0, 1) := by decide +kernel
theorem dX2_copyFrom_88 : decode cX2_copyFrom 88 = .ok (.aload_n 0, 1) := by decide +kernel
theorem dX2_copyFrom_89 : decode cX2_copyFrom 89 = .ok (.getfield 31, 3) := by decide +kernel
theorem dX2_copyFrom_92 : decode cX2_copyFrom 92 = .ok (.iconst 0, 1) := by decide +kernel
theorem dX2_copyFrom_93 : decode cX2_copyFrom 93 = .ok (.bipush 64, 2) := by decide +kernel
theorem dX2_copyFrom_95 : decode cX2_copyFrom 95 = .ok (.invokestatic 34, 3) := by decide +kernel
theorem dX2_copyFrom_98 : decode cX2_copyFrom 98 = .ok (.return_, 1) := by decide +kernel
theorem dX2_isCell_0 : decode cX2_isCell 0 = .ok (.iload_n 1, 1) := by decide +kernel
theorem dX2_isCell_1 : decode cX2_isCell 1 = .ok (.ifCond .lt 21, 3) := by decide +kernel
theorem dX2_isCell_4 : decode cX2_isCell 4 = .ok (.iload_n 1, 1) := by decide +kernel
theorem dX2_isCell_5 : decode cX2_isCell 5 = .ok (.aload_n 0, 1) := by decide +kernel
theorem dX2_isCell_6 : decode cX2_isCell 6 = .ok (.getfield 9, 3) := by decide +kernel
theorem dX2_isCell_9 : decode cX2_isCell 9 = .ok (.if_icmp .ge 13, 3) := by decide +kernel
theorem dX2_isCell_12 : decode cX2_isCell 12 = .ok (.iload_n 1, 1) := by decide +kernel
theorem dX2_isCell_13 : decode cX2_isCell 13 = .ok (.bipush 64, 2) := by decide +kernel
theorem dX2_isCell_15 : decode cX2_isCell 15 = .ok (.if_icmp .ge 7, 3) := by decide +kernel
theorem dX2_isCell_18 : decode cX2_isCell 18 = .ok (.iconst 1, 1) := by decide +kernel
theorem dX2_isCell_19 : decode cX2_isCell 19 = .ok (.goto 4, 3) := by decide +kernel
theorem dX2_isCell_22 : decode cX2_isCell 22 = .ok (.iconst 0, 1) := by decide +kernel
theorem dX2_isCell_23 : decode cX2_isCell 23 = .ok (.ireturn, 1) := by decide +kernel
theorem dX2_cellsNow_0 : decode cX2_cellsNow 0 = .ok (.aload_n 0, 1) := by decide +kernel
theorem dX2_cellsNow_1 : decode cX2_cellsNow 1 = .ok (.getfield 9, 3) := by decide +kernel
theorem dX2_cellsNow_4 : decode cX2_cellsNow 4 = .ok (.ireturn, 1) := by decide +kernel
theorem dX2_stampAt_0 : decode cX2_stampAt 0 = .ok (.aload_n 0, 1) := by decide +kernel
theorem dX2_stampAt_1 : decode cX2_stampAt 1 = .ok (.iload_n 1, 1) := by decide +kernel
theorem dX2_stampAt_2 : decode cX2_stampAt 2 = .ok (.invokevirtual 40, 3) := by decide +kernel
theorem dX2_stampAt_5 : decode cX2_stampAt 5 = .ok (.ifCond .eq 12, 3) := by decide +kernel
theorem dX2_stampAt_8 : decode cX2_stampAt 8 = .ok (.aload_n 0, 1) := by decide +kernel
theorem dX2_stampAt_9 : decode cX2_stampAt 9 = .ok (.getfield 15, 3) := by decide +kernel
theorem dX2_stampAt_12 : decode cX2_stampAt 12 = .ok (.iload_n 1, 1) := by decide +kernel
theorem dX2_stampAt_13 : decode cX2_stampAt 13 = .ok (.iaload, 1) := by decide +kernel
theorem dX2_stampAt_14 : decode cX2_stampAt 14 = .ok (.goto 4, 3) := by decide +kernel
theorem dX2_stampAt_17 : decode cX2_stampAt 17 = .ok (.iconst 0, 1) := by decide +kernel
theorem dX2_stampAt_18 : decode cX2_stampAt 18 = .ok (.ireturn, 1) := by decide +kernel
theorem dX2_ownerOf_0 : decode cX2_ownerOf 0 = .ok (.aload_n 0, 1) := by decide +kernel
theorem dX2_ownerOf_1 : decode cX2_ownerOf 1 = .ok (.iload_n 1, 1) := by decide +kernel
theorem dX2_ownerOf_2 : decode cX2_ownerOf 2 = .ok (.invokevirtual 40, 3) := by decide +kernel
theorem dX2_ownerOf_5 : decode cX2_ownerOf 5 = .ok (.ifCond .eq 12, 3) := by decide +kernel
theorem dX2_ownerOf_8 : decode cX2_ownerOf 8 = .ok (.aload_n 0, 1) := by decide +kernel
theorem dX2_ownerOf_9 : decode cX2_ownerOf 9 = .ok (.getfield 19, 3) := by decide +kernel
theorem dX2_ownerOf_12 : decode cX2_ownerOf 12 = .ok (.iload_n 1, 1) := by decide +kernel
theorem dX2_ownerOf_13 : decode cX2_ownerOf 13 = .ok (.iaload, 1) := by decide +kernel
theorem dX2_ownerOf_14 : decode cX2_ownerOf 14 = .ok (.goto 4, 3) := by decide +kernel
theorem dX2_ownerOf_17 : decode cX2_ownerOf 17 = .ok (.iconst (-1), 1) := by decide +kernel
theorem dX2_ownerOf_18 : decode cX2_ownerOf 18 = .ok (.ireturn, 1) := by decide +kernel
theorem dX2_sizeAt_0 : decode cX2_sizeAt 0 = .ok (.aload_n 0, 1) := by decide +kernel
theorem dX2_sizeAt_1 : decode cX2_sizeAt 1 = .ok (.iload_n 1, 1) := by decide +kernel
theorem dX2_sizeAt_2 : decode cX2_sizeAt 2 = .ok (.invokevirtual 40, 3) := by decide +kernel
theorem dX2_sizeAt_5 : decode cX2_sizeAt 5 = .ok (.ifCond .eq 12, 3) := by decide +kernel
theorem dX2_sizeAt_8 : decode cX2_sizeAt 8 = .ok (.aload_n 0, 1) := by decide +kernel
theorem dX2_sizeAt_9 : decode cX2_sizeAt 9 = .ok (.getfield 22, 3) := by decide +kernel
theorem dX2_sizeAt_12 : decode cX2_sizeAt 12 = .ok (.iload_n 1, 1) := by decide +kernel
theorem dX2_sizeAt_13 : decode cX2_sizeAt 13 = .ok (.iaload, 1) := by decide +kernel
theorem dX2_sizeAt_14 : decode cX2_sizeAt 14 = .ok (.goto 4, 3) := by decide +kernel
theorem dX2_sizeAt_17 : decode cX2_sizeAt 17 = .ok (.iconst 0, 1) := by decide +kernel
theorem dX2_sizeAt_18 : decode cX2_sizeAt 18 = .ok (.ireturn, 1) := by decide +kernel
theorem dX2_valueAt_0 : decode cX2_valueAt 0 = .ok (.aload_n 0, 1) := by decide +kernel
theorem dX2_valueAt_1 : decode cX2_valueAt 1 = .ok (.iload_n 1, 1) := by decide +kernel
theorem dX2_valueAt_2 : decode cX2_valueAt 2 = .ok (.invokevirtual 40, 3) := by decide +kernel
theorem dX2_valueAt_5 : decode cX2_valueAt 5 = .ok (.ifCond .eq 12, 3) := by decide +kernel
theorem dX2_valueAt_8 : decode cX2_valueAt 8 = .ok (.aload_n 0, 1) := by decide +kernel
theorem dX2_valueAt_9 : decode cX2_valueAt 9 = .ok (.getfield 25, 3) := by decide +kernel
theorem dX2_valueAt_12 : decode cX2_valueAt 12 = .ok (.iload_n 1, 1) := by decide +kernel
theorem dX2_valueAt_13 : decode cX2_valueAt 13 = .ok (.iaload, 1) := by decide +kernel
theorem dX2_valueAt_14 : decode cX2_valueAt 14 = .ok (.goto 4, 3) := by decide +kernel
theorem dX2_valueAt_17 : decode cX2_valueAt 17 = .ok (.iconst 0, 1) := by decide +kernel
theorem dX2_valueAt_18 : decode cX2_valueAt 18 = .ok (.ireturn, 1) := by decide +kernel
theorem dX2_kindAt_0 : decode cX2_kindAt 0 = .ok (.aload_n 0, 1) := by decide +kernel
theorem dX2_kindAt_1 : decode cX2_kindAt 1 = .ok (.iload_n 1, 1) := by decide +kernel
theorem dX2_kindAt_2 : decode cX2_kindAt 2 = .ok (.invokevirtual 40, 3) := by decide +kernel
theorem dX2_kindAt_5 : decode cX2_kindAt 5 = .ok (.ifCond .eq 12, 3) := by decide +kernel
theorem dX2_kindAt_8 : decode cX2_kindAt 8 = .ok (.aload_n 0, 1) := by decide +kernel
theorem dX2_kindAt_9 : decode cX2_kindAt 9 = .ok (.getfield 28, 3) := by decide +kernel
theorem dX2_kindAt_12 : decode cX2_kindAt 12 = .ok (.iload_n 1, 1) := by decide +kernel
theorem dX2_kindAt_13 : decode cX2_kindAt 13 = .ok (.iaload, 1) := by decide +kernel
theorem dX2_kindAt_14 : decode cX2_kindAt 14 = .ok (.goto 4, 3) := by decide +kernel
theorem dX2_kindAt_17 : decode cX2_kindAt 17 = .ok (.iconst 0, 1) := by decide +kernel
theorem dX2_kindAt_18 : decode cX2_kindAt 18 = .ok (.ireturn, 1) := by decide +kernel
theorem dX2_timesFired_0 : decode cX2_timesFired 0 = .ok (.aload_n 0, 1) := by decide +kernel
theorem dX2_timesFired_1 : decode cX2_timesFired 1 = .ok (.iload_n 1, 1) := by decide +kernel
theorem dX2_timesFired_2 : decode cX2_timesFired 2 = .ok (.invokevirtual 40, 3) := by decide +kernel
theorem dX2_timesFired_5 : decode cX2_timesFired 5 = .ok (.ifCond .eq 12, 3) := by decide +kernel
theorem dX2_timesFired_8 : decode cX2_timesFired 8 = .ok (.aload_n 0, 1) := by decide +kernel
theorem dX2_timesFired_9 : decode cX2_timesFired 9 = .ok (.getfield 31, 3) := by decide +kernel
theorem dX2_timesFired_12 : decode cX2_timesFired 12 = .ok (.iload_n 1, 1) := by decide +kernel
theorem dX2_timesFired_13 : decode cX2_timesFired 13 = .ok (.iaload, 1) := by decide +kernel
theorem dX2_timesFired_14 : decode cX2_timesFired 14 = .ok (.goto 4, 3) := by decide +kernel
theorem dX2_timesFired_17 : decode cX2_timesFired 17 = .ok (.iconst 0, 1) := by decide +kernel
theorem dX2_timesFired_18 : decode cX2_timesFired 18 = .ok (.ireturn, 1) := by decide +kernel
theorem dX2_handleOf_0 : decode cX2_handleOf 0 = .ok (.aload_n 0, 1) := by decide +kernel
theorem dX2_handleOf_1 : decode cX2_handleOf 1 = .ok (.iload_n 1, 1) := by decide +kernel
theorem dX2_handleOf_2 : decode cX2_handleOf 2 = .ok (.invokevirtual 40, 3) := by decide +kernel
theorem dX2_handleOf_5 : decode cX2_handleOf 5 = .ok (.ifCond .eq 18, 3) := by decide +kernel
theorem dX2_handleOf_8 : decode cX2_handleOf 8 = .ok (.iload_n 1, 1) := by decide +kernel
theorem dX2_handleOf_9 : decode cX2_handleOf 9 = .ok (.sipush 1000, 3) := by decide +kernel
theorem dX2_handleOf_12 : decode cX2_handleOf 12 = .ok (.imul, 1) := by decide +kernel
theorem dX2_handleOf_13 : decode cX2_handleOf 13 = .ok (.aload_n 0, 1) := by decide +kernel
theorem dX2_handleOf_14 : decode cX2_handleOf 14 = .ok (.getfield 15, 3) := by decide +kernel
theorem dX2_handleOf_17 : decode cX2_handleOf 17 = .ok (.iload_n 1, 1) := by decide +kernel
theorem dX2_handleOf_18 : decode cX2_handleOf 18 = .ok (.iaload, 1) := by decide +kernel
theorem dX2_handleOf_19 : decode cX2_handleOf 19 = .ok (.iadd, 1) := by decide +kernel
theorem dX2_handleOf_20 : decode cX2_handleOf 20 = .ok (.goto 4, 3) := by decide +kernel
theorem dX2_handleOf_23 : decode cX2_handleOf 23 = .ok (.iconst (-1), 1) := by decide +kernel
theorem dX2_handleOf_24 : decode cX2_handleOf 24 = .ok (.ireturn, 1) := by decide +kernel
theorem dX2_whyRefused_0 : decode cX2_whyRefused 0 = .ok (.iload_n 1, 1) := by decide +kernel
theorem dX2_whyRefused_1 : decode cX2_whyRefused 1 = .ok (.ifCond .lt 15, 3) := by decide +kernel
theorem dX2_whyRefused_4 : decode cX2_whyRefused 4 = .ok (.aload_n 0, 1) := by decide +kernel
theorem dX2_whyRefused_5 : decode cX2_whyRefused 5 = .ok (.iload_n 1, 1) := by decide +kernel
theorem dX2_whyRefused_6 : decode cX2_whyRefused 6 = .ok (.sipush 1000, 3) := by decide +kernel
theorem dX2_whyRefused_9 : decode cX2_whyRefused 9 = .ok (.idiv, 1) := by decide +kernel
theorem dX2_whyRefused_10 : decode cX2_whyRefused 10 = .ok (.invokevirtual 40, 3) := by decide +kernel
theorem dX2_whyRefused_13 : decode cX2_whyRefused 13 = .ok (.ifCond .ne 5, 3) := by decide +kernel
theorem dX2_whyRefused_16 : decode cX2_whyRefused 16 = .ok (.iconst 1, 1) := by decide +kernel
theorem dX2_whyRefused_17 : decode cX2_whyRefused 17 = .ok (.ireturn, 1) := by decide +kernel
theorem dX2_whyRefused_18 : decode cX2_whyRefused 18 = .ok (.aload_n 0, 1) := by decide +kernel
theorem dX2_whyRefused_19 : decode cX2_whyRefused 19 = .ok (.iload_n 1, 1) := by decide +kernel
theorem dX2_whyRefused_20 : decode cX2_whyRefused 20 = .ok (.sipush 1000, 3) := by decide +kernel
theorem dX2_whyRefused_23 : decode cX2_whyRefused 23 = .ok (.idiv, 1) := by decide +kernel
theorem dX2_whyRefused_24 : decode cX2_whyRefused 24 = .ok (.invokevirtual 44, 3) := by decide +kernel
theorem dX2_whyRefused_27 : decode cX2_whyRefused 27 = .ok (.iload_n 1, 1) := by decide +kernel
theorem dX2_whyRefused_28 : decode cX2_whyRefused 28 = .ok (.sipush 1000, 3) := by decide +kernel
theorem dX2_whyRefused_31 : decode cX2_whyRefused 31 = .ok (.irem, 1) := by decide +kernel
theorem dX2_whyRefused_32 : decode cX2_whyRefused 32 = .ok (.if_icmp .eq 5, 3) := by decide +kernel
theorem dX2_whyRefused_35 : decode cX2_whyRefused 35 = .ok (.iconst 2, 1) := by decide +kernel
theorem dX2_whyRefused_36 : decode cX2_whyRefused 36 = .ok (.ireturn, 1) := by decide +kernel
theorem dX2_whyRefused_37 : decode cX2_whyRefused 37 = .ok (.aload_n 0, 1) := by decide +kernel
theorem dX2_whyRefused_38 : decode cX2_whyRefused 38 = .ok (.iload_n 1, 1) := by decide +kernel
theorem dX2_whyRefused_39 : decode cX2_whyRefused 39 = .ok (.sipush 1000, 3) := by decide +kernel
theorem dX2_whyRefused_42 : decode cX2_whyRefused 42 = .ok (.idiv, 1) := by decide +kernel
theorem dX2_whyRefused_43 : decode cX2_whyRefused 43 = .ok (.invokevirtual 48, 3) := by decide +kernel
theorem dX2_whyRefused_46 : decode cX2_whyRefused 46 = .ok (.ifCond .ne 7, 3) := by decide +kernel
theorem dX2_whyRefused_49 : decode cX2_whyRefused 49 = .ok (.iconst 3, 1) := by decide +kernel
theorem dX2_whyRefused_50 : decode cX2_whyRefused 50 = .ok (.goto 4, 3) := by decide +kernel
theorem dX2_whyRefused_53 : decode cX2_whyRefused 53 = .ok (.iconst 0, 1) := by decide +kernel
theorem dX2_whyRefused_54 : decode cX2_whyRefused 54 = .ok (.ireturn, 1) := by decide +kernel
theorem dX2_lowestFor_0 : decode cX2_lowestFor 0 = .ok (.iconst 0, 1) := by decide +kernel
theorem dX2_lowestFor_1 : decode cX2_lowestFor 1 = .ok (.istore_n 2, 1) := by decide +kernel
theorem dX2_lowestFor_2 : decode cX2_lowestFor 2 = .ok (.iconst 0, 1) := by decide +kernel
theorem dX2_lowestFor_3 : decode cX2_lowestFor 3 = .ok (.istore_n 3, 1) := by decide +kernel
theorem dX2_lowestFor_4 : decode cX2_lowestFor 4 = .ok (.iload_n 3, 1) := by decide +kernel
theorem dX2_lowestFor_5 : decode cX2_lowestFor 5 = .ok (.bipush 64, 2) := by decide +kernel
theorem dX2_lowestFor_7 : decode cX2_lowestFor 7 = .ok (.if_icmp .ge 38, 3) := by decide +kernel
theorem dX2_lowestFor_10 : decode cX2_lowestFor 10 = .ok (.aload_n 0, 1) := by decide +kernel
theorem dX2_lowestFor_11 : decode cX2_lowestFor 11 = .ok (.getfield 19, 3) := by decide +kernel
theorem dX2_lowestFor_14 : decode cX2_lowestFor 14 = .ok (.iload_n 3, 1) := by decide +kernel
theorem dX2_lowestFor_15 : decode cX2_lowestFor 15 = .ok (.iaload, 1) := by decide +kernel
theorem dX2_lowestFor_16 : decode cX2_lowestFor 16 = .ok (.iconst (-1), 1) := by decide +kernel
theorem dX2_lowestFor_17 : decode cX2_lowestFor 17 = .ok (.if_icmp .ne 9, 3) := by decide +kernel
theorem dX2_lowestFor_20 : decode cX2_lowestFor 20 = .ok (.iload_n 2, 1) := by decide +kernel
theorem dX2_lowestFor_21 : decode cX2_lowestFor 21 = .ok (.iconst 1, 1) := by decide +kernel
theorem dX2_lowestFor_22 : decode cX2_lowestFor 22 = .ok (.iadd, 1) := by decide +kernel
theorem dX2_lowestFor_23 : decode cX2_lowestFor 23 = .ok (.goto 4, 3) := by decide +kernel
theorem dX2_lowestFor_26 : decode cX2_lowestFor 26 = .ok (.iconst 0, 1) := by decide +kernel
theorem dX2_lowestFor_27 : decode cX2_lowestFor 27 = .ok (.istore_n 2, 1) := by decide +kernel
theorem dX2_lowestFor_28 : decode cX2_lowestFor 28 = .ok (.iload_n 2, 1) := by decide +kernel
theorem dX2_lowestFor_29 : decode cX2_lowestFor 29 = .ok (.iload_n 1, 1) := by decide +kernel
theorem dX2_lowestFor_30 : decode cX2_lowestFor 30 = .ok (.if_icmp .ne 9, 3) := by decide +kernel
theorem dX2_lowestFor_33 : decode cX2_lowestFor 33 = .ok (.iload_n 3, 1) := by decide +kernel
theorem dX2_lowestFor_34 : decode cX2_lowestFor 34 = .ok (.iload_n 1, 1) := by decide +kernel
theorem dX2_lowestFor_35 : decode cX2_lowestFor 35 = .ok (.isub, 1) := by decide +kernel
theorem dX2_lowestFor_36 : decode cX2_lowestFor 36 = .ok (.iconst 1, 1) := by decide +kernel
theorem dX2_lowestFor_37 : decode cX2_lowestFor 37 = .ok (.iadd, 1) := by decide +kernel
theorem dX2_lowestFor_38 : decode cX2_lowestFor 38 = .ok (.ireturn, 1) := by decide +kernel
theorem dX2_lowestFor_39 : decode cX2_lowestFor 39 = .ok (.iinc 3 1, 3) := by decide +kernel
theorem dX2_lowestFor_42 : decode cX2_lowestFor 42 = .ok (.goto (-38), 3) := by decide +kernel
theorem dX2_lowestFor_45 : decode cX2_lowestFor 45 = .ok (.iconst (-1), 1) := by decide +kernel
theorem dX2_lowestFor_46 : decode cX2_lowestFor 46 = .ok (.ireturn, 1) := by decide +kernel
theorem dX2_occupy_0 : decode cX2_occupy 0 = .ok (.aload_n 0, 1) := by decide +kernel
theorem dX2_occupy_1 : decode cX2_occupy 1 = .ok (.iload_n 1, 1) := by decide +kernel
theorem dX2_occupy_2 : decode cX2_occupy 2 = .ok (.iload_n 3, 1) := by decide +kernel
theorem dX2_occupy_3 : decode cX2_occupy 3 = .ok (.iadd, 1) := by decide +kernel
theorem dX2_occupy_4 : decode cX2_occupy 4 = .ok (.invokevirtual 51, 3) := by decide +kernel
theorem dX2_occupy_7 : decode cX2_occupy 7 = .ok (.aload_n 0, 1) := by decide +kernel
theorem dX2_occupy_8 : decode cX2_occupy 8 = .ok (.iload_n 1, 1) := by decide +kernel
theorem dX2_occupy_9 : decode cX2_occupy 9 = .ok (.invokevirtual 40, 3) := by decide +kernel
theorem dX2_occupy_12 : decode cX2_occupy 12 = .ok (.ifCond .ne 4, 3) := by decide +kernel
theorem dX2_occupy_15 : decode cX2_occupy 15 = .ok (.return_, 1) := by decide +kernel
theorem dX2_occupy_16 : decode cX2_occupy 16 = .ok (.aload_n 0, 1) := by decide +kernel
theorem dX2_occupy_17 : decode cX2_occupy 17 = .ok (.getfield 22, 3) := by decide +kernel
theorem dX2_occupy_20 : decode cX2_occupy 20 = .ok (.iload_n 1, 1) := by decide +kernel
theorem dX2_occupy_21 : decode cX2_occupy 21 = .ok (.iload_n 3, 1) := by decide +kernel
theorem dX2_occupy_22 : decode cX2_occupy 22 = .ok (.iastore, 1) := by decide +kernel
theorem dX2_occupy_23 : decode cX2_occupy 23 = .ok (.aload_n 0, 1) := by decide +kernel
theorem dX2_occupy_24 : decode cX2_occupy 24 = .ok (.getfield 25, 3) := by decide +kernel
theorem dX2_occupy_27 : decode cX2_occupy 27 = .ok (.iload_n 1, 1) := by decide +kernel
theorem dX2_occupy_28 : decode cX2_occupy 28 = .ok (.iload_n 2, 1) := by decide +kernel
theorem dX2_occupy_29 : decode cX2_occupy 29 = .ok (.iastore, 1) := by decide +kernel
theorem dX2_occupy_30 : decode cX2_occupy 30 = .ok (.aload_n 0, 1) := by decide +kernel
theorem dX2_occupy_31 : decode cX2_occupy 31 = .ok (.getfield 28, 3) := by decide +kernel
theorem dX2_occupy_34 : decode cX2_occupy 34 = .ok (.iload_n 1, 1) := by decide +kernel
theorem dX2_occupy_35 : decode cX2_occupy 35 = .ok (.iload 4, 2) := by decide +kernel
theorem dX2_occupy_37 : decode cX2_occupy 37 = .ok (.iastore, 1) := by decide +kernel
theorem dX2_occupy_38 : decode cX2_occupy 38 = .ok (.aload_n 0, 1) := by decide +kernel
theorem dX2_occupy_39 : decode cX2_occupy 39 = .ok (.getfield 31, 3) := by decide +kernel
theorem dX2_occupy_42 : decode cX2_occupy 42 = .ok (.iload_n 1, 1) := by decide +kernel
theorem dX2_occupy_43 : decode cX2_occupy 43 = .ok (.iconst 0, 1) := by decide +kernel
theorem dX2_occupy_44 : decode cX2_occupy 44 = .ok (.iastore, 1) := by decide +kernel
theorem dX2_occupy_45 : decode cX2_occupy 45 = .ok (.aload_n 0, 1) := by decide +kernel
theorem dX2_occupy_46 : decode cX2_occupy 46 = .ok (.iload_n 1, 1) := by decide +kernel
theorem dX2_occupy_47 : decode cX2_occupy 47 = .ok (.iload_n 3, 1) := by decide +kernel
theorem dX2_occupy_48 : decode cX2_occupy 48 = .ok (.iload_n 1, 1) := by decide +kernel
theorem dX2_occupy_49 : decode cX2_occupy 49 = .ok (.invokevirtual 55, 3) := by decide +kernel
theorem dX2_occupy_52 : decode cX2_occupy 52 = .ok (.return_, 1) := by decide +kernel
theorem dX2_growTo_0 : decode cX2_growTo 0 = .ok (.iconst 0, 1) := by decide +kernel
theorem dX2_growTo_1 : decode cX2_growTo 1 = .ok (.istore_n 2, 1) := by decide +kernel
theorem dX2_growTo_2 : decode cX2_growTo 2 = .ok (.iload_n 2, 1) := by decide +kernel
theorem dX2_growTo_3 : decode cX2_growTo 3 = .ok (.iconst 2, 1) := by decide +kernel
theorem dX2_growTo_4 : decode cX2_growTo 4 = .ok (.if_icmp .ge 36, 3) := by decide +kernel
theorem dX2_growTo_7 : decode cX2_growTo 7 = .ok (.aload_n 0, 1) := by decide +kernel
theorem dX2_growTo_8 : decode cX2_growTo 8 = .ok (.getfield 9, 3) := by decide +kernel
theorem dX2_growTo_11 : decode cX2_growTo 11 = .ok (.iload_n 1, 1) := by decide +kernel
theorem dX2_growTo_12 : decode cX2_growTo 12 = .ok (.if_icmp .ge 22, 3) := by decide +kernel
theorem dX2_growTo_15 : decode cX2_growTo 15 = .ok (.aload_n 0, 1) := by decide +kernel
theorem dX2_growTo_16 : decode cX2_growTo 16 = .ok (.getfield 9, 3) := by decide +kernel
theorem dX2_growTo_19 : decode cX2_growTo 19 = .ok (.bipush 64, 2) := by decide +kernel
theorem dX2_growTo_21 : decode cX2_growTo 21 = .ok (.if_icmp .ge 13, 3) := by decide +kernel
theorem dX2_growTo_24 : decode cX2_growTo 24 = .ok (.aload_n 0, 1) := by decide +kernel
theorem dX2_growTo_25 : decode cX2_growTo 25 = .ok (.iconst 2, 1) := by decide +kernel
theorem dX2_growTo_26 : decode cX2_growTo 26 = .ok (.aload_n 0, 1) := by decide +kernel
theorem dX2_growTo_27 : decode cX2_growTo 27 = .ok (.getfield 9, 3) := by decide +kernel
theorem dX2_growTo_30 : decode cX2_growTo 30 = .ok (.imul, 1) := by decide +kernel
theorem dX2_growTo_31 : decode cX2_growTo 31 = .ok (.putfield 9, 3) := by decide +kernel
theorem dX2_growTo_34 : decode cX2_growTo 34 = .ok (.iinc 2 1, 3) := by decide +kernel
theorem dX2_growTo_37 : decode cX2_growTo 37 = .ok (.goto (-35), 3) := by decide +kernel
theorem dX2_growTo_40 : decode cX2_growTo 40 = .ok (.return_, 1) := by decide +kernel
theorem dX2_giveCells_0 : decode cX2_giveCells 0 = .ok (.iload_n 1, 1) := by decide +kernel
theorem dX2_giveCells_1 : decode cX2_giveCells 1 = .ok (.istore 4, 2) := by decide +kernel
theorem dX2_giveCells_3 : decode cX2_giveCells 3 = .ok (.iload 4, 2) := by decide +kernel
theorem dX2_giveCells_5 : decode cX2_giveCells 5 = .ok (.iload_n 1, 1) := by decide +kernel
theorem dX2_giveCells_6 : decode cX2_giveCells 6 = .ok (.iload_n 2, 1) := by decide +kernel
theorem dX2_giveCells_7 : decode cX2_giveCells 7 = .ok (.iadd, 1) := by decide +kernel
theorem dX2_giveCells_8 : decode cX2_giveCells 8 = .ok (.if_icmp .ge 26, 3) := by decide +kernel
theorem dX2_giveCells_11 : decode cX2_giveCells 11 = .ok (.aload_n 0, 1) := by decide +kernel
theorem dX2_giveCells_12 : decode cX2_giveCells 12 = .ok (.iload 4, 2) := by decide +kernel
theorem dX2_giveCells_14 : decode cX2_giveCells 14 = .ok (.invokevirtual 40, 3) := by decide +kernel
theorem dX2_giveCells_17 : decode cX2_giveCells 17 = .ok (.ifCond .eq 11, 3) := by decide +kernel
theorem dX2_giveCells_20 : decode cX2_giveCells 20 = .ok (.aload_n 0, 1) := by decide +kernel
theorem dX2_giveCells_21 : decode cX2_giveCells 21 = .ok (.getfield 19, 3) := by decide +kernel
theorem dX2_giveCells_24 : decode cX2_giveCells 24 = .ok (.iload 4, 2) := by decide +kernel
theorem dX2_giveCells_26 : decode cX2_giveCells 26 = .ok (.iload_n 3, 1) := by decide +kernel
theorem dX2_giveCells_27 : decode cX2_giveCells 27 = .ok (.iastore, 1) := by decide +kernel
theorem dX2_giveCells_28 : decode cX2_giveCells 28 = .ok (.iinc 4 1, 3) := by decide +kernel
theorem dX2_giveCells_31 : decode cX2_giveCells 31 = .ok (.goto (-28), 3) := by decide +kernel
theorem dX2_giveCells_34 : decode cX2_giveCells 34 = .ok (.return_, 1) := by decide +kernel
theorem dX2_release_0 : decode cX2_release 0 = .ok (.aload_n 0, 1) := by decide +kernel
theorem dX2_release_1 : decode cX2_release 1 = .ok (.iload_n 1, 1) := by decide +kernel
theorem dX2_release_2 : decode cX2_release 2 = .ok (.invokevirtual 40, 3) := by decide +kernel
theorem dX2_release_5 : decode cX2_release 5 = .ok (.ifCond .ne 4, 3) := by decide +kernel
theorem dX2_release_8 : decode cX2_release 8 = .ok (.return_, 1) := by decide +kernel
theorem dX2_release_9 : decode cX2_release 9 = .ok (.aload_n 0, 1) := by decide +kernel
theorem dX2_release_10 : decode cX2_release 10 = .ok (.iload_n 1, 1) := by decide +kernel
theorem dX2_release_11 : decode cX2_release 11 = .ok (.aload_n 0, 1) := by decide +kernel
theorem dX2_release_12 : decode cX2_release 12 = .ok (.getfield 22, 3) := by decide +kernel
theorem dX2_release_15 : decode cX2_release 15 = .ok (.iload_n 1, 1) := by decide +kernel
theorem dX2_release_16 : decode cX2_release 16 = .ok (.iaload, 1) := by decide +kernel
theorem dX2_release_17 : decode cX2_release 17 = .ok (.iconst (-1), 1) := by decide +kernel
theorem dX2_release_18 : decode cX2_release 18 = .ok (.invokevirtual 55, 3) := by decide +kernel
theorem dX2_release_21 : decode cX2_release 21 = .ok (.aload_n 0, 1) := by decide +kernel
theorem dX2_release_22 : decode cX2_release 22 = .ok (.getfield 22, 3) := by decide +kernel
theorem dX2_release_25 : decode cX2_release 25 = .ok (.iload_n 1, 1) := by decide +kernel
theorem dX2_release_26 : decode cX2_release 26 = .ok (.iconst 0, 1) := by decide +kernel
theorem dX2_release_27 : decode cX2_release 27 = .ok (.iastore, 1) := by decide +kernel
theorem dX2_release_28 : decode cX2_release 28 = .ok (.aload_n 0, 1) := by decide +kernel
theorem dX2_release_29 : decode cX2_release 29 = .ok (.getfield 15, 3) := by decide +kernel
theorem dX2_release_32 : decode cX2_release 32 = .ok (.iload_n 1, 1) := by decide +kernel
theorem dX2_release_33 : decode cX2_release 33 = .ok (.aload_n 0, 1) := by decide +kernel
theorem dX2_release_34 : decode cX2_release 34 = .ok (.getfield 15, 3) := by decide +kernel
theorem dX2_release_37 : decode cX2_release 37 = .ok (.iload_n 1, 1) := by decide +kernel
theorem dX2_release_38 : decode cX2_release 38 = .ok (.iaload, 1) := by decide +kernel
theorem dX2_release_39 : decode cX2_release 39 = .ok (.iconst 1, 1) := by decide +kernel
theorem dX2_release_40 : decode cX2_release 40 = .ok (.iadd, 1) := by decide +kernel
theorem dX2_release_41 : decode cX2_release 41 = .ok (.sipush 1000, 3) := by decide +kernel
theorem dX2_release_44 : decode cX2_release 44 = .ok (.irem, 1) := by decide +kernel
theorem dX2_release_45 : decode cX2_release 45 = .ok (.iastore, 1) := by decide +kernel
theorem dX2_release_46 : decode cX2_release 46 = .ok (.return_, 1) := by decide +kernel
theorem dX2_carry_0 : decode cX2_carry 0 = .ok (.aload_n 0, 1) := by decide +kernel
theorem dX2_carry_1 : decode cX2_carry 1 = .ok (.iload_n 1, 1) := by decide +kernel
theorem dX2_carry_2 : decode cX2_carry 2 = .ok (.invokevirtual 59, 3) := by decide +kernel
theorem dX2_carry_5 : decode cX2_carry 5 = .ok (.istore_n 3, 1) := by decide +kernel
theorem dX2_carry_6 : decode cX2_carry 6 = .ok (.aload_n 0, 1) := by decide +kernel
theorem dX2_carry_7 : decode cX2_carry 7 = .ok (.iload_n 1, 1) := by decide +kernel
theorem dX2_carry_8 : decode cX2_carry 8 = .ok (.invokevirtual 48, 3) := by decide +kernel
theorem dX2_carry_11 : decode cX2_carry 11 = .ok (.istore 4, 2) := by decide +kernel
theorem dX2_carry_13 : decode cX2_carry 13 = .ok (.aload_n 0, 1) := by decide +kernel
theorem dX2_carry_14 : decode cX2_carry 14 = .ok (.iload_n 1, 1) := by decide +kernel
theorem dX2_carry_15 : decode cX2_carry 15 = .ok (.invokevirtual 62, 3) := by decide +kernel
theorem dX2_carry_18 : decode cX2_carry 18 = .ok (.istore 5, 2) := by decide +kernel
theorem dX2_carry_20 : decode cX2_carry 20 = .ok (.aload_n 0, 1) := by decide +kernel
theorem dX2_carry_21 : decode cX2_carry 21 = .ok (.iload_n 1, 1) := by decide +kernel
theorem dX2_carry_22 : decode cX2_carry 22 = .ok (.invokevirtual 65, 3) := by decide +kernel
theorem dX2_carry_25 : decode cX2_carry 25 = .ok (.istore 6, 2) := by decide +kernel
theorem dX2_carry_27 : decode cX2_carry 27 = .ok (.aload_n 0, 1) := by decide +kernel
theorem dX2_carry_28 : decode cX2_carry 28 = .ok (.iload_n 1, 1) := by decide +kernel
theorem dX2_carry_29 : decode cX2_carry 29 = .ok (.invokevirtual 68, 3) := by decide +kernel
theorem dX2_carry_32 : decode cX2_carry 32 = .ok (.aload_n 0, 1) := by decide +kernel
theorem dX2_carry_33 : decode cX2_carry 33 = .ok (.iload_n 2, 1) := by decide +kernel
theorem dX2_carry_34 : decode cX2_carry 34 = .ok (.iload_n 3, 1) := by decide +kernel
theorem dX2_carry_35 : decode cX2_carry 35 = .ok (.iload 4, 2) := by decide +kernel
theorem dX2_carry_37 : decode cX2_carry 37 = .ok (.iload 5, 2) := by decide +kernel
theorem dX2_carry_39 : decode cX2_carry 39 = .ok (.invokevirtual 71, 3) := by decide +kernel
theorem dX2_carry_42 : decode cX2_carry 42 = .ok (.aload_n 0, 1) := by decide +kernel
theorem dX2_carry_43 : decode cX2_carry 43 = .ok (.iload_n 2, 1) := by decide +kernel
theorem dX2_carry_44 : decode cX2_carry 44 = .ok (.iload 6, 2) := by decide +kernel
theorem dX2_carry_46 : decode cX2_carry 46 = .ok (.invokevirtual 75, 3) := by decide +kernel
theorem dX2_carry_49 : decode cX2_carry 49 = .ok (.return_, 1) := by decide +kernel
theorem dX2_setValue_0 : decode cX2_setValue 0 = .ok (.aload_n 0, 1) := by decide +kernel
theorem dX2_setValue_1 : decode cX2_setValue 1 = .ok (.iload_n 1, 1) := by decide +kernel
theorem dX2_setValue_2 : decode cX2_setValue 2 = .ok (.invokevirtual 40, 3) := by decide +kernel
theorem dX2_setValue_5 : decode cX2_setValue 5 = .ok (.ifCond .eq 10, 3) := by decide +kernel
theorem dX2_setValue_8 : decode cX2_setValue 8 = .ok (.aload_n 0, 1) := by decide +kernel
theorem dX2_setValue_9 : decode cX2_setValue 9 = .ok (.getfield 25, 3) := by decide +kernel
theorem dX2_setValue_12 : decode cX2_setValue 12 = .ok (.iload_n 1, 1) := by decide +kernel
theorem dX2_setValue_13 : decode cX2_setValue 13 = .ok (.iload_n 2, 1) := by decide +kernel
theorem dX2_setValue_14 : decode cX2_setValue 14 = .ok (.iastore, 1) := by decide +kernel
theorem dX2_setValue_15 : decode cX2_setValue 15 = .ok (.return_, 1) := by decide +kernel
theorem dX2_setTimesFired_0 : decode cX2_setTimesFired 0 = .ok (.aload_n 0, 1) := by decide +kernel
theorem dX2_setTimesFired_1 : decode cX2_setTimesFired 1 = .ok (.iload_n 1, 1) := by decide +kernel
theorem dX2_setTimesFired_2 : decode cX2_setTimesFired 2 = .ok (.invokevirtual 40, 3) := by decide +kernel
theorem dX2_setTimesFired_5 : decode cX2_setTimesFired 5 = .ok (.ifCond .eq 10, 3) := by decide +kernel
theorem dX2_setTimesFired_8 : decode cX2_setTimesFired 8 = .ok (.aload_n 0, 1) := by decide +kernel
theorem dX2_setTimesFired_9 : decode cX2_setTimesFired 9 = .ok (.getfield 31, 3) := by decide +kernel
theorem dX2_setTimesFired_12 : decode cX2_setTimesFired 12 = .ok (.iload_n 1, 1) := by decide +kernel
theorem dX2_setTimesFired_13 : decode cX2_setTimesFired 13 = .ok (.iload_n 2, 1) := by decide +kernel
theorem dX2_setTimesFired_14 : decode cX2_setTimesFired 14 = .ok (.iastore, 1) := by decide +kernel
theorem dX2_setTimesFired_15 : decode cX2_setTimesFired 15 = .ok (.return_, 1) := by decide +kernel
theorem dX2_freeCells_0 : decode cX2_freeCells 0 = .ok (.aload_n 0, 1) := by decide +kernel
theorem dX2_freeCells_1 : decode cX2_freeCells 1 = .ok (.iconst 1, 1) := by decide +kernel
theorem dX2_freeCells_2 : decode cX2_freeCells 2 = .ok (.invokevirtual 79, 3) := by decide +kernel
theorem dX2_freeCells_5 : decode cX2_freeCells 5 = .ok (.ireturn, 1) := by decide +kernel
theorem dX2_sumOfValues_0 : decode cX2_sumOfValues 0 = .ok (.iconst 0, 1) := by decide +kernel
theorem dX2_sumOfValues_1 : decode cX2_sumOfValues 1 = .ok (.istore_n 1, 1) := by decide +kernel
theorem dX2_sumOfValues_2 : decode cX2_sumOfValues 2 = .ok (.iconst 0, 1) := by decide +kernel
theorem dX2_sumOfValues_3 : decode cX2_sumOfValues 3 = .ok (.istore_n 2, 1) := by decide +kernel
theorem dX2_sumOfValues_4 : decode cX2_sumOfValues 4 = .ok (.iload_n 2, 1) := by decide +kernel
theorem dX2_sumOfValues_5 : decode cX2_sumOfValues 5 = .ok (.aload_n 0, 1) := by decide +kernel
theorem dX2_sumOfValues_6 : decode cX2_sumOfValues 6 = .ok (.getfield 9, 3) := by decide +kernel
theorem dX2_sumOfValues_9 : decode cX2_sumOfValues 9 = .ok (.if_icmp .ge 25, 3) := by decide +kernel
theorem dX2_sumOfValues_12 : decode cX2_sumOfValues 12 = .ok (.aload_n 0, 1) := by decide +kernel
theorem dX2_sumOfValues_13 : decode cX2_sumOfValues 13 = .ok (.iload_n 2, 1) := by decide +kernel
theorem dX2_sumOfValues_14 : decode cX2_sumOfValues 14 = .ok (.invokevirtual 48, 3) := by decide +kernel
theorem dX2_sumOfValues_17 : decode cX2_sumOfValues 17 = .ok (.ifCond .le 11, 3) := by decide +kernel
theorem dX2_sumOfValues_20 : decode cX2_sumOfValues 20 = .ok (.iload_n 1, 1) := by decide +kernel
theorem dX2_sumOfValues_21 : decode cX2_sumOfValues 21 = .ok (.aload_n 0, 1) := by decide +kernel
theorem dX2_sumOfValues_22 : decode cX2_sumOfValues 22 = .ok (.iload_n 2, 1) := by decide +kernel
theorem dX2_sumOfValues_23 : decode cX2_sumOfValues 23 = .ok (.invokevirtual 59, 3) := by decide +kernel
theorem dX2_sumOfValues_26 : decode cX2_sumOfValues 26 = .ok (.iadd, 1) := by decide +kernel
theorem dX2_sumOfValues_27 : decode cX2_sumOfValues 27 = .ok (.istore_n 1, 1) := by decide +kernel
theorem dX2_sumOfValues_28 : decode cX2_sumOfValues 28 = .ok (.iinc 2 1, 3) := by decide +kernel
theorem dX2_sumOfValues_31 : decode cX2_sumOfValues 31 = .ok (.goto (-27), 3) := by decide +kernel
theorem dX2_sumOfValues_34 : decode cX2_sumOfValues 34 = .ok (.iload_n 1, 1) := by decide +kernel
theorem dX2_sumOfValues_35 : decode cX2_sumOfValues 35 = .ok (.ireturn, 1) := by decide +kernel
theorem dX2_roomFor_0 : decode cX2_roomFor 0 = .ok (.iconst 0, 1) := by decide +kernel
theorem dX2_roomFor_1 : decode cX2_roomFor 1 = .ok (.istore_n 2, 1) := by decide +kernel
theorem dX2_roomFor_2 : decode cX2_roomFor 2 = .ok (.iconst 0, 1) := by decide +kernel
theorem dX2_roomFor_3 : decode cX2_roomFor 3 = .ok (.istore_n 3, 1) := by decide +kernel
theorem dX2_roomFor_4 : decode cX2_roomFor 4 = .ok (.iconst 0, 1) := by decide +kernel
theorem dX2_roomFor_5 : decode cX2_roomFor 5 = .ok (.istore 4, 2) := by decide +kernel
theorem dX2_roomFor_7 : decode cX2_roomFor 7 = .ok (.iload 4, 2) := by decide +kernel
theorem dX2_roomFor_9 : decode cX2_roomFor 9 = .ok (.aload_n 0, 1) := by decide +kernel
theorem dX2_roomFor_10 : decode cX2_roomFor 10 = .ok (.getfield 9, 3) := by decide +kernel
theorem dX2_roomFor_13 : decode cX2_roomFor 13 = .ok (.if_icmp .ge 37, 3) := by decide +kernel
theorem dX2_roomFor_16 : decode cX2_roomFor 16 = .ok (.aload_n 0, 1) := by decide +kernel
theorem dX2_roomFor_17 : decode cX2_roomFor 17 = .ok (.iload 4, 2) := by decide +kernel
theorem dX2_roomFor_19 : decode cX2_roomFor 19 = .ok (.invokevirtual 82, 3) := by decide +kernel
theorem dX2_roomFor_22 : decode cX2_roomFor 22 = .ok (.iconst (-1), 1) := by decide +kernel
theorem dX2_roomFor_23 : decode cX2_roomFor 23 = .ok (.if_icmp .ne 9, 3) := by decide +kernel
theorem dX2_roomFor_26 : decode cX2_roomFor 26 = .ok (.iload_n 3, 1) := by decide +kernel
theorem dX2_roomFor_27 : decode cX2_roomFor 27 = .ok (.iconst 1, 1) := by decide +kernel
theorem dX2_roomFor_28 : decode cX2_roomFor 28 = .ok (.iadd, 1) := by decide +kernel
theorem dX2_roomFor_29 : decode cX2_roomFor 29 = .ok (.goto 4, 3) := by decide +kernel
theorem dX2_roomFor_32 : decode cX2_roomFor 32 = .ok (.iconst 0, 1) := by decide +kernel
theorem dX2_roomFor_33 : decode cX2_roomFor 33 = .ok (.istore_n 3, 1) := by decide +kernel
theorem dX2_roomFor_34 : decode cX2_roomFor 34 = .ok (.iload_n 3, 1) := by decide +kernel
theorem dX2_roomFor_35 : decode cX2_roomFor 35 = .ok (.iload_n 1, 1) := by decide +kernel
theorem dX2_roomFor_36 : decode cX2_roomFor 36 = .ok (.if_icmp .ne 8, 3) := by decide +kernel
theorem dX2_roomFor_39 : decode cX2_roomFor 39 = .ok (.iinc 2 1, 3) := by decide +kernel
theorem dX2_roomFor_42 : decode cX2_roomFor 42 = .ok (.iconst 0, 1) := by decide +kernel
theorem dX2_roomFor_43 : decode cX2_roomFor 43 = .ok (.istore_n 3, 1) := by decide +kernel
theorem dX2_roomFor_44 : decode cX2_roomFor 44 = .ok (.iinc 4 1, 3) := by decide +kernel
theorem dX2_roomFor_47 : decode cX2_roomFor 47 = .ok (.goto (-40), 3) := by decide +kernel
theorem dX2_roomFor_50 : decode cX2_roomFor 50 = .ok (.iload_n 2, 1) := by decide +kernel
theorem dX2_roomFor_51 : decode cX2_roomFor 51 = .ok (.ireturn, 1) := by decide +kernel
theorem dX2_longestGap_0 : decode cX2_longestGap 0 = .ok (.iconst 0, 1) := by decide +kernel
theorem dX2_longestGap_1 : decode cX2_longestGap 1 = .ok (.istore_n 1, 1) := by decide +kernel
theorem dX2_longestGap_2 : decode cX2_longestGap 2 = .ok (.iconst 0, 1) := by decide +kernel
theorem dX2_longestGap_3 : decode cX2_longestGap 3 = .ok (.istore_n 2, 1) := by decide +kernel
theorem dX2_longestGap_4 : decode cX2_longestGap 4 = .ok (.iconst 0, 1) := by decide +kernel
theorem dX2_longestGap_5 : decode cX2_longestGap 5 = .ok (.istore_n 3, 1) := by decide +kernel
theorem dX2_longestGap_6 : decode cX2_longestGap 6 = .ok (.iload_n 3, 1) := by decide +kernel
theorem dX2_longestGap_7 : decode cX2_longestGap 7 = .ok (.aload_n 0, 1) := by decide +kernel
theorem dX2_longestGap_8 : decode cX2_longestGap 8 = .ok (.getfield 9, 3) := by decide +kernel
theorem dX2_longestGap_11 : decode cX2_longestGap 11 = .ok (.if_icmp .ge 32, 3) := by decide +kernel
theorem dX2_longestGap_14 : decode cX2_longestGap 14 = .ok (.aload_n 0, 1) := by decide +kernel
theorem dX2_longestGap_15 : decode cX2_longestGap 15 = .ok (.iload_n 3, 1) := by decide +kernel
theorem dX2_longestGap_16 : decode cX2_longestGap 16 = .ok (.invokevirtual 82, 3) := by decide +kernel
theorem dX2_longestGap_19 : decode cX2_longestGap 19 = .ok (.iconst (-1), 1) := by decide +kernel
theorem dX2_longestGap_20 : decode cX2_longestGap 20 = .ok (.if_icmp .ne 9, 3) := by decide +kernel
theorem dX2_longestGap_23 : decode cX2_longestGap 23 = .ok (.iload_n 2, 1) := by decide +kernel
theorem dX2_longestGap_24 : decode cX2_longestGap 24 = .ok (.iconst 1, 1) := by decide +kernel
theorem dX2_longestGap_25 : decode cX2_longestGap 25 = .ok (.iadd, 1) := by decide +kernel
theorem dX2_longestGap_26 : decode cX2_longestGap 26 = .ok (.goto 4, 3) := by decide +kernel
theorem dX2_longestGap_29 : decode cX2_longestGap 29 = .ok (.iconst 0, 1) := by decide +kernel
theorem dX2_longestGap_30 : decode cX2_longestGap 30 = .ok (.istore_n 2, 1) := by decide +kernel
theorem dX2_longestGap_31 : decode cX2_longestGap 31 = .ok (.iload_n 1, 1) := by decide +kernel
theorem dX2_longestGap_32 : decode cX2_longestGap 32 = .ok (.iload_n 2, 1) := by decide +kernel
theorem dX2_longestGap_33 : decode cX2_longestGap 33 = .ok (.invokestatic 85, 3) := by decide +kernel
theorem dX2_longestGap_36 : decode cX2_longestGap 36 = .ok (.istore_n 1, 1) := by decide +kernel
theorem dX2_longestGap_37 : decode cX2_longestGap 37 = .ok (.iinc 3 1, 3) := by decide +kernel
theorem dX2_longestGap_40 : decode cX2_longestGap 40 = .ok (.goto (-34), 3) := by decide +kernel
theorem dX2_longestGap_43 : decode cX2_longestGap 43 = .ok (.iload_n 1, 1) := by decide +kernel
theorem dX2_longestGap_44 : decode cX2_longestGap 44 = .ok (.ireturn, 1) := by decide +kernel
theorem dX2_beginOfLongestGap_0 : decode cX2_beginOfLongestGap 0 = .ok (.iconst 0, 1) := by decide +kernel
theorem dX2_beginOfLongestGap_1 : decode cX2_beginOfLongestGap 1 = .ok (.istore_n 1, 1) := by decide +kernel
theorem dX2_beginOfLongestGap_2 : decode cX2_beginOfLongestGap 2 = .ok (.iconst (-1), 1) := by decide +kernel
theorem dX2_beginOfLongestGap_3 : decode cX2_beginOfLongestGap 3 = .ok (.istore_n 2, 1) := by decide +kernel
theorem dX2_beginOfLongestGap_4 : decode cX2_beginOfLongestGap 4 = .ok (.iconst 0, 1) := by decide +kernel
theorem dX2_beginOfLongestGap_5 : decode cX2_beginOfLongestGap 5 = .ok (.istore_n 3, 1) := by decide +kernel
theorem dX2_beginOfLongestGap_6 : decode cX2_beginOfLongestGap 6 = .ok (.iconst 0, 1) := by decide +kernel
theorem dX2_beginOfLongestGap_7 : decode cX2_beginOfLongestGap 7 = .ok (.istore 4, 2) := by decide +kernel
theorem dX2_beginOfLongestGap_9 : decode cX2_beginOfLongestGap 9 = .ok (.iload 4, 2) := by decide +kernel
theorem dX2_beginOfLongestGap_11 : decode cX2_beginOfLongestGap 11 = .ok (.aload_n 0, 1) := by decide +kernel
theorem dX2_beginOfLongestGap_12 : decode cX2_beginOfLongestGap 12 = .ok (.getfield 9, 3) := by decide +kernel
theorem dX2_beginOfLongestGap_15 : decode cX2_beginOfLongestGap 15 = .ok (.if_icmp .ge 41, 3) := by decide +kernel
theorem dX2_beginOfLongestGap_18 : decode cX2_beginOfLongestGap 18 = .ok (.aload_n 0, 1) := by decide +kernel
theorem dX2_beginOfLongestGap_19 : decode cX2_beginOfLongestGap 19 = .ok (.iload 4, 2) := by decide +kernel
theorem dX2_beginOfLongestGap_21 : decode cX2_beginOfLongestGap 21 = .ok (.invokevirtual 82, 3) := by decide +kernel
theorem dX2_beginOfLongestGap_24 : decode cX2_beginOfLongestGap 24 = .ok (.iconst (-1), 1) := by decide +kernel
theorem dX2_beginOfLongestGap_25 : decode cX2_beginOfLongestGap 25 = .ok (.if_icmp .ne 9, 3) := by decide +kernel
theorem dX2_beginOfLongestGap_28 : decode cX2_beginOfLongestGap 28 = .ok (.iload_n 3, 1) := by decide +kernel
theorem dX2_beginOfLongestGap_29 : decode cX2_beginOfLongestGap 29 = .ok (.iconst 1, 1) := by decide +kernel
theorem dX2_beginOfLongestGap_30 : decode cX2_beginOfLongestGap 30 = .ok (.iadd, 1) := by decide +kernel
theorem dX2_beginOfLongestGap_31 : decode cX2_beginOfLongestGap 31 = .ok (.goto 4, 3) := by decide +kernel
theorem dX2_beginOfLongestGap_34 : decode cX2_beginOfLongestGap 34 = .ok (.iconst 0, 1) := by decide +kernel
theorem dX2_beginOfLongestGap_35 : decode cX2_beginOfLongestGap 35 = .ok (.istore_n 3, 1) := by decide +kernel
theorem dX2_beginOfLongestGap_36 : decode cX2_beginOfLongestGap 36 = .ok (.iload_n 3, 1) := by decide +kernel
theorem dX2_beginOfLongestGap_37 : decode cX2_beginOfLongestGap 37 = .ok (.iload_n 1, 1) := by decide +kernel
theorem dX2_beginOfLongestGap_38 : decode cX2_beginOfLongestGap 38 = .ok (.if_icmp .le 12, 3) := by decide +kernel
theorem dX2_beginOfLongestGap_41 : decode cX2_beginOfLongestGap 41 = .ok (.iload_n 3, 1) := by decide +kernel
theorem dX2_beginOfLongestGap_42 : decode cX2_beginOfLongestGap 42 = .ok (.istore_n 1, 1) := by decide +kernel
theorem dX2_beginOfLongestGap_43 : decode cX2_beginOfLongestGap 43 = .ok (.iload 4, 2) := by decide +kernel
theorem dX2_beginOfLongestGap_45 : decode cX2_beginOfLongestGap 45 = .ok (.iload_n 3, 1) := by decide +kernel
theorem dX2_beginOfLongestGap_46 : decode cX2_beginOfLongestGap 46 = .ok (.isub, 1) := by decide +kernel
theorem dX2_beginOfLongestGap_47 : decode cX2_beginOfLongestGap 47 = .ok (.iconst 1, 1) := by decide +kernel
theorem dX2_beginOfLongestGap_48 : decode cX2_beginOfLongestGap 48 = .ok (.iadd, 1) := by decide +kernel
theorem dX2_beginOfLongestGap_49 : decode cX2_beginOfLongestGap 49 = .ok (.istore_n 2, 1) := by decide +kernel
theorem dX2_beginOfLongestGap_50 : decode cX2_beginOfLongestGap 50 = .ok (.iinc 4 1, 3) := by decide +kernel
theorem dX2_beginOfLongestGap_53 : decode cX2_beginOfLongestGap 53 = .ok (.goto (-44), 3) := by decide +kernel
theorem dX2_beginOfLongestGap_56 : decode cX2_beginOfLongestGap 56 = .ok (.iload_n 2, 1) := by decide +kernel
theorem dX2_beginOfLongestGap_57 : decode cX2_beginOfLongestGap 57 = .ok (.ireturn, 1) := by decide +kernel
theorem dX3_init_0 : decode cX3_init 0 = .ok (.aload_n 0, 1) := by decide +kernel
theorem dX3_init_1 : decode cX3_init 1 = .ok (.invokespecial 3, 3) := by decide +kernel
theorem dX3_init_4 : decode cX3_init 4 = .ok (.aload_n 0, 1) := by decide +kernel
theorem dX3_init_5 : decode cX3_init 5 = .ok (.new 9, 3) := by decide +kernel
theorem dX3_init_8 : decode cX3_init 8 = .ok (.dup, 1) := by decide +kernel
theorem dX3_init_9 : decode cX3_init 9 = .ok (.invokespecial 11, 3) := by decide +kernel
theorem dX3_init_12 : decode cX3_init 12 = .ok (.putfield 12, 3) := by decide +kernel
theorem dX3_init_15 : decode cX3_init 15 = .ok (.aload_n 0, 1) := by decide +kernel
theorem dX3_init_16 : decode cX3_init 16 = .ok (.new 18, 3) := by decide +kernel
theorem dX3_init_19 : decode cX3_init 19 = .ok (.dup, 1) := by decide +kernel
theorem dX3_init_20 : decode cX3_init 20 = .ok (.invokespecial 20, 3) := by decide +kernel
theorem dX3_init_23 : decode cX3_init 23 = .ok (.putfield 21, 3) := by decide +kernel
theorem dX3_init_26 : decode cX3_init 26 = .ok (.aload_n 0, 1) := by decide +kernel
theorem dX3_init_27 : decode cX3_init 27 = .ok (.bipush 64, 2) := by decide +kernel
theorem dX3_init_29 : decode cX3_init 29 = .ok (.newarray .int, 2) := by decide +kernel
theorem dX3_init_31 : decode cX3_init 31 = .ok (.putfield 25, 3) := by decide +kernel
theorem dX3_init_34 : decode cX3_init 34 = .ok (.return_, 1) := by decide +kernel
theorem dX3_copyFrom_0 : decode cX3_copyFrom 0 = .ok (.aload_n 0, 1) := by decide +kernel
theorem dX3_copyFrom_1 : decode cX3_copyFrom 1 = .ok (.getfield 12, 3) := by decide +kernel
theorem dX3_copyFrom_4 : decode cX3_copyFrom 4 = .ok (.aload_n 1, 1) := by decide +kernel
theorem dX3_copyFrom_5 : decode cX3_copyFrom 5 = .ok (.getfield 12, 3) := by decide +kernel
theorem dX3_copyFrom_8 : decode cX3_copyFrom 8 = .ok (.invokevirtual 29, 3) := by decide +kernel
theorem dX3_copyFrom_11 : decode cX3_copyFrom 11 = .ok (.aload_n 0, 1) := by decide +kernel
theorem dX3_copyFrom_12 : decode cX3_copyFrom 12 = .ok (.getfield 21, 3) := by decide +kernel
theorem dX3_copyFrom_15 : decode cX3_copyFrom 15 = .ok (.aload_n 1, 1) := by decide +kernel
theorem dX3_copyFrom_16 : decode cX3_copyFrom 16 = .ok (.getfield 21, 3) := by decide +kernel
theorem dX3_copyFrom_19 : decode cX3_copyFrom 19 = .ok (.invokevirtual 33, 3) := by decide +kernel
theorem dX3_copyFrom_22 : decode cX3_copyFrom 22 = .ok (.aload_n 0, 1) := by decide +kernel
theorem dX3_copyFrom_23 : decode cX3_copyFrom 23 = .ok (.aload_n 1, 1) := by decide +kernel
theorem dX3_copyFrom_24 : decode cX3_copyFrom 24 = .ok (.getfield 36, 3) := by decide +kernel
theorem dX3_copyFrom_27 : decode cX3_copyFrom 27 = .ok (.putfield 36, 3) := by decide +kernel
theorem dX3_copyFrom_30 : decode cX3_copyFrom 30 = .ok (.aload_n 0, 1) := by decide +kernel
theorem dX3_copyFrom_31 : decode cX3_copyFrom 31 = .ok (.aload_n 1, 1) := by decide +kernel
theorem dX3_copyFrom_32 : decode cX3_copyFrom 32 = .ok (.getfield 40, 3) := by decide +kernel
theorem dX3_copyFrom_35 : decode cX3_copyFrom 35 = .ok (.putfield 40, 3) := by decide +kernel
theorem dX3_copyFrom_38 : decode cX3_copyFrom 38 = .ok (.aload_n 0, 1) := by decide +kernel
theorem dX3_copyFrom_39 : decode cX3_copyFrom 39 = .ok (.aload_n 1, 1) := by decide +kernel
theorem dX3_copyFrom_40 : decode cX3_copyFrom 40 = .ok (.getfield 43, 3) := by decide +kernel
theorem dX3_copyFrom_43 : decode cX3_copyFrom 43 = .ok (.putfield 43, 3) := by decide +kernel
theorem dX3_copyFrom_46 : decode cX3_copyFrom 46 = .ok (.aload_n 0, 1) := by decide +kernel
theorem dX3_copyFrom_47 : decode cX3_copyFrom 47 = .ok (.aload_n 1, 1) := by decide +kernel
theorem dX3_copyFrom_48 : decode cX3_copyFrom 48 = .ok (.getfield 46, 3) := by decide +kernel
theorem dX3_copyFrom_51 : decode cX3_copyFrom 51 = .ok (.putfield 46, 3) := by decide +kernel
theorem dX3_copyFrom_54 : decode cX3_copyFrom 54 = .ok (.return_, 1) := by decide +kernel
theorem dX3_addAt_0 : decode cX3_addAt 0 = .ok (.aload_n 0, 1) := by decide +kernel
theorem dX3_addAt_1 : decode cX3_addAt 1 = .ok (.getfield 12, 3) := by decide +kernel
theorem dX3_addAt_4 : decode cX3_addAt 4 = .ok (.iload_n 3, 1) := by decide +kernel
theorem dX3_addAt_5 : decode cX3_addAt 5 = .ok (.invokevirtual 49, 3) := by decide +kernel
theorem dX3_addAt_8 : decode cX3_addAt 8 = .ok (.istore 5, 2) := by decide +kernel
theorem dX3_addAt_10 : decode cX3_addAt 10 = .ok (.iload 5, 2) := by decide +kernel
theorem dX3_addAt_12 : decode cX3_addAt 12 = .ok (.iconst (-1), 1) := by decide +kernel
theorem dX3_addAt_13 : decode cX3_addAt 13 = .ok (.if_icmp .eq 36, 3) := by decide +kernel
theorem dX3_addAt_16 : decode cX3_addAt 16 = .ok (.aload_n 0, 1) := by decide +kernel
theorem dX3_addAt_17 : decode cX3_addAt 17 = .ok (.getfield 12, 3) := by decide +kernel
theorem dX3_addAt_20 : decode cX3_addAt 20 = .ok (.iload 5, 2) := by decide +kernel
theorem dX3_addAt_22 : decode cX3_addAt 22 = .ok (.iload_n 2, 1) := by decide +kernel
theorem dX3_addAt_23 : decode cX3_addAt 23 = .ok (.iload_n 3, 1) := by decide +kernel
theorem dX3_addAt_24 : decode cX3_addAt 24 = .ok (.iload 4, 2) := by decide +kernel
theorem dX3_addAt_26 : decode cX3_addAt 26 = .ok (.invokevirtual 53, 3) := by decide +kernel
theorem dX3_addAt_29 : decode cX3_addAt 29 = .ok (.aload_n 0, 1) := by decide +kernel
theorem dX3_addAt_30 : decode cX3_addAt 30 = .ok (.getfield 21, 3) := by decide +kernel
theorem dX3_addAt_33 : decode cX3_addAt 33 = .ok (.iload_n 1, 1) := by decide +kernel
theorem dX3_addAt_34 : decode cX3_addAt 34 = .ok (.iload 5, 2) := by decide +kernel
theorem dX3_addAt_36 : decode cX3_addAt 36 = .ok (.invokevirtual 57, 3) := by decide +kernel
theorem dX3_addAt_39 : decode cX3_addAt 39 = .ok (.aload_n 0, 1) := by decide +kernel
theorem dX3_addAt_40 : decode cX3_addAt 40 = .ok (.dup, 1) := by decide +kernel
theorem dX3_addAt_41 : decode cX3_addAt 41 = .ok (.getfield 40, 3) := by decide +kernel
theorem dX3_addAt_44 : decode cX3_addAt 44 = .ok (.iconst 1, 1) := by decide +kernel
theorem dX3_addAt_45 : decode cX3_addAt 45 = .ok (.iadd, 1) := by decide +kernel
theorem dX3_addAt_46 : decode cX3_addAt 46 = .ok (.putfield 40, 3) := by decide +kernel
theorem dX3_addAt_49 : decode cX3_addAt 49 = .ok (.iload 5, 2) := by decide +kernel
theorem dX3_addAt_51 : decode cX3_addAt 51 = .ok (.ireturn, 1) := by decide +kernel
theorem dX3_drop_0 : decode cX3_drop 0 = .ok (.aload_n 0, 1) := by decide +kernel
theorem dX3_drop_1 : decode cX3_drop 1 = .ok (.getfield 12, 3) := by decide +kernel
theorem dX3_drop_4 : decode cX3_drop 4 = .ok (.iload_n 1, 1) := by decide +kernel
theorem dX3_drop_5 : decode cX3_drop 5 = .ok (.invokevirtual 61, 3) := by decide +kernel
theorem dX3_drop_8 : decode cX3_drop 8 = .ok (.aload_n 0, 1) := by decide +kernel
theorem dX3_drop_9 : decode cX3_drop 9 = .ok (.getfield 21, 3) := by decide +kernel
theorem dX3_drop_12 : decode cX3_drop 12 = .ok (.iload_n 1, 1) := by decide +kernel
theorem dX3_drop_13 : decode cX3_drop 13 = .ok (.invokevirtual 65, 3) := by decide +kernel
theorem dX3_drop_16 : decode cX3_drop 16 = .ok (.aload_n 0, 1) := by decide +kernel
theorem dX3_drop_17 : decode cX3_drop 17 = .ok (.dup, 1) := by decide +kernel
theorem dX3_drop_18 : decode cX3_drop 18 = .ok (.getfield 43, 3) := by decide +kernel
theorem dX3_drop_21 : decode cX3_drop 21 = .ok (.iconst 1, 1) := by decide +kernel
theorem dX3_drop_22 : decode cX3_drop 22 = .ok (.iadd, 1) := by decide +kernel
theorem dX3_drop_23 : decode cX3_drop 23 = .ok (.putfield 43, 3) := by decide +kernel
theorem dX3_drop_26 : decode cX3_drop 26 = .ok (.return_, 1) := by decide +kernel
theorem dX3_fireThings_0 : decode cX3_fireThings 0 = .ok (.aload_n 0, 1) := by decide +kernel
theorem dX3_fireThings_1 : decode cX3_fireThings 1 = .ok (.getfield 21, 3) := by decide +kernel
theorem dX3_fireThings_4 : decode cX3_fireThings 4 = .ok (.aload_n 0, 1) := by decide +kernel
theorem dX3_fireThings_5 : decode cX3_fireThings 5 = .ok (.getfield 25, 3) := by decide +kernel
theorem dX3_fireThings_8 : decode cX3_fireThings 8 = .ok (.invokevirtual 68, 3) := by decide +kernel
theorem dX3_fireThings_11 : decode cX3_fireThings 11 = .ok (.istore_n 1, 1) := by decide +kernel
theorem dX3_fireThings_12 : decode cX3_fireThings 12 = .ok (.iconst 0, 1) := by decide +kernel
theorem dX3_fireThings_13 : decode cX3_fireThings 13 = .ok (.istore_n 2, 1) := by decide +kernel
theorem dX3_fireThings_14 : decode cX3_fireThings 14 = .ok (.iconst 0, 1) := by decide +kernel
theorem dX3_fireThings_15 : decode cX3_fireThings 15 = .ok (.istore_n 3, 1) := by decide +kernel
theorem dX3_fireThings_16 : decode cX3_fireThings 16 = .ok (.iload_n 3, 1) := by decide +kernel
theorem dX3_fireThings_17 : decode cX3_fireThings 17 = .ok (.iload_n 1, 1) := by decide +kernel
theorem dX3_fireThings_18 : decode cX3_fireThings 18 = .ok (.if_icmp .ge 109, 3) := by decide +kernel
theorem dX3_fireThings_21 : decode cX3_fireThings 21 = .ok (.aload_n 0, 1) := by decide +kernel
theorem dX3_fireThings_22 : decode cX3_fireThings 22 = .ok (.getfield 25, 3) := by decide +kernel
theorem dX3_fireThings_25 : decode cX3_fireThings 25 = .ok (.iload_n 3, 1) := by decide +kernel
theorem dX3_fireThings_26 : decode cX3_fireThings 26 = .ok (.iaload, 1) := by decide +kernel
theorem dX3_fireThings_27 : decode cX3_fireThings 27 = .ok (.istore 4, 2) := by decide +kernel
theorem dX3_fireThings_29 : decode cX3_fireThings 29 = .ok (.aload_n 0, 1) := by decide +kernel
theorem dX3_fireThings_30 : decode cX3_fireThings 30 = .ok (.getfield 12, 3) := by decide +kernel
theorem dX3_fireThings_33 : decode cX3_fireThings 33 = .ok (.iload 4, 2) := by decide +kernel
theorem dX3_fireThings_35 : decode cX3_fireThings 35 = .ok (.invokevirtual 72, 3) := by decide +kernel
theorem dX3_fireThings_38 : decode cX3_fireThings 38 = .ok (.istore 5, 2) := by decide +kernel
theorem dX3_fireThings_40 : decode cX3_fireThings 40 = .ok (.aload_n 0, 1) := by decide +kernel
theorem dX3_fireThings_41 : decode cX3_fireThings 41 = .ok (.getfield 12, 3) := by decide +kernel
theorem dX3_fireThings_44 : decode cX3_fireThings 44 = .ok (.iload 4, 2) := by decide +kernel
theorem dX3_fireThings_46 : decode cX3_fireThings 46 = .ok (.invokevirtual 75, 3) := by decide +kernel
theorem dX3_fireThings_49 : decode cX3_fireThings 49 = .ok (.istore 6, 2) := by decide +kernel
theorem dX3_fireThings_51 : decode cX3_fireThings 51 = .ok (.iload_n 2, 1) := by decide +kernel
theorem dX3_fireThings_52 : decode cX3_fireThings 52 = .ok (.iload 5, 2) := by decide +kernel
theorem dX3_fireThings_54 : decode cX3_fireThings 54 = .ok (.iadd, 1) := by decide +kernel
theorem dX3_fireThings_55 : decode cX3_fireThings 55 = .ok (.istore_n 2, 1) := by decide +kernel
theorem dX3_fireThings_56 : decode cX3_fireThings 56 = .ok (.aload_n 0, 1) := by decide +kernel
theorem dX3_fireThings_57 : decode cX3_fireThings 57 = .ok (.getfield 12, 3) := by decide +kernel
theorem dX3_fireThings_60 : decode cX3_fireThings 60 = .ok (.iload 4, 2) := by decide +kernel
theorem dX3_fireThings_62 : decode cX3_fireThings 62 = .ok (.aload_n 0, 1) := by decide +kernel
theorem dX3_fireThings_63 : decode cX3_fireThings 63 = .ok (.getfield 12, 3) := by decide +kernel
theorem dX3_fireThings_66 : decode cX3_fireThings 66 = .ok (.iload 4, 2) := by decide +kernel
theorem dX3_fireThings_68 : decode cX3_fireThings 68 = .ok (.invokevirtual 78, 3) := by decide +kernel
theorem dX3_fireThings_71 : decode cX3_fireThings 71 = .ok (.iconst 1, 1) := by decide +kernel
theorem dX3_fireThings_72 : decode cX3_fireThings 72 = .ok (.iadd, 1) := by decide +kernel
theorem dX3_fireThings_73 : decode cX3_fireThings 73 = .ok (.invokevirtual 81, 3) := by decide +kernel
theorem dX3_fireThings_76 : decode cX3_fireThings 76 = .ok (.iload 6, 2) := by decide +kernel
theorem dX3_fireThings_78 : decode cX3_fireThings 78 = .ok (.iconst 1, 1) := by decide +kernel
theorem dX3_fireThings_79 : decode cX3_fireThings 79 = .ok (.if_icmp .ne 12, 3) := by decide +kernel
theorem dX3_fireThings_82 : decode cX3_fireThings 82 = .ok (.aload_n 0, 1) := by decide +kernel
theorem dX3_fireThings_83 : decode cX3_fireThings 83 = .ok (.iload 4, 2) := by decide +kernel
theorem dX3_fireThings_85 : decode cX3_fireThings 85 = .ok (.invokevirtual 84, 3) := by decide +kernel
theorem dX3_fireThings_88 : decode cX3_fireThings 88 = .ok (.goto 33, 3) := by decide +kernel
theorem dX3_fireThings_91 : decode cX3_fireThings 91 = .ok (.iload 6, 2) := by decide +kernel
theorem dX3_fireThings_93 : decode cX3_fireThings 93 = .ok (.iconst 2, 1) := by decide +kernel
theorem dX3_fireThings_94 : decode cX3_fireThings 94 = .ok (.if_icmp .ne 27, 3) := by decide +kernel
theorem dX3_fireThings_97 : decode cX3_fireThings 97 = .ok (.aload_n 0, 1) := by decide +kernel
theorem dX3_fireThings_98 : decode cX3_fireThings 98 = .ok (.aload_n 0, 1) := by decide +kernel
theorem dX3_fireThings_99 : decode cX3_fireThings 99 = .ok (.getfield 21, 3) := by decide +kernel
theorem dX3_fireThings_102 : decode cX3_fireThings 102 = .ok (.invokevirtual 87, 3) := by decide +kernel
theorem dX3_fireThings_105 : decode cX3_fireThings 105 = .ok (.iload 5, 2) := by decide +kernel
theorem dX3_fireThings_107 : decode cX3_fireThings 107 = .ok (.aload_n 0, 1) := by decide +kernel
theorem dX3_fireThings_108 : decode cX3_fireThings 108 = .ok (.getfield 12, 3) := by decide +kernel
theorem dX3_fireThings_111 : decode cX3_fireThings 111 = .ok (.iload 4, 2) := by decide +kernel
theorem dX3_fireThings_113 : decode cX3_fireThings 113 = .ok (.invokevirtual 91, 3) := by decide +kernel
theorem dX3_fireThings_116 : decode cX3_fireThings 116 = .ok (.iconst 0, 1) := by decide +kernel
theorem dX3_fireThings_117 : decode cX3_fireThings 117 = .ok (.invokevirtual 94, 3) := by decide +kernel
theorem dX3_fireThings_120 : decode cX3_fireThings 120 = .ok (.pop, 1) := by decide +kernel
theorem dX3_fireThings_121 : decode cX3_fireThings 121 = .ok (.iinc 3 1, 3) := by decide +kernel
theorem dX3_fireThings_124 : decode cX3_fireThings 124 = .ok (.goto (-108), 3) := by decide +kernel
theorem dX3_fireThings_127 : decode cX3_fireThings 127 = .ok (.aload_n 0, 1) := by decide +kernel
theorem dX3_fireThings_128 : decode cX3_fireThings 128 = .ok (.dup, 1) := by decide +kernel
theorem dX3_fireThings_129 : decode cX3_fireThings 129 = .ok (.getfield 36, 3) := by decide +kernel
theorem dX3_fireThings_132 : decode cX3_fireThings 132 = .ok (.iconst 1, 1) := by decide +kernel
theorem dX3_fireThings_133 : decode cX3_fireThings 133 = .ok (.iadd, 1) := by decide +kernel
theorem dX3_fireThings_134 : decode cX3_fireThings 134 = .ok (.putfield 36, 3) := by decide +kernel
theorem dX3_fireThings_137 : decode cX3_fireThings 137 = .ok (.iload_n 2, 1) := by decide +kernel
theorem dX3_fireThings_138 : decode cX3_fireThings 138 = .ok (.ireturn, 1) := by decide +kernel
theorem dX3_moveThings_0 : decode cX3_moveThings 0 = .ok (.iconst 0, 1) := by decide +kernel
theorem dX3_moveThings_1 : decode cX3_moveThings 1 = .ok (.istore_n 1, 1) := by decide +kernel
theorem dX3_moveThings_2 : decode cX3_moveThings 2 = .ok (.iconst 0, 1) := by decide +kernel
theorem dX3_moveThings_3 : decode cX3_moveThings 3 = .ok (.istore_n 2, 1) := by decide +kernel
theorem dX3_moveThings_4 : decode cX3_moveThings 4 = .ok (.aload_n 0, 1) := by decide +kernel
theorem dX3_moveThings_5 : decode cX3_moveThings 5 = .ok (.getfield 12, 3) := by decide +kernel
theorem dX3_moveThings_8 : decode cX3_moveThings 8 = .ok (.invokevirtual 98, 3) := by decide +kernel
theorem dX3_moveThings_11 : decode cX3_moveThings 11 = .ok (.istore_n 3, 1) := by decide +kernel
theorem dX3_moveThings_12 : decode cX3_moveThings 12 = .ok (.iconst 0, 1) := by decide +kernel
theorem dX3_moveThings_13 : decode cX3_moveThings 13 = .ok (.istore 4, 2) := by decide +kernel
theorem dX3_moveThings_15 : decode cX3_moveThings 15 = .ok (.iload 4, 2) := by decide +kernel
theorem dX3_moveThings_17 : decode cX3_moveThings 17 = .ok (.iload_n 3, 1) := by decide +kernel
theorem dX3_moveThings_18 : decode cX3_moveThings 18 = .ok (.if_icmp .ge 59, 3) := by decide +kernel
theorem dX3_moveThings_21 : decode cX3_moveThings 21 = .ok (.aload_n 0, 1) := by decide +kernel
theorem dX3_moveThings_22 : decode cX3_moveThings 22 = .ok (.getfield 12, 3) := by decide +kernel
theorem dX3_moveThings_25 : decode cX3_moveThings 25 = .ok (.iload 4, 2) := by decide +kernel
theorem dX3_moveThings_27 : decode cX3_moveThings 27 = .ok (.invokevirtual 91, 3) := by decide +kernel
theorem dX3_moveThings_30 : decode cX3_moveThings 30 = .ok (.istore 5, 2) := by decide +kernel
theorem dX3_moveThings_32 : decode cX3_moveThings 32 = .ok (.iload 5, 2) := by decide +kernel
theorem dX3_moveThings_34 : decode cX3_moveThings 34 = .ok (.ifCond .le 32, 3) := by decide +kernel
theorem dX3_moveThings_37 : decode cX3_moveThings 37 = .ok (.iload 4, 2) := by decide +kernel
theorem dX3_moveThings_39 : decode cX3_moveThings 39 = .ok (.iload_n 2, 1) := by decide +kernel
theorem dX3_moveThings_40 : decode cX3_moveThings 40 = .ok (.if_icmp .eq 26, 3) := by decide +kernel
theorem dX3_moveThings_43 : decode cX3_moveThings 43 = .ok (.aload_n 0, 1) := by decide +kernel
theorem dX3_moveThings_44 : decode cX3_moveThings 44 = .ok (.getfield 12, 3) := by decide +kernel
theorem dX3_moveThings_47 : decode cX3_moveThings 47 = .ok (.iload 4, 2) := by decide +kernel
theorem dX3_moveThings_49 : decode cX3_moveThings 49 = .ok (.iload_n 2, 1) := by decide +kernel
theorem dX3_moveThings_50 : decode cX3_moveThings 50 = .ok (.invokevirtual 101, 3) := by decide +kernel
theorem dX3_moveThings_53 : decode cX3_moveThings 53 = .ok (.aload_n 0, 1) := by decide +kernel
theorem dX3_moveThings_54 : decode cX3_moveThings 54 = .ok (.getfield 21, 3) := by decide +kernel
theorem dX3_moveThings_57 : decode cX3_moveThings 57 = .ok (.iload 4, 2) := by decide +kernel
theorem dX3_moveThings_59 : decode cX3_moveThings 59 = .ok (.iload_n 2, 1) := by decide +kernel
theorem dX3_moveThings_60 : decode cX3_moveThings 60 = .ok (.invokevirtual 104, 3) := by decide +kernel
theorem dX3_moveThings_63 : decode cX3_moveThings 63 = .ok (.iinc 1 1, 3) := by decide +kernel
theorem dX3_moveThings_66 : decode cX3_moveThings 66 = .ok (.iload_n 2, 1) := by decide +kernel
theorem dX3_moveThings_67 : decode cX3_moveThings 67 = .ok (.iload 5, 2) := by decide +kernel
theorem dX3_moveThings_69 : decode cX3_moveThings 69 = .ok (.iadd, 1) := by decide +kernel
theorem dX3_moveThings_70 : decode cX3_moveThings 70 = .ok (.istore_n 2, 1) := by decide +kernel
theorem dX3_moveThings_71 : decode cX3_moveThings 71 = .ok (.iinc 4 1, 3) := by decide +kernel
theorem dX3_moveThings_74 : decode cX3_moveThings 74 = .ok (.goto (-59), 3) := by decide +kernel
theorem dX3_moveThings_77 : decode cX3_moveThings 77 = .ok (.aload_n 0, 1) := by decide +kernel
theorem dX3_moveThings_78 : decode cX3_moveThings 78 = .ok (.dup, 1) := by decide +kernel
theorem dX3_moveThings_79 : decode cX3_moveThings 79 = .ok (.getfield 46, 3) := by decide +kernel
theorem dX3_moveThings_82 : decode cX3_moveThings 82 = .ok (.iload_n 1, 1) := by decide +kernel
theorem dX3_moveThings_83 : decode cX3_moveThings 83 = .ok (.iadd, 1) := by decide +kernel
theorem dX3_moveThings_84 : decode cX3_moveThings 84 = .ok (.putfield 46, 3) := by decide +kernel
theorem dX3_moveThings_87 : decode cX3_moveThings 87 = .ok (.iload_n 1, 1) := by decide +kernel
theorem dX3_moveThings_88 : decode cX3_moveThings 88 = .ok (.ireturn, 1) := by decide +kernel
theorem dX4_init_0 : decode cX4_init 0 = .ok (.aload_n 0, 1) := by decide +kernel
theorem dX4_init_1 : decode cX4_init 1 = .ok (.invokespecial 3, 3) := by decide +kernel
theorem dX4_init_4 : decode cX4_init 4 = .ok (.aload_n 0, 1) := by decide +kernel
theorem dX4_init_5 : decode cX4_init 5 = .ok (.bipush 60, 2) := by decide +kernel
theorem dX4_init_7 : decode cX4_init 7 = .ok (.newarray .int, 2) := by decide +kernel
theorem dX4_init_9 : decode cX4_init 9 = .ok (.putfield 9, 3) := by decide +kernel
theorem dX4_init_12 : decode cX4_init 12 = .ok (.aload_n 0, 1) := by decide +kernel
theorem dX4_init_13 : decode cX4_init 13 = .ok (.iconst 0, 1) := by decide +kernel
theorem dX4_init_14 : decode cX4_init 14 = .ok (.putfield 15, 3) := by decide +kernel
theorem dX4_init_17 : decode cX4_init 17 = .ok (.return_, 1) := by decide +kernel
theorem dX4_size_0 : decode cX4_size 0 = .ok (.aload_n 0, 1) := by decide +kernel
theorem dX4_size_1 : decode cX4_size 1 = .ok (.getfield 15, 3) := by decide +kernel
theorem dX4_size_4 : decode cX4_size 4 = .ok (.ireturn, 1) := by decide +kernel
theorem dX4_isFull_0 : decode cX4_isFull 0 = .ok (.aload_n 0, 1) := by decide +kernel
theorem dX4_isFull_1 : decode cX4_isFull 1 = .ok (.getfield 15, 3) := by decide +kernel
theorem dX4_isFull_4 : decode cX4_isFull 4 = .ok (.bipush 60, 2) := by decide +kernel
theorem dX4_isFull_6 : decode cX4_isFull 6 = .ok (.if_icmp .lt 7, 3) := by decide +kernel
theorem dX4_isFull_9 : decode cX4_isFull 9 = .ok (.iconst 1, 1) := by decide +kernel
theorem dX4_isFull_10 : decode cX4_isFull 10 = .ok (.goto 4, 3) := by decide +kernel
theorem dX4_isFull_13 : decode cX4_isFull 13 = .ok (.iconst 0, 1) := by decide +kernel
theorem dX4_isFull_14 : decode cX4_isFull 14 = .ok (.ireturn, 1) := by decide +kernel
theorem dX4_add_0 : decode cX4_add 0 = .ok (.aload_n 0, 1) := by decide +kernel
theorem dX4_add_1 : decode cX4_add 1 = .ok (.getfield 15, 3) := by decide +kernel
theorem dX4_add_4 : decode cX4_add 4 = .ok (.ifCond .lt 32, 3) := by decide +kernel
theorem dX4_add_7 : decode cX4_add 7 = .ok (.aload_n 0, 1) := by decide +kernel
theorem dX4_add_8 : decode cX4_add 8 = .ok (.getfield 15, 3) := by decide +kernel
theorem dX4_add_11 : decode cX4_add 11 = .ok (.bipush 60, 2) := by decide +kernel
theorem dX4_add_13 : decode cX4_add 13 = .ok (.if_icmp .ge 23, 3) := by decide +kernel
theorem dX4_add_16 : decode cX4_add 16 = .ok (.aload_n 0, 1) := by decide +kernel
theorem dX4_add_17 : decode cX4_add 17 = .ok (.getfield 9, 3) := by decide +kernel
theorem dX4_add_20 : decode cX4_add 20 = .ok (.aload_n 0, 1) := by decide +kernel
theorem dX4_add_21 : decode cX4_add 21 = .ok (.getfield 15, 3) := by decide +kernel
theorem dX4_add_24 : decode cX4_add 24 = .ok (.iload_n 1, 1) := by decide +kernel
theorem dX4_add_25 : decode cX4_add 25 = .ok (.iastore, 1) := by decide +kernel
theorem dX4_add_26 : decode cX4_add 26 = .ok (.aload_n 0, 1) := by decide +kernel
theorem dX4_add_27 : decode cX4_add 27 = .ok (.dup, 1) := by decide +kernel
theorem dX4_add_28 : decode cX4_add 28 = .ok (.getfield 15, 3) := by decide +kernel
theorem dX4_add_31 : decode cX4_add 31 = .ok (.iconst 1, 1) := by decide +kernel
theorem dX4_add_32 : decode cX4_add 32 = .ok (.iadd, 1) := by decide +kernel
theorem dX4_add_33 : decode cX4_add 33 = .ok (.putfield 15, 3) := by decide +kernel
theorem dX4_add_36 : decode cX4_add 36 = .ok (.return_, 1) := by decide +kernel
theorem dX4_empty_0 : decode cX4_empty 0 = .ok (.aload_n 0, 1) := by decide +kernel
theorem dX4_empty_1 : decode cX4_empty 1 = .ok (.iconst 0, 1) := by decide +kernel
theorem dX4_empty_2 : decode cX4_empty 2 = .ok (.putfield 15, 3) := by decide +kernel
theorem dX4_empty_5 : decode cX4_empty 5 = .ok (.return_, 1) := by decide +kernel
theorem dX4_codeAt_0 : decode cX4_codeAt 0 = .ok (.iload_n 1, 1) := by decide +kernel
theorem dX4_codeAt_1 : decode cX4_codeAt 1 = .ok (.ifCond .lt 26, 3) := by decide +kernel
theorem dX4_codeAt_4 : decode cX4_codeAt 4 = .ok (.iload_n 1, 1) := by decide +kernel
theorem dX4_codeAt_5 : decode cX4_codeAt 5 = .ok (.aload_n 0, 1) := by decide +kernel
theorem dX4_codeAt_6 : decode cX4_codeAt 6 = .ok (.getfield 15, 3) := by decide +kernel
theorem dX4_codeAt_9 : decode cX4_codeAt 9 = .ok (.if_icmp .ge 18, 3) := by decide +kernel
theorem dX4_codeAt_12 : decode cX4_codeAt 12 = .ok (.iload_n 1, 1) := by decide +kernel
theorem dX4_codeAt_13 : decode cX4_codeAt 13 = .ok (.bipush 60, 2) := by decide +kernel
theorem dX4_codeAt_15 : decode cX4_codeAt 15 = .ok (.if_icmp .ge 12, 3) := by decide +kernel
theorem dX4_codeAt_18 : decode cX4_codeAt 18 = .ok (.aload_n 0, 1) := by decide +kernel
theorem dX4_codeAt_19 : decode cX4_codeAt 19 = .ok (.getfield 9, 3) := by decide +kernel
theorem dX4_codeAt_22 : decode cX4_codeAt 22 = .ok (.iload_n 1, 1) := by decide +kernel
theorem dX4_codeAt_23 : decode cX4_codeAt 23 = .ok (.iaload, 1) := by decide +kernel
theorem dX4_codeAt_24 : decode cX4_codeAt 24 = .ok (.goto 4, 3) := by decide +kernel
theorem dX4_codeAt_27 : decode cX4_codeAt 27 = .ok (.iconst 0, 1) := by decide +kernel
theorem dX4_codeAt_28 : decode cX4_codeAt 28 = .ok (.ireturn, 1) := by decide +kernel
theorem dX4_indexOf_0 : decode cX4_indexOf 0 = .ok (.iload_n 2, 1) := by decide +kernel
theorem dX4_indexOf_1 : decode cX4_indexOf 1 = .ok (.istore_n 3, 1) := by decide +kernel
theorem dX4_indexOf_2 : decode cX4_indexOf 2 = .ok (.iload_n 3, 1) := by decide +kernel
theorem dX4_indexOf_3 : decode cX4_indexOf 3 = .ok (.aload_n 0, 1) := by decide +kernel
theorem dX4_indexOf_4 : decode cX4_indexOf 4 = .ok (.getfield 15, 3) := by decide +kernel
theorem dX4_indexOf_7 : decode cX4_indexOf 7 = .ok (.if_icmp .ge 20, 3) := by decide +kernel
theorem dX4_indexOf_10 : decode cX4_indexOf 10 = .ok (.aload_n 0, 1) := by decide +kernel
theorem dX4_indexOf_11 : decode cX4_indexOf 11 = .ok (.iload_n 3, 1) := by decide +kernel
theorem dX4_indexOf_12 : decode cX4_indexOf 12 = .ok (.invokevirtual 19, 3) := by decide +kernel
theorem dX4_indexOf_15 : decode cX4_indexOf 15 = .ok (.iload_n 1, 1) := by decide +kernel
theorem dX4_indexOf_16 : decode cX4_indexOf 16 = .ok (.if_icmp .ne 5, 3) := by decide +kernel
theorem dX4_indexOf_19 : decode cX4_indexOf 19 = .ok (.iload_n 3, 1) := by decide +kernel
theorem dX4_indexOf_20 : decode cX4_indexOf 20 = .ok (.ireturn, 1) := by decide +kernel
theorem dX4_indexOf_21 : decode cX4_indexOf 21 = .ok (.iinc 3 1, 3) := by decide +kernel
theorem dX4_indexOf_24 : decode cX4_indexOf 24 = .ok (.goto (-22), 3) := by decide +kernel
theorem dX4_indexOf_27 : decode cX4_indexOf 27 = .ok (.aload_n 0, 1) := by decide +kernel
theorem dX4_indexOf_28 : decode cX4_indexOf 28 = .ok (.getfield 15, 3) := by decide +kernel
theorem dX4_indexOf_31 : decode cX4_indexOf 31 = .ok (.ireturn, 1) := by decide +kernel
theorem dX4_numberIn_0 : decode cX4_numberIn 0 = .ok (.iconst 0, 1) := by decide +kernel
theorem dX4_numberIn_1 : decode cX4_numberIn 1 = .ok (.istore_n 3, 1) := by decide +kernel
theorem dX4_numberIn_2 : decode cX4_numberIn 2 = .ok (.iload_n 1, 1) := by decide +kernel
theorem dX4_numberIn_3 : decode cX4_numberIn 3 = .ok (.istore 4, 2) := by decide +kernel
theorem dX4_numberIn_5 : decode cX4_numberIn 5 = .ok (.iload 4, 2) := by decide +kernel
theorem dX4_numberIn_7 : decode cX4_numberIn 7 = .ok (.iload_n 2, 1) := by decide +kernel
theorem dX4_numberIn_8 : decode cX4_numberIn 8 = .ok (.if_icmp .ge 33, 3) := by decide +kernel
theorem dX4_numberIn_11 : decode cX4_numberIn 11 = .ok (.iload 4, 2) := by decide +kernel
theorem dX4_numberIn_13 : decode cX4_numberIn 13 = .ok (.aload_n 0, 1) := by decide +kernel
theorem dX4_numberIn_14 : decode cX4_numberIn 14 = .ok (.getfield 15, 3) := by decide +kernel
theorem dX4_numberIn_17 : decode cX4_numberIn 17 = .ok (.if_icmp .ge 24, 3) := by decide +kernel
theorem dX4_numberIn_20 : decode cX4_numberIn 20 = .ok (.bipush 10, 2) := by decide +kernel
theorem dX4_numberIn_22 : decode cX4_numberIn 22 = .ok (.iload_n 3, 1) := by decide +kernel
theorem dX4_numberIn_23 : decode cX4_numberIn 23 = .ok (.imul, 1) := by decide +kernel
theorem dX4_numberIn_24 : decode cX4_numberIn 24 = .ok (.aload_n 0, 1) := by decide +kernel
theorem dX4_numberIn_25 : decode cX4_numberIn 25 = .ok (.iload 4, 2) := by decide +kernel
theorem dX4_numberIn_27 : decode cX4_numberIn 27 = .ok (.invokevirtual 19, 3) := by decide +kernel
theorem dX4_numberIn_30 : decode cX4_numberIn 30 = .ok (.iadd, 1) := by decide +kernel
theorem dX4_numberIn_31 : decode cX4_numberIn 31 = .ok (.bipush 48, 2) := by decide +kernel
theorem dX4_numberIn_33 : decode cX4_numberIn 33 = .ok (.isub, 1) := by decide +kernel
theorem dX4_numberIn_34 : decode cX4_numberIn 34 = .ok (.istore_n 3, 1) := by decide +kernel
theorem dX4_numberIn_35 : decode cX4_numberIn 35 = .ok (.iinc 4 1, 3) := by decide +kernel
theorem dX4_numberIn_38 : decode cX4_numberIn 38 = .ok (.goto (-33), 3) := by decide +kernel
theorem dX4_numberIn_41 : decode cX4_numberIn 41 = .ok (.iload_n 3, 1) := by decide +kernel
theorem dX4_numberIn_42 : decode cX4_numberIn 42 = .ok (.ireturn, 1) := by decide +kernel
theorem dX4_firstWrong_0 : decode cX4_firstWrong 0 = .ok (.iconst 0, 1) := by decide +kernel
theorem dX4_firstWrong_1 : decode cX4_firstWrong 1 = .ok (.istore_n 1, 1) := by decide +kernel
theorem dX4_firstWrong_2 : decode cX4_firstWrong 2 = .ok (.iconst 0, 1) := by decide +kernel
theorem dX4_firstWrong_3 : decode cX4_firstWrong 3 = .ok (.istore_n 2, 1) := by decide +kernel
theorem dX4_firstWrong_4 : decode cX4_firstWrong 4 = .ok (.iload_n 2, 1) := by decide +kernel
theorem dX4_firstWrong_5 : decode cX4_firstWrong 5 = .ok (.aload_n 0, 1) := by decide +kernel
theorem dX4_firstWrong_6 : decode cX4_firstWrong 6 = .ok (.getfield 15, 3) := by decide +kernel
theorem dX4_firstWrong_9 : decode cX4_firstWrong 9 = .ok (.if_icmp .ge 26, 3) := by decide +kernel
theorem dX4_firstWrong_12 : decode cX4_firstWrong 12 = .ok (.iload_n 1, 1) := by decide +kernel
theorem dX4_firstWrong_13 : decode cX4_firstWrong 13 = .ok (.aload_n 0, 1) := by decide +kernel
theorem dX4_firstWrong_14 : decode cX4_firstWrong 14 = .ok (.iload_n 2, 1) := by decide +kernel
theorem dX4_firstWrong_15 : decode cX4_firstWrong 15 = .ok (.invokevirtual 19, 3) := by decide +kernel
theorem dX4_firstWrong_18 : decode cX4_firstWrong 18 = .ok (.invokestatic 23, 3) := by decide +kernel
theorem dX4_firstWrong_21 : decode cX4_firstWrong 21 = .ok (.istore_n 1, 1) := by decide +kernel
theorem dX4_firstWrong_22 : decode cX4_firstWrong 22 = .ok (.iload_n 1, 1) := by decide +kernel
theorem dX4_firstWrong_23 : decode cX4_firstWrong 23 = .ok (.iconst (-1), 1) := by decide +kernel
theorem dX4_firstWrong_24 : decode cX4_firstWrong 24 = .ok (.if_icmp .ne 5, 3) := by decide +kernel
theorem dX4_firstWrong_27 : decode cX4_firstWrong 27 = .ok (.iload_n 2, 1) := by decide +kernel
theorem dX4_firstWrong_28 : decode cX4_firstWrong 28 = .ok (.ireturn, 1) := by decide +kernel
theorem dX4_firstWrong_29 : decode cX4_firstWrong 29 = .ok (.iinc 2 1, 3) := by decide +kernel
theorem dX4_firstWrong_32 : decode cX4_firstWrong 32 = .ok (.goto (-28), 3) := by decide +kernel
theorem dX4_firstWrong_35 : decode cX4_firstWrong 35 = .ok (.aload_n 0, 1) := by decide +kernel
theorem dX4_firstWrong_36 : decode cX4_firstWrong 36 = .ok (.getfield 15, 3) := by decide +kernel
theorem dX4_firstWrong_39 : decode cX4_firstWrong 39 = .ok (.ireturn, 1) := by decide +kernel
theorem dX4_isComplete_0 : decode cX4_isComplete 0 = .ok (.iconst 0, 1) := by decide +kernel
theorem dX4_isComplete_1 : decode cX4_isComplete 1 = .ok (.istore_n 1, 1) := by decide +kernel
theorem dX4_isComplete_2 : decode cX4_isComplete 2 = .ok (.iconst 0, 1) := by decide +kernel
theorem dX4_isComplete_3 : decode cX4_isComplete 3 = .ok (.istore_n 2, 1) := by decide +kernel
theorem dX4_isComplete_4 : decode cX4_isComplete 4 = .ok (.iload_n 2, 1) := by decide +kernel
theorem dX4_isComplete_5 : decode cX4_isComplete 5 = .ok (.aload_n 0, 1) := by decide +kernel
theorem dX4_isComplete_6 : decode cX4_isComplete 6 = .ok (.getfield 15, 3) := by decide +kernel
theorem dX4_isComplete_9 : decode cX4_isComplete 9 = .ok (.if_icmp .ge 19, 3) := by decide +kernel
theorem dX4_isComplete_12 : decode cX4_isComplete 12 = .ok (.iload_n 1, 1) := by decide +kernel
theorem dX4_isComplete_13 : decode cX4_isComplete 13 = .ok (.aload_n 0, 1) := by decide +kernel
theorem dX4_isComplete_14 : decode cX4_isComplete 14 = .ok (.iload_n 2, 1) := by decide +kernel
theorem dX4_isComplete_15 : decode cX4_isComplete 15 = .ok (.invokevirtual 19, 3) := by decide +kernel
theorem dX4_isComplete_18 : decode cX4_isComplete 18 = .ok (.invokestatic 23, 3) := by decide +kernel
theorem dX4_isComplete_21 : decode cX4_isComplete 21 = .ok (.istore_n 1, 1) := by decide +kernel
theorem dX4_isComplete_22 : decode cX4_isComplete 22 = .ok (.iinc 2 1, 3) := by decide +kernel
theorem dX4_isComplete_25 : decode cX4_isComplete 25 = .ok (.goto (-21), 3) := by decide +kernel
theorem dX4_isComplete_28 : decode cX4_isComplete 28 = .ok (.iload_n 1, 1) := by decide +kernel
theorem dX4_isComplete_29 : decode cX4_isComplete 29 = .ok (.bipush 6, 2) := by decide +kernel
theorem dX4_isComplete_31 : decode cX4_isComplete 31 = .ok (.if_icmp .eq 9, 3) := by decide +kernel
theorem dX4_isComplete_34 : decode cX4_isComplete 34 = .ok (.iload_n 1, 1) := by decide +kernel
theorem dX4_isComplete_35 : decode cX4_isComplete 35 = .ok (.bipush 7, 2) := by decide +kernel
theorem dX4_isComplete_37 : decode cX4_isComplete 37 = .ok (.if_icmp .ne 7, 3) := by decide +kernel
theorem dX4_isComplete_40 : decode cX4_isComplete 40 = .ok (.iconst 1, 1) := by decide +kernel
theorem dX4_isComplete_41 : decode cX4_isComplete 41 = .ok (.goto 4, 3) := by decide +kernel
theorem dX4_isComplete_44 : decode cX4_isComplete 44 = .ok (.iconst 0, 1) := by decide +kernel
theorem dX4_isComplete_45 : decode cX4_isComplete 45 = .ok (.ireturn, 1) := by decide +kernel
theorem dX4_stateBehind_0 : decode cX4_stateBehind 0 = .ok (.iload_n 0, 1) := by decide +kernel
theorem dX4_stateBehind_1 : decode cX4_stateBehind 1 = .ok (.tableswitch 112 0 7 #[47, 52, 64, 70, 52, 76, 95, 100], 47) := by decide +kernel
theorem dX4_stateBehind_48 : decode cX4_stateBehind 48 = .ok (.iload_n 1, 1) := by decide +kernel
theorem dX4_stateBehind_49 : decode cX4_stateBehind 49 = .ok (.invokestatic 27, 3) := by decide +kernel
theorem dX4_stateBehind_52 : decode cX4_stateBehind 52 = .ok (.ireturn, 1) := by decide +kernel
theorem dX4_stateBehind_53 : decode cX4_stateBehind 53 = .ok (.iload_n 1, 1) := by decide +kernel
theorem dX4_stateBehind_54 : decode cX4_stateBehind 54 = .ok (.bipush 42, 2) := by decide +kernel
theorem dX4_stateBehind_56 : decode cX4_stateBehind 56 = .ok (.if_icmp .ne 7, 3) := by decide +kernel
theorem dX4_stateBehind_59 : decode cX4_stateBehind 59 = .ok (.iconst 5, 1) := by decide +kernel
theorem dX4_stateBehind_60 : decode cX4_stateBehind 60 = .ok (.goto 4, 3) := by decide +kernel
theorem dX4_stateBehind_63 : decode cX4_stateBehind 63 = .ok (.iconst (-1), 1) := by decide +kernel
theorem dX4_stateBehind_64 : decode cX4_stateBehind 64 = .ok (.ireturn, 1) := by decide +kernel
theorem dX4_stateBehind_65 : decode cX4_stateBehind 65 = .ok (.iload_n 1, 1) := by decide +kernel
theorem dX4_stateBehind_66 : decode cX4_stateBehind 66 = .ok (.iconst 3, 1) := by decide +kernel
theorem dX4_stateBehind_67 : decode cX4_stateBehind 67 = .ok (.invokestatic 30, 3) := by decide +kernel
theorem dX4_stateBehind_70 : decode cX4_stateBehind 70 = .ok (.ireturn, 1) := by decide +kernel
theorem dX4_stateBehind_71 : decode cX4_stateBehind 71 = .ok (.iload_n 1, 1) := by decide +kernel
theorem dX4_stateBehind_72 : decode cX4_stateBehind 72 = .ok (.iconst 4, 1) := by decide +kernel
theorem dX4_stateBehind_73 : decode cX4_stateBehind 73 = .ok (.invokestatic 30, 3) := by decide +kernel
theorem dX4_stateBehind_76 : decode cX4_stateBehind 76 = .ok (.ireturn, 1) := by decide +kernel
theorem dX4_stateBehind_77 : decode cX4_stateBehind 77 = .ok (.iload_n 1, 1) := by decide +kernel
theorem dX4_stateBehind_78 : decode cX4_stateBehind 78 = .ok (.bipush 49, 2) := by decide +kernel
theorem dX4_stateBehind_80 : decode cX4_stateBehind 80 = .ok (.if_icmp .lt 14, 3) := by decide +kernel
theorem dX4_stateBehind_83 : decode cX4_stateBehind 83 = .ok (.iload_n 1, 1) := by decide +kernel
theorem dX4_stateBehind_84 : decode cX4_stateBehind 84 = .ok (.bipush 52, 2) := by decide +kernel
theorem dX4_stateBehind_86 : decode cX4_stateBehind 86 = .ok (.if_icmp .gt 8, 3) := by decide +kernel
theorem dX4_stateBehind_89 : decode cX4_stateBehind 89 = .ok (.bipush 6, 2) := by decide +kernel
theorem dX4_stateBehind_91 : decode cX4_stateBehind 91 = .ok (.goto 4, 3) := by decide +kernel
theorem dX4_stateBehind_94 : decode cX4_stateBehind 94 = .ok (.iconst (-1), 1) := by decide +kernel
theorem dX4_stateBehind_95 : decode cX4_stateBehind 95 = .ok (.ireturn, 1) := by decide +kernel
theorem dX4_stateBehind_96 : decode cX4_stateBehind 96 = .ok (.iload_n 1, 1) := by decide +kernel
theorem dX4_stateBehind_97 : decode cX4_stateBehind 97 = .ok (.invokestatic 33, 3) := by decide +kernel
theorem dX4_stateBehind_100 : decode cX4_stateBehind 100 = .ok (.ireturn, 1) := by decide +kernel
theorem dX4_stateBehind_101 : decode cX4_stateBehind 101 = .ok (.iload_n 1, 1) := by decide +kernel
theorem dX4_stateBehind_102 : decode cX4_stateBehind 102 = .ok (.bipush 44, 2) := by decide +kernel
theorem dX4_stateBehind_104 : decode cX4_stateBehind 104 = .ok (.if_icmp .ne 7, 3) := by decide +kernel
theorem dX4_stateBehind_107 : decode cX4_stateBehind 107 = .ok (.iconst 0, 1) := by decide +kernel
theorem dX4_stateBehind_108 : decode cX4_stateBehind 108 = .ok (.goto 4, 3) := by decide +kernel
theorem dX4_stateBehind_111 : decode cX4_stateBehind 111 = .ok (.iconst (-1), 1) := by decide +kernel
theorem dX4_stateBehind_112 : decode cX4_stateBehind 112 = .ok (.ireturn, 1) := by decide +kernel
theorem dX4_stateBehind_113 : decode cX4_stateBehind 113 = .ok (.iconst (-1), 1) := by decide +kernel
theorem dX4_stateBehind_114 : decode cX4_stateBehind 114 = .ok (.ireturn, 1) := by decide +kernel
theorem dX4_firstDigit_0 : decode cX4_firstDigit 0 = .ok (.iload_n 0, 1) := by decide +kernel
theorem dX4_firstDigit_1 : decode cX4_firstDigit 1 = .ok (.bipush 48, 2) := by decide +kernel
theorem dX4_firstDigit_3 : decode cX4_firstDigit 3 = .ok (.if_icmp .ne 5, 3) := by decide +kernel
theorem dX4_firstDigit_6 : decode cX4_firstDigit 6 = .ok (.iconst 1, 1) := by decide +kernel
theorem dX4_firstDigit_7 : decode cX4_firstDigit 7 = .ok (.ireturn, 1) := by decide +kernel
theorem dX4_firstDigit_8 : decode cX4_firstDigit 8 = .ok (.iload_n 0, 1) := by decide +kernel
theorem dX4_firstDigit_9 : decode cX4_firstDigit 9 = .ok (.bipush 49, 2) := by decide +kernel
theorem dX4_firstDigit_11 : decode cX4_firstDigit 11 = .ok (.if_icmp .lt 13, 3) := by decide +kernel
theorem dX4_firstDigit_14 : decode cX4_firstDigit 14 = .ok (.iload_n 0, 1) := by decide +kernel
theorem dX4_firstDigit_15 : decode cX4_firstDigit 15 = .ok (.bipush 57, 2) := by decide +kernel
theorem dX4_firstDigit_17 : decode cX4_firstDigit 17 = .ok (.if_icmp .gt 7, 3) := by decide +kernel
theorem dX4_firstDigit_20 : decode cX4_firstDigit 20 = .ok (.iconst 2, 1) := by decide +kernel
theorem dX4_firstDigit_21 : decode cX4_firstDigit 21 = .ok (.goto 4, 3) := by decide +kernel
theorem dX4_firstDigit_24 : decode cX4_firstDigit 24 = .ok (.iconst (-1), 1) := by decide +kernel
theorem dX4_firstDigit_25 : decode cX4_firstDigit 25 = .ok (.ireturn, 1) := by decide +kernel
theorem dX4_laterDigit_0 : decode cX4_laterDigit 0 = .ok (.iload_n 0, 1) := by decide +kernel
theorem dX4_laterDigit_1 : decode cX4_laterDigit 1 = .ok (.bipush 42, 2) := by decide +kernel
theorem dX4_laterDigit_3 : decode cX4_laterDigit 3 = .ok (.if_icmp .ne 5, 3) := by decide +kernel
theorem dX4_laterDigit_6 : decode cX4_laterDigit 6 = .ok (.iconst 5, 1) := by decide +kernel
theorem dX4_laterDigit_7 : decode cX4_laterDigit 7 = .ok (.ireturn, 1) := by decide +kernel
theorem dX4_laterDigit_8 : decode cX4_laterDigit 8 = .ok (.iload_n 0, 1) := by decide +kernel
theorem dX4_laterDigit_9 : decode cX4_laterDigit 9 = .ok (.bipush 48, 2) := by decide +kernel
theorem dX4_laterDigit_11 : decode cX4_laterDigit 11 = .ok (.if_icmp .lt 13, 3) := by decide +kernel
theorem dX4_laterDigit_14 : decode cX4_laterDigit 14 = .ok (.iload_n 0, 1) := by decide +kernel
theorem dX4_laterDigit_15 : decode cX4_laterDigit 15 = .ok (.bipush 57, 2) := by decide +kernel
theorem dX4_laterDigit_17 : decode cX4_laterDigit 17 = .ok (.if_icmp .gt 7, 3) := by decide +kernel
theorem dX4_laterDigit_20 : decode cX4_laterDigit 20 = .ok (.iload_n 1, 1) := by decide +kernel
theorem dX4_laterDigit_21 : decode cX4_laterDigit 21 = .ok (.goto 4, 3) := by decide +kernel
theorem dX4_laterDigit_24 : decode cX4_laterDigit 24 = .ok (.iconst (-1), 1) := by decide +kernel
theorem dX4_laterDigit_25 : decode cX4_laterDigit 25 = .ok (.ireturn, 1) := by decide +kernel
theorem dX4_behindSize_0 : decode cX4_behindSize 0 = .ok (.iload_n 0, 1) := by decide +kernel
theorem dX4_behindSize_1 : decode cX4_behindSize 1 = .ok (.bipush 44, 2) := by decide +kernel
theorem dX4_behindSize_3 : decode cX4_behindSize 3 = .ok (.if_icmp .ne 5, 3) := by decide +kernel
theorem dX4_behindSize_6 : decode cX4_behindSize 6 = .ok (.iconst 0, 1) := by decide +kernel
theorem dX4_behindSize_7 : decode cX4_behindSize 7 = .ok (.ireturn, 1) := by decide +kernel
theorem dX4_behindSize_8 : decode cX4_behindSize 8 = .ok (.iload_n 0, 1) := by decide +kernel
theorem dX4_behindSize_9 : decode cX4_behindSize 9 = .ok (.bipush 33, 2) := by decide +kernel
theorem dX4_behindSize_11 : decode cX4_behindSize 11 = .ok (.if_icmp .eq 9, 3) := by decide +kernel
theorem dX4_behindSize_14 : decode cX4_behindSize 14 = .ok (.iload_n 0, 1) := by decide +kernel
theorem dX4_behindSize_15 : decode cX4_behindSize 15 = .ok (.bipush 43, 2) := by decide +kernel
theorem dX4_behindSize_17 : decode cX4_behindSize 17 = .ok (.if_icmp .ne 8, 3) := by decide +kernel
theorem dX4_behindSize_20 : decode cX4_behindSize 20 = .ok (.bipush 7, 2) := by decide +kernel
theorem dX4_behindSize_22 : decode cX4_behindSize 22 = .ok (.goto 4, 3) := by decide +kernel
theorem dX4_behindSize_25 : decode cX4_behindSize 25 = .ok (.iconst (-1), 1) := by decide +kernel
theorem dX4_behindSize_26 : decode cX4_behindSize 26 = .ok (.ireturn, 1) := by decide +kernel
theorem dX5_init_0 : decode cX5_init 0 = .ok (.aload_n 0, 1) := by decide +kernel
theorem dX5_init_1 : decode cX5_init 1 = .ok (.invokespecial 1, 3) := by decide +kernel
theorem dX5_init_4 : decode cX5_init 4 = .ok (.aload_n 0, 1) := by decide +kernel
theorem dX5_init_5 : decode cX5_init 5 = .ok (.new 7, 3) := by decide +kernel
theorem dX5_init_8 : decode cX5_init 8 = .ok (.dup, 1) := by decide +kernel
theorem dX5_init_9 : decode cX5_init 9 = .ok (.invokespecial 9, 3) := by decide +kernel
theorem dX5_init_12 : decode cX5_init 12 = .ok (.putfield 10, 3) := by decide +kernel
theorem dX5_init_15 : decode cX5_init 15 = .ok (.aload_n 0, 1) := by decide +kernel
theorem dX5_init_16 : decode cX5_init 16 = .ok (.new 7, 3) := by decide +kernel
theorem dX5_init_19 : decode cX5_init 19 = .ok (.dup, 1) := by decide +kernel
theorem dX5_init_20 : decode cX5_init 20 = .ok (.invokespecial 9, 3) := by decide +kernel
theorem dX5_init_23 : decode cX5_init 23 = .ok (.putfield 16, 3) := by decide +kernel
theorem dX5_init_26 : decode cX5_init 26 = .ok (.aload_n 0, 1) := by decide +kernel
theorem dX5_init_27 : decode cX5_init 27 = .ok (.new 19, 3) := by decide +kernel
theorem dX5_init_30 : decode cX5_init 30 = .ok (.dup, 1) := by decide +kernel
theorem dX5_init_31 : decode cX5_init 31 = .ok (.invokespecial 21, 3) := by decide +kernel
theorem dX5_init_34 : decode cX5_init 34 = .ok (.putfield 22, 3) := by decide +kernel
theorem dX5_init_37 : decode cX5_init 37 = .ok (.aload_n 0, 1) := by decide +kernel
theorem dX5_init_38 : decode cX5_init 38 = .ok (.new 26, 3) := by decide +kernel
theorem dX5_init_41 : decode cX5_init 41 = .ok (.dup, 1) := by decide +kernel
theorem dX5_init_42 : decode cX5_init 42 = .ok (.invokespecial 28, 3) := by decide +kernel
theorem dX5_init_45 : decode cX5_init 45 = .ok (.putfield 29, 3) := by decide +kernel
theorem dX5_init_48 : decode cX5_init 48 = .ok (.return_, 1) := by decide +kernel
theorem dX5_put_0 : decode cX5_put 0 = .ok (.iload_n 1, 1) := by decide +kernel
theorem dX5_put_1 : decode cX5_put 1 = .ok (.iload_n 2, 1) := by decide +kernel
theorem dX5_put_2 : decode cX5_put 2 = .ok (.iload_n 3, 1) := by decide +kernel
theorem dX5_put_3 : decode cX5_put 3 = .ok (.invokestatic 33, 3) := by decide +kernel
theorem dX5_put_6 : decode cX5_put 6 = .ok (.ifCond .ne 13, 3) := by decide +kernel
theorem dX5_put_9 : decode cX5_put 9 = .ok (.new 37, 3) := by decide +kernel
theorem dX5_put_12 : decode cX5_put 12 = .ok (.dup, 1) := by decide +kernel
theorem dX5_put_13 : decode cX5_put 13 = .ok (.ldc 39, 2) := by decide +kernel
theorem dX5_put_15 : decode cX5_put 15 = .ok (.invokespecial 41, 3) := by decide +kernel
theorem dX5_put_18 : decode cX5_put 18 = .ok (.athrow, 1) := by decide +kernel
theorem dX5_put_19 : decode cX5_put 19 = .ok (.aload_n 0, 1) := by decide +kernel
theorem dX5_put_20 : decode cX5_put 20 = .ok (.getfield 10, 3) := by decide +kernel
theorem dX5_put_23 : decode cX5_put 23 = .ok (.getfield 44, 3) := by decide +kernel
theorem dX5_put_26 : decode cX5_put 26 = .ok (.iload_n 2, 1) := by decide +kernel
theorem dX5_put_27 : decode cX5_put 27 = .ok (.invokevirtual 48, 3) := by decide +kernel
theorem dX5_put_30 : decode cX5_put 30 = .ok (.iconst (-1), 1) := by decide +kernel
theorem dX5_put_31 : decode cX5_put 31 = .ok (.if_icmp .ne 13, 3) := by decide +kernel
theorem dX5_put_34 : decode cX5_put 34 = .ok (.new 54, 3) := by decide +kernel
theorem dX5_put_37 : decode cX5_put 37 = .ok (.dup, 1) := by decide +kernel
theorem dX5_put_38 : decode cX5_put 38 = .ok (.ldc 56, 2) := by decide +kernel
theorem dX5_put_40 : decode cX5_put 40 = .ok (.invokespecial 58, 3) := by decide +kernel
theorem dX5_put_43 : decode cX5_put 43 = .ok (.athrow, 1) := by decide +kernel
theorem dX5_put_44 : decode cX5_put 44 = .ok (.aload_n 0, 1) := by decide +kernel
theorem dX5_put_45 : decode cX5_put 45 = .ok (.getfield 22, 3) := by decide +kernel
theorem dX5_put_48 : decode cX5_put 48 = .ok (.aload_n 0, 1) := by decide +kernel
theorem dX5_put_49 : decode cX5_put 49 = .ok (.getfield 10, 3) := by decide +kernel
theorem dX5_put_52 : decode cX5_put 52 = .ok (.invokevirtual 59, 3) := by decide +kernel
theorem dX5_put_55 : decode cX5_put 55 = .ok (.aload_n 0, 1) := by decide +kernel
theorem dX5_put_56 : decode cX5_put 56 = .ok (.getfield 10, 3) := by decide +kernel
theorem dX5_put_59 : decode cX5_put 59 = .ok (.getfield 44, 3) := by decide +kernel
theorem dX5_put_62 : decode cX5_put 62 = .ok (.aload_n 0, 1) := by decide +kernel
theorem dX5_put_63 : decode cX5_put 63 = .ok (.getfield 10, 3) := by decide +kernel
theorem dX5_put_66 : decode cX5_put 66 = .ok (.aload_n 0, 1) := by decide +kernel
theorem dX5_put_67 : decode cX5_put 67 = .ok (.getfield 10, 3) := by decide +kernel
theorem dX5_put_70 : decode cX5_put 70 = .ok (.getfield 63, 3) := by decide +kernel
theorem dX5_put_73 : decode cX5_put 73 = .ok (.invokevirtual 67, 3) := by decide +kernel
theorem dX5_put_76 : decode cX5_put 76 = .ok (.iload_n 1, 1) := by decide +kernel
theorem dX5_put_77 : decode cX5_put 77 = .ok (.iload_n 2, 1) := by decide +kernel
theorem dX5_put_78 : decode cX5_put 78 = .ok (.iload_n 3, 1) := by decide +kernel
theorem dX5_put_79 : decode cX5_put 79 = .ok (.invokevirtual 73, 3) := by decide +kernel
theorem dX5_put_82 : decode cX5_put 82 = .ok (.invokevirtual 77, 3) := by decide +kernel
theorem dX5_put_85 : decode cX5_put 85 = .ok (.ireturn, 1) := by decide +kernel
theorem dX5_putBehind_0 : decode cX5_putBehind 0 = .ok (.aload_n 0, 1) := by decide +kernel
theorem dX5_putBehind_1 : decode cX5_putBehind 1 = .ok (.getfield 10, 3) := by decide +kernel
theorem dX5_putBehind_4 : decode cX5_putBehind 4 = .ok (.getfield 44, 3) := by decide +kernel
theorem dX5_putBehind_7 : decode cX5_putBehind 7 = .ok (.iload_n 1, 1) := by decide +kernel
theorem dX5_putBehind_8 : decode cX5_putBehind 8 = .ok (.invokevirtual 80, 3) := by decide +kernel
theorem dX5_putBehind_11 : decode cX5_putBehind 11 = .ok (.ifCond .eq 13, 3) := by decide +kernel
theorem dX5_putBehind_14 : decode cX5_putBehind 14 = .ok (.new 83, 3) := by decide +kernel
theorem dX5_putBehind_17 : decode cX5_putBehind 17 = .ok (.dup, 1) := by decide +kernel
theorem dX5_putBehind_18 : decode cX5_putBehind 18 = .ok (.ldc 85, 2) := by decide +kernel
theorem dX5_putBehind_20 : decode cX5_putBehind 20 = .ok (.invokespecial 87, 3) := by decide +kernel
theorem dX5_putBehind_23 : decode cX5_putBehind 23 = .ok (.athrow, 1) := by decide +kernel
theorem dX5_putBehind_24 : decode cX5_putBehind 24 = .ok (.iload_n 2, 1) := by decide +kernel
theorem dX5_putBehind_25 : decode cX5_putBehind 25 = .ok (.iload_n 3, 1) := by decide +kernel
theorem dX5_putBehind_26 : decode cX5_putBehind 26 = .ok (.iload 4, 2) := by decide +kernel
theorem dX5_putBehind_28 : decode cX5_putBehind 28 = .ok (.invokestatic 33, 3) := by decide +kernel
theorem dX5_putBehind_31 : decode cX5_putBehind 31 = .ok (.ifCond .ne 13, 3) := by decide +kernel
theorem dX5_putBehind_34 : decode cX5_putBehind 34 = .ok (.new 37, 3) := by decide +kernel
theorem dX5_putBehind_37 : decode cX5_putBehind 37 = .ok (.dup, 1) := by decide +kernel
theorem dX5_putBehind_38 : decode cX5_putBehind 38 = .ok (.ldc 39, 2) := by decide +kernel
theorem dX5_putBehind_40 : decode cX5_putBehind 40 = .ok (.invokespecial 41, 3) := by decide +kernel
theorem dX5_putBehind_43 : decode cX5_putBehind 43 = .ok (.athrow, 1) := by decide +kernel
theorem dX5_putBehind_44 : decode cX5_putBehind 44 = .ok (.aload_n 0, 1) := by decide +kernel
theorem dX5_putBehind_45 : decode cX5_putBehind 45 = .ok (.getfield 10, 3) := by decide +kernel
theorem dX5_putBehind_48 : decode cX5_putBehind 48 = .ok (.getfield 44, 3) := by decide +kernel
theorem dX5_putBehind_51 : decode cX5_putBehind 51 = .ok (.iload_n 3, 1) := by decide +kernel
theorem dX5_putBehind_52 : decode cX5_putBehind 52 = .ok (.invokevirtual 48, 3) := by decide +kernel
theorem dX5_putBehind_55 : decode cX5_putBehind 55 = .ok (.iconst (-1), 1) := by decide +kernel
theorem dX5_putBehind_56 : decode cX5_putBehind 56 = .ok (.if_icmp .ne 13, 3) := by decide +kernel
theorem dX5_putBehind_59 : decode cX5_putBehind 59 = .ok (.new 54, 3) := by decide +kernel
theorem dX5_putBehind_62 : decode cX5_putBehind 62 = .ok (.dup, 1) := by decide +kernel
theorem dX5_putBehind_63 : decode cX5_putBehind 63 = .ok (.ldc 56, 2) := by decide +kernel
theorem dX5_putBehind_65 : decode cX5_putBehind 65 = .ok (.invokespecial 58, 3) := by decide +kernel
theorem dX5_putBehind_68 : decode cX5_putBehind 68 = .ok (.athrow, 1) := by decide +kernel
theorem dX5_putBehind_69 : decode cX5_putBehind 69 = .ok (.aload_n 0, 1) := by decide +kernel
theorem dX5_putBehind_70 : decode cX5_putBehind 70 = .ok (.getfield 22, 3) := by decide +kernel
theorem dX5_putBehind_73 : decode cX5_putBehind 73 = .ok (.aload_n 0, 1) := by decide +kernel
theorem dX5_putBehind_74 : decode cX5_putBehind 74 = .ok (.getfield 10, 3) := by decide +kernel
theorem dX5_putBehind_77 : decode cX5_putBehind 77 = .ok (.invokevirtual 59, 3) := by decide +kernel
theorem dX5_putBehind_80 : decode cX5_putBehind 80 = .ok (.aload_n 0, 1) := by decide +kernel
theorem dX5_putBehind_81 : decode cX5_putBehind 81 = .ok (.getfield 10, 3) := by decide +kernel
theorem dX5_putBehind_84 : decode cX5_putBehind 84 = .ok (.getfield 63, 3) := by decide +kernel
theorem dX5_putBehind_87 : decode cX5_putBehind 87 = .ok (.iload_n 1, 1) := by decide +kernel
theorem dX5_putBehind_88 : decode cX5_putBehind 88 = .ok (.sipush 1000, 3) := by decide +kernel
theorem dX5_putBehind_91 : decode cX5_putBehind 91 = .ok (.idiv, 1) := by decide +kernel
theorem dX5_putBehind_92 : decode cX5_putBehind 92 = .ok (.invokevirtual 88, 3) := by decide +kernel
theorem dX5_putBehind_95 : decode cX5_putBehind 95 = .ok (.iconst 1, 1) := by decide +kernel
theorem dX5_putBehind_96 : decode cX5_putBehind 96 = .ok (.iadd, 1) := by decide +kernel
theorem dX5_putBehind_97 : decode cX5_putBehind 97 = .ok (.istore 5, 2) := by decide +kernel
theorem dX5_putBehind_99 : decode cX5_putBehind 99 = .ok (.aload_n 0, 1) := by decide +kernel
theorem dX5_putBehind_100 : decode cX5_putBehind 100 = .ok (.getfield 10, 3) := by decide +kernel
theorem dX5_putBehind_103 : decode cX5_putBehind 103 = .ok (.getfield 44, 3) := by decide +kernel
theorem dX5_putBehind_106 : decode cX5_putBehind 106 = .ok (.aload_n 0, 1) := by decide +kernel
theorem dX5_putBehind_107 : decode cX5_putBehind 107 = .ok (.getfield 10, 3) := by decide +kernel
theorem dX5_putBehind_110 : decode cX5_putBehind 110 = .ok (.iload 5, 2) := by decide +kernel
theorem dX5_putBehind_112 : decode cX5_putBehind 112 = .ok (.iload_n 2, 1) := by decide +kernel
theorem dX5_putBehind_113 : decode cX5_putBehind 113 = .ok (.iload_n 3, 1) := by decide +kernel
theorem dX5_putBehind_114 : decode cX5_putBehind 114 = .ok (.iload 4, 2) := by decide +kernel
theorem dX5_putBehind_116 : decode cX5_putBehind 116 = .ok (.invokevirtual 73, 3) := by decide +kernel
theorem dX5_putBehind_119 : decode cX5_putBehind 119 = .ok (.invokevirtual 77, 3) := by decide +kernel
theorem dX5_putBehind_122 : decode cX5_putBehind 122 = .ok (.ireturn, 1) := by decide +kernel
theorem dX5_remove_0 : decode cX5_remove 0 = .ok (.aload_n 0, 1) := by decide +kernel
theorem dX5_remove_1 : decode cX5_remove 1 = .ok (.getfield 10, 3) := by decide +kernel
theorem dX5_remove_4 : decode cX5_remove 4 = .ok (.getfield 44, 3) := by decide +kernel
theorem dX5_remove_7 : decode cX5_remove 7 = .ok (.iload_n 1, 1) := by decide +kernel
theorem dX5_remove_8 : decode cX5_remove 8 = .ok (.invokevirtual 80, 3) := by decide +kernel
theorem dX5_remove_11 : decode cX5_remove 11 = .ok (.ifCond .eq 13, 3) := by decide +kernel
theorem dX5_remove_14 : decode cX5_remove 14 = .ok (.new 83, 3) := by decide +kernel
theorem dX5_remove_17 : decode cX5_remove 17 = .ok (.dup, 1) := by decide +kernel
theorem dX5_remove_18 : decode cX5_remove 18 = .ok (.ldc 85, 2) := by decide +kernel
theorem dX5_remove_20 : decode cX5_remove 20 = .ok (.invokespecial 87, 3) := by decide +kernel
theorem dX5_remove_23 : decode cX5_remove 23 = .ok (.athrow, 1) := by decide +kernel
theorem dX5_remove_24 : decode cX5_remove 24 = .ok (.iload_n 1, 1) := by decide +kernel
theorem dX5_remove_25 : decode cX5_remove 25 = .ok (.sipush 1000, 3) := by decide +kernel
theorem dX5_remove_28 : decode cX5_remove 28 = .ok (.idiv, 1) := by decide +kernel
theorem dX5_remove_29 : decode cX5_remove 29 = .ok (.istore_n 2, 1) := by decide +kernel
theorem dX5_remove_30 : decode cX5_remove 30 = .ok (.aload_n 0, 1) := by decide +kernel
theorem dX5_remove_31 : decode cX5_remove 31 = .ok (.getfield 10, 3) := by decide +kernel
theorem dX5_remove_34 : decode cX5_remove 34 = .ok (.getfield 44, 3) := by decide +kernel
theorem dX5_remove_37 : decode cX5_remove 37 = .ok (.iload_n 2, 1) := by decide +kernel
theorem dX5_remove_38 : decode cX5_remove 38 = .ok (.invokevirtual 91, 3) := by decide +kernel
theorem dX5_remove_41 : decode cX5_remove 41 = .ok (.istore_n 3, 1) := by decide +kernel
theorem dX5_remove_42 : decode cX5_remove 42 = .ok (.aload_n 0, 1) := by decide +kernel
theorem dX5_remove_43 : decode cX5_remove 43 = .ok (.getfield 22, 3) := by decide +kernel
theorem dX5_remove_46 : decode cX5_remove 46 = .ok (.aload_n 0, 1) := by decide +kernel
theorem dX5_remove_47 : decode cX5_remove 47 = .ok (.getfield 10, 3) := by decide +kernel
theorem dX5_remove_50 : decode cX5_remove 50 = .ok (.invokevirtual 59, 3) := by decide +kernel
theorem dX5_remove_53 : decode cX5_remove 53 = .ok (.aload_n 0, 1) := by decide +kernel
theorem dX5_remove_54 : decode cX5_remove 54 = .ok (.getfield 10, 3) := by decide +kernel
theorem dX5_remove_57 : decode cX5_remove 57 = .ok (.iload_n 2, 1) := by decide +kernel
theorem dX5_remove_58 : decode cX5_remove 58 = .ok (.invokevirtual 94, 3) := by decide +kernel
theorem dX5_remove_61 : decode cX5_remove 61 = .ok (.iload_n 3, 1) := by decide +kernel
theorem dX5_remove_62 : decode cX5_remove 62 = .ok (.ireturn, 1) := by decide +kernel
theorem dX5_change_0 : decode cX5_change 0 = .ok (.aload_n 0, 1) := by decide +kernel
theorem dX5_change_1 : decode cX5_change 1 = .ok (.getfield 10, 3) := by decide +kernel
theorem dX5_change_4 : decode cX5_change 4 = .ok (.getfield 44, 3) := by decide +kernel
theorem dX5_change_7 : decode cX5_change 7 = .ok (.iload_n 1, 1) := by decide +kernel
theorem dX5_change_8 : decode cX5_change 8 = .ok (.invokevirtual 80, 3) := by decide +kernel
theorem dX5_change_11 : decode cX5_change 11 = .ok (.ifCond .eq 13, 3) := by decide +kernel
theorem dX5_change_14 : decode cX5_change 14 = .ok (.new 83, 3) := by decide +kernel
theorem dX5_change_17 : decode cX5_change 17 = .ok (.dup, 1) := by decide +kernel
theorem dX5_change_18 : decode cX5_change 18 = .ok (.ldc 85, 2) := by decide +kernel
theorem dX5_change_20 : decode cX5_change 20 = .ok (.invokespecial 87, 3) := by decide +kernel
theorem dX5_change_23 : decode cX5_change 23 = .ok (.athrow, 1) := by decide +kernel
theorem dX5_change_24 : decode cX5_change 24 = .ok (.iload_n 2, 1) := by decide +kernel
theorem dX5_change_25 : decode cX5_change 25 = .ok (.invokestatic 98, 3) := by decide +kernel
theorem dX5_change_28 : decode cX5_change 28 = .ok (.ifCond .ne 13, 3) := by decide +kernel
theorem dX5_change_31 : decode cX5_change 31 = .ok (.new 37, 3) := by decide +kernel
theorem dX5_change_34 : decode cX5_change 34 = .ok (.dup, 1) := by decide +kernel
theorem dX5_change_35 : decode cX5_change 35 = .ok (.ldc 102, 2) := by decide +kernel
theorem dX5_change_37 : decode cX5_change 37 = .ok (.invokespecial 41, 3) := by decide +kernel
theorem dX5_change_40 : decode cX5_change 40 = .ok (.athrow, 1) := by decide +kernel
theorem dX5_change_41 : decode cX5_change 41 = .ok (.iload_n 1, 1) := by decide +kernel
theorem dX5_change_42 : decode cX5_change 42 = .ok (.sipush 1000, 3) := by decide +kernel
theorem dX5_change_45 : decode cX5_change 45 = .ok (.idiv, 1) := by decide +kernel
theorem dX5_change_46 : decode cX5_change 46 = .ok (.istore_n 3, 1) := by decide +kernel
theorem dX5_change_47 : decode cX5_change 47 = .ok (.aload_n 0, 1) := by decide +kernel
theorem dX5_change_48 : decode cX5_change 48 = .ok (.getfield 10, 3) := by decide +kernel
theorem dX5_change_51 : decode cX5_change 51 = .ok (.getfield 44, 3) := by decide +kernel
theorem dX5_change_54 : decode cX5_change 54 = .ok (.iload_n 3, 1) := by decide +kernel
theorem dX5_change_55 : decode cX5_change 55 = .ok (.invokevirtual 91, 3) := by decide +kernel
theorem dX5_change_58 : decode cX5_change 58 = .ok (.istore 4, 2) := by decide +kernel
theorem dX5_change_60 : decode cX5_change 60 = .ok (.aload_n 0, 1) := by decide +kernel
theorem dX5_change_61 : decode cX5_change 61 = .ok (.getfield 22, 3) := by decide +kernel
theorem dX5_change_64 : decode cX5_change 64 = .ok (.aload_n 0, 1) := by decide +kernel
theorem dX5_change_65 : decode cX5_change 65 = .ok (.getfield 10, 3) := by decide +kernel
theorem dX5_change_68 : decode cX5_change 68 = .ok (.invokevirtual 59, 3) := by decide +kernel
theorem dX5_change_71 : decode cX5_change 71 = .ok (.aload_n 0, 1) := by decide +kernel
theorem dX5_change_72 : decode cX5_change 72 = .ok (.getfield 10, 3) := by decide +kernel
theorem dX5_change_75 : decode cX5_change 75 = .ok (.getfield 44, 3) := by decide +kernel
theorem dX5_change_78 : decode cX5_change 78 = .ok (.iload_n 3, 1) := by decide +kernel
theorem dX5_change_79 : decode cX5_change 79 = .ok (.iload_n 2, 1) := by decide +kernel
theorem dX5_change_80 : decode cX5_change 80 = .ok (.invokevirtual 104, 3) := by decide +kernel
theorem dX5_change_83 : decode cX5_change 83 = .ok (.iload 4, 2) := by decide +kernel
theorem dX5_change_85 : decode cX5_change 85 = .ok (.ireturn, 1) := by decide +kernel
theorem dX5_restart_0 : decode cX5_restart 0 = .ok (.iload_n 1, 1) := by decide +kernel
theorem dX5_restart_1 : decode cX5_restart 1 = .ok (.invokestatic 108, 3) := by decide +kernel
theorem dX5_restart_4 : decode cX5_restart 4 = .ok (.ifCond .ne 13, 3) := by decide +kernel
theorem dX5_restart_7 : decode cX5_restart 7 = .ok (.new 83, 3) := by decide +kernel
theorem dX5_restart_10 : decode cX5_restart 10 = .ok (.dup, 1) := by decide +kernel
theorem dX5_restart_11 : decode cX5_restart 11 = .ok (.ldc 111, 2) := by decide +kernel
theorem dX5_restart_13 : decode cX5_restart 13 = .ok (.invokespecial 87, 3) := by decide +kernel
theorem dX5_restart_16 : decode cX5_restart 16 = .ok (.athrow, 1) := by decide +kernel
theorem dX5_restart_17 : decode cX5_restart 17 = .ok (.aload_n 0, 1) := by decide +kernel
theorem dX5_restart_18 : decode cX5_restart 18 = .ok (.getfield 10, 3) := by decide +kernel
theorem dX5_restart_21 : decode cX5_restart 21 = .ok (.getfield 63, 3) := by decide +kernel
theorem dX5_restart_24 : decode cX5_restart 24 = .ok (.iload_n 1, 1) := by decide +kernel
theorem dX5_restart_25 : decode cX5_restart 25 = .ok (.invokevirtual 113, 3) := by decide +kernel
theorem dX5_restart_28 : decode cX5_restart 28 = .ok (.istore_n 2, 1) := by decide +kernel
theorem dX5_restart_29 : decode cX5_restart 29 = .ok (.aload_n 0, 1) := by decide +kernel
theorem dX5_restart_30 : decode cX5_restart 30 = .ok (.getfield 22, 3) := by decide +kernel
theorem dX5_restart_33 : decode cX5_restart 33 = .ok (.aload_n 0, 1) := by decide +kernel
theorem dX5_restart_34 : decode cX5_restart 34 = .ok (.getfield 10, 3) := by decide +kernel
theorem dX5_restart_37 : decode cX5_restart 37 = .ok (.invokevirtual 59, 3) := by decide +kernel
theorem dX5_restart_40 : decode cX5_restart 40 = .ok (.aload_n 0, 1) := by decide +kernel
theorem dX5_restart_41 : decode cX5_restart 41 = .ok (.getfield 10, 3) := by decide +kernel
theorem dX5_restart_44 : decode cX5_restart 44 = .ok (.getfield 63, 3) := by decide +kernel
theorem dX5_restart_47 : decode cX5_restart 47 = .ok (.iload_n 1, 1) := by decide +kernel
theorem dX5_restart_48 : decode cX5_restart 48 = .ok (.invokevirtual 116, 3) := by decide +kernel
theorem dX5_restart_51 : decode cX5_restart 51 = .ok (.iload_n 2, 1) := by decide +kernel
theorem dX5_restart_52 : decode cX5_restart 52 = .ok (.ireturn, 1) := by decide +kernel
theorem dX5_goOn_0 : decode cX5_goOn 0 = .ok (.iload_n 1, 1) := by decide +kernel
theorem dX5_goOn_1 : decode cX5_goOn 1 = .ok (.invokestatic 108, 3) := by decide +kernel
theorem dX5_goOn_4 : decode cX5_goOn 4 = .ok (.ifCond .ne 13, 3) := by decide +kernel
theorem dX5_goOn_7 : decode cX5_goOn 7 = .ok (.new 83, 3) := by decide +kernel
theorem dX5_goOn_10 : decode cX5_goOn 10 = .ok (.dup, 1) := by decide +kernel
theorem dX5_goOn_11 : decode cX5_goOn 11 = .ok (.ldc 111, 2) := by decide +kernel
theorem dX5_goOn_13 : decode cX5_goOn 13 = .ok (.invokespecial 87, 3) := by decide +kernel
theorem dX5_goOn_16 : decode cX5_goOn 16 = .ok (.athrow, 1) := by decide +kernel
theorem dX5_goOn_17 : decode cX5_goOn 17 = .ok (.aload_n 0, 1) := by decide +kernel
theorem dX5_goOn_18 : decode cX5_goOn 18 = .ok (.getfield 22, 3) := by decide +kernel
theorem dX5_goOn_21 : decode cX5_goOn 21 = .ok (.aload_n 0, 1) := by decide +kernel
theorem dX5_goOn_22 : decode cX5_goOn 22 = .ok (.getfield 10, 3) := by decide +kernel
theorem dX5_goOn_25 : decode cX5_goOn 25 = .ok (.invokevirtual 59, 3) := by decide +kernel
theorem dX5_goOn_28 : decode cX5_goOn 28 = .ok (.aload_n 0, 1) := by decide +kernel
theorem dX5_goOn_29 : decode cX5_goOn 29 = .ok (.getfield 10, 3) := by decide +kernel
theorem dX5_goOn_32 : decode cX5_goOn 32 = .ok (.getfield 63, 3) := by decide +kernel
theorem dX5_goOn_35 : decode cX5_goOn 35 = .ok (.iload_n 1, 1) := by decide +kernel
theorem dX5_goOn_36 : decode cX5_goOn 36 = .ok (.invokevirtual 119, 3) := by decide +kernel
theorem dX5_goOn_39 : decode cX5_goOn 39 = .ok (.aload_n 0, 1) := by decide +kernel
theorem dX5_goOn_40 : decode cX5_goOn 40 = .ok (.getfield 10, 3) := by decide +kernel
theorem dX5_goOn_43 : decode cX5_goOn 43 = .ok (.getfield 44, 3) := by decide +kernel
theorem dX5_goOn_46 : decode cX5_goOn 46 = .ok (.aload_n 0, 1) := by decide +kernel
theorem dX5_goOn_47 : decode cX5_goOn 47 = .ok (.getfield 10, 3) := by decide +kernel
theorem dX5_goOn_50 : decode cX5_goOn 50 = .ok (.getfield 63, 3) := by decide +kernel
theorem dX5_goOn_53 : decode cX5_goOn 53 = .ok (.iload_n 1, 1) := by decide +kernel
theorem dX5_goOn_54 : decode cX5_goOn 54 = .ok (.invokevirtual 122, 3) := by decide +kernel
theorem dX5_goOn_57 : decode cX5_goOn 57 = .ok (.invokevirtual 77, 3) := by decide +kernel
theorem dX5_goOn_60 : decode cX5_goOn 60 = .ok (.ireturn, 1) := by decide +kernel
theorem dX5_take_0 : decode cX5_take 0 = .ok (.iload_n 1, 1) := by decide +kernel
theorem dX5_take_1 : decode cX5_take 1 = .ok (.invokestatic 108, 3) := by decide +kernel
theorem dX5_take_4 : decode cX5_take 4 = .ok (.ifCond .ne 13, 3) := by decide +kernel
theorem dX5_take_7 : decode cX5_take 7 = .ok (.new 83, 3) := by decide +kernel
theorem dX5_take_10 : decode cX5_take 10 = .ok (.dup, 1) := by decide +kernel
theorem dX5_take_11 : decode cX5_take 11 = .ok (.ldc 111, 2) := by decide +kernel
theorem dX5_take_13 : decode cX5_take 13 = .ok (.invokespecial 87, 3) := by decide +kernel
theorem dX5_take_16 : decode cX5_take 16 = .ok (.athrow, 1) := by decide +kernel
theorem dX5_take_17 : decode cX5_take 17 = .ok (.aload_n 0, 1) := by decide +kernel
theorem dX5_take_18 : decode cX5_take 18 = .ok (.getfield 10, 3) := by decide +kernel
theorem dX5_take_21 : decode cX5_take 21 = .ok (.getfield 63, 3) := by decide +kernel
theorem dX5_take_24 : decode cX5_take 24 = .ok (.iload_n 1, 1) := by decide +kernel
theorem dX5_take_25 : decode cX5_take 25 = .ok (.invokevirtual 122, 3) := by decide +kernel
theorem dX5_take_28 : decode cX5_take 28 = .ok (.istore_n 2, 1) := by decide +kernel
theorem dX5_take_29 : decode cX5_take 29 = .ok (.iload_n 2, 1) := by decide +kernel
theorem dX5_take_30 : decode cX5_take 30 = .ok (.iconst (-1), 1) := by decide +kernel
theorem dX5_take_31 : decode cX5_take 31 = .ok (.if_icmp .ne 13, 3) := by decide +kernel
theorem dX5_take_34 : decode cX5_take 34 = .ok (.new 54, 3) := by decide +kernel
theorem dX5_take_37 : decode cX5_take 37 = .ok (.dup, 1) := by decide +kernel
theorem dX5_take_38 : decode cX5_take 38 = .ok (.ldc 125, 2) := by decide +kernel
theorem dX5_take_40 : decode cX5_take 40 = .ok (.invokespecial 58, 3) := by decide +kernel
theorem dX5_take_43 : decode cX5_take 43 = .ok (.athrow, 1) := by decide +kernel
theorem dX5_take_44 : decode cX5_take 44 = .ok (.aload_n 0, 1) := by decide +kernel
theorem dX5_take_45 : decode cX5_take 45 = .ok (.getfield 10, 3) := by decide +kernel
theorem dX5_take_48 : decode cX5_take 48 = .ok (.getfield 44, 3) := by decide +kernel
theorem dX5_take_51 : decode cX5_take 51 = .ok (.iload_n 2, 1) := by decide +kernel
theorem dX5_take_52 : decode cX5_take 52 = .ok (.invokevirtual 91, 3) := by decide +kernel
theorem dX5_take_55 : decode cX5_take 55 = .ok (.istore_n 3, 1) := by decide +kernel
theorem dX5_take_56 : decode cX5_take 56 = .ok (.aload_n 0, 1) := by decide +kernel
theorem dX5_take_57 : decode cX5_take 57 = .ok (.getfield 22, 3) := by decide +kernel
theorem dX5_take_60 : decode cX5_take 60 = .ok (.aload_n 0, 1) := by decide +kernel
theorem dX5_take_61 : decode cX5_take 61 = .ok (.getfield 10, 3) := by decide +kernel
theorem dX5_take_64 : decode cX5_take 64 = .ok (.invokevirtual 59, 3) := by decide +kernel
theorem dX5_take_67 : decode cX5_take 67 = .ok (.aload_n 0, 1) := by decide +kernel
theorem dX5_take_68 : decode cX5_take 68 = .ok (.getfield 10, 3) := by decide +kernel
theorem dX5_take_71 : decode cX5_take 71 = .ok (.iload_n 2, 1) := by decide +kernel
theorem dX5_take_72 : decode cX5_take 72 = .ok (.invokevirtual 94, 3) := by decide +kernel
theorem dX5_take_75 : decode cX5_take 75 = .ok (.iload_n 3, 1) := by decide +kernel
theorem dX5_take_76 : decode cX5_take 76 = .ok (.ireturn, 1) := by decide +kernel
theorem dX5_fire_0 : decode cX5_fire 0 = .ok (.aload_n 0, 1) := by decide +kernel
theorem dX5_fire_1 : decode cX5_fire 1 = .ok (.getfield 22, 3) := by decide +kernel
theorem dX5_fire_4 : decode cX5_fire 4 = .ok (.aload_n 0, 1) := by decide +kernel
theorem dX5_fire_5 : decode cX5_fire 5 = .ok (.getfield 10, 3) := by decide +kernel
theorem dX5_fire_8 : decode cX5_fire 8 = .ok (.invokevirtual 59, 3) := by decide +kernel
theorem dX5_fire_11 : decode cX5_fire 11 = .ok (.aload_n 0, 1) := by decide +kernel
theorem dX5_fire_12 : decode cX5_fire 12 = .ok (.getfield 10, 3) := by decide +kernel
theorem dX5_fire_15 : decode cX5_fire 15 = .ok (.invokevirtual 127, 3) := by decide +kernel
theorem dX5_fire_18 : decode cX5_fire 18 = .ok (.ireturn, 1) := by decide +kernel
theorem dX5_together_0 : decode cX5_together 0 = .ok (.aload_n 0, 1) := by decide +kernel
theorem dX5_together_1 : decode cX5_together 1 = .ok (.getfield 22, 3) := by decide +kernel
theorem dX5_together_4 : decode cX5_together 4 = .ok (.aload_n 0, 1) := by decide +kernel
theorem dX5_together_5 : decode cX5_together 5 = .ok (.getfield 10, 3) := by decide +kernel
theorem dX5_together_8 : decode cX5_together 8 = .ok (.invokevirtual 59, 3) := by decide +kernel
theorem dX5_together_11 : decode cX5_together 11 = .ok (.aload_n 0, 1) := by decide +kernel
theorem dX5_together_12 : decode cX5_together 12 = .ok (.getfield 10, 3) := by decide +kernel
theorem dX5_together_15 : decode cX5_together 15 = .ok (.invokevirtual 130, 3) := by decide +kernel
theorem dX5_together_18 : decode cX5_together 18 = .ok (.ireturn, 1) := by decide +kernel
theorem dX5_append_0 : decode cX5_append 0 = .ok (.iload_n 1, 1) := by decide +kernel
theorem dX5_append_1 : decode cX5_append 1 = .ok (.bipush 33, 2) := by decide +kernel
theorem dX5_append_3 : decode cX5_append 3 = .ok (.if_icmp .lt 9, 3) := by decide +kernel
theorem dX5_append_6 : decode cX5_append 6 = .ok (.iload_n 1, 1) := by decide +kernel
theorem dX5_append_7 : decode cX5_append 7 = .ok (.bipush 126, 2) := by decide +kernel
theorem dX5_append_9 : decode cX5_append 9 = .ok (.if_icmp .le 13, 3) := by decide +kernel
theorem dX5_append_12 : decode cX5_append 12 = .ok (.new 37, 3) := by decide +kernel
theorem dX5_append_15 : decode cX5_append 15 = .ok (.dup, 1) := by decide +kernel
theorem dX5_append_16 : decode cX5_append 16 = .ok (.ldc 133, 2) := by decide +kernel
theorem dX5_append_18 : decode cX5_append 18 = .ok (.invokespecial 41, 3) := by decide +kernel
theorem dX5_append_21 : decode cX5_append 21 = .ok (.athrow, 1) := by decide +kernel
theorem dX5_append_22 : decode cX5_append 22 = .ok (.aload_n 0, 1) := by decide +kernel
theorem dX5_append_23 : decode cX5_append 23 = .ok (.getfield 29, 3) := by decide +kernel
theorem dX5_append_26 : decode cX5_append 26 = .ok (.invokevirtual 135, 3) := by decide +kernel
theorem dX5_append_29 : decode cX5_append 29 = .ok (.ifCond .eq 13, 3) := by decide +kernel
theorem dX5_append_32 : decode cX5_append 32 = .ok (.new 54, 3) := by decide +kernel
theorem dX5_append_35 : decode cX5_append 35 = .ok (.dup, 1) := by decide +kernel
theorem dX5_append_36 : decode cX5_append 36 = .ok (.ldc 139, 2) := by decide +kernel
theorem dX5_append_38 : decode cX5_append 38 = .ok (.invokespecial 58, 3) := by decide +kernel
theorem dX5_append_41 : decode cX5_append 41 = .ok (.athrow, 1) := by decide +kernel
theorem dX5_append_42 : decode cX5_append 42 = .ok (.aload_n 0, 1) := by decide +kernel
theorem dX5_append_43 : decode cX5_append 43 = .ok (.getfield 29, 3) := by decide +kernel
theorem dX5_append_46 : decode cX5_append 46 = .ok (.iload_n 1, 1) := by decide +kernel
theorem dX5_append_47 : decode cX5_append 47 = .ok (.invokevirtual 141, 3) := by decide +kernel
theorem dX5_append_50 : decode cX5_append 50 = .ok (.aload_n 0, 1) := by decide +kernel
theorem dX5_append_51 : decode cX5_append 51 = .ok (.getfield 29, 3) := by decide +kernel
theorem dX5_append_54 : decode cX5_append 54 = .ok (.invokevirtual 144, 3) := by decide +kernel
theorem dX5_append_57 : decode cX5_append 57 = .ok (.ireturn, 1) := by decide +kernel
theorem dX5_clearBuffer_0 : decode cX5_clearBuffer 0 = .ok (.aload_n 0, 1) := by decide +kernel
theorem dX5_clearBuffer_1 : decode cX5_clearBuffer 1 = .ok (.getfield 29, 3) := by decide +kernel
theorem dX5_clearBuffer_4 : decode cX5_clearBuffer 4 = .ok (.invokevirtual 144, 3) := by decide +kernel
theorem dX5_clearBuffer_7 : decode cX5_clearBuffer 7 = .ok (.istore_n 1, 1) := by decide +kernel
theorem dX5_clearBuffer_8 : decode cX5_clearBuffer 8 = .ok (.aload_n 0, 1) := by decide +kernel
theorem dX5_clearBuffer_9 : decode cX5_clearBuffer 9 = .ok (.getfield 29, 3) := by decide +kernel
theorem dX5_clearBuffer_12 : decode cX5_clearBuffer 12 = .ok (.invokevirtual 145, 3) := by decide +kernel
theorem dX5_clearBuffer_15 : decode cX5_clearBuffer 15 = .ok (.iload_n 1, 1) := by decide +kernel
theorem dX5_clearBuffer_16 : decode cX5_clearBuffer 16 = .ok (.ireturn, 1) := by decide +kernel
theorem dX5_firstError_0 : decode cX5_firstError 0 = .ok (.aload_n 0, 1) := by decide +kernel
theorem dX5_firstError_1 : decode cX5_firstError 1 = .ok (.getfield 29, 3) := by decide +kernel
theorem dX5_firstError_4 : decode cX5_firstError 4 = .ok (.invokevirtual 148, 3) := by decide +kernel
theorem dX5_firstError_7 : decode cX5_firstError 7 = .ok (.ireturn, 1) := by decide +kernel
theorem dX5_putAll_0 : decode cX5_putAll 0 = .ok (.aload_n 0, 1) := by decide +kernel
theorem dX5_putAll_1 : decode cX5_putAll 1 = .ok (.getfield 29, 3) := by decide +kernel
theorem dX5_putAll_4 : decode cX5_putAll 4 = .ok (.invokevirtual 151, 3) := by decide +kernel
theorem dX5_putAll_7 : decode cX5_putAll 7 = .ok (.ifCond .ne 13, 3) := by decide +kernel
theorem dX5_putAll_10 : decode cX5_putAll 10 = .ok (.new 37, 3) := by decide +kernel
theorem dX5_putAll_13 : decode cX5_putAll 13 = .ok (.dup, 1) := by decide +kernel
theorem dX5_putAll_14 : decode cX5_putAll 14 = .ok (.ldc 154, 2) := by decide +kernel
theorem dX5_putAll_16 : decode cX5_putAll 16 = .ok (.invokespecial 41, 3) := by decide +kernel
theorem dX5_putAll_19 : decode cX5_putAll 19 = .ok (.athrow, 1) := by decide +kernel
theorem dX5_putAll_20 : decode cX5_putAll 20 = .ok (.aload_n 0, 1) := by decide +kernel
theorem dX5_putAll_21 : decode cX5_putAll 21 = .ok (.getfield 22, 3) := by decide +kernel
theorem dX5_putAll_24 : decode cX5_putAll 24 = .ok (.aload_n 0, 1) := by decide +kernel
theorem dX5_putAll_25 : decode cX5_putAll 25 = .ok (.getfield 10, 3) := by decide +kernel
theorem dX5_putAll_28 : decode cX5_putAll 28 = .ok (.invokevirtual 59, 3) := by decide +kernel
theorem dX5_putAll_31 : decode cX5_putAll 31 = .ok (.aload_n 0, 1) := by decide +kernel
theorem dX5_putAll_32 : decode cX5_putAll 32 = .ok (.invokevirtual 156, 3) := by decide +kernel
theorem dX5_putAll_35 : decode cX5_putAll 35 = .ok (.istore_n 1, 1) := by decide +kernel
theorem dX5_putAll_36 : decode cX5_putAll 36 = .ok (.aload_n 0, 1) := by decide +kernel
theorem dX5_putAll_37 : decode cX5_putAll 37 = .ok (.getfield 29, 3) := by decide +kernel
theorem dX5_putAll_40 : decode cX5_putAll 40 = .ok (.invokevirtual 145, 3) := by decide +kernel
theorem dX5_putAll_43 : decode cX5_putAll 43 = .ok (.iload_n 1, 1) := by decide +kernel
theorem dX5_putAll_44 : decode cX5_putAll 44 = .ok (.ireturn, 1) := by decide +kernel
theorem dX5_undo_0 : decode cX5_undo 0 = .ok (.aload_n 0, 1) := by decide +kernel
theorem dX5_undo_1 : decode cX5_undo 1 = .ok (.getfield 22, 3) := by decide +kernel
theorem dX5_undo_4 : decode cX5_undo 4 = .ok (.invokevirtual 159, 3) := by decide +kernel
theorem dX5_undo_7 : decode cX5_undo 7 = .ok (.ifCond .ne 13, 3) := by decide +kernel
theorem dX5_undo_10 : decode cX5_undo 10 = .ok (.new 54, 3) := by decide +kernel
theorem dX5_undo_13 : decode cX5_undo 13 = .ok (.dup, 1) := by decide +kernel
theorem dX5_undo_14 : decode cX5_undo 14 = .ok (.ldc 160, 2) := by decide +kernel
theorem dX5_undo_16 : decode cX5_undo 16 = .ok (.invokespecial 58, 3) := by decide +kernel
theorem dX5_undo_19 : decode cX5_undo 19 = .ok (.athrow, 1) := by decide +kernel
theorem dX5_undo_20 : decode cX5_undo 20 = .ok (.aload_n 0, 1) := by decide +kernel
theorem dX5_undo_21 : decode cX5_undo 21 = .ok (.getfield 22, 3) := by decide +kernel
theorem dX5_undo_24 : decode cX5_undo 24 = .ok (.aload_n 0, 1) := by decide +kernel
theorem dX5_undo_25 : decode cX5_undo 25 = .ok (.getfield 10, 3) := by decide +kernel
theorem dX5_undo_28 : decode cX5_undo 28 = .ok (.invokevirtual 162, 3) := by decide +kernel
theorem dX5_undo_31 : decode cX5_undo 31 = .ok (.aload_n 0, 1) := by decide +kernel
theorem dX5_undo_32 : decode cX5_undo 32 = .ok (.getfield 22, 3) := by decide +kernel
theorem dX5_undo_35 : decode cX5_undo 35 = .ok (.invokevirtual 159, 3) := by decide +kernel
theorem dX5_undo_38 : decode cX5_undo 38 = .ok (.ireturn, 1) := by decide +kernel
theorem dX5_refusal_0 : decode cX5_refusal 0 = .ok (.aload_n 0, 1) := by decide +kernel
theorem dX5_refusal_1 : decode cX5_refusal 1 = .ok (.getfield 10, 3) := by decide +kernel
theorem dX5_refusal_4 : decode cX5_refusal 4 = .ok (.getfield 44, 3) := by decide +kernel
theorem dX5_refusal_7 : decode cX5_refusal 7 = .ok (.iload_n 1, 1) := by decide +kernel
theorem dX5_refusal_8 : decode cX5_refusal 8 = .ok (.invokevirtual 80, 3) := by decide +kernel
theorem dX5_refusal_11 : decode cX5_refusal 11 = .ok (.ireturn, 1) := by decide +kernel
theorem dX5_thing_0 : decode cX5_thing 0 = .ok (.aload_n 0, 1) := by decide +kernel
theorem dX5_thing_1 : decode cX5_thing 1 = .ok (.getfield 10, 3) := by decide +kernel
theorem dX5_thing_4 : decode cX5_thing 4 = .ok (.getfield 44, 3) := by decide +kernel
theorem dX5_thing_7 : decode cX5_thing 7 = .ok (.iload_n 1, 1) := by decide +kernel
theorem dX5_thing_8 : decode cX5_thing 8 = .ok (.invokevirtual 80, 3) := by decide +kernel
theorem dX5_thing_11 : decode cX5_thing 11 = .ok (.ifCond .eq 13, 3) := by decide +kernel
theorem dX5_thing_14 : decode cX5_thing 14 = .ok (.new 83, 3) := by decide +kernel
theorem dX5_thing_17 : decode cX5_thing 17 = .ok (.dup, 1) := by decide +kernel
theorem dX5_thing_18 : decode cX5_thing 18 = .ok (.ldc 85, 2) := by decide +kernel
theorem dX5_thing_20 : decode cX5_thing 20 = .ok (.invokespecial 87, 3) := by decide +kernel
theorem dX5_thing_23 : decode cX5_thing 23 = .ok (.athrow, 1) := by decide +kernel
theorem dX5_thing_24 : decode cX5_thing 24 = .ok (.iload_n 1, 1) := by decide +kernel
theorem dX5_thing_25 : decode cX5_thing 25 = .ok (.sipush 1000, 3) := by decide +kernel
theorem dX5_thing_28 : decode cX5_thing 28 = .ok (.idiv, 1) := by decide +kernel
theorem dX5_thing_29 : decode cX5_thing 29 = .ok (.istore_n 3, 1) := by decide +kernel
theorem dX5_thing_30 : decode cX5_thing 30 = .ok (.iload_n 2, 1) := by decide +kernel
theorem dX5_thing_31 : decode cX5_thing 31 = .ok (.tableswitch 119 0 5 #[37, 49, 61, 73, 85, 97], 37) := by decide +kernel
theorem dX5_thing_68 : decode cX5_thing 68 = .ok (.aload_n 0, 1) := by decide +kernel
theorem dX5_thing_69 : decode cX5_thing 69 = .ok (.getfield 10, 3) := by decide +kernel
theorem dX5_thing_72 : decode cX5_thing 72 = .ok (.getfield 44, 3) := by decide +kernel
theorem dX5_thing_75 : decode cX5_thing 75 = .ok (.iload_n 3, 1) := by decide +kernel
theorem dX5_thing_76 : decode cX5_thing 76 = .ok (.invokevirtual 91, 3) := by decide +kernel
theorem dX5_thing_79 : decode cX5_thing 79 = .ok (.ireturn, 1) := by decide +kernel
theorem dX5_thing_80 : decode cX5_thing 80 = .ok (.aload_n 0, 1) := by decide +kernel
theorem dX5_thing_81 : decode cX5_thing 81 = .ok (.getfield 10, 3) := by decide +kernel
theorem dX5_thing_84 : decode cX5_thing 84 = .ok (.getfield 44, 3) := by decide +kernel
theorem dX5_thing_87 : decode cX5_thing 87 = .ok (.iload_n 3, 1) := by decide +kernel
theorem dX5_thing_88 : decode cX5_thing 88 = .ok (.invokevirtual 165, 3) := by decide +kernel
theorem dX5_thing_91 : decode cX5_thing 91 = .ok (.ireturn, 1) := by decide +kernel
theorem dX5_thing_92 : decode cX5_thing 92 = .ok (.aload_n 0, 1) := by decide +kernel
theorem dX5_thing_93 : decode cX5_thing 93 = .ok (.getfield 10, 3) := by decide +kernel
theorem dX5_thing_96 : decode cX5_thing 96 = .ok (.getfield 44, 3) := by decide +kernel
theorem dX5_thing_99 : decode cX5_thing 99 = .ok (.iload_n 3, 1) := by decide +kernel
theorem dX5_thing_100 : decode cX5_thing 100 = .ok (.invokevirtual 168, 3) := by decide +kernel
theorem dX5_thing_103 : decode cX5_thing 103 = .ok (.ireturn, 1) := by decide +kernel
theorem dX5_thing_104 : decode cX5_thing 104 = .ok (.aload_n 0, 1) := by decide +kernel
theorem dX5_thing_105 : decode cX5_thing 105 = .ok (.getfield 10, 3) := by decide +kernel
theorem dX5_thing_108 : decode cX5_thing 108 = .ok (.getfield 44, 3) := by decide +kernel
theorem dX5_thing_111 : decode cX5_thing 111 = .ok (.iload_n 3, 1) := by decide +kernel
theorem dX5_thing_112 : decode cX5_thing 112 = .ok (.invokevirtual 171, 3) := by decide +kernel
theorem dX5_thing_115 : decode cX5_thing 115 = .ok (.ireturn, 1) := by decide +kernel
theorem dX5_thing_116 : decode cX5_thing 116 = .ok (.aload_n 0, 1) := by decide +kernel
theorem dX5_thing_117 : decode cX5_thing 117 = .ok (.getfield 10, 3) := by decide +kernel
theorem dX5_thing_120 : decode cX5_thing 120 = .ok (.getfield 63, 3) := by decide +kernel
theorem dX5_thing_123 : decode cX5_thing 123 = .ok (.iload_n 3, 1) := by decide +kernel
theorem dX5_thing_124 : decode cX5_thing 124 = .ok (.invokevirtual 174, 3) := by decide +kernel
theorem dX5_thing_127 : decode cX5_thing 127 = .ok (.ireturn, 1) := by decide +kernel
theorem dX5_thing_128 : decode cX5_thing 128 = .ok (.aload_n 0, 1) := by decide +kernel
theorem dX5_thing_129 : decode cX5_thing 129 = .ok (.getfield 10, 3) := by decide +kernel
theorem dX5_thing_132 : decode cX5_thing 132 = .ok (.getfield 63, 3) := by decide +kernel
theorem dX5_thing_135 : decode cX5_thing 135 = .ok (.aload_n 0, 1) := by decide +kernel
theorem dX5_thing_136 : decode cX5_thing 136 = .ok (.getfield 10, 3) := by decide +kernel
theorem dX5_thing_139 : decode cX5_thing 139 = .ok (.getfield 63, 3) := by decide +kernel
theorem dX5_thing_142 : decode cX5_thing 142 = .ok (.iload_n 3, 1) := by decide +kernel
theorem dX5_thing_143 : decode cX5_thing 143 = .ok (.invokevirtual 88, 3) := by decide +kernel
theorem dX5_thing_146 : decode cX5_thing 146 = .ok (.invokevirtual 177, 3) := by decide +kernel
theorem dX5_thing_149 : decode cX5_thing 149 = .ok (.ireturn, 1) := by decide +kernel
theorem dX5_thing_150 : decode cX5_thing 150 = .ok (.new 37, 3) := by decide +kernel
theorem dX5_thing_153 : decode cX5_thing 153 = .ok (.dup, 1) := by decide +kernel
theorem dX5_thing_154 : decode cX5_thing 154 = .ok (.ldc 180, 2) := by decide +kernel
theorem dX5_thing_156 : decode cX5_thing 156 = .ok (.invokespecial 41, 3) := by decide +kernel
theorem dX5_thing_159 : decode cX5_thing 159 = .ok (.athrow, 1) := by decide +kernel
theorem dX5_at_0 : decode cX5_at 0 = .ok (.iload_n 1, 1) := by decide +kernel
theorem dX5_at_1 : decode cX5_at 1 = .ok (.ifCond .ge 13, 3) := by decide +kernel
theorem dX5_at_4 : decode cX5_at 4 = .ok (.new 37, 3) := by decide +kernel
theorem dX5_at_7 : decode cX5_at 7 = .ok (.dup, 1) := by decide +kernel
theorem dX5_at_8 : decode cX5_at 8 = .ok (.ldc 182, 2) := by decide +kernel
theorem dX5_at_10 : decode cX5_at 10 = .ok (.invokespecial 41, 3) := by decide +kernel
theorem dX5_at_13 : decode cX5_at 13 = .ok (.athrow, 1) := by decide +kernel
theorem dX5_at_14 : decode cX5_at 14 = .ok (.aload_n 0, 1) := by decide +kernel
theorem dX5_at_15 : decode cX5_at 15 = .ok (.getfield 10, 3) := by decide +kernel
theorem dX5_at_18 : decode cX5_at 18 = .ok (.getfield 44, 3) := by decide +kernel
theorem dX5_at_21 : decode cX5_at 21 = .ok (.aload_n 0, 1) := by decide +kernel
theorem dX5_at_22 : decode cX5_at 22 = .ok (.getfield 10, 3) := by decide +kernel
theorem dX5_at_25 : decode cX5_at 25 = .ok (.getfield 63, 3) := by decide +kernel
theorem dX5_at_28 : decode cX5_at 28 = .ok (.iload_n 1, 1) := by decide +kernel
theorem dX5_at_29 : decode cX5_at 29 = .ok (.invokevirtual 184, 3) := by decide +kernel
theorem dX5_at_32 : decode cX5_at 32 = .ok (.invokevirtual 77, 3) := by decide +kernel
theorem dX5_at_35 : decode cX5_at 35 = .ok (.ireturn, 1) := by decide +kernel
theorem dX5_cell_0 : decode cX5_cell 0 = .ok (.aload_n 0, 1) := by decide +kernel
theorem dX5_cell_1 : decode cX5_cell 1 = .ok (.getfield 10, 3) := by decide +kernel
theorem dX5_cell_4 : decode cX5_cell 4 = .ok (.getfield 44, 3) := by decide +kernel
theorem dX5_cell_7 : decode cX5_cell 7 = .ok (.iload_n 1, 1) := by decide +kernel
theorem dX5_cell_8 : decode cX5_cell 8 = .ok (.invokevirtual 187, 3) := by decide +kernel
theorem dX5_cell_11 : decode cX5_cell 11 = .ok (.ifCond .ne 13, 3) := by decide +kernel
theorem dX5_cell_14 : decode cX5_cell 14 = .ok (.new 83, 3) := by decide +kernel
theorem dX5_cell_17 : decode cX5_cell 17 = .ok (.dup, 1) := by decide +kernel
theorem dX5_cell_18 : decode cX5_cell 18 = .ok (.ldc 190, 2) := by decide +kernel
theorem dX5_cell_20 : decode cX5_cell 20 = .ok (.invokespecial 87, 3) := by decide +kernel
theorem dX5_cell_23 : decode cX5_cell 23 = .ok (.athrow, 1) := by decide +kernel
theorem dX5_cell_24 : decode cX5_cell 24 = .ok (.iload_n 2, 1) := by decide +kernel
theorem dX5_cell_25 : decode cX5_cell 25 = .ok (.lookupswitch 61 #[(0, 27), (1, 39)], 27) := by decide +kernel
theorem dX5_cell_52 : decode cX5_cell 52 = .ok (.aload_n 0, 1) := by decide +kernel
theorem dX5_cell_53 : decode cX5_cell 53 = .ok (.getfield 10, 3) := by decide +kernel
theorem dX5_cell_56 : decode cX5_cell 56 = .ok (.getfield 44, 3) := by decide +kernel
theorem dX5_cell_59 : decode cX5_cell 59 = .ok (.iload_n 1, 1) := by decide +kernel
theorem dX5_cell_60 : decode cX5_cell 60 = .ok (.invokevirtual 192, 3) := by decide +kernel
theorem dX5_cell_63 : decode cX5_cell 63 = .ok (.ireturn, 1) := by decide +kernel
theorem dX5_cell_64 : decode cX5_cell 64 = .ok (.aload_n 0, 1) := by decide +kernel
theorem dX5_cell_65 : decode cX5_cell 65 = .ok (.getfield 10, 3) := by decide +kernel
theorem dX5_cell_68 : decode cX5_cell 68 = .ok (.getfield 44, 3) := by decide +kernel
theorem dX5_cell_71 : decode cX5_cell 71 = .ok (.aload_n 0, 1) := by decide +kernel
theorem dX5_cell_72 : decode cX5_cell 72 = .ok (.getfield 10, 3) := by decide +kernel
theorem dX5_cell_75 : decode cX5_cell 75 = .ok (.getfield 44, 3) := by decide +kernel
theorem dX5_cell_78 : decode cX5_cell 78 = .ok (.iload_n 1, 1) := by decide +kernel
theorem dX5_cell_79 : decode cX5_cell 79 = .ok (.invokevirtual 195, 3) := by decide +kernel
theorem dX5_cell_82 : decode cX5_cell 82 = .ok (.invokevirtual 77, 3) := by decide +kernel
theorem dX5_cell_85 : decode cX5_cell 85 = .ok (.ireturn, 1) := by decide +kernel
theorem dX5_cell_86 : decode cX5_cell 86 = .ok (.new 37, 3) := by decide +kernel
theorem dX5_cell_89 : decode cX5_cell 89 = .ok (.dup, 1) := by decide +kernel
theorem dX5_cell_90 : decode cX5_cell 90 = .ok (.ldc 198, 2) := by decide +kernel
theorem dX5_cell_92 : decode cX5_cell 92 = .ok (.invokespecial 41, 3) := by decide +kernel
theorem dX5_cell_95 : decode cX5_cell 95 = .ok (.athrow, 1) := by decide +kernel
theorem dX5_walker_0 : decode cX5_walker 0 = .ok (.iload_n 1, 1) := by decide +kernel
theorem dX5_walker_1 : decode cX5_walker 1 = .ok (.invokestatic 108, 3) := by decide +kernel
theorem dX5_walker_4 : decode cX5_walker 4 = .ok (.ifCond .ne 13, 3) := by decide +kernel
theorem dX5_walker_7 : decode cX5_walker 7 = .ok (.new 83, 3) := by decide +kernel
theorem dX5_walker_10 : decode cX5_walker 10 = .ok (.dup, 1) := by decide +kernel
theorem dX5_walker_11 : decode cX5_walker 11 = .ok (.ldc 111, 2) := by decide +kernel
theorem dX5_walker_13 : decode cX5_walker 13 = .ok (.invokespecial 87, 3) := by decide +kernel
theorem dX5_walker_16 : decode cX5_walker 16 = .ok (.athrow, 1) := by decide +kernel
theorem dX5_walker_17 : decode cX5_walker 17 = .ok (.iload_n 2, 1) := by decide +kernel
theorem dX5_walker_18 : decode cX5_walker 18 = .ok (.tableswitch 72 0 2 #[26, 38, 60], 26) := by decide +kernel
theorem dX5_walker_44 : decode cX5_walker 44 = .ok (.aload_n 0, 1) := by decide +kernel
theorem dX5_walker_45 : decode cX5_walker 45 = .ok (.getfield 10, 3) := by decide +kernel
theorem dX5_walker_48 : decode cX5_walker 48 = .ok (.getfield 63, 3) := by decide +kernel
theorem dX5_walker_51 : decode cX5_walker 51 = .ok (.iload_n 1, 1) := by decide +kernel
theorem dX5_walker_52 : decode cX5_walker 52 = .ok (.invokevirtual 113, 3) := by decide +kernel
theorem dX5_walker_55 : decode cX5_walker 55 = .ok (.ireturn, 1) := by decide +kernel
theorem dX5_walker_56 : decode cX5_walker 56 = .ok (.aload_n 0, 1) := by decide +kernel
theorem dX5_walker_57 : decode cX5_walker 57 = .ok (.getfield 10, 3) := by decide +kernel
theorem dX5_walker_60 : decode cX5_walker 60 = .ok (.getfield 44, 3) := by decide +kernel
theorem dX5_walker_63 : decode cX5_walker 63 = .ok (.aload_n 0, 1) := by decide +kernel
theorem dX5_walker_64 : decode cX5_walker 64 = .ok (.getfield 10, 3) := by decide +kernel
theorem dX5_walker_67 : decode cX5_walker 67 = .ok (.getfield 63, 3) := by decide +kernel
theorem dX5_walker_70 : decode cX5_walker 70 = .ok (.iload_n 1, 1) := by decide +kernel
theorem dX5_walker_71 : decode cX5_walker 71 = .ok (.invokevirtual 122, 3) := by decide +kernel
theorem dX5_walker_74 : decode cX5_walker 74 = .ok (.invokevirtual 77, 3) := by decide +kernel
theorem dX5_walker_77 : decode cX5_walker 77 = .ok (.ireturn, 1) := by decide +kernel
theorem dX5_walker_78 : decode cX5_walker 78 = .ok (.aload_n 0, 1) := by decide +kernel
theorem dX5_walker_79 : decode cX5_walker 79 = .ok (.getfield 10, 3) := by decide +kernel
theorem dX5_walker_82 : decode cX5_walker 82 = .ok (.getfield 63, 3) := by decide +kernel
theorem dX5_walker_85 : decode cX5_walker 85 = .ok (.iload_n 1, 1) := by decide +kernel
theorem dX5_walker_86 : decode cX5_walker 86 = .ok (.invokevirtual 200, 3) := by decide +kernel
theorem dX5_walker_89 : decode cX5_walker 89 = .ok (.ireturn, 1) := by decide +kernel
theorem dX5_walker_90 : decode cX5_walker 90 = .ok (.new 37, 3) := by decide +kernel
theorem dX5_walker_93 : decode cX5_walker 93 = .ok (.dup, 1) := by decide +kernel
theorem dX5_walker_94 : decode cX5_walker 94 = .ok (.ldc 203, 2) := by decide +kernel
theorem dX5_walker_96 : decode cX5_walker 96 = .ok (.invokespecial 41, 3) := by decide +kernel
theorem dX5_walker_99 : decode cX5_walker 99 = .ok (.athrow, 1) := by decide +kernel
theorem dX5_count_0 : decode cX5_count 0 = .ok (.iload_n 1, 1) := by decide +kernel
theorem dX5_count_1 : decode cX5_count 1 = .ok (.tableswitch 150 0 9 #[55, 66, 77, 88, 99, 110, 118, 126, 134, 142], 55) := by decide +kernel
theorem dX5_count_56 : decode cX5_count 56 = .ok (.aload_n 0, 1) := by decide +kernel
theorem dX5_count_57 : decode cX5_count 57 = .ok (.getfield 10, 3) := by decide +kernel
theorem dX5_count_60 : decode cX5_count 60 = .ok (.getfield 63, 3) := by decide +kernel
theorem dX5_count_63 : decode cX5_count 63 = .ok (.invokevirtual 205, 3) := by decide +kernel
theorem dX5_count_66 : decode cX5_count 66 = .ok (.ireturn, 1) := by decide +kernel
theorem dX5_count_67 : decode cX5_count 67 = .ok (.aload_n 0, 1) := by decide +kernel
theorem dX5_count_68 : decode cX5_count 68 = .ok (.getfield 10, 3) := by decide +kernel
theorem dX5_count_71 : decode cX5_count 71 = .ok (.getfield 63, 3) := by decide +kernel
theorem dX5_count_74 : decode cX5_count 74 = .ok (.invokevirtual 208, 3) := by decide +kernel
theorem dX5_count_77 : decode cX5_count 77 = .ok (.ireturn, 1) := by decide +kernel
theorem dX5_count_78 : decode cX5_count 78 = .ok (.aload_n 0, 1) := by decide +kernel
theorem dX5_count_79 : decode cX5_count 79 = .ok (.getfield 10, 3) := by decide +kernel
theorem dX5_count_82 : decode cX5_count 82 = .ok (.getfield 44, 3) := by decide +kernel
theorem dX5_count_85 : decode cX5_count 85 = .ok (.invokevirtual 211, 3) := by decide +kernel
theorem dX5_count_88 : decode cX5_count 88 = .ok (.ireturn, 1) := by decide +kernel
theorem dX5_count_89 : decode cX5_count 89 = .ok (.aload_n 0, 1) := by decide +kernel
theorem dX5_count_90 : decode cX5_count 90 = .ok (.getfield 10, 3) := by decide +kernel
theorem dX5_count_93 : decode cX5_count 93 = .ok (.getfield 44, 3) := by decide +kernel
theorem dX5_count_96 : decode cX5_count 96 = .ok (.invokevirtual 214, 3) := by decide +kernel
theorem dX5_count_99 : decode cX5_count 99 = .ok (.ireturn, 1) := by decide +kernel
theorem dX5_count_100 : decode cX5_count 100 = .ok (.aload_n 0, 1) := by decide +kernel
theorem dX5_count_101 : decode cX5_count 101 = .ok (.getfield 10, 3) := by decide +kernel
theorem dX5_count_104 : decode cX5_count 104 = .ok (.getfield 44, 3) := by decide +kernel
theorem dX5_count_107 : decode cX5_count 107 = .ok (.invokevirtual 217, 3) := by decide +kernel
theorem dX5_count_110 : decode cX5_count 110 = .ok (.ireturn, 1) := by decide +kernel
theorem dX5_count_111 : decode cX5_count 111 = .ok (.aload_n 0, 1) := by decide +kernel
theorem dX5_count_112 : decode cX5_count 112 = .ok (.getfield 10, 3) := by decide +kernel
theorem dX5_count_115 : decode cX5_count 115 = .ok (.getfield 220, 3) := by decide +kernel
theorem dX5_count_118 : decode cX5_count 118 = .ok (.ireturn, 1) := by decide +kernel
theorem dX5_count_119 : decode cX5_count 119 = .ok (.aload_n 0, 1) := by decide +kernel
theorem dX5_count_120 : decode cX5_count 120 = .ok (.getfield 10, 3) := by decide +kernel
theorem dX5_count_123 : decode cX5_count 123 = .ok (.getfield 224, 3) := by decide +kernel
theorem dX5_count_126 : decode cX5_count 126 = .ok (.ireturn, 1) := by decide +kernel
theorem dX5_count_127 : decode cX5_count 127 = .ok (.aload_n 0, 1) := by decide +kernel
theorem dX5_count_128 : decode cX5_count 128 = .ok (.getfield 10, 3) := by decide +kernel
theorem dX5_count_131 : decode cX5_count 131 = .ok (.getfield 227, 3) := by decide +kernel
theorem dX5_count_134 : decode cX5_count 134 = .ok (.ireturn, 1) := by decide +kernel
theorem dX5_count_135 : decode cX5_count 135 = .ok (.aload_n 0, 1) := by decide +kernel
theorem dX5_count_136 : decode cX5_count 136 = .ok (.getfield 10, 3) := by decide +kernel
theorem dX5_count_139 : decode cX5_count 139 = .ok (.getfield 230, 3) := by decide +kernel
theorem dX5_count_142 : decode cX5_count 142 = .ok (.ireturn, 1) := by decide +kernel
theorem dX5_count_143 : decode cX5_count 143 = .ok (.aload_n 0, 1) := by decide +kernel
theorem dX5_count_144 : decode cX5_count 144 = .ok (.getfield 22, 3) := by decide +kernel
theorem dX5_count_147 : decode cX5_count 147 = .ok (.invokevirtual 159, 3) := by decide +kernel
theorem dX5_count_150 : decode cX5_count 150 = .ok (.ireturn, 1) := by decide +kernel
theorem dX5_count_151 : decode cX5_count 151 = .ok (.new 37, 3) := by decide +kernel
theorem dX5_count_154 : decode cX5_count 154 = .ok (.dup, 1) := by decide +kernel
theorem dX5_count_155 : decode cX5_count 155 = .ok (.ldc 233, 2) := by decide +kernel
theorem dX5_count_157 : decode cX5_count 157 = .ok (.invokespecial 41, 3) := by decide +kernel
theorem dX5_count_160 : decode cX5_count 160 = .ok (.athrow, 1) := by decide +kernel
theorem dX5_begins_0 : decode cX5_begins 0 = .ok (.iload_n 1, 1) := by decide +kernel
theorem dX5_begins_1 : decode cX5_begins 1 = .ok (.invokestatic 235, 3) := by decide +kernel
theorem dX5_begins_4 : decode cX5_begins 4 = .ok (.ifCond .ne 13, 3) := by decide +kernel
theorem dX5_begins_7 : decode cX5_begins 7 = .ok (.new 37, 3) := by decide +kernel
theorem dX5_begins_10 : decode cX5_begins 10 = .ok (.dup, 1) := by decide +kernel
theorem dX5_begins_11 : decode cX5_begins 11 = .ok (.ldc 238, 2) := by decide +kernel
theorem dX5_begins_13 : decode cX5_begins 13 = .ok (.invokespecial 41, 3) := by decide +kernel
theorem dX5_begins_16 : decode cX5_begins 16 = .ok (.athrow, 1) := by decide +kernel
theorem dX5_begins_17 : decode cX5_begins 17 = .ok (.aload_n 0, 1) := by decide +kernel
theorem dX5_begins_18 : decode cX5_begins 18 = .ok (.getfield 10, 3) := by decide +kernel
theorem dX5_begins_21 : decode cX5_begins 21 = .ok (.getfield 44, 3) := by decide +kernel
theorem dX5_begins_24 : decode cX5_begins 24 = .ok (.iload_n 1, 1) := by decide +kernel
theorem dX5_begins_25 : decode cX5_begins 25 = .ok (.invokevirtual 48, 3) := by decide +kernel
theorem dX5_begins_28 : decode cX5_begins 28 = .ok (.ireturn, 1) := by decide +kernel
theorem dX5_gap_0 : decode cX5_gap 0 = .ok (.iload_n 1, 1) := by decide +kernel
theorem dX5_gap_1 : decode cX5_gap 1 = .ok (.lookupswitch 49 #[(0, 27), (1, 38)], 27) := by decide +kernel
theorem dX5_gap_28 : decode cX5_gap 28 = .ok (.aload_n 0, 1) := by decide +kernel
theorem dX5_gap_29 : decode cX5_gap 29 = .ok (.getfield 10, 3) := by decide +kernel
theorem dX5_gap_32 : decode cX5_gap 32 = .ok (.getfield 44, 3) := by decide +kernel
theorem dX5_gap_35 : decode cX5_gap 35 = .ok (.invokevirtual 240, 3) := by decide +kernel
theorem dX5_gap_38 : decode cX5_gap 38 = .ok (.ireturn, 1) := by decide +kernel
theorem dX5_gap_39 : decode cX5_gap 39 = .ok (.aload_n 0, 1) := by decide +kernel
theorem dX5_gap_40 : decode cX5_gap 40 = .ok (.getfield 10, 3) := by decide +kernel
theorem dX5_gap_43 : decode cX5_gap 43 = .ok (.getfield 44, 3) := by decide +kernel
theorem dX5_gap_46 : decode cX5_gap 46 = .ok (.invokevirtual 243, 3) := by decide +kernel
theorem dX5_gap_49 : decode cX5_gap 49 = .ok (.ireturn, 1) := by decide +kernel
theorem dX5_gap_50 : decode cX5_gap 50 = .ok (.new 37, 3) := by decide +kernel
theorem dX5_gap_53 : decode cX5_gap 53 = .ok (.dup, 1) := by decide +kernel
theorem dX5_gap_54 : decode cX5_gap 54 = .ok (.ldc 198, 2) := by decide +kernel
theorem dX5_gap_56 : decode cX5_gap 56 = .ok (.invokespecial 41, 3) := by decide +kernel
theorem dX5_gap_59 : decode cX5_gap 59 = .ok (.athrow, 1) := by decide +kernel
theorem dX5_ifFired_0 : decode cX5_ifFired 0 = .ok (.iload_n 1, 1) := by decide +kernel
theorem dX5_ifFired_1 : decode cX5_ifFired 1 = .ok (.iconst 1, 1) := by decide +kernel
theorem dX5_ifFired_2 : decode cX5_ifFired 2 = .ok (.if_icmp .lt 18, 3) := by decide +kernel
theorem dX5_ifFired_5 : decode cX5_ifFired 5 = .ok (.iload_n 1, 1) := by decide +kernel
theorem dX5_ifFired_6 : decode cX5_ifFired 6 = .ok (.bipush 9, 2) := by decide +kernel
theorem dX5_ifFired_8 : decode cX5_ifFired 8 = .ok (.if_icmp .gt 12, 3) := by decide +kernel
theorem dX5_ifFired_11 : decode cX5_ifFired 11 = .ok (.iload_n 2, 1) := by decide +kernel
theorem dX5_ifFired_12 : decode cX5_ifFired 12 = .ok (.ifCond .lt 8, 3) := by decide +kernel
theorem dX5_ifFired_15 : decode cX5_ifFired 15 = .ok (.iload_n 2, 1) := by decide +kernel
theorem dX5_ifFired_16 : decode cX5_ifFired 16 = .ok (.iconst 2, 1) := by decide +kernel
theorem dX5_ifFired_17 : decode cX5_ifFired 17 = .ok (.if_icmp .le 13, 3) := by decide +kernel
theorem dX5_ifFired_20 : decode cX5_ifFired 20 = .ok (.new 37, 3) := by decide +kernel
theorem dX5_ifFired_23 : decode cX5_ifFired 23 = .ok (.dup, 1) := by decide +kernel
theorem dX5_ifFired_24 : decode cX5_ifFired 24 = .ok (.ldc 246, 2) := by decide +kernel
theorem dX5_ifFired_26 : decode cX5_ifFired 26 = .ok (.invokespecial 41, 3) := by decide +kernel
theorem dX5_ifFired_29 : decode cX5_ifFired 29 = .ok (.athrow, 1) := by decide +kernel
theorem dX5_ifFired_30 : decode cX5_ifFired 30 = .ok (.aload_n 0, 1) := by decide +kernel
theorem dX5_ifFired_31 : decode cX5_ifFired 31 = .ok (.iload_n 1, 1) := by decide +kernel
theorem dX5_ifFired_32 : decode cX5_ifFired 32 = .ok (.invokevirtual 248, 3) := by decide +kernel
theorem dX5_ifFired_35 : decode cX5_ifFired 35 = .ok (.istore_n 3, 1) := by decide +kernel
theorem dX5_ifFired_36 : decode cX5_ifFired 36 = .ok (.iload_n 2, 1) := by decide +kernel
theorem dX5_ifFired_37 : decode cX5_ifFired 37 = .ok (.ifCond .ne 5, 3) := by decide +kernel
theorem dX5_ifFired_40 : decode cX5_ifFired 40 = .ok (.iload_n 3, 1) := by decide +kernel
theorem dX5_ifFired_41 : decode cX5_ifFired 41 = .ok (.ireturn, 1) := by decide +kernel
theorem dX5_ifFired_42 : decode cX5_ifFired 42 = .ok (.iload_n 2, 1) := by decide +kernel
theorem dX5_ifFired_43 : decode cX5_ifFired 43 = .ok (.iconst 1, 1) := by decide +kernel
theorem dX5_ifFired_44 : decode cX5_ifFired 44 = .ok (.if_icmp .ne 16, 3) := by decide +kernel
theorem dX5_ifFired_47 : decode cX5_ifFired 47 = .ok (.aload_n 0, 1) := by decide +kernel
theorem dX5_ifFired_48 : decode cX5_ifFired 48 = .ok (.getfield 16, 3) := by decide +kernel
theorem dX5_ifFired_51 : decode cX5_ifFired 51 = .ok (.getfield 63, 3) := by decide +kernel
theorem dX5_ifFired_54 : decode cX5_ifFired 54 = .ok (.invokevirtual 205, 3) := by decide +kernel
theorem dX5_ifFired_57 : decode cX5_ifFired 57 = .ok (.goto 13, 3) := by decide +kernel
theorem dX5_ifFired_60 : decode cX5_ifFired 60 = .ok (.aload_n 0, 1) := by decide +kernel
theorem dX5_ifFired_61 : decode cX5_ifFired 61 = .ok (.getfield 16, 3) := by decide +kernel
theorem dX5_ifFired_64 : decode cX5_ifFired 64 = .ok (.getfield 44, 3) := by decide +kernel
theorem dX5_ifFired_67 : decode cX5_ifFired 67 = .ok (.invokevirtual 211, 3) := by decide +kernel
theorem dX5_ifFired_70 : decode cX5_ifFired 70 = .ok (.ireturn, 1) := by decide +kernel
theorem dX5_room_0 : decode cX5_room 0 = .ok (.iload_n 1, 1) := by decide +kernel
theorem dX5_room_1 : decode cX5_room 1 = .ok (.invokestatic 235, 3) := by decide +kernel
theorem dX5_room_4 : decode cX5_room 4 = .ok (.ifCond .ne 13, 3) := by decide +kernel
theorem dX5_room_7 : decode cX5_room 7 = .ok (.new 37, 3) := by decide +kernel
theorem dX5_room_10 : decode cX5_room 10 = .ok (.dup, 1) := by decide +kernel
theorem dX5_room_11 : decode cX5_room 11 = .ok (.ldc 238, 2) := by decide +kernel
theorem dX5_room_13 : decode cX5_room 13 = .ok (.invokespecial 41, 3) := by decide +kernel
theorem dX5_room_16 : decode cX5_room 16 = .ok (.athrow, 1) := by decide +kernel
theorem dX5_room_17 : decode cX5_room 17 = .ok (.iload_n 2, 1) := by decide +kernel
theorem dX5_room_18 : decode cX5_room 18 = .ok (.ifCond .eq 18, 3) := by decide +kernel
theorem dX5_room_21 : decode cX5_room 21 = .ok (.aload_n 0, 1) := by decide +kernel
theorem dX5_room_22 : decode cX5_room 22 = .ok (.getfield 10, 3) := by decide +kernel
theorem dX5_room_25 : decode cX5_room 25 = .ok (.getfield 44, 3) := by decide +kernel
theorem dX5_room_28 : decode cX5_room 28 = .ok (.invokevirtual 214, 3) := by decide +kernel
theorem dX5_room_31 : decode cX5_room 31 = .ok (.iload_n 1, 1) := by decide +kernel
theorem dX5_room_32 : decode cX5_room 32 = .ok (.idiv, 1) := by decide +kernel
theorem dX5_room_33 : decode cX5_room 33 = .ok (.goto 14, 3) := by decide +kernel
theorem dX5_room_36 : decode cX5_room 36 = .ok (.aload_n 0, 1) := by decide +kernel
theorem dX5_room_37 : decode cX5_room 37 = .ok (.getfield 10, 3) := by decide +kernel
theorem dX5_room_40 : decode cX5_room 40 = .ok (.getfield 44, 3) := by decide +kernel
theorem dX5_room_43 : decode cX5_room 43 = .ok (.iload_n 1, 1) := by decide +kernel
theorem dX5_room_44 : decode cX5_room 44 = .ok (.invokevirtual 251, 3) := by decide +kernel
theorem dX5_room_47 : decode cX5_room 47 = .ok (.ireturn, 1) := by decide +kernel
theorem dX5_fullness_0 : decode cX5_fullness 0 = .ok (.aload_n 0, 1) := by decide +kernel
theorem dX5_fullness_1 : decode cX5_fullness 1 = .ok (.getfield 10, 3) := by decide +kernel
theorem dX5_fullness_4 : decode cX5_fullness 4 = .ok (.getfield 44, 3) := by decide +kernel
theorem dX5_fullness_7 : decode cX5_fullness 7 = .ok (.invokevirtual 211, 3) := by decide +kernel
theorem dX5_fullness_10 : decode cX5_fullness 10 = .ok (.istore_n 1, 1) := by decide +kernel
theorem dX5_fullness_11 : decode cX5_fullness 11 = .ok (.iload_n 1, 1) := by decide +kernel
theorem dX5_fullness_12 : decode cX5_fullness 12 = .ok (.ifCond .gt 5, 3) := by decide +kernel
theorem dX5_fullness_15 : decode cX5_fullness 15 = .ok (.dconst 0, 1) := by decide +kernel
theorem dX5_fullness_16 : decode cX5_fullness 16 = .ok (.dreturn, 1) := by decide +kernel
theorem dX5_fullness_17 : decode cX5_fullness 17 = .ok (.iload_n 1, 1) := by decide +kernel
theorem dX5_fullness_18 : decode cX5_fullness 18 = .ok (.aload_n 0, 1) := by decide +kernel
theorem dX5_fullness_19 : decode cX5_fullness 19 = .ok (.getfield 10, 3) := by decide +kernel
theorem dX5_fullness_22 : decode cX5_fullness 22 = .ok (.getfield 44, 3) := by decide +kernel
theorem dX5_fullness_25 : decode cX5_fullness 25 = .ok (.invokevirtual 214, 3) := by decide +kernel
theorem dX5_fullness_28 : decode cX5_fullness 28 = .ok (.isub, 1) := by decide +kernel
theorem dX5_fullness_29 : decode cX5_fullness 29 = .ok (.i2d, 1) := by decide +kernel
theorem dX5_fullness_30 : decode cX5_fullness 30 = .ok (.iload_n 1, 1) := by decide +kernel
theorem dX5_fullness_31 : decode cX5_fullness 31 = .ok (.i2d, 1) := by decide +kernel
theorem dX5_fullness_32 : decode cX5_fullness 32 = .ok (.ddiv, 1) := by decide +kernel
theorem dX5_fullness_33 : decode cX5_fullness 33 = .ok (.dreturn, 1) := by decide +kernel
theorem dX5_digest_0 : decode cX5_digest 0 = .ok (.ldc2_w 254, 3) := by decide +kernel
theorem dX5_digest_3 : decode cX5_digest 3 = .ok (.lstore_n 1, 1) := by decide +kernel
theorem dX5_digest_4 : decode cX5_digest 4 = .ok (.iconst 0, 1) := by decide +kernel
theorem dX5_digest_5 : decode cX5_digest 5 = .ok (.istore_n 3, 1) := by decide +kernel
theorem dX5_digest_6 : decode cX5_digest 6 = .ok (.iload_n 3, 1) := by decide +kernel
theorem dX5_digest_7 : decode cX5_digest 7 = .ok (.bipush 9, 2) := by decide +kernel
theorem dX5_digest_9 : decode cX5_digest 9 = .ok (.if_icmp .gt 22, 3) := by decide +kernel
theorem dX5_digest_12 : decode cX5_digest 12 = .ok (.ldc2_w 256, 3) := by decide +kernel
theorem dX5_digest_15 : decode cX5_digest 15 = .ok (.lload_n 1, 1) := by decide +kernel
theorem dX5_digest_16 : decode cX5_digest 16 = .ok (.lmul, 1) := by decide +kernel
theorem dX5_digest_17 : decode cX5_digest 17 = .ok (.aload_n 0, 1) := by decide +kernel
theorem dX5_digest_18 : decode cX5_digest 18 = .ok (.iload_n 3, 1) := by decide +kernel
theorem dX5_digest_19 : decode cX5_digest 19 = .ok (.invokevirtual 258, 3) := by decide +kernel
theorem dX5_digest_22 : decode cX5_digest 22 = .ok (.i2l, 1) := by decide +kernel
theorem dX5_digest_23 : decode cX5_digest 23 = .ok (.ladd, 1) := by decide +kernel
theorem dX5_digest_24 : decode cX5_digest 24 = .ok (.lstore_n 1, 1) := by decide +kernel
theorem dX5_digest_25 : decode cX5_digest 25 = .ok (.iinc 3 1, 3) := by decide +kernel
theorem dX5_digest_28 : decode cX5_digest 28 = .ok (.goto (-22), 3) := by decide +kernel
theorem dX5_digest_31 : decode cX5_digest 31 = .ok (.aload_n 0, 1) := by decide +kernel
theorem dX5_digest_32 : decode cX5_digest 32 = .ok (.lload_n 1, 1) := by decide +kernel
theorem dX5_digest_33 : decode cX5_digest 33 = .ok (.invokevirtual 261, 3) := by decide +kernel
theorem dX5_digest_36 : decode cX5_digest 36 = .ok (.lstore_n 1, 1) := by decide +kernel
theorem dX5_digest_37 : decode cX5_digest 37 = .ok (.aload_n 0, 1) := by decide +kernel
theorem dX5_digest_38 : decode cX5_digest 38 = .ok (.lload_n 1, 1) := by decide +kernel
theorem dX5_digest_39 : decode cX5_digest 39 = .ok (.invokevirtual 265, 3) := by decide +kernel
theorem dX5_digest_42 : decode cX5_digest 42 = .ok (.lstore_n 1, 1) := by decide +kernel
theorem dX5_digest_43 : decode cX5_digest 43 = .ok (.aload_n 0, 1) := by decide +kernel
theorem dX5_digest_44 : decode cX5_digest 44 = .ok (.lload_n 1, 1) := by decide +kernel
theorem dX5_digest_45 : decode cX5_digest 45 = .ok (.invokevirtual 268, 3) := by decide +kernel
theorem dX5_digest_48 : decode cX5_digest 48 = .ok (.lstore_n 1, 1) := by decide +kernel
theorem dX5_digest_49 : decode cX5_digest 49 = .ok (.ldc2_w 256, 3) := by decide +kernel
theorem dX5_digest_52 : decode cX5_digest 52 = .ok (.lload_n 1, 1) := by decide +kernel
theorem dX5_digest_53 : decode cX5_digest 53 = .ok (.lmul, 1) := by decide +kernel
theorem dX5_digest_54 : decode cX5_digest 54 = .ok (.aload_n 0, 1) := by decide +kernel
theorem dX5_digest_55 : decode cX5_digest 55 = .ok (.iconst 2, 1) := by decide +kernel
theorem dX5_digest_56 : decode cX5_digest 56 = .ok (.invokevirtual 248, 3) := by decide +kernel
theorem dX5_digest_59 : decode cX5_digest 59 = .ok (.i2l, 1) := by decide +kernel
theorem dX5_digest_60 : decode cX5_digest 60 = .ok (.ladd, 1) := by decide +kernel
theorem dX5_digest_61 : decode cX5_digest 61 = .ok (.lstore_n 1, 1) := by decide +kernel
theorem dX5_digest_62 : decode cX5_digest 62 = .ok (.ldc2_w 256, 3) := by decide +kernel
theorem dX5_digest_65 : decode cX5_digest 65 = .ok (.lload_n 1, 1) := by decide +kernel
theorem dX5_digest_66 : decode cX5_digest 66 = .ok (.lmul, 1) := by decide +kernel
theorem dX5_digest_67 : decode cX5_digest 67 = .ok (.aload_n 0, 1) := by decide +kernel
theorem dX5_digest_68 : decode cX5_digest 68 = .ok (.getfield 16, 3) := by decide +kernel
theorem dX5_digest_71 : decode cX5_digest 71 = .ok (.getfield 63, 3) := by decide +kernel
theorem dX5_digest_74 : decode cX5_digest 74 = .ok (.invokevirtual 205, 3) := by decide +kernel
theorem dX5_digest_77 : decode cX5_digest 77 = .ok (.i2l, 1) := by decide +kernel
theorem dX5_digest_78 : decode cX5_digest 78 = .ok (.ladd, 1) := by decide +kernel
theorem dX5_digest_79 : decode cX5_digest 79 = .ok (.lstore_n 1, 1) := by decide +kernel
theorem dX5_digest_80 : decode cX5_digest 80 = .ok (.ldc2_w 256, 3) := by decide +kernel
theorem dX5_digest_83 : decode cX5_digest 83 = .ok (.lload_n 1, 1) := by decide +kernel
theorem dX5_digest_84 : decode cX5_digest 84 = .ok (.lmul, 1) := by decide +kernel
theorem dX5_digest_85 : decode cX5_digest 85 = .ok (.aload_n 0, 1) := by decide +kernel
theorem dX5_digest_86 : decode cX5_digest 86 = .ok (.getfield 16, 3) := by decide +kernel
theorem dX5_digest_89 : decode cX5_digest 89 = .ok (.getfield 44, 3) := by decide +kernel
theorem dX5_digest_92 : decode cX5_digest 92 = .ok (.invokevirtual 211, 3) := by decide +kernel
theorem dX5_digest_95 : decode cX5_digest 95 = .ok (.i2l, 1) := by decide +kernel
theorem dX5_digest_96 : decode cX5_digest 96 = .ok (.ladd, 1) := by decide +kernel
theorem dX5_digest_97 : decode cX5_digest 97 = .ok (.lstore_n 1, 1) := by decide +kernel
theorem dX5_digest_98 : decode cX5_digest 98 = .ok (.aload_n 0, 1) := by decide +kernel
theorem dX5_digest_99 : decode cX5_digest 99 = .ok (.lload_n 1, 1) := by decide +kernel
theorem dX5_digest_100 : decode cX5_digest 100 = .ok (.invokevirtual 271, 3) := by decide +kernel
theorem dX5_digest_103 : decode cX5_digest 103 = .ok (.lstore_n 1, 1) := by decide +kernel
theorem dX5_digest_104 : decode cX5_digest 104 = .ok (.aload_n 0, 1) := by decide +kernel
theorem dX5_digest_105 : decode cX5_digest 105 = .ok (.lload_n 1, 1) := by decide +kernel
theorem dX5_digest_106 : decode cX5_digest 106 = .ok (.invokevirtual 274, 3) := by decide +kernel
theorem dX5_digest_109 : decode cX5_digest 109 = .ok (.lreturn, 1) := by decide +kernel
theorem dX5_hashThings_0 : decode cX5_hashThings 0 = .ok (.lload_n 1, 1) := by decide +kernel
theorem dX5_hashThings_1 : decode cX5_hashThings 1 = .ok (.lstore_n 3, 1) := by decide +kernel
theorem dX5_hashThings_2 : decode cX5_hashThings 2 = .ok (.aload_n 0, 1) := by decide +kernel
theorem dX5_hashThings_3 : decode cX5_hashThings 3 = .ok (.getfield 10, 3) := by decide +kernel
theorem dX5_hashThings_6 : decode cX5_hashThings 6 = .ok (.getfield 63, 3) := by decide +kernel
theorem dX5_hashThings_9 : decode cX5_hashThings 9 = .ok (.invokevirtual 205, 3) := by decide +kernel
theorem dX5_hashThings_12 : decode cX5_hashThings 12 = .ok (.istore 5, 2) := by decide +kernel
theorem dX5_hashThings_14 : decode cX5_hashThings 14 = .ok (.iconst 0, 1) := by decide +kernel
theorem dX5_hashThings_15 : decode cX5_hashThings 15 = .ok (.istore 6, 2) := by decide +kernel
theorem dX5_hashThings_17 : decode cX5_hashThings 17 = .ok (.iload 6, 2) := by decide +kernel
theorem dX5_hashThings_19 : decode cX5_hashThings 19 = .ok (.iload 5, 2) := by decide +kernel
theorem dX5_hashThings_21 : decode cX5_hashThings 21 = .ok (.if_icmp .ge 58, 3) := by decide +kernel
theorem dX5_hashThings_24 : decode cX5_hashThings 24 = .ok (.aload_n 0, 1) := by decide +kernel
theorem dX5_hashThings_25 : decode cX5_hashThings 25 = .ok (.iload 6, 2) := by decide +kernel
theorem dX5_hashThings_27 : decode cX5_hashThings 27 = .ok (.invokevirtual 277, 3) := by decide +kernel
theorem dX5_hashThings_30 : decode cX5_hashThings 30 = .ok (.istore 7, 2) := by decide +kernel
theorem dX5_hashThings_32 : decode cX5_hashThings 32 = .ok (.ldc2_w 256, 3) := by decide +kernel
theorem dX5_hashThings_35 : decode cX5_hashThings 35 = .ok (.lload_n 3, 1) := by decide +kernel
theorem dX5_hashThings_36 : decode cX5_hashThings 36 = .ok (.lmul, 1) := by decide +kernel
theorem dX5_hashThings_37 : decode cX5_hashThings 37 = .ok (.iload 7, 2) := by decide +kernel
theorem dX5_hashThings_39 : decode cX5_hashThings 39 = .ok (.i2l, 1) := by decide +kernel
theorem dX5_hashThings_40 : decode cX5_hashThings 40 = .ok (.ladd, 1) := by decide +kernel
theorem dX5_hashThings_41 : decode cX5_hashThings 41 = .ok (.lstore_n 3, 1) := by decide +kernel
theorem dX5_hashThings_42 : decode cX5_hashThings 42 = .ok (.iconst 0, 1) := by decide +kernel
theorem dX5_hashThings_43 : decode cX5_hashThings 43 = .ok (.istore 8, 2) := by decide +kernel
theorem dX5_hashThings_45 : decode cX5_hashThings 45 = .ok (.iload 8, 2) := by decide +kernel
theorem dX5_hashThings_47 : decode cX5_hashThings 47 = .ok (.iconst 5, 1) := by decide +kernel
theorem dX5_hashThings_48 : decode cX5_hashThings 48 = .ok (.if_icmp .gt 25, 3) := by decide +kernel
theorem dX5_hashThings_51 : decode cX5_hashThings 51 = .ok (.ldc2_w 256, 3) := by decide +kernel
theorem dX5_hashThings_54 : decode cX5_hashThings 54 = .ok (.lload_n 3, 1) := by decide +kernel
theorem dX5_hashThings_55 : decode cX5_hashThings 55 = .ok (.lmul, 1) := by decide +kernel
theorem dX5_hashThings_56 : decode cX5_hashThings 56 = .ok (.aload_n 0, 1) := by decide +kernel
theorem dX5_hashThings_57 : decode cX5_hashThings 57 = .ok (.iload 7, 2) := by decide +kernel
theorem dX5_hashThings_59 : decode cX5_hashThings 59 = .ok (.iload 8, 2) := by decide +kernel
theorem dX5_hashThings_61 : decode cX5_hashThings 61 = .ok (.invokevirtual 280, 3) := by decide +kernel
theorem dX5_hashThings_64 : decode cX5_hashThings 64 = .ok (.i2l, 1) := by decide +kernel
theorem dX5_hashThings_65 : decode cX5_hashThings 65 = .ok (.ladd, 1) := by decide +kernel
theorem dX5_hashThings_66 : decode cX5_hashThings 66 = .ok (.lstore_n 3, 1) := by decide +kernel
theorem dX5_hashThings_67 : decode cX5_hashThings 67 = .ok (.iinc 8 1, 3) := by decide +kernel
theorem dX5_hashThings_70 : decode cX5_hashThings 70 = .ok (.goto (-25), 3) := by decide +kernel
theorem dX5_hashThings_73 : decode cX5_hashThings 73 = .ok (.iinc 6 1, 3) := by decide +kernel
theorem dX5_hashThings_76 : decode cX5_hashThings 76 = .ok (.goto (-59), 3) := by decide +kernel
theorem dX5_hashThings_79 : decode cX5_hashThings 79 = .ok (.lload_n 3, 1) := by decide +kernel
theorem dX5_hashThings_80 : decode cX5_hashThings 80 = .ok (.lreturn, 1) := by decide +kernel
theorem dX5_hashCellsAndWalkers_0 : decode cX5_hashCellsAndWalkers 0 = .ok (.lload_n 1, 1) := by decide +kernel
theorem dX5_hashCellsAndWalkers_1 : decode cX5_hashCellsAndWalkers 1 = .ok (.lstore_n 3, 1) := by decide +kernel
theorem dX5_hashCellsAndWalkers_2 : decode cX5_hashCellsAndWalkers 2 = .ok (.aload_n 0, 1) := by decide +kernel
theorem dX5_hashCellsAndWalkers_3 : decode cX5_hashCellsAndWalkers 3 = .ok (.getfield 10, 3) := by decide +kernel
theorem dX5_hashCellsAndWalkers_6 : decode cX5_hashCellsAndWalkers 6 = .ok (.getfield 44, 3) := by decide +kernel
theorem dX5_hashCellsAndWalkers_9 : decode cX5_hashCellsAndWalkers 9 = .ok (.invokevirtual 211, 3) := by decide +kernel
theorem dX5_hashCellsAndWalkers_12 : decode cX5_hashCellsAndWalkers 12 = .ok (.istore 5, 2) := by decide +kernel
theorem dX5_hashCellsAndWalkers_14 : decode cX5_hashCellsAndWalkers 14 = .ok (.iconst 0, 1) := by decide +kernel
theorem dX5_hashCellsAndWalkers_15 : decode cX5_hashCellsAndWalkers 15 = .ok (.istore 6, 2) := by decide +kernel
theorem dX5_hashCellsAndWalkers_17 : decode cX5_hashCellsAndWalkers 17 = .ok (.iload 6, 2) := by decide +kernel
theorem dX5_hashCellsAndWalkers_19 : decode cX5_hashCellsAndWalkers 19 = .ok (.iload 5, 2) := by decide +kernel
theorem dX5_hashCellsAndWalkers_21 : decode cX5_hashCellsAndWalkers 21 = .ok (.if_icmp .ge 39, 3) := by decide +kernel
theorem dX5_hashCellsAndWalkers_24 : decode cX5_hashCellsAndWalkers 24 = .ok (.ldc2_w 256, 3) := by decide +kernel
theorem dX5_hashCellsAndWalkers_27 : decode cX5_hashCellsAndWalkers 27 = .ok (.lload_n 3, 1) := by decide +kernel
theorem dX5_hashCellsAndWalkers_28 : decode cX5_hashCellsAndWalkers 28 = .ok (.lmul, 1) := by decide +kernel
theorem dX5_hashCellsAndWalkers_29 : decode cX5_hashCellsAndWalkers 29 = .ok (.aload_n 0, 1) := by decide +kernel
theorem dX5_hashCellsAndWalkers_30 : decode cX5_hashCellsAndWalkers 30 = .ok (.iload 6, 2) := by decide +kernel
theorem dX5_hashCellsAndWalkers_32 : decode cX5_hashCellsAndWalkers 32 = .ok (.iconst 0, 1) := by decide +kernel
theorem dX5_hashCellsAndWalkers_33 : decode cX5_hashCellsAndWalkers 33 = .ok (.invokevirtual 284, 3) := by decide +kernel
theorem dX5_hashCellsAndWalkers_36 : decode cX5_hashCellsAndWalkers 36 = .ok (.i2l, 1) := by decide +kernel
theorem dX5_hashCellsAndWalkers_37 : decode cX5_hashCellsAndWalkers 37 = .ok (.ladd, 1) := by decide +kernel
theorem dX5_hashCellsAndWalkers_38 : decode cX5_hashCellsAndWalkers 38 = .ok (.lstore_n 3, 1) := by decide +kernel
theorem dX5_hashCellsAndWalkers_39 : decode cX5_hashCellsAndWalkers 39 = .ok (.ldc2_w 256, 3) := by decide +kernel
theorem dX5_hashCellsAndWalkers_42 : decode cX5_hashCellsAndWalkers 42 = .ok (.lload_n 3, 1) := by decide +kernel
theorem dX5_hashCellsAndWalkers_43 : decode cX5_hashCellsAndWalkers 43 = .ok (.lmul, 1) := by decide +kernel
theorem dX5_hashCellsAndWalkers_44 : decode cX5_hashCellsAndWalkers 44 = .ok (.aload_n 0, 1) := by decide +kernel
theorem dX5_hashCellsAndWalkers_45 : decode cX5_hashCellsAndWalkers 45 = .ok (.iload 6, 2) := by decide +kernel
theorem dX5_hashCellsAndWalkers_47 : decode cX5_hashCellsAndWalkers 47 = .ok (.iconst 1, 1) := by decide +kernel
theorem dX5_hashCellsAndWalkers_48 : decode cX5_hashCellsAndWalkers 48 = .ok (.invokevirtual 284, 3) := by decide +kernel
theorem dX5_hashCellsAndWalkers_51 : decode cX5_hashCellsAndWalkers 51 = .ok (.i2l, 1) := by decide +kernel
theorem dX5_hashCellsAndWalkers_52 : decode cX5_hashCellsAndWalkers 52 = .ok (.ladd, 1) := by decide +kernel
theorem dX5_hashCellsAndWalkers_53 : decode cX5_hashCellsAndWalkers 53 = .ok (.lstore_n 3, 1) := by decide +kernel
theorem dX5_hashCellsAndWalkers_54 : decode cX5_hashCellsAndWalkers 54 = .ok (.iinc 6 1, 3) := by decide +kernel
theorem dX5_hashCellsAndWalkers_57 : decode cX5_hashCellsAndWalkers 57 = .ok (.goto (-40), 3) := by decide +kernel
theorem dX5_hashCellsAndWalkers_60 : decode cX5_hashCellsAndWalkers 60 = .ok (.iconst 0, 1) := by decide +kernel
theorem dX5_hashCellsAndWalkers_61 : decode cX5_hashCellsAndWalkers 61 = .ok (.istore 6, 2) := by decide +kernel
theorem dX5_hashCellsAndWalkers_63 : decode cX5_hashCellsAndWalkers 63 = .ok (.iload 6, 2) := by decide +kernel
theorem dX5_hashCellsAndWalkers_65 : decode cX5_hashCellsAndWalkers 65 = .ok (.iconst 4, 1) := by decide +kernel
theorem dX5_hashCellsAndWalkers_66 : decode cX5_hashCellsAndWalkers 66 = .ok (.if_icmp .ge 40, 3) := by decide +kernel
theorem dX5_hashCellsAndWalkers_69 : decode cX5_hashCellsAndWalkers 69 = .ok (.iconst 0, 1) := by decide +kernel
theorem dX5_hashCellsAndWalkers_70 : decode cX5_hashCellsAndWalkers 70 = .ok (.istore 7, 2) := by decide +kernel
theorem dX5_hashCellsAndWalkers_72 : decode cX5_hashCellsAndWalkers 72 = .ok (.iload 7, 2) := by decide +kernel
theorem dX5_hashCellsAndWalkers_74 : decode cX5_hashCellsAndWalkers 74 = .ok (.iconst 2, 1) := by decide +kernel
theorem dX5_hashCellsAndWalkers_75 : decode cX5_hashCellsAndWalkers 75 = .ok (.if_icmp .gt 25, 3) := by decide +kernel
theorem dX5_hashCellsAndWalkers_78 : decode cX5_hashCellsAndWalkers 78 = .ok (.ldc2_w 256, 3) := by decide +kernel
theorem dX5_hashCellsAndWalkers_81 : decode cX5_hashCellsAndWalkers 81 = .ok (.lload_n 3, 1) := by decide +kernel
theorem dX5_hashCellsAndWalkers_82 : decode cX5_hashCellsAndWalkers 82 = .ok (.lmul, 1) := by decide +kernel
theorem dX5_hashCellsAndWalkers_83 : decode cX5_hashCellsAndWalkers 83 = .ok (.aload_n 0, 1) := by decide +kernel
theorem dX5_hashCellsAndWalkers_84 : decode cX5_hashCellsAndWalkers 84 = .ok (.iload 6, 2) := by decide +kernel
theorem dX5_hashCellsAndWalkers_86 : decode cX5_hashCellsAndWalkers 86 = .ok (.iload 7, 2) := by decide +kernel
theorem dX5_hashCellsAndWalkers_88 : decode cX5_hashCellsAndWalkers 88 = .ok (.invokevirtual 287, 3) := by decide +kernel
theorem dX5_hashCellsAndWalkers_91 : decode cX5_hashCellsAndWalkers 91 = .ok (.i2l, 1) := by decide +kernel
theorem dX5_hashCellsAndWalkers_92 : decode cX5_hashCellsAndWalkers 92 = .ok (.ladd, 1) := by decide +kernel
theorem dX5_hashCellsAndWalkers_93 : decode cX5_hashCellsAndWalkers 93 = .ok (.lstore_n 3, 1) := by decide +kernel
theorem dX5_hashCellsAndWalkers_94 : decode cX5_hashCellsAndWalkers 94 = .ok (.iinc 7 1, 3) := by decide +kernel
theorem dX5_hashCellsAndWalkers_97 : decode cX5_hashCellsAndWalkers 97 = .ok (.goto (-25), 3) := by decide +kernel
theorem dX5_hashCellsAndWalkers_100 : decode cX5_hashCellsAndWalkers 100 = .ok (.iinc 6 1, 3) := by decide +kernel
theorem dX5_hashCellsAndWalkers_103 : decode cX5_hashCellsAndWalkers 103 = .ok (.goto (-40), 3) := by decide +kernel
theorem dX5_hashCellsAndWalkers_106 : decode cX5_hashCellsAndWalkers 106 = .ok (.lload_n 3, 1) := by decide +kernel
theorem dX5_hashCellsAndWalkers_107 : decode cX5_hashCellsAndWalkers 107 = .ok (.lreturn, 1) := by decide +kernel
theorem dX5_hashGaps_0 : decode cX5_hashGaps 0 = .ok (.lload_n 1, 1) := by decide +kernel
theorem dX5_hashGaps_1 : decode cX5_hashGaps 1 = .ok (.lstore_n 3, 1) := by decide +kernel
theorem dX5_hashGaps_2 : decode cX5_hashGaps 2 = .ok (.iconst 1, 1) := by decide +kernel
theorem dX5_hashGaps_3 : decode cX5_hashGaps 3 = .ok (.istore 5, 2) := by decide +kernel
theorem dX5_hashGaps_5 : decode cX5_hashGaps 5 = .ok (.iload 5, 2) := by decide +kernel
theorem dX5_hashGaps_7 : decode cX5_hashGaps 7 = .ok (.iconst 4, 1) := by decide +kernel
theorem dX5_hashGaps_8 : decode cX5_hashGaps 8 = .ok (.if_icmp .gt 23, 3) := by decide +kernel
theorem dX5_hashGaps_11 : decode cX5_hashGaps 11 = .ok (.ldc2_w 256, 3) := by decide +kernel
theorem dX5_hashGaps_14 : decode cX5_hashGaps 14 = .ok (.lload_n 3, 1) := by decide +kernel
theorem dX5_hashGaps_15 : decode cX5_hashGaps 15 = .ok (.lmul, 1) := by decide +kernel
theorem dX5_hashGaps_16 : decode cX5_hashGaps 16 = .ok (.aload_n 0, 1) := by decide +kernel
theorem dX5_hashGaps_17 : decode cX5_hashGaps 17 = .ok (.iload 5, 2) := by decide +kernel
theorem dX5_hashGaps_19 : decode cX5_hashGaps 19 = .ok (.invokevirtual 290, 3) := by decide +kernel
theorem dX5_hashGaps_22 : decode cX5_hashGaps 22 = .ok (.i2l, 1) := by decide +kernel
theorem dX5_hashGaps_23 : decode cX5_hashGaps 23 = .ok (.ladd, 1) := by decide +kernel
theorem dX5_hashGaps_24 : decode cX5_hashGaps 24 = .ok (.lstore_n 3, 1) := by decide +kernel
theorem dX5_hashGaps_25 : decode cX5_hashGaps 25 = .ok (.iinc 5 1, 3) := by decide +kernel
theorem dX5_hashGaps_28 : decode cX5_hashGaps 28 = .ok (.goto (-23), 3) := by decide +kernel
theorem dX5_hashGaps_31 : decode cX5_hashGaps 31 = .ok (.ldc2_w 256, 3) := by decide +kernel
theorem dX5_hashGaps_34 : decode cX5_hashGaps 34 = .ok (.lload_n 3, 1) := by decide +kernel
theorem dX5_hashGaps_35 : decode cX5_hashGaps 35 = .ok (.lmul, 1) := by decide +kernel
theorem dX5_hashGaps_36 : decode cX5_hashGaps 36 = .ok (.aload_n 0, 1) := by decide +kernel
theorem dX5_hashGaps_37 : decode cX5_hashGaps 37 = .ok (.iconst 0, 1) := by decide +kernel
theorem dX5_hashGaps_38 : decode cX5_hashGaps 38 = .ok (.invokevirtual 293, 3) := by decide +kernel
theorem dX5_hashGaps_41 : decode cX5_hashGaps 41 = .ok (.i2l, 1) := by decide +kernel
theorem dX5_hashGaps_42 : decode cX5_hashGaps 42 = .ok (.ladd, 1) := by decide +kernel
theorem dX5_hashGaps_43 : decode cX5_hashGaps 43 = .ok (.lstore_n 3, 1) := by decide +kernel
theorem dX5_hashGaps_44 : decode cX5_hashGaps 44 = .ok (.ldc2_w 256, 3) := by decide +kernel
theorem dX5_hashGaps_47 : decode cX5_hashGaps 47 = .ok (.lload_n 3, 1) := by decide +kernel
theorem dX5_hashGaps_48 : decode cX5_hashGaps 48 = .ok (.lmul, 1) := by decide +kernel
theorem dX5_hashGaps_49 : decode cX5_hashGaps 49 = .ok (.aload_n 0, 1) := by decide +kernel
theorem dX5_hashGaps_50 : decode cX5_hashGaps 50 = .ok (.iconst 1, 1) := by decide +kernel
theorem dX5_hashGaps_51 : decode cX5_hashGaps 51 = .ok (.invokevirtual 293, 3) := by decide +kernel
theorem dX5_hashGaps_54 : decode cX5_hashGaps 54 = .ok (.i2l, 1) := by decide +kernel
theorem dX5_hashGaps_55 : decode cX5_hashGaps 55 = .ok (.ladd, 1) := by decide +kernel
theorem dX5_hashGaps_56 : decode cX5_hashGaps 56 = .ok (.lreturn, 1) := by decide +kernel
theorem dX5_hashRoom_0 : decode cX5_hashRoom 0 = .ok (.lload_n 1, 1) := by decide +kernel
theorem dX5_hashRoom_1 : decode cX5_hashRoom 1 = .ok (.lstore_n 3, 1) := by decide +kernel
theorem dX5_hashRoom_2 : decode cX5_hashRoom 2 = .ok (.iconst 1, 1) := by decide +kernel
theorem dX5_hashRoom_3 : decode cX5_hashRoom 3 = .ok (.istore 5, 2) := by decide +kernel
theorem dX5_hashRoom_5 : decode cX5_hashRoom 5 = .ok (.iload 5, 2) := by decide +kernel
theorem dX5_hashRoom_7 : decode cX5_hashRoom 7 = .ok (.iconst 4, 1) := by decide +kernel
theorem dX5_hashRoom_8 : decode cX5_hashRoom 8 = .ok (.if_icmp .gt 39, 3) := by decide +kernel
theorem dX5_hashRoom_11 : decode cX5_hashRoom 11 = .ok (.ldc2_w 256, 3) := by decide +kernel
theorem dX5_hashRoom_14 : decode cX5_hashRoom 14 = .ok (.lload_n 3, 1) := by decide +kernel
theorem dX5_hashRoom_15 : decode cX5_hashRoom 15 = .ok (.lmul, 1) := by decide +kernel
theorem dX5_hashRoom_16 : decode cX5_hashRoom 16 = .ok (.aload_n 0, 1) := by decide +kernel
theorem dX5_hashRoom_17 : decode cX5_hashRoom 17 = .ok (.iload 5, 2) := by decide +kernel
theorem dX5_hashRoom_19 : decode cX5_hashRoom 19 = .ok (.iconst 0, 1) := by decide +kernel
theorem dX5_hashRoom_20 : decode cX5_hashRoom 20 = .ok (.invokevirtual 296, 3) := by decide +kernel
theorem dX5_hashRoom_23 : decode cX5_hashRoom 23 = .ok (.i2l, 1) := by decide +kernel
theorem dX5_hashRoom_24 : decode cX5_hashRoom 24 = .ok (.ladd, 1) := by decide +kernel
theorem dX5_hashRoom_25 : decode cX5_hashRoom 25 = .ok (.lstore_n 3, 1) := by decide +kernel
theorem dX5_hashRoom_26 : decode cX5_hashRoom 26 = .ok (.ldc2_w 256, 3) := by decide +kernel
theorem dX5_hashRoom_29 : decode cX5_hashRoom 29 = .ok (.lload_n 3, 1) := by decide +kernel
theorem dX5_hashRoom_30 : decode cX5_hashRoom 30 = .ok (.lmul, 1) := by decide +kernel
theorem dX5_hashRoom_31 : decode cX5_hashRoom 31 = .ok (.aload_n 0, 1) := by decide +kernel
theorem dX5_hashRoom_32 : decode cX5_hashRoom 32 = .ok (.iload 5, 2) := by decide +kernel
theorem dX5_hashRoom_34 : decode cX5_hashRoom 34 = .ok (.iconst 1, 1) := by decide +kernel
theorem dX5_hashRoom_35 : decode cX5_hashRoom 35 = .ok (.invokevirtual 296, 3) := by decide +kernel
theorem dX5_hashRoom_38 : decode cX5_hashRoom 38 = .ok (.i2l, 1) := by decide +kernel
theorem dX5_hashRoom_39 : decode cX5_hashRoom 39 = .ok (.ladd, 1) := by decide +kernel
theorem dX5_hashRoom_40 : decode cX5_hashRoom 40 = .ok (.lstore_n 3, 1) := by decide +kernel
theorem dX5_hashRoom_41 : decode cX5_hashRoom 41 = .ok (.iinc 5 1, 3) := by decide +kernel
theorem dX5_hashRoom_44 : decode cX5_hashRoom 44 = .ok (.goto (-39), 3) := by decide +kernel
theorem dX5_hashRoom_47 : decode cX5_hashRoom 47 = .ok (.ldc2_w 256, 3) := by decide +kernel
theorem dX5_hashRoom_50 : decode cX5_hashRoom 50 = .ok (.lload_n 3, 1) := by decide +kernel
theorem dX5_hashRoom_51 : decode cX5_hashRoom 51 = .ok (.lmul, 1) := by decide +kernel
theorem dX5_hashRoom_52 : decode cX5_hashRoom 52 = .ok (.aload_n 0, 1) := by decide +kernel
theorem dX5_hashRoom_53 : decode cX5_hashRoom 53 = .ok (.invokevirtual 300, 3) := by decide +kernel
theorem dX5_hashRoom_56 : decode cX5_hashRoom 56 = .ok (.invokestatic 304, 3) := by decide +kernel
theorem dX5_hashRoom_59 : decode cX5_hashRoom 59 = .ok (.ladd, 1) := by decide +kernel
theorem dX5_hashRoom_60 : decode cX5_hashRoom 60 = .ok (.lreturn, 1) := by decide +kernel
theorem dX5_tryEvents_0 : decode cX5_tryEvents 0 = .ok (.aload_n 0, 1) := by decide +kernel
theorem dX5_tryEvents_1 : decode cX5_tryEvents 1 = .ok (.getfield 16, 3) := by decide +kernel
theorem dX5_tryEvents_4 : decode cX5_tryEvents 4 = .ok (.aload_n 0, 1) := by decide +kernel
theorem dX5_tryEvents_5 : decode cX5_tryEvents 5 = .ok (.getfield 10, 3) := by decide +kernel
theorem dX5_tryEvents_8 : decode cX5_tryEvents 8 = .ok (.invokevirtual 308, 3) := by decide +kernel
theorem dX5_tryEvents_11 : decode cX5_tryEvents 11 = .ok (.iconst 0, 1) := by decide +kernel
theorem dX5_tryEvents_12 : decode cX5_tryEvents 12 = .ok (.istore_n 2, 1) := by decide +kernel
theorem dX5_tryEvents_13 : decode cX5_tryEvents 13 = .ok (.iconst 0, 1) := by decide +kernel
theorem dX5_tryEvents_14 : decode cX5_tryEvents 14 = .ok (.istore_n 3, 1) := by decide +kernel
theorem dX5_tryEvents_15 : decode cX5_tryEvents 15 = .ok (.iload_n 3, 1) := by decide +kernel
theorem dX5_tryEvents_16 : decode cX5_tryEvents 16 = .ok (.iload_n 1, 1) := by decide +kernel
theorem dX5_tryEvents_17 : decode cX5_tryEvents 17 = .ok (.if_icmp .ge 19, 3) := by decide +kernel
theorem dX5_tryEvents_20 : decode cX5_tryEvents 20 = .ok (.iload_n 2, 1) := by decide +kernel
theorem dX5_tryEvents_21 : decode cX5_tryEvents 21 = .ok (.aload_n 0, 1) := by decide +kernel
theorem dX5_tryEvents_22 : decode cX5_tryEvents 22 = .ok (.getfield 16, 3) := by decide +kernel
theorem dX5_tryEvents_25 : decode cX5_tryEvents 25 = .ok (.invokevirtual 127, 3) := by decide +kernel
theorem dX5_tryEvents_28 : decode cX5_tryEvents 28 = .ok (.iadd, 1) := by decide +kernel
theorem dX5_tryEvents_29 : decode cX5_tryEvents 29 = .ok (.istore_n 2, 1) := by decide +kernel
theorem dX5_tryEvents_30 : decode cX5_tryEvents 30 = .ok (.iinc 3 1, 3) := by decide +kernel
theorem dX5_tryEvents_33 : decode cX5_tryEvents 33 = .ok (.goto (-18), 3) := by decide +kernel
theorem dX5_tryEvents_36 : decode cX5_tryEvents 36 = .ok (.iload_n 2, 1) := by decide +kernel
theorem dX5_tryEvents_37 : decode cX5_tryEvents 37 = .ok (.ireturn, 1) := by decide +kernel
theorem dX5_hashBuffer_0 : decode cX5_hashBuffer 0 = .ok (.aload_n 0, 1) := by decide +kernel
theorem dX5_hashBuffer_1 : decode cX5_hashBuffer 1 = .ok (.getfield 29, 3) := by decide +kernel
theorem dX5_hashBuffer_4 : decode cX5_hashBuffer 4 = .ok (.invokevirtual 144, 3) := by decide +kernel
theorem dX5_hashBuffer_7 : decode cX5_hashBuffer 7 = .ok (.istore_n 3, 1) := by decide +kernel
theorem dX5_hashBuffer_8 : decode cX5_hashBuffer 8 = .ok (.ldc2_w 256, 3) := by decide +kernel
theorem dX5_hashBuffer_11 : decode cX5_hashBuffer 11 = .ok (.lload_n 1, 1) := by decide +kernel
theorem dX5_hashBuffer_12 : decode cX5_hashBuffer 12 = .ok (.lmul, 1) := by decide +kernel
theorem dX5_hashBuffer_13 : decode cX5_hashBuffer 13 = .ok (.iload_n 3, 1) := by decide +kernel
theorem dX5_hashBuffer_14 : decode cX5_hashBuffer 14 = .ok (.i2l, 1) := by decide +kernel
theorem dX5_hashBuffer_15 : decode cX5_hashBuffer 15 = .ok (.ladd, 1) := by decide +kernel
theorem dX5_hashBuffer_16 : decode cX5_hashBuffer 16 = .ok (.lstore 4, 2) := by decide +kernel
theorem dX5_hashBuffer_18 : decode cX5_hashBuffer 18 = .ok (.iconst 0, 1) := by decide +kernel
theorem dX5_hashBuffer_19 : decode cX5_hashBuffer 19 = .ok (.istore 6, 2) := by decide +kernel
theorem dX5_hashBuffer_21 : decode cX5_hashBuffer 21 = .ok (.iload 6, 2) := by decide +kernel
theorem dX5_hashBuffer_23 : decode cX5_hashBuffer 23 = .ok (.iload_n 3, 1) := by decide +kernel
theorem dX5_hashBuffer_24 : decode cX5_hashBuffer 24 = .ok (.if_icmp .ge 28, 3) := by decide +kernel
theorem dX5_hashBuffer_27 : decode cX5_hashBuffer 27 = .ok (.ldc2_w 256, 3) := by decide +kernel
theorem dX5_hashBuffer_30 : decode cX5_hashBuffer 30 = .ok (.lload 4, 2) := by decide +kernel
theorem dX5_hashBuffer_32 : decode cX5_hashBuffer 32 = .ok (.lmul, 1) := by decide +kernel
theorem dX5_hashBuffer_33 : decode cX5_hashBuffer 33 = .ok (.aload_n 0, 1) := by decide +kernel
theorem dX5_hashBuffer_34 : decode cX5_hashBuffer 34 = .ok (.getfield 29, 3) := by decide +kernel
theorem dX5_hashBuffer_37 : decode cX5_hashBuffer 37 = .ok (.iload 6, 2) := by decide +kernel
theorem dX5_hashBuffer_39 : decode cX5_hashBuffer 39 = .ok (.invokevirtual 311, 3) := by decide +kernel
theorem dX5_hashBuffer_42 : decode cX5_hashBuffer 42 = .ok (.i2l, 1) := by decide +kernel
theorem dX5_hashBuffer_43 : decode cX5_hashBuffer 43 = .ok (.ladd, 1) := by decide +kernel
theorem dX5_hashBuffer_44 : decode cX5_hashBuffer 44 = .ok (.lstore 4, 2) := by decide +kernel
theorem dX5_hashBuffer_46 : decode cX5_hashBuffer 46 = .ok (.iinc 6 1, 3) := by decide +kernel
theorem dX5_hashBuffer_49 : decode cX5_hashBuffer 49 = .ok (.goto (-28), 3) := by decide +kernel
theorem dX5_hashBuffer_52 : decode cX5_hashBuffer 52 = .ok (.lload 4, 2) := by decide +kernel
theorem dX5_hashBuffer_54 : decode cX5_hashBuffer 54 = .ok (.lreturn, 1) := by decide +kernel
theorem dX5_bitsOfShare_0 : decode cX5_bitsOfShare 0 = .ok (.dload_n 0, 1) := by decide +kernel
theorem dX5_bitsOfShare_1 : decode cX5_bitsOfShare 1 = .ok (.dconst 0, 1) := by decide +kernel
theorem dX5_bitsOfShare_2 : decode cX5_bitsOfShare 2 = .ok (.dcmp .g, 1) := by decide +kernel
theorem dX5_bitsOfShare_3 : decode cX5_bitsOfShare 3 = .ok (.ifCond .gt 5, 3) := by decide +kernel
theorem dX5_bitsOfShare_6 : decode cX5_bitsOfShare 6 = .ok (.lconst 0, 1) := by decide +kernel
theorem dX5_bitsOfShare_7 : decode cX5_bitsOfShare 7 = .ok (.lreturn, 1) := by decide +kernel
theorem dX5_bitsOfShare_8 : decode cX5_bitsOfShare 8 = .ok (.dload_n 0, 1) := by decide +kernel
theorem dX5_bitsOfShare_9 : decode cX5_bitsOfShare 9 = .ok (.dstore_n 2, 1) := by decide +kernel
theorem dX5_bitsOfShare_10 : decode cX5_bitsOfShare 10 = .ok (.ldc2_w 314, 3) := by decide +kernel
theorem dX5_bitsOfShare_13 : decode cX5_bitsOfShare 13 = .ok (.lstore 4, 2) := by decide +kernel
theorem dX5_bitsOfShare_15 : decode cX5_bitsOfShare 15 = .ok (.iconst 0, 1) := by decide +kernel
theorem dX5_bitsOfShare_16 : decode cX5_bitsOfShare 16 = .ok (.istore 6, 2) := by decide +kernel
theorem dX5_bitsOfShare_18 : decode cX5_bitsOfShare 18 = .ok (.iload 6, 2) := by decide +kernel
theorem dX5_bitsOfShare_20 : decode cX5_bitsOfShare 20 = .ok (.bipush 6, 2) := by decide +kernel
theorem dX5_bitsOfShare_22 : decode cX5_bitsOfShare 22 = .ok (.if_icmp .ge 27, 3) := by decide +kernel
theorem dX5_bitsOfShare_25 : decode cX5_bitsOfShare 25 = .ok (.dload_n 2, 1) := by decide +kernel
theorem dX5_bitsOfShare_26 : decode cX5_bitsOfShare 26 = .ok (.dconst 1, 1) := by decide +kernel
theorem dX5_bitsOfShare_27 : decode cX5_bitsOfShare 27 = .ok (.dcmp .g, 1) := by decide +kernel
theorem dX5_bitsOfShare_28 : decode cX5_bitsOfShare 28 = .ok (.ifCond .ge 21, 3) := by decide +kernel
theorem dX5_bitsOfShare_31 : decode cX5_bitsOfShare 31 = .ok (.dload_n 2, 1) := by decide +kernel
theorem dX5_bitsOfShare_32 : decode cX5_bitsOfShare 32 = .ok (.ldc2_w 316, 3) := by decide +kernel
theorem dX5_bitsOfShare_35 : decode cX5_bitsOfShare 35 = .ok (.dmul, 1) := by decide +kernel
theorem dX5_bitsOfShare_36 : decode cX5_bitsOfShare 36 = .ok (.dstore_n 2, 1) := by decide +kernel
theorem dX5_bitsOfShare_37 : decode cX5_bitsOfShare 37 = .ok (.lload 4, 2) := by decide +kernel
theorem dX5_bitsOfShare_39 : decode cX5_bitsOfShare 39 = .ok (.lconst 1, 1) := by decide +kernel
theorem dX5_bitsOfShare_40 : decode cX5_bitsOfShare 40 = .ok (.lsub, 1) := by decide +kernel
theorem dX5_bitsOfShare_41 : decode cX5_bitsOfShare 41 = .ok (.lstore 4, 2) := by decide +kernel
theorem dX5_bitsOfShare_43 : decode cX5_bitsOfShare 43 = .ok (.iinc 6 1, 3) := by decide +kernel
theorem dX5_bitsOfShare_46 : decode cX5_bitsOfShare 46 = .ok (.goto (-28), 3) := by decide +kernel
theorem dX5_bitsOfShare_49 : decode cX5_bitsOfShare 49 = .ok (.lload 4, 2) := by decide +kernel
theorem dX5_bitsOfShare_51 : decode cX5_bitsOfShare 51 = .ok (.bipush 52, 2) := by decide +kernel
theorem dX5_bitsOfShare_53 : decode cX5_bitsOfShare 53 = .ok (.lshl, 1) := by decide +kernel
theorem dX5_bitsOfShare_54 : decode cX5_bitsOfShare 54 = .ok (.dload_n 2, 1) := by decide +kernel
theorem dX5_bitsOfShare_55 : decode cX5_bitsOfShare 55 = .ok (.dconst 1, 1) := by decide +kernel
theorem dX5_bitsOfShare_56 : decode cX5_bitsOfShare 56 = .ok (.dsub, 1) := by decide +kernel
theorem dX5_bitsOfShare_57 : decode cX5_bitsOfShare 57 = .ok (.ldc2_w 318, 3) := by decide +kernel
theorem dX5_bitsOfShare_60 : decode cX5_bitsOfShare 60 = .ok (.dmul, 1) := by decide +kernel
theorem dX5_bitsOfShare_61 : decode cX5_bitsOfShare 61 = .ok (.d2l, 1) := by decide +kernel
theorem dX5_bitsOfShare_62 : decode cX5_bitsOfShare 62 = .ok (.ladd, 1) := by decide +kernel
theorem dX5_bitsOfShare_63 : decode cX5_bitsOfShare 63 = .ok (.lreturn, 1) := by decide +kernel
theorem dX5_putParts_0 : decode cX5_putParts 0 = .ok (.iconst 0, 1) := by decide +kernel
theorem dX5_putParts_1 : decode cX5_putParts 1 = .ok (.istore_n 1, 1) := by decide +kernel
theorem dX5_putParts_2 : decode cX5_putParts 2 = .ok (.aload_n 0, 1) := by decide +kernel
theorem dX5_putParts_3 : decode cX5_putParts 3 = .ok (.getfield 29, 3) := by decide +kernel
theorem dX5_putParts_6 : decode cX5_putParts 6 = .ok (.invokevirtual 144, 3) := by decide +kernel
theorem dX5_putParts_9 : decode cX5_putParts 9 = .ok (.istore_n 2, 1) := by decide +kernel
theorem dX5_putParts_10 : decode cX5_putParts 10 = .ok (.iconst 0, 1) := by decide +kernel
theorem dX5_putParts_11 : decode cX5_putParts 11 = .ok (.istore_n 3, 1) := by decide +kernel
theorem dX5_putParts_12 : decode cX5_putParts 12 = .ok (.iconst 0, 1) := by decide +kernel
theorem dX5_putParts_13 : decode cX5_putParts 13 = .ok (.istore 4, 2) := by decide +kernel
theorem dX5_putParts_15 : decode cX5_putParts 15 = .ok (.iload 4, 2) := by decide +kernel
theorem dX5_putParts_17 : decode cX5_putParts 17 = .ok (.bipush 60, 2) := by decide +kernel
theorem dX5_putParts_19 : decode cX5_putParts 19 = .ok (.if_icmp .ge 118, 3) := by decide +kernel
theorem dX5_putParts_22 : decode cX5_putParts 22 = .ok (.iload_n 3, 1) := by decide +kernel
theorem dX5_putParts_23 : decode cX5_putParts 23 = .ok (.iload_n 2, 1) := by decide +kernel
theorem dX5_putParts_24 : decode cX5_putParts 24 = .ok (.if_icmp .ge 113, 3) := by decide +kernel
theorem dX5_putParts_27 : decode cX5_putParts 27 = .ok (.aload_n 0, 1) := by decide +kernel
theorem dX5_putParts_28 : decode cX5_putParts 28 = .ok (.getfield 29, 3) := by decide +kernel
theorem dX5_putParts_31 : decode cX5_putParts 31 = .ok (.bipush 42, 2) := by decide +kernel
theorem dX5_putParts_33 : decode cX5_putParts 33 = .ok (.iload_n 3, 1) := by decide +kernel
theorem dX5_putParts_34 : decode cX5_putParts 34 = .ok (.invokevirtual 320, 3) := by decide +kernel
theorem dX5_putParts_37 : decode cX5_putParts 37 = .ok (.istore 5, 2) := by decide +kernel
theorem dX5_putParts_39 : decode cX5_putParts 39 = .ok (.aload_n 0, 1) := by decide +kernel
theorem dX5_putParts_40 : decode cX5_putParts 40 = .ok (.getfield 29, 3) := by decide +kernel
theorem dX5_putParts_43 : decode cX5_putParts 43 = .ok (.bipush 44, 2) := by decide +kernel
theorem dX5_putParts_45 : decode cX5_putParts 45 = .ok (.iload_n 3, 1) := by decide +kernel
theorem dX5_putParts_46 : decode cX5_putParts 46 = .ok (.invokevirtual 320, 3) := by decide +kernel
theorem dX5_putParts_49 : decode cX5_putParts 49 = .ok (.istore 6, 2) := by decide +kernel
theorem dX5_putParts_51 : decode cX5_putParts 51 = .ok (.aload_n 0, 1) := by decide +kernel
theorem dX5_putParts_52 : decode cX5_putParts 52 = .ok (.getfield 29, 3) := by decide +kernel
theorem dX5_putParts_55 : decode cX5_putParts 55 = .ok (.iload_n 3, 1) := by decide +kernel
theorem dX5_putParts_56 : decode cX5_putParts 56 = .ok (.iload 5, 2) := by decide +kernel
theorem dX5_putParts_58 : decode cX5_putParts 58 = .ok (.invokevirtual 322, 3) := by decide +kernel
theorem dX5_putParts_61 : decode cX5_putParts 61 = .ok (.istore 7, 2) := by decide +kernel
theorem dX5_putParts_63 : decode cX5_putParts 63 = .ok (.aload_n 0, 1) := by decide +kernel
theorem dX5_putParts_64 : decode cX5_putParts 64 = .ok (.getfield 29, 3) := by decide +kernel
theorem dX5_putParts_67 : decode cX5_putParts 67 = .ok (.iload 5, 2) := by decide +kernel
theorem dX5_putParts_69 : decode cX5_putParts 69 = .ok (.iconst 1, 1) := by decide +kernel
theorem dX5_putParts_70 : decode cX5_putParts 70 = .ok (.iadd, 1) := by decide +kernel
theorem dX5_putParts_71 : decode cX5_putParts 71 = .ok (.iload 5, 2) := by decide +kernel
theorem dX5_putParts_73 : decode cX5_putParts 73 = .ok (.iconst 2, 1) := by decide +kernel
theorem dX5_putParts_74 : decode cX5_putParts 74 = .ok (.iadd, 1) := by decide +kernel
theorem dX5_putParts_75 : decode cX5_putParts 75 = .ok (.invokevirtual 322, 3) := by decide +kernel
theorem dX5_putParts_78 : decode cX5_putParts 78 = .ok (.istore 8, 2) := by decide +kernel
theorem dX5_putParts_80 : decode cX5_putParts 80 = .ok (.aload_n 0, 1) := by decide +kernel
theorem dX5_putParts_81 : decode cX5_putParts 81 = .ok (.getfield 29, 3) := by decide +kernel
theorem dX5_putParts_84 : decode cX5_putParts 84 = .ok (.iload 6, 2) := by decide +kernel
theorem dX5_putParts_86 : decode cX5_putParts 86 = .ok (.iconst 1, 1) := by decide +kernel
theorem dX5_putParts_87 : decode cX5_putParts 87 = .ok (.isub, 1) := by decide +kernel
theorem dX5_putParts_88 : decode cX5_putParts 88 = .ok (.invokevirtual 311, 3) := by decide +kernel
theorem dX5_putParts_91 : decode cX5_putParts 91 = .ok (.invokestatic 325, 3) := by decide +kernel
theorem dX5_putParts_94 : decode cX5_putParts 94 = .ok (.istore 9, 2) := by decide +kernel
theorem dX5_putParts_96 : decode cX5_putParts 96 = .ok (.aload_n 0, 1) := by decide +kernel
theorem dX5_putParts_97 : decode cX5_putParts 97 = .ok (.getfield 10, 3) := by decide +kernel
theorem dX5_putParts_100 : decode cX5_putParts 100 = .ok (.aload_n 0, 1) := by decide +kernel
theorem dX5_putParts_101 : decode cX5_putParts 101 = .ok (.getfield 10, 3) := by decide +kernel
theorem dX5_putParts_104 : decode cX5_putParts 104 = .ok (.getfield 63, 3) := by decide +kernel
theorem dX5_putParts_107 : decode cX5_putParts 107 = .ok (.invokevirtual 67, 3) := by decide +kernel
theorem dX5_putParts_110 : decode cX5_putParts 110 = .ok (.iload 7, 2) := by decide +kernel
theorem dX5_putParts_112 : decode cX5_putParts 112 = .ok (.iload 8, 2) := by decide +kernel
theorem dX5_putParts_114 : decode cX5_putParts 114 = .ok (.iload 9, 2) := by decide +kernel
theorem dX5_putParts_116 : decode cX5_putParts 116 = .ok (.invokevirtual 73, 3) := by decide +kernel
theorem dX5_putParts_119 : decode cX5_putParts 119 = .ok (.iconst (-1), 1) := by decide +kernel
theorem dX5_putParts_120 : decode cX5_putParts 120 = .ok (.if_icmp .eq 6, 3) := by decide +kernel
theorem dX5_putParts_123 : decode cX5_putParts 123 = .ok (.iinc 1 1, 3) := by decide +kernel
theorem dX5_putParts_126 : decode cX5_putParts 126 = .ok (.iload 6, 2) := by decide +kernel
theorem dX5_putParts_128 : decode cX5_putParts 128 = .ok (.iconst 1, 1) := by decide +kernel
theorem dX5_putParts_129 : decode cX5_putParts 129 = .ok (.iadd, 1) := by decide +kernel
theorem dX5_putParts_130 : decode cX5_putParts 130 = .ok (.istore_n 3, 1) := by decide +kernel
theorem dX5_putParts_131 : decode cX5_putParts 131 = .ok (.iinc 4 1, 3) := by decide +kernel
theorem dX5_putParts_134 : decode cX5_putParts 134 = .ok (.goto (-119), 3) := by decide +kernel
theorem dX5_putParts_137 : decode cX5_putParts 137 = .ok (.iload_n 1, 1) := by decide +kernel
theorem dX5_putParts_138 : decode cX5_putParts 138 = .ok (.ireturn, 1) := by decide +kernel
theorem dX5_kindOfSign_0 : decode cX5_kindOfSign 0 = .ok (.iload_n 0, 1) := by decide +kernel
theorem dX5_kindOfSign_1 : decode cX5_kindOfSign 1 = .ok (.bipush 33, 2) := by decide +kernel
theorem dX5_kindOfSign_3 : decode cX5_kindOfSign 3 = .ok (.if_icmp .ne 5, 3) := by decide +kernel
theorem dX5_kindOfSign_6 : decode cX5_kindOfSign 6 = .ok (.iconst 1, 1) := by decide +kernel
theorem dX5_kindOfSign_7 : decode cX5_kindOfSign 7 = .ok (.ireturn, 1) := by decide +kernel
theorem dX5_kindOfSign_8 : decode cX5_kindOfSign 8 = .ok (.iload_n 0, 1) := by decide +kernel
theorem dX5_kindOfSign_9 : decode cX5_kindOfSign 9 = .ok (.bipush 43, 2) := by decide +kernel
theorem dX5_kindOfSign_11 : decode cX5_kindOfSign 11 = .ok (.if_icmp .ne 7, 3) := by decide +kernel
theorem dX5_kindOfSign_14 : decode cX5_kindOfSign 14 = .ok (.iconst 2, 1) := by decide +kernel
theorem dX5_kindOfSign_15 : decode cX5_kindOfSign 15 = .ok (.goto 4, 3) := by decide +kernel
theorem dX5_kindOfSign_18 : decode cX5_kindOfSign 18 = .ok (.iconst 0, 1) := by decide +kernel
theorem dX5_kindOfSign_19 : decode cX5_kindOfSign 19 = .ok (.ireturn, 1) := by decide +kernel
theorem dX5_isThing_0 : decode cX5_isThing 0 = .ok (.iload_n 0, 1) := by decide +kernel
theorem dX5_isThing_1 : decode cX5_isThing 1 = .ok (.invokestatic 98, 3) := by decide +kernel
theorem dX5_isThing_4 : decode cX5_isThing 4 = .ok (.ifCond .eq 23, 3) := by decide +kernel
theorem dX5_isThing_7 : decode cX5_isThing 7 = .ok (.iload_n 1, 1) := by decide +kernel
theorem dX5_isThing_8 : decode cX5_isThing 8 = .ok (.invokestatic 235, 3) := by decide +kernel
theorem dX5_isThing_11 : decode cX5_isThing 11 = .ok (.ifCond .eq 16, 3) := by decide +kernel
theorem dX5_isThing_14 : decode cX5_isThing 14 = .ok (.iload_n 2, 1) := by decide +kernel
theorem dX5_isThing_15 : decode cX5_isThing 15 = .ok (.ifCond .lt 12, 3) := by decide +kernel
theorem dX5_isThing_18 : decode cX5_isThing 18 = .ok (.iload_n 2, 1) := by decide +kernel
theorem dX5_isThing_19 : decode cX5_isThing 19 = .ok (.iconst 2, 1) := by decide +kernel
theorem dX5_isThing_20 : decode cX5_isThing 20 = .ok (.if_icmp .gt 7, 3) := by decide +kernel
theorem dX5_isThing_23 : decode cX5_isThing 23 = .ok (.iconst 1, 1) := by decide +kernel
theorem dX5_isThing_24 : decode cX5_isThing 24 = .ok (.goto 4, 3) := by decide +kernel
theorem dX5_isThing_27 : decode cX5_isThing 27 = .ok (.iconst 0, 1) := by decide +kernel
theorem dX5_isThing_28 : decode cX5_isThing 28 = .ok (.ireturn, 1) := by decide +kernel
theorem dX5_isValue_0 : decode cX5_isValue 0 = .ok (.iload_n 0, 1) := by decide +kernel
theorem dX5_isValue_1 : decode cX5_isValue 1 = .ok (.ifCond .lt 14, 3) := by decide +kernel
theorem dX5_isValue_4 : decode cX5_isValue 4 = .ok (.iload_n 0, 1) := by decide +kernel
theorem dX5_isValue_5 : decode cX5_isValue 5 = .ok (.sipush 999, 3) := by decide +kernel
theorem dX5_isValue_8 : decode cX5_isValue 8 = .ok (.if_icmp .gt 7, 3) := by decide +kernel
theorem dX5_isValue_11 : decode cX5_isValue 11 = .ok (.iconst 1, 1) := by decide +kernel
theorem dX5_isValue_12 : decode cX5_isValue 12 = .ok (.goto 4, 3) := by decide +kernel
theorem dX5_isValue_15 : decode cX5_isValue 15 = .ok (.iconst 0, 1) := by decide +kernel
theorem dX5_isValue_16 : decode cX5_isValue 16 = .ok (.ireturn, 1) := by decide +kernel
theorem dX5_isSize_0 : decode cX5_isSize 0 = .ok (.iload_n 0, 1) := by decide +kernel
theorem dX5_isSize_1 : decode cX5_isSize 1 = .ok (.iconst 1, 1) := by decide +kernel
theorem dX5_isSize_2 : decode cX5_isSize 2 = .ok (.if_icmp .lt 12, 3) := by decide +kernel
theorem dX5_isSize_5 : decode cX5_isSize 5 = .ok (.iload_n 0, 1) := by decide +kernel
theorem dX5_isSize_6 : decode cX5_isSize 6 = .ok (.iconst 4, 1) := by decide +kernel
theorem dX5_isSize_7 : decode cX5_isSize 7 = .ok (.if_icmp .gt 7, 3) := by decide +kernel
theorem dX5_isSize_10 : decode cX5_isSize 10 = .ok (.iconst 1, 1) := by decide +kernel
theorem dX5_isSize_11 : decode cX5_isSize 11 = .ok (.goto 4, 3) := by decide +kernel
theorem dX5_isSize_14 : decode cX5_isSize 14 = .ok (.iconst 0, 1) := by decide +kernel
theorem dX5_isSize_15 : decode cX5_isSize 15 = .ok (.ireturn, 1) := by decide +kernel
theorem dX5_isWalker_0 : decode cX5_isWalker 0 = .ok (.iload_n 0, 1) := by decide +kernel
theorem dX5_isWalker_1 : decode cX5_isWalker 1 = .ok (.ifCond .lt 12, 3) := by decide +kernel
theorem dX5_isWalker_4 : decode cX5_isWalker 4 = .ok (.iload_n 0, 1) := by decide +kernel
theorem dX5_isWalker_5 : decode cX5_isWalker 5 = .ok (.iconst 4, 1) := by decide +kernel
theorem dX5_isWalker_6 : decode cX5_isWalker 6 = .ok (.if_icmp .ge 7, 3) := by decide +kernel
theorem dX5_isWalker_9 : decode cX5_isWalker 9 = .ok (.iconst 1, 1) := by decide +kernel
theorem dX5_isWalker_10 : decode cX5_isWalker 10 = .ok (.goto 4, 3) := by decide +kernel
theorem dX5_isWalker_13 : decode cX5_isWalker 13 = .ok (.iconst 0, 1) := by decide +kernel
theorem dX5_isWalker_14 : decode cX5_isWalker 14 = .ok (.ireturn, 1) := by decide +kernel
theorem dX6_init_0 : decode cX6_init 0 = .ok (.aload_n 0, 1) := by decide +kernel
theorem dX6_init_1 : decode cX6_init 1 = .ok (.invokespecial 1, 3) := by decide +kernel
theorem dX6_init_4 : decode cX6_init 4 = .ok (.aload_n 0, 1) := by decide +kernel
theorem dX6_init_5 : decode cX6_init 5 = .ok (.sipush 414, 3) := by decide +kernel
theorem dX6_init_8 : decode cX6_init 8 = .ok (.newarray .int, 2) := by decide +kernel
theorem dX6_init_10 : decode cX6_init 10 = .ok (.putfield 7, 3) := by decide +kernel
theorem dX6_init_13 : decode cX6_init 13 = .ok (.aload_n 0, 1) := by decide +kernel
theorem dX6_init_14 : decode cX6_init 14 = .ok (.sipush 414, 3) := by decide +kernel
theorem dX6_init_17 : decode cX6_init 17 = .ok (.newarray .int, 2) := by decide +kernel
theorem dX6_init_19 : decode cX6_init 19 = .ok (.putfield 13, 3) := by decide +kernel
theorem dX6_init_22 : decode cX6_init 22 = .ok (.aload_n 0, 1) := by decide +kernel
theorem dX6_init_23 : decode cX6_init 23 = .ok (.sipush 2484, 3) := by decide +kernel
theorem dX6_init_26 : decode cX6_init 26 = .ok (.newarray .int, 2) := by decide +kernel
theorem dX6_init_28 : decode cX6_init 28 = .ok (.putfield 16, 3) := by decide +kernel
theorem dX6_init_31 : decode cX6_init 31 = .ok (.aload_n 0, 1) := by decide +kernel
theorem dX6_init_32 : decode cX6_init 32 = .ok (.bipush 60, 2) := by decide +kernel
theorem dX6_init_34 : decode cX6_init 34 = .ok (.newarray .int, 2) := by decide +kernel
theorem dX6_init_36 : decode cX6_init 36 = .ok (.putfield 19, 3) := by decide +kernel
theorem dX6_init_39 : decode cX6_init 39 = .ok (.aload_n 0, 1) := by decide +kernel
theorem dX6_init_40 : decode cX6_init 40 = .ok (.bipush 63, 2) := by decide +kernel
theorem dX6_init_42 : decode cX6_init 42 = .ok (.newarray .int, 2) := by decide +kernel
theorem dX6_init_44 : decode cX6_init 44 = .ok (.putfield 22, 3) := by decide +kernel
theorem dX6_init_47 : decode cX6_init 47 = .ok (.aload_n 0, 1) := by decide +kernel
theorem dX6_init_48 : decode cX6_init 48 = .ok (.getfield 7, 3) := by decide +kernel
theorem dX6_init_51 : decode cX6_init 51 = .ok (.iconst 0, 1) := by decide +kernel
theorem dX6_init_52 : decode cX6_init 52 = .ok (.bipush 16, 2) := by decide +kernel
theorem dX6_init_54 : decode cX6_init 54 = .ok (.iastore, 1) := by decide +kernel
theorem dX6_init_55 : decode cX6_init 55 = .ok (.iconst 0, 1) := by decide +kernel
theorem dX6_init_56 : decode cX6_init 56 = .ok (.istore_n 1, 1) := by decide +kernel
theorem dX6_init_57 : decode cX6_init 57 = .ok (.iload_n 1, 1) := by decide +kernel
theorem dX6_init_58 : decode cX6_init 58 = .ok (.iconst 4, 1) := by decide +kernel
theorem dX6_init_59 : decode cX6_init 59 = .ok (.if_icmp .ge 20, 3) := by decide +kernel
theorem dX6_init_62 : decode cX6_init 62 = .ok (.aload_n 0, 1) := by decide +kernel
theorem dX6_init_63 : decode cX6_init 63 = .ok (.getfield 7, 3) := by decide +kernel
theorem dX6_init_66 : decode cX6_init 66 = .ok (.sipush 410, 3) := by decide +kernel
theorem dX6_init_69 : decode cX6_init 69 = .ok (.iload_n 1, 1) := by decide +kernel
theorem dX6_init_70 : decode cX6_init 70 = .ok (.iadd, 1) := by decide +kernel
theorem dX6_init_71 : decode cX6_init 71 = .ok (.iconst (-1), 1) := by decide +kernel
theorem dX6_init_72 : decode cX6_init 72 = .ok (.iastore, 1) := by decide +kernel
theorem dX6_init_73 : decode cX6_init 73 = .ok (.iinc 1 1, 3) := by decide +kernel
theorem dX6_init_76 : decode cX6_init 76 = .ok (.goto (-19), 3) := by decide +kernel
theorem dX6_init_79 : decode cX6_init 79 = .ok (.return_, 1) := by decide +kernel
theorem dX6_thrown_0 : decode cX6_thrown 0 = .ok (.aload_n 0, 1) := by decide +kernel
theorem dX6_thrown_1 : decode cX6_thrown 1 = .ok (.getfield 25, 3) := by decide +kernel
theorem dX6_thrown_4 : decode cX6_thrown 4 = .ok (.ireturn, 1) := by decide +kernel
theorem dX6_in_0 : decode cX6_in 0 = .ok (.iload_n 0, 1) := by decide +kernel
theorem dX6_in_1 : decode cX6_in 1 = .ok (.iload_n 1, 1) := by decide +kernel
theorem dX6_in_2 : decode cX6_in 2 = .ok (.if_icmp .lt 12, 3) := by decide +kernel
theorem dX6_in_5 : decode cX6_in 5 = .ok (.iload_n 0, 1) := by decide +kernel
theorem dX6_in_6 : decode cX6_in 6 = .ok (.iload_n 2, 1) := by decide +kernel
theorem dX6_in_7 : decode cX6_in 7 = .ok (.if_icmp .gt 7, 3) := by decide +kernel
theorem dX6_in_10 : decode cX6_in 10 = .ok (.iconst 1, 1) := by decide +kernel
theorem dX6_in_11 : decode cX6_in 11 = .ok (.goto 4, 3) := by decide +kernel
theorem dX6_in_14 : decode cX6_in 14 = .ok (.iconst 0, 1) := by decide +kernel
theorem dX6_in_15 : decode cX6_in 15 = .ok (.ireturn, 1) := by decide +kernel
theorem dX6_refuses_0 : decode cX6_refuses 0 = .ok (.aload_n 0, 1) := by decide +kernel
theorem dX6_refuses_1 : decode cX6_refuses 1 = .ok (.iload_n 1, 1) := by decide +kernel
theorem dX6_refuses_2 : decode cX6_refuses 2 = .ok (.putfield 25, 3) := by decide +kernel
theorem dX6_refuses_5 : decode cX6_refuses 5 = .ok (.iload_n 1, 1) := by decide +kernel
theorem dX6_refuses_6 : decode cX6_refuses 6 = .ok (.ifCond .le 7, 3) := by decide +kernel
theorem dX6_refuses_9 : decode cX6_refuses 9 = .ok (.iconst 1, 1) := by decide +kernel
theorem dX6_refuses_10 : decode cX6_refuses 10 = .ok (.goto 4, 3) := by decide +kernel
theorem dX6_refuses_13 : decode cX6_refuses 13 = .ok (.iconst 0, 1) := by decide +kernel
theorem dX6_refuses_14 : decode cX6_refuses 14 = .ok (.ireturn, 1) := by decide +kernel
theorem dX6_lays_0 : decode cX6_lays 0 = .ok (.iconst 0, 1) := by decide +kernel
theorem dX6_lays_1 : decode cX6_lays 1 = .ok (.istore 4, 2) := by decide +kernel
theorem dX6_lays_3 : decode cX6_lays 3 = .ok (.iload 4, 2) := by decide +kernel
theorem dX6_lays_5 : decode cX6_lays 5 = .ok (.sipush 414, 3) := by decide +kernel
theorem dX6_lays_8 : decode cX6_lays 8 = .ok (.if_icmp .ge 21, 3) := by decide +kernel
theorem dX6_lays_11 : decode cX6_lays 11 = .ok (.aload_n 2, 1) := by decide +kernel
theorem dX6_lays_12 : decode cX6_lays 12 = .ok (.iload_n 3, 1) := by decide +kernel
theorem dX6_lays_13 : decode cX6_lays 13 = .ok (.iload 4, 2) := by decide +kernel
theorem dX6_lays_15 : decode cX6_lays 15 = .ok (.iadd, 1) := by decide +kernel
theorem dX6_lays_16 : decode cX6_lays 16 = .ok (.aload_n 0, 1) := by decide +kernel
theorem dX6_lays_17 : decode cX6_lays 17 = .ok (.iload_n 1, 1) := by decide +kernel
theorem dX6_lays_18 : decode cX6_lays 18 = .ok (.iload 4, 2) := by decide +kernel
theorem dX6_lays_20 : decode cX6_lays 20 = .ok (.iadd, 1) := by decide +kernel
theorem dX6_lays_21 : decode cX6_lays 21 = .ok (.iaload, 1) := by decide +kernel
theorem dX6_lays_22 : decode cX6_lays 22 = .ok (.iastore, 1) := by decide +kernel
theorem dX6_lays_23 : decode cX6_lays 23 = .ok (.iinc 4 1, 3) := by decide +kernel
theorem dX6_lays_26 : decode cX6_lays 26 = .ok (.goto (-23), 3) := by decide +kernel
theorem dX6_lays_29 : decode cX6_lays 29 = .ok (.return_, 1) := by decide +kernel
theorem dX6_saves_0 : decode cX6_saves 0 = .ok (.aload_n 0, 1) := by decide +kernel
theorem dX6_saves_1 : decode cX6_saves 1 = .ok (.getfield 29, 3) := by decide +kernel
theorem dX6_saves_4 : decode cX6_saves 4 = .ok (.bipush 6, 2) := by decide +kernel
theorem dX6_saves_6 : decode cX6_saves 6 = .ok (.if_icmp .ne 44, 3) := by decide +kernel
theorem dX6_saves_9 : decode cX6_saves 9 = .ok (.iconst 0, 1) := by decide +kernel
theorem dX6_saves_10 : decode cX6_saves 10 = .ok (.istore_n 1, 1) := by decide +kernel
theorem dX6_saves_11 : decode cX6_saves 11 = .ok (.iload_n 1, 1) := by decide +kernel
theorem dX6_saves_12 : decode cX6_saves 12 = .ok (.sipush 2070, 3) := by decide +kernel
theorem dX6_saves_15 : decode cX6_saves 15 = .ok (.if_icmp .ge 25, 3) := by decide +kernel
theorem dX6_saves_18 : decode cX6_saves 18 = .ok (.aload_n 0, 1) := by decide +kernel
theorem dX6_saves_19 : decode cX6_saves 19 = .ok (.getfield 16, 3) := by decide +kernel
theorem dX6_saves_22 : decode cX6_saves 22 = .ok (.iload_n 1, 1) := by decide +kernel
theorem dX6_saves_23 : decode cX6_saves 23 = .ok (.aload_n 0, 1) := by decide +kernel
theorem dX6_saves_24 : decode cX6_saves 24 = .ok (.getfield 16, 3) := by decide +kernel
theorem dX6_saves_27 : decode cX6_saves 27 = .ok (.iload_n 1, 1) := by decide +kernel
theorem dX6_saves_28 : decode cX6_saves 28 = .ok (.sipush 414, 3) := by decide +kernel
theorem dX6_saves_31 : decode cX6_saves 31 = .ok (.iadd, 1) := by decide +kernel
theorem dX6_saves_32 : decode cX6_saves 32 = .ok (.iaload, 1) := by decide +kernel
theorem dX6_saves_33 : decode cX6_saves 33 = .ok (.iastore, 1) := by decide +kernel
theorem dX6_saves_34 : decode cX6_saves 34 = .ok (.iinc 1 1, 3) := by decide +kernel
theorem dX6_saves_37 : decode cX6_saves 37 = .ok (.goto (-26), 3) := by decide +kernel
theorem dX6_saves_40 : decode cX6_saves 40 = .ok (.aload_n 0, 1) := by decide +kernel
theorem dX6_saves_41 : decode cX6_saves 41 = .ok (.dup, 1) := by decide +kernel
theorem dX6_saves_42 : decode cX6_saves 42 = .ok (.getfield 29, 3) := by decide +kernel
theorem dX6_saves_45 : decode cX6_saves 45 = .ok (.iconst 1, 1) := by decide +kernel
theorem dX6_saves_46 : decode cX6_saves 46 = .ok (.isub, 1) := by decide +kernel
theorem dX6_saves_47 : decode cX6_saves 47 = .ok (.putfield 29, 3) := by decide +kernel
theorem dX6_saves_50 : decode cX6_saves 50 = .ok (.aload_n 0, 1) := by decide +kernel
theorem dX6_saves_51 : decode cX6_saves 51 = .ok (.getfield 7, 3) := by decide +kernel
theorem dX6_saves_54 : decode cX6_saves 54 = .ok (.iconst 0, 1) := by decide +kernel
theorem dX6_saves_55 : decode cX6_saves 55 = .ok (.aload_n 0, 1) := by decide +kernel
theorem dX6_saves_56 : decode cX6_saves 56 = .ok (.getfield 16, 3) := by decide +kernel
theorem dX6_saves_59 : decode cX6_saves 59 = .ok (.sipush 414, 3) := by decide +kernel
theorem dX6_saves_62 : decode cX6_saves 62 = .ok (.aload_n 0, 1) := by decide +kernel
theorem dX6_saves_63 : decode cX6_saves 63 = .ok (.getfield 29, 3) := by decide +kernel
theorem dX6_saves_66 : decode cX6_saves 66 = .ok (.imul, 1) := by decide +kernel
theorem dX6_saves_67 : decode cX6_saves 67 = .ok (.invokestatic 32, 3) := by decide +kernel
theorem dX6_saves_70 : decode cX6_saves 70 = .ok (.aload_n 0, 1) := by decide +kernel
theorem dX6_saves_71 : decode cX6_saves 71 = .ok (.dup, 1) := by decide +kernel
theorem dX6_saves_72 : decode cX6_saves 72 = .ok (.getfield 29, 3) := by decide +kernel
theorem dX6_saves_75 : decode cX6_saves 75 = .ok (.iconst 1, 1) := by decide +kernel
theorem dX6_saves_76 : decode cX6_saves 76 = .ok (.iadd, 1) := by decide +kernel
theorem dX6_saves_77 : decode cX6_saves 77 = .ok (.putfield 29, 3) := by decide +kernel
theorem dX6_saves_80 : decode cX6_saves 80 = .ok (.return_, 1) := by decide +kernel
theorem dX6_of_0 : decode cX6_of 0 = .ok (.aload_n 0, 1) := by decide +kernel
theorem dX6_of_1 : decode cX6_of 1 = .ok (.bipush 70, 2) := by decide +kernel
theorem dX6_of_3 : decode cX6_of 3 = .ok (.iconst 5, 1) := by decide +kernel
theorem dX6_of_4 : decode cX6_of 4 = .ok (.iload_n 1, 1) := by decide +kernel
theorem dX6_of_5 : decode cX6_of 5 = .ok (.imul, 1) := by decide +kernel
theorem dX6_of_6 : decode cX6_of 6 = .ok (.iadd, 1) := by decide +kernel
theorem dX6_of_7 : decode cX6_of 7 = .ok (.iload_n 2, 1) := by decide +kernel
theorem dX6_of_8 : decode cX6_of 8 = .ok (.iadd, 1) := by decide +kernel
theorem dX6_of_9 : decode cX6_of 9 = .ok (.iaload, 1) := by decide +kernel
theorem dX6_of_10 : decode cX6_of 10 = .ok (.ireturn, 1) := by decide +kernel
theorem dX6_isThing_0 : decode cX6_isThing 0 = .ok (.aload_n 0, 1) := by decide +kernel
theorem dX6_isThing_1 : decode cX6_isThing 1 = .ok (.iload_n 1, 1) := by decide +kernel
theorem dX6_isThing_2 : decode cX6_isThing 2 = .ok (.iconst 0, 1) := by decide +kernel
theorem dX6_isThing_3 : decode cX6_isThing 3 = .ok (.invokestatic 36, 3) := by decide +kernel
theorem dX6_isThing_6 : decode cX6_isThing 6 = .ok (.iconst (-1), 1) := by decide +kernel
theorem dX6_isThing_7 : decode cX6_isThing 7 = .ok (.if_icmp .eq 7, 3) := by decide +kernel
theorem dX6_isThing_10 : decode cX6_isThing 10 = .ok (.iconst 1, 1) := by decide +kernel
theorem dX6_isThing_11 : decode cX6_isThing 11 = .ok (.goto 4, 3) := by decide +kernel
theorem dX6_isThing_14 : decode cX6_isThing 14 = .ok (.iconst 0, 1) := by decide +kernel
theorem dX6_isThing_15 : decode cX6_isThing 15 = .ok (.ireturn, 1) := by decide +kernel
theorem dX6_things_0 : decode cX6_things 0 = .ok (.iconst 0, 1) := by decide +kernel
theorem dX6_things_1 : decode cX6_things 1 = .ok (.istore_n 1, 1) := by decide +kernel
theorem dX6_things_2 : decode cX6_things 2 = .ok (.iconst 0, 1) := by decide +kernel
theorem dX6_things_3 : decode cX6_things 3 = .ok (.istore_n 2, 1) := by decide +kernel
theorem dX6_things_4 : decode cX6_things 4 = .ok (.iload_n 2, 1) := by decide +kernel
theorem dX6_things_5 : decode cX6_things 5 = .ok (.aload_n 0, 1) := by decide +kernel
theorem dX6_things_6 : decode cX6_things 6 = .ok (.iconst 1, 1) := by decide +kernel
theorem dX6_things_7 : decode cX6_things 7 = .ok (.iaload, 1) := by decide +kernel
theorem dX6_things_8 : decode cX6_things 8 = .ok (.if_icmp .ge 25, 3) := by decide +kernel
theorem dX6_things_11 : decode cX6_things 11 = .ok (.iload_n 1, 1) := by decide +kernel
theorem dX6_things_12 : decode cX6_things 12 = .ok (.aload_n 0, 1) := by decide +kernel
theorem dX6_things_13 : decode cX6_things 13 = .ok (.iload_n 2, 1) := by decide +kernel
theorem dX6_things_14 : decode cX6_things 14 = .ok (.invokestatic 40, 3) := by decide +kernel
theorem dX6_things_17 : decode cX6_things 17 = .ok (.ifCond .eq 7, 3) := by decide +kernel
theorem dX6_things_20 : decode cX6_things 20 = .ok (.iconst 1, 1) := by decide +kernel
theorem dX6_things_21 : decode cX6_things 21 = .ok (.goto 4, 3) := by decide +kernel
theorem dX6_things_24 : decode cX6_things 24 = .ok (.iconst 0, 1) := by decide +kernel
theorem dX6_things_25 : decode cX6_things 25 = .ok (.iadd, 1) := by decide +kernel
theorem dX6_things_26 : decode cX6_things 26 = .ok (.istore_n 1, 1) := by decide +kernel
theorem dX6_things_27 : decode cX6_things 27 = .ok (.iinc 2 1, 3) := by decide +kernel
theorem dX6_things_30 : decode cX6_things 30 = .ok (.goto (-26), 3) := by decide +kernel
theorem dX6_things_33 : decode cX6_things 33 = .ok (.iload_n 1, 1) := by decide +kernel
theorem dX6_things_34 : decode cX6_things 34 = .ok (.ireturn, 1) := by decide +kernel
theorem dX6_entryOf_0 : decode cX6_entryOf 0 = .ok (.iconst 0, 1) := by decide +kernel
theorem dX6_entryOf_1 : decode cX6_entryOf 1 = .ok (.istore_n 2, 1) := by decide +kernel
theorem dX6_entryOf_2 : decode cX6_entryOf 2 = .ok (.iload_n 2, 1) := by decide +kernel
theorem dX6_entryOf_3 : decode cX6_entryOf 3 = .ok (.aload_n 0, 1) := by decide +kernel
theorem dX6_entryOf_4 : decode cX6_entryOf 4 = .ok (.iconst 1, 1) := by decide +kernel
theorem dX6_entryOf_5 : decode cX6_entryOf 5 = .ok (.iaload, 1) := by decide +kernel
theorem dX6_entryOf_6 : decode cX6_entryOf 6 = .ok (.if_icmp .ge 47, 3) := by decide +kernel
theorem dX6_entryOf_9 : decode cX6_entryOf 9 = .ok (.aload_n 0, 1) := by decide +kernel
theorem dX6_entryOf_10 : decode cX6_entryOf 10 = .ok (.iload_n 2, 1) := by decide +kernel
theorem dX6_entryOf_11 : decode cX6_entryOf 11 = .ok (.invokestatic 40, 3) := by decide +kernel
theorem dX6_entryOf_14 : decode cX6_entryOf 14 = .ok (.ifCond .eq 33, 3) := by decide +kernel
theorem dX6_entryOf_17 : decode cX6_entryOf 17 = .ok (.iload_n 1, 1) := by decide +kernel
theorem dX6_entryOf_18 : decode cX6_entryOf 18 = .ok (.aload_n 0, 1) := by decide +kernel
theorem dX6_entryOf_19 : decode cX6_entryOf 19 = .ok (.iload_n 2, 1) := by decide +kernel
theorem dX6_entryOf_20 : decode cX6_entryOf 20 = .ok (.iconst 0, 1) := by decide +kernel
theorem dX6_entryOf_21 : decode cX6_entryOf 21 = .ok (.invokestatic 36, 3) := by decide +kernel
theorem dX6_entryOf_24 : decode cX6_entryOf 24 = .ok (.aload_n 0, 1) := by decide +kernel
theorem dX6_entryOf_25 : decode cX6_entryOf 25 = .ok (.iload_n 2, 1) := by decide +kernel
theorem dX6_entryOf_26 : decode cX6_entryOf 26 = .ok (.iconst 0, 1) := by decide +kernel
theorem dX6_entryOf_27 : decode cX6_entryOf 27 = .ok (.invokestatic 36, 3) := by decide +kernel
theorem dX6_entryOf_30 : decode cX6_entryOf 30 = .ok (.aload_n 0, 1) := by decide +kernel
theorem dX6_entryOf_31 : decode cX6_entryOf 31 = .ok (.iload_n 2, 1) := by decide +kernel
theorem dX6_entryOf_32 : decode cX6_entryOf 32 = .ok (.iconst 1, 1) := by decide +kernel
theorem dX6_entryOf_33 : decode cX6_entryOf 33 = .ok (.invokestatic 36, 3) := by decide +kernel
theorem dX6_entryOf_36 : decode cX6_entryOf 36 = .ok (.iadd, 1) := by decide +kernel
theorem dX6_entryOf_37 : decode cX6_entryOf 37 = .ok (.iconst 1, 1) := by decide +kernel
theorem dX6_entryOf_38 : decode cX6_entryOf 38 = .ok (.isub, 1) := by decide +kernel
theorem dX6_entryOf_39 : decode cX6_entryOf 39 = .ok (.invokestatic 44, 3) := by decide +kernel
theorem dX6_entryOf_42 : decode cX6_entryOf 42 = .ok (.ifCond .eq 5, 3) := by decide +kernel
theorem dX6_entryOf_45 : decode cX6_entryOf 45 = .ok (.iload_n 2, 1) := by decide +kernel
theorem dX6_entryOf_46 : decode cX6_entryOf 46 = .ok (.ireturn, 1) := by decide +kernel
theorem dX6_entryOf_47 : decode cX6_entryOf 47 = .ok (.iinc 2 1, 3) := by decide +kernel
theorem dX6_entryOf_50 : decode cX6_entryOf 50 = .ok (.goto (-48), 3) := by decide +kernel
theorem dX6_entryOf_53 : decode cX6_entryOf 53 = .ok (.iconst (-1), 1) := by decide +kernel
theorem dX6_entryOf_54 : decode cX6_entryOf 54 = .ok (.ireturn, 1) := by decide +kernel
theorem dX6_handleOf_0 : decode cX6_handleOf 0 = .ok (.sipush 1000, 3) := by decide +kernel
theorem dX6_handleOf_3 : decode cX6_handleOf 3 = .ok (.aload_n 0, 1) := by decide +kernel
theorem dX6_handleOf_4 : decode cX6_handleOf 4 = .ok (.iload_n 1, 1) := by decide +kernel
theorem dX6_handleOf_5 : decode cX6_handleOf 5 = .ok (.iconst 0, 1) := by decide +kernel
theorem dX6_handleOf_6 : decode cX6_handleOf 6 = .ok (.invokestatic 36, 3) := by decide +kernel
theorem dX6_handleOf_9 : decode cX6_handleOf 9 = .ok (.imul, 1) := by decide +kernel
theorem dX6_handleOf_10 : decode cX6_handleOf 10 = .ok (.aload_n 0, 1) := by decide +kernel
theorem dX6_handleOf_11 : decode cX6_handleOf 11 = .ok (.bipush 6, 2) := by decide +kernel
theorem dX6_handleOf_13 : decode cX6_handleOf 13 = .ok (.aload_n 0, 1) := by decide +kernel
theorem dX6_handleOf_14 : decode cX6_handleOf 14 = .ok (.iload_n 1, 1) := by decide +kernel
theorem dX6_handleOf_15 : decode cX6_handleOf 15 = .ok (.iconst 0, 1) := by decide +kernel
theorem dX6_handleOf_16 : decode cX6_handleOf 16 = .ok (.invokestatic 36, 3) := by decide +kernel
theorem dX6_handleOf_19 : decode cX6_handleOf 19 = .ok (.iadd, 1) := by decide +kernel
theorem dX6_handleOf_20 : decode cX6_handleOf 20 = .ok (.iaload, 1) := by decide +kernel
theorem dX6_handleOf_21 : decode cX6_handleOf 21 = .ok (.iadd, 1) := by decide +kernel
theorem dX6_handleOf_22 : decode cX6_handleOf 22 = .ok (.ireturn, 1) := by decide +kernel
theorem dX6_freeFrom_0 : decode cX6_freeFrom 0 = .ok (.iconst 0, 1) := by decide +kernel
theorem dX6_freeFrom_1 : decode cX6_freeFrom 1 = .ok (.istore_n 3, 1) := by decide +kernel
theorem dX6_freeFrom_2 : decode cX6_freeFrom 2 = .ok (.iload_n 1, 1) := by decide +kernel
theorem dX6_freeFrom_3 : decode cX6_freeFrom 3 = .ok (.iload_n 3, 1) := by decide +kernel
theorem dX6_freeFrom_4 : decode cX6_freeFrom 4 = .ok (.iadd, 1) := by decide +kernel
theorem dX6_freeFrom_5 : decode cX6_freeFrom 5 = .ok (.iload_n 2, 1) := by decide +kernel
theorem dX6_freeFrom_6 : decode cX6_freeFrom 6 = .ok (.if_icmp .ge 20, 3) := by decide +kernel
theorem dX6_freeFrom_9 : decode cX6_freeFrom 9 = .ok (.aload_n 0, 1) := by decide +kernel
theorem dX6_freeFrom_10 : decode cX6_freeFrom 10 = .ok (.iload_n 1, 1) := by decide +kernel
theorem dX6_freeFrom_11 : decode cX6_freeFrom 11 = .ok (.iload_n 3, 1) := by decide +kernel
theorem dX6_freeFrom_12 : decode cX6_freeFrom 12 = .ok (.iadd, 1) := by decide +kernel
theorem dX6_freeFrom_13 : decode cX6_freeFrom 13 = .ok (.invokestatic 48, 3) := by decide +kernel
theorem dX6_freeFrom_16 : decode cX6_freeFrom 16 = .ok (.iconst (-1), 1) := by decide +kernel
theorem dX6_freeFrom_17 : decode cX6_freeFrom 17 = .ok (.if_icmp .ne 9, 3) := by decide +kernel
theorem dX6_freeFrom_20 : decode cX6_freeFrom 20 = .ok (.iinc 3 1, 3) := by decide +kernel
theorem dX6_freeFrom_23 : decode cX6_freeFrom 23 = .ok (.goto (-21), 3) := by decide +kernel
theorem dX6_freeFrom_26 : decode cX6_freeFrom 26 = .ok (.iload_n 3, 1) := by decide +kernel
theorem dX6_freeFrom_27 : decode cX6_freeFrom 27 = .ok (.ireturn, 1) := by decide +kernel
theorem dX6_roomIn_0 : decode cX6_roomIn 0 = .ok (.iconst 0, 1) := by decide +kernel
theorem dX6_roomIn_1 : decode cX6_roomIn 1 = .ok (.istore_n 3, 1) := by decide +kernel
theorem dX6_roomIn_2 : decode cX6_roomIn 2 = .ok (.iload_n 3, 1) := by decide +kernel
theorem dX6_roomIn_3 : decode cX6_roomIn 3 = .ok (.iload_n 1, 1) := by decide +kernel
theorem dX6_roomIn_4 : decode cX6_roomIn 4 = .ok (.iadd, 1) := by decide +kernel
theorem dX6_roomIn_5 : decode cX6_roomIn 5 = .ok (.iload_n 2, 1) := by decide +kernel
theorem dX6_roomIn_6 : decode cX6_roomIn 6 = .ok (.if_icmp .gt 21, 3) := by decide +kernel
theorem dX6_roomIn_9 : decode cX6_roomIn 9 = .ok (.aload_n 0, 1) := by decide +kernel
theorem dX6_roomIn_10 : decode cX6_roomIn 10 = .ok (.iload_n 3, 1) := by decide +kernel
theorem dX6_roomIn_11 : decode cX6_roomIn 11 = .ok (.iload_n 2, 1) := by decide +kernel
theorem dX6_roomIn_12 : decode cX6_roomIn 12 = .ok (.invokestatic 52, 3) := by decide +kernel
theorem dX6_roomIn_15 : decode cX6_roomIn 15 = .ok (.iload_n 1, 1) := by decide +kernel
theorem dX6_roomIn_16 : decode cX6_roomIn 16 = .ok (.if_icmp .lt 5, 3) := by decide +kernel
theorem dX6_roomIn_19 : decode cX6_roomIn 19 = .ok (.iload_n 3, 1) := by decide +kernel
theorem dX6_roomIn_20 : decode cX6_roomIn 20 = .ok (.ireturn, 1) := by decide +kernel
theorem dX6_roomIn_21 : decode cX6_roomIn 21 = .ok (.iinc 3 1, 3) := by decide +kernel
theorem dX6_roomIn_24 : decode cX6_roomIn 24 = .ok (.goto (-22), 3) := by decide +kernel
theorem dX6_roomIn_27 : decode cX6_roomIn 27 = .ok (.iconst (-1), 1) := by decide +kernel
theorem dX6_roomIn_28 : decode cX6_roomIn 28 = .ok (.ireturn, 1) := by decide +kernel
theorem dX6_cellsFor_0 : decode cX6_cellsFor 0 = .ok (.aload_n 0, 1) := by decide +kernel
theorem dX6_cellsFor_1 : decode cX6_cellsFor 1 = .ok (.iconst 0, 1) := by decide +kernel
theorem dX6_cellsFor_2 : decode cX6_cellsFor 2 = .ok (.iaload, 1) := by decide +kernel
theorem dX6_cellsFor_3 : decode cX6_cellsFor 3 = .ok (.istore_n 2, 1) := by decide +kernel
theorem dX6_cellsFor_4 : decode cX6_cellsFor 4 = .ok (.iload_n 2, 1) := by decide +kernel
theorem dX6_cellsFor_5 : decode cX6_cellsFor 5 = .ok (.bipush 64, 2) := by decide +kernel
theorem dX6_cellsFor_7 : decode cX6_cellsFor 7 = .ok (.if_icmp .ge 20, 3) := by decide +kernel
theorem dX6_cellsFor_10 : decode cX6_cellsFor 10 = .ok (.aload_n 0, 1) := by decide +kernel
theorem dX6_cellsFor_11 : decode cX6_cellsFor 11 = .ok (.iload_n 1, 1) := by decide +kernel
theorem dX6_cellsFor_12 : decode cX6_cellsFor 12 = .ok (.iload_n 2, 1) := by decide +kernel
theorem dX6_cellsFor_13 : decode cX6_cellsFor 13 = .ok (.invokestatic 55, 3) := by decide +kernel
theorem dX6_cellsFor_16 : decode cX6_cellsFor 16 = .ok (.iconst (-1), 1) := by decide +kernel
theorem dX6_cellsFor_17 : decode cX6_cellsFor 17 = .ok (.if_icmp .ne 10, 3) := by decide +kernel
theorem dX6_cellsFor_20 : decode cX6_cellsFor 20 = .ok (.iload_n 2, 1) := by decide +kernel
theorem dX6_cellsFor_21 : decode cX6_cellsFor 21 = .ok (.iconst 2, 1) := by decide +kernel
theorem dX6_cellsFor_22 : decode cX6_cellsFor 22 = .ok (.imul, 1) := by decide +kernel
theorem dX6_cellsFor_23 : decode cX6_cellsFor 23 = .ok (.istore_n 2, 1) := by decide +kernel
theorem dX6_cellsFor_24 : decode cX6_cellsFor 24 = .ok (.goto (-20), 3) := by decide +kernel
theorem dX6_cellsFor_27 : decode cX6_cellsFor 27 = .ok (.aload_n 0, 1) := by decide +kernel
theorem dX6_cellsFor_28 : decode cX6_cellsFor 28 = .ok (.iload_n 1, 1) := by decide +kernel
theorem dX6_cellsFor_29 : decode cX6_cellsFor 29 = .ok (.iload_n 2, 1) := by decide +kernel
theorem dX6_cellsFor_30 : decode cX6_cellsFor 30 = .ok (.invokestatic 55, 3) := by decide +kernel
theorem dX6_cellsFor_33 : decode cX6_cellsFor 33 = .ok (.iconst (-1), 1) := by decide +kernel
theorem dX6_cellsFor_34 : decode cX6_cellsFor 34 = .ok (.if_icmp .ne 7, 3) := by decide +kernel
theorem dX6_cellsFor_37 : decode cX6_cellsFor 37 = .ok (.iconst (-1), 1) := by decide +kernel
theorem dX6_cellsFor_38 : decode cX6_cellsFor 38 = .ok (.goto 4, 3) := by decide +kernel
theorem dX6_cellsFor_41 : decode cX6_cellsFor 41 = .ok (.iload_n 2, 1) := by decide +kernel
theorem dX6_cellsFor_42 : decode cX6_cellsFor 42 = .ok (.ireturn, 1) := by decide +kernel
theorem dX6_leaves_0 : decode cX6_leaves 0 = .ok (.aload_n 0, 1) := by decide +kernel
theorem dX6_leaves_1 : decode cX6_leaves 1 = .ok (.bipush 6, 2) := by decide +kernel
theorem dX6_leaves_3 : decode cX6_leaves 3 = .ok (.iload_n 1, 1) := by decide +kernel
theorem dX6_leaves_4 : decode cX6_leaves 4 = .ok (.iadd, 1) := by decide +kernel
theorem dX6_leaves_5 : decode cX6_leaves 5 = .ok (.aload_n 0, 1) := by decide +kernel
theorem dX6_leaves_6 : decode cX6_leaves 6 = .ok (.bipush 6, 2) := by decide +kernel
theorem dX6_leaves_8 : decode cX6_leaves 8 = .ok (.iload_n 1, 1) := by decide +kernel
theorem dX6_leaves_9 : decode cX6_leaves 9 = .ok (.iadd, 1) := by decide +kernel
theorem dX6_leaves_10 : decode cX6_leaves 10 = .ok (.iaload, 1) := by decide +kernel
theorem dX6_leaves_11 : decode cX6_leaves 11 = .ok (.iconst 1, 1) := by decide +kernel
theorem dX6_leaves_12 : decode cX6_leaves 12 = .ok (.iadd, 1) := by decide +kernel
theorem dX6_leaves_13 : decode cX6_leaves 13 = .ok (.sipush 1000, 3) := by decide +kernel
theorem dX6_leaves_16 : decode cX6_leaves 16 = .ok (.irem, 1) := by decide +kernel
theorem dX6_leaves_17 : decode cX6_leaves 17 = .ok (.iastore, 1) := by decide +kernel
theorem dX6_leaves_18 : decode cX6_leaves 18 = .ok (.return_, 1) := by decide +kernel
theorem dX6_comes_0 : decode cX6_comes 0 = .ok (.aload_n 0, 1) := by decide +kernel
theorem dX6_comes_1 : decode cX6_comes 1 = .ok (.iload_n 3, 1) := by decide +kernel
theorem dX6_comes_2 : decode cX6_comes 2 = .ok (.invokestatic 58, 3) := by decide +kernel
theorem dX6_comes_5 : decode cX6_comes 5 = .ok (.istore 5, 2) := by decide +kernel
theorem dX6_comes_7 : decode cX6_comes 7 = .ok (.iload 5, 2) := by decide +kernel
theorem dX6_comes_9 : decode cX6_comes 9 = .ok (.iconst (-1), 1) := by decide +kernel
theorem dX6_comes_10 : decode cX6_comes 10 = .ok (.if_icmp .ne 5, 3) := by decide +kernel
theorem dX6_comes_13 : decode cX6_comes 13 = .ok (.iconst (-1), 1) := by decide +kernel
theorem dX6_comes_14 : decode cX6_comes 14 = .ok (.ireturn, 1) := by decide +kernel
theorem dX6_comes_15 : decode cX6_comes 15 = .ok (.aload_n 0, 1) := by decide +kernel
theorem dX6_comes_16 : decode cX6_comes 16 = .ok (.iload_n 3, 1) := by decide +kernel
theorem dX6_comes_17 : decode cX6_comes 17 = .ok (.iload 5, 2) := by decide +kernel
theorem dX6_comes_19 : decode cX6_comes 19 = .ok (.invokestatic 55, 3) := by decide +kernel
theorem dX6_comes_22 : decode cX6_comes 22 = .ok (.istore 6, 2) := by decide +kernel
theorem dX6_comes_24 : decode cX6_comes 24 = .ok (.aload_n 0, 1) := by decide +kernel
theorem dX6_comes_25 : decode cX6_comes 25 = .ok (.iconst 0, 1) := by decide +kernel
theorem dX6_comes_26 : decode cX6_comes 26 = .ok (.iload 5, 2) := by decide +kernel
theorem dX6_comes_28 : decode cX6_comes 28 = .ok (.iastore, 1) := by decide +kernel
theorem dX6_comes_29 : decode cX6_comes 29 = .ok (.iconst 5, 1) := by decide +kernel
theorem dX6_comes_30 : decode cX6_comes 30 = .ok (.aload_n 0, 1) := by decide +kernel
theorem dX6_comes_31 : decode cX6_comes 31 = .ok (.iconst 1, 1) := by decide +kernel
theorem dX6_comes_32 : decode cX6_comes 32 = .ok (.iaload, 1) := by decide +kernel
theorem dX6_comes_33 : decode cX6_comes 33 = .ok (.imul, 1) := by decide +kernel
theorem dX6_comes_34 : decode cX6_comes 34 = .ok (.iconst 1, 1) := by decide +kernel
theorem dX6_comes_35 : decode cX6_comes 35 = .ok (.isub, 1) := by decide +kernel
theorem dX6_comes_36 : decode cX6_comes 36 = .ok (.istore 7, 2) := by decide +kernel
theorem dX6_comes_38 : decode cX6_comes 38 = .ok (.iload 7, 2) := by decide +kernel
theorem dX6_comes_40 : decode cX6_comes 40 = .ok (.iconst 5, 1) := by decide +kernel
theorem dX6_comes_41 : decode cX6_comes 41 = .ok (.iload_n 1, 1) := by decide +kernel
theorem dX6_comes_42 : decode cX6_comes 42 = .ok (.imul, 1) := by decide +kernel
theorem dX6_comes_43 : decode cX6_comes 43 = .ok (.if_icmp .lt 25, 3) := by decide +kernel
theorem dX6_comes_46 : decode cX6_comes 46 = .ok (.aload_n 0, 1) := by decide +kernel
theorem dX6_comes_47 : decode cX6_comes 47 = .ok (.bipush 70, 2) := by decide +kernel
theorem dX6_comes_49 : decode cX6_comes 49 = .ok (.iload 7, 2) := by decide +kernel
theorem dX6_comes_51 : decode cX6_comes 51 = .ok (.iadd, 1) := by decide +kernel
theorem dX6_comes_52 : decode cX6_comes 52 = .ok (.iconst 5, 1) := by decide +kernel
theorem dX6_comes_53 : decode cX6_comes 53 = .ok (.iadd, 1) := by decide +kernel
theorem dX6_comes_54 : decode cX6_comes 54 = .ok (.aload_n 0, 1) := by decide +kernel
theorem dX6_comes_55 : decode cX6_comes 55 = .ok (.bipush 70, 2) := by decide +kernel
theorem dX6_comes_57 : decode cX6_comes 57 = .ok (.iload 7, 2) := by decide +kernel
theorem dX6_comes_59 : decode cX6_comes 59 = .ok (.iadd, 1) := by decide +kernel
theorem dX6_comes_60 : decode cX6_comes 60 = .ok (.iaload, 1) := by decide +kernel
theorem dX6_comes_61 : decode cX6_comes 61 = .ok (.iastore, 1) := by decide +kernel
theorem dX6_comes_62 : decode cX6_comes 62 = .ok (.iinc 7 (-1), 3) := by decide +kernel
theorem dX6_comes_65 : decode cX6_comes 65 = .ok (.goto (-27), 3) := by decide +kernel
theorem dX6_comes_68 : decode cX6_comes 68 = .ok (.bipush 70, 2) := by decide +kernel
theorem dX6_comes_70 : decode cX6_comes 70 = .ok (.iconst 5, 1) := by decide +kernel
theorem dX6_comes_71 : decode cX6_comes 71 = .ok (.iload_n 1, 1) := by decide +kernel
theorem dX6_comes_72 : decode cX6_comes 72 = .ok (.imul, 1) := by decide +kernel
theorem dX6_comes_73 : decode cX6_comes 73 = .ok (.iadd, 1) := by decide +kernel
theorem dX6_comes_74 : decode cX6_comes 74 = .ok (.istore 7, 2) := by decide +kernel
theorem dX6_comes_76 : decode cX6_comes 76 = .ok (.aload_n 0, 1) := by decide +kernel
theorem dX6_comes_77 : decode cX6_comes 77 = .ok (.iload 7, 2) := by decide +kernel
theorem dX6_comes_79 : decode cX6_comes 79 = .ok (.iconst 0, 1) := by decide +kernel
theorem dX6_comes_80 : decode cX6_comes 80 = .ok (.iadd, 1) := by decide +kernel
theorem dX6_comes_81 : decode cX6_comes 81 = .ok (.iload 6, 2) := by decide +kernel
theorem dX6_comes_83 : decode cX6_comes 83 = .ok (.iastore, 1) := by decide +kernel
theorem dX6_comes_84 : decode cX6_comes 84 = .ok (.aload_n 0, 1) := by decide +kernel
theorem dX6_comes_85 : decode cX6_comes 85 = .ok (.iload 7, 2) := by decide +kernel
theorem dX6_comes_87 : decode cX6_comes 87 = .ok (.iconst 1, 1) := by decide +kernel
theorem dX6_comes_88 : decode cX6_comes 88 = .ok (.iadd, 1) := by decide +kernel
theorem dX6_comes_89 : decode cX6_comes 89 = .ok (.iload_n 3, 1) := by decide +kernel
theorem dX6_comes_90 : decode cX6_comes 90 = .ok (.iastore, 1) := by decide +kernel
theorem dX6_comes_91 : decode cX6_comes 91 = .ok (.aload_n 0, 1) := by decide +kernel
theorem dX6_comes_92 : decode cX6_comes 92 = .ok (.iload 7, 2) := by decide +kernel
theorem dX6_comes_94 : decode cX6_comes 94 = .ok (.iconst 2, 1) := by decide +kernel
theorem dX6_comes_95 : decode cX6_comes 95 = .ok (.iadd, 1) := by decide +kernel
theorem dX6_comes_96 : decode cX6_comes 96 = .ok (.iload_n 2, 1) := by decide +kernel
theorem dX6_comes_97 : decode cX6_comes 97 = .ok (.iastore, 1) := by decide +kernel
theorem dX6_comes_98 : decode cX6_comes 98 = .ok (.aload_n 0, 1) := by decide +kernel
theorem dX6_comes_99 : decode cX6_comes 99 = .ok (.iload 7, 2) := by decide +kernel
theorem dX6_comes_101 : decode cX6_comes 101 = .ok (.iconst 3, 1) := by decide +kernel
theorem dX6_comes_102 : decode cX6_comes 102 = .ok (.iadd, 1) := by decide +kernel
theorem dX6_comes_103 : decode cX6_comes 103 = .ok (.iload 4, 2) := by decide +kernel
theorem dX6_comes_105 : decode cX6_comes 105 = .ok (.iastore, 1) := by decide +kernel
theorem dX6_comes_106 : decode cX6_comes 106 = .ok (.aload_n 0, 1) := by decide +kernel
theorem dX6_comes_107 : decode cX6_comes 107 = .ok (.iload 7, 2) := by decide +kernel
theorem dX6_comes_109 : decode cX6_comes 109 = .ok (.iconst 4, 1) := by decide +kernel
theorem dX6_comes_110 : decode cX6_comes 110 = .ok (.iadd, 1) := by decide +kernel
theorem dX6_comes_111 : decode cX6_comes 111 = .ok (.iconst 0, 1) := by decide +kernel
theorem dX6_comes_112 : decode cX6_comes 112 = .ok (.iastore, 1) := by decide +kernel
theorem dX6_comes_113 : decode cX6_comes 113 = .ok (.aload_n 0, 1) := by decide +kernel
theorem dX6_comes_114 : decode cX6_comes 114 = .ok (.iconst 1, 1) := by decide +kernel
theorem dX6_comes_115 : decode cX6_comes 115 = .ok (.dup2, 1) := by decide +kernel
theorem dX6_comes_116 : decode cX6_comes 116 = .ok (.iaload, 1) := by decide +kernel
theorem dX6_comes_117 : decode cX6_comes 117 = .ok (.iconst 1, 1) := by decide +kernel
theorem dX6_comes_118 : decode cX6_comes 118 = .ok (.iadd, 1) := by decide +kernel
theorem dX6_comes_119 : decode cX6_comes 119 = .ok (.iastore, 1) := by decide +kernel
theorem dX6_comes_120 : decode cX6_comes 120 = .ok (.aload_n 0, 1) := by decide +kernel
theorem dX6_comes_121 : decode cX6_comes 121 = .ok (.iconst 3, 1) := by decide +kernel
theorem dX6_comes_122 : decode cX6_comes 122 = .ok (.dup2, 1) := by decide +kernel
theorem dX6_comes_123 : decode cX6_comes 123 = .ok (.iaload, 1) := by decide +kernel
theorem dX6_comes_124 : decode cX6_comes 124 = .ok (.iconst 1, 1) := by decide +kernel
theorem dX6_comes_125 : decode cX6_comes 125 = .ok (.iadd, 1) := by decide +kernel
theorem dX6_comes_126 : decode cX6_comes 126 = .ok (.iastore, 1) := by decide +kernel
theorem dX6_comes_127 : decode cX6_comes 127 = .ok (.iconst 0, 1) := by decide +kernel
theorem dX6_comes_128 : decode cX6_comes 128 = .ok (.istore 8, 2) := by decide +kernel
theorem dX6_comes_130 : decode cX6_comes 130 = .ok (.iload 8, 2) := by decide +kernel
theorem dX6_comes_132 : decode cX6_comes 132 = .ok (.iconst 4, 1) := by decide +kernel
theorem dX6_comes_133 : decode cX6_comes 133 = .ok (.if_icmp .ge 50, 3) := by decide +kernel
theorem dX6_comes_136 : decode cX6_comes 136 = .ok (.aload_n 0, 1) := by decide +kernel
theorem dX6_comes_137 : decode cX6_comes 137 = .ok (.sipush 410, 3) := by decide +kernel
theorem dX6_comes_140 : decode cX6_comes 140 = .ok (.iload 8, 2) := by decide +kernel
theorem dX6_comes_142 : decode cX6_comes 142 = .ok (.iadd, 1) := by decide +kernel
theorem dX6_comes_143 : decode cX6_comes 143 = .ok (.dup2, 1) := by decide +kernel
theorem dX6_comes_144 : decode cX6_comes 144 = .ok (.iaload, 1) := by decide +kernel
theorem dX6_comes_145 : decode cX6_comes 145 = .ok (.aload_n 0, 1) := by decide +kernel
theorem dX6_comes_146 : decode cX6_comes 146 = .ok (.sipush 410, 3) := by decide +kernel
theorem dX6_comes_149 : decode cX6_comes 149 = .ok (.iload 8, 2) := by decide +kernel
theorem dX6_comes_151 : decode cX6_comes 151 = .ok (.iadd, 1) := by decide +kernel
theorem dX6_comes_152 : decode cX6_comes 152 = .ok (.iaload, 1) := by decide +kernel
theorem dX6_comes_153 : decode cX6_comes 153 = .ok (.iload_n 1, 1) := by decide +kernel
theorem dX6_comes_154 : decode cX6_comes 154 = .ok (.if_icmp .lt 20, 3) := by decide +kernel
theorem dX6_comes_157 : decode cX6_comes 157 = .ok (.aload_n 0, 1) := by decide +kernel
theorem dX6_comes_158 : decode cX6_comes 158 = .ok (.sipush 410, 3) := by decide +kernel
theorem dX6_comes_161 : decode cX6_comes 161 = .ok (.iload 8, 2) := by decide +kernel
theorem dX6_comes_163 : decode cX6_comes 163 = .ok (.iadd, 1) := by decide +kernel
theorem dX6_comes_164 : decode cX6_comes 164 = .ok (.iaload, 1) := by decide +kernel
theorem dX6_comes_165 : decode cX6_comes 165 = .ok (.bipush 99, 2) := by decide +kernel
theorem dX6_comes_167 : decode cX6_comes 167 = .ok (.if_icmp .eq 7, 3) := by decide +kernel
theorem dX6_comes_170 : decode cX6_comes 170 = .ok (.iconst 1, 1) := by decide +kernel
theorem dX6_comes_171 : decode cX6_comes 171 = .ok (.goto 4, 3) := by decide +kernel
theorem dX6_comes_174 : decode cX6_comes 174 = .ok (.iconst 0, 1) := by decide +kernel
theorem dX6_comes_175 : decode cX6_comes 175 = .ok (.iadd, 1) := by decide +kernel
theorem dX6_comes_176 : decode cX6_comes 176 = .ok (.iastore, 1) := by decide +kernel
theorem dX6_comes_177 : decode cX6_comes 177 = .ok (.iinc 8 1, 3) := by decide +kernel
theorem dX6_comes_180 : decode cX6_comes 180 = .ok (.goto (-50), 3) := by decide +kernel
theorem dX6_comes_183 : decode cX6_comes 183 = .ok (.iload 6, 2) := by decide +kernel
theorem dX6_comes_185 : decode cX6_comes 185 = .ok (.ireturn, 1) := by decide +kernel
theorem dX6_standing_0 : decode cX6_standing 0 = .ok (.iconst 0, 1) := by decide +kernel
theorem dX6_standing_1 : decode cX6_standing 1 = .ok (.istore_n 2, 1) := by decide +kernel
theorem dX6_standing_2 : decode cX6_standing 2 = .ok (.iconst 0, 1) := by decide +kernel
theorem dX6_standing_3 : decode cX6_standing 3 = .ok (.istore_n 3, 1) := by decide +kernel
theorem dX6_standing_4 : decode cX6_standing 4 = .ok (.iload_n 3, 1) := by decide +kernel
theorem dX6_standing_5 : decode cX6_standing 5 = .ok (.iconst 4, 1) := by decide +kernel
theorem dX6_standing_6 : decode cX6_standing 6 = .ok (.if_icmp .ge 28, 3) := by decide +kernel
theorem dX6_standing_9 : decode cX6_standing 9 = .ok (.iload_n 2, 1) := by decide +kernel
theorem dX6_standing_10 : decode cX6_standing 10 = .ok (.aload_n 0, 1) := by decide +kernel
theorem dX6_standing_11 : decode cX6_standing 11 = .ok (.sipush 410, 3) := by decide +kernel
theorem dX6_standing_14 : decode cX6_standing 14 = .ok (.iload_n 3, 1) := by decide +kernel
theorem dX6_standing_15 : decode cX6_standing 15 = .ok (.iadd, 1) := by decide +kernel
theorem dX6_standing_16 : decode cX6_standing 16 = .ok (.iaload, 1) := by decide +kernel
theorem dX6_standing_17 : decode cX6_standing 17 = .ok (.iload_n 1, 1) := by decide +kernel
theorem dX6_standing_18 : decode cX6_standing 18 = .ok (.if_icmp .ne 7, 3) := by decide +kernel
theorem dX6_standing_21 : decode cX6_standing 21 = .ok (.iconst 1, 1) := by decide +kernel
theorem dX6_standing_22 : decode cX6_standing 22 = .ok (.goto 4, 3) := by decide +kernel
theorem dX6_standing_25 : decode cX6_standing 25 = .ok (.iconst 0, 1) := by decide +kernel
theorem dX6_standing_26 : decode cX6_standing 26 = .ok (.iadd, 1) := by decide +kernel
theorem dX6_standing_27 : decode cX6_standing 27 = .ok (.istore_n 2, 1) := by decide +kernel
theorem dX6_standing_28 : decode cX6_standing 28 = .ok (.iinc 3 1, 3) := by decide +kernel
theorem dX6_standing_31 : decode cX6_standing 31 = .ok (.goto (-27), 3) := by decide +kernel
theorem dX6_standing_34 : decode cX6_standing 34 = .ok (.iload_n 2, 1) := by decide +kernel
theorem dX6_standing_35 : decode cX6_standing 35 = .ok (.ireturn, 1) := by decide +kernel
theorem dX6_drops_0 : decode cX6_drops 0 = .ok (.aload_n 0, 1) := by decide +kernel
theorem dX6_drops_1 : decode cX6_drops 1 = .ok (.iconst 1, 1) := by decide +kernel
theorem dX6_drops_2 : decode cX6_drops 2 = .ok (.dup2, 1) := by decide +kernel
theorem dX6_drops_3 : decode cX6_drops 3 = .ok (.iaload, 1) := by decide +kernel
theorem dX6_drops_4 : decode cX6_drops 4 = .ok (.iconst 1, 1) := by decide +kernel
theorem dX6_drops_5 : decode cX6_drops 5 = .ok (.isub, 1) := by decide +kernel
theorem dX6_drops_6 : decode cX6_drops 6 = .ok (.iastore, 1) := by decide +kernel
theorem dX6_drops_7 : decode cX6_drops 7 = .ok (.iconst 5, 1) := by decide +kernel
theorem dX6_drops_8 : decode cX6_drops 8 = .ok (.iload_n 1, 1) := by decide +kernel
theorem dX6_drops_9 : decode cX6_drops 9 = .ok (.imul, 1) := by decide +kernel
theorem dX6_drops_10 : decode cX6_drops 10 = .ok (.istore_n 2, 1) := by decide +kernel
theorem dX6_drops_11 : decode cX6_drops 11 = .ok (.iload_n 2, 1) := by decide +kernel
theorem dX6_drops_12 : decode cX6_drops 12 = .ok (.iconst 5, 1) := by decide +kernel
theorem dX6_drops_13 : decode cX6_drops 13 = .ok (.aload_n 0, 1) := by decide +kernel
theorem dX6_drops_14 : decode cX6_drops 14 = .ok (.iconst 1, 1) := by decide +kernel
theorem dX6_drops_15 : decode cX6_drops 15 = .ok (.iaload, 1) := by decide +kernel
theorem dX6_drops_16 : decode cX6_drops 16 = .ok (.imul, 1) := by decide +kernel
theorem dX6_drops_17 : decode cX6_drops 17 = .ok (.if_icmp .ge 23, 3) := by decide +kernel
theorem dX6_drops_20 : decode cX6_drops 20 = .ok (.aload_n 0, 1) := by decide +kernel
theorem dX6_drops_21 : decode cX6_drops 21 = .ok (.bipush 70, 2) := by decide +kernel
theorem dX6_drops_23 : decode cX6_drops 23 = .ok (.iload_n 2, 1) := by decide +kernel
theorem dX6_drops_24 : decode cX6_drops 24 = .ok (.iadd, 1) := by decide +kernel
theorem dX6_drops_25 : decode cX6_drops 25 = .ok (.aload_n 0, 1) := by decide +kernel
theorem dX6_drops_26 : decode cX6_drops 26 = .ok (.bipush 70, 2) := by decide +kernel
theorem dX6_drops_28 : decode cX6_drops 28 = .ok (.iload_n 2, 1) := by decide +kernel
theorem dX6_drops_29 : decode cX6_drops 29 = .ok (.iadd, 1) := by decide +kernel
theorem dX6_drops_30 : decode cX6_drops 30 = .ok (.iconst 5, 1) := by decide +kernel
theorem dX6_drops_31 : decode cX6_drops 31 = .ok (.iadd, 1) := by decide +kernel
theorem dX6_drops_32 : decode cX6_drops 32 = .ok (.iaload, 1) := by decide +kernel
theorem dX6_drops_33 : decode cX6_drops 33 = .ok (.iastore, 1) := by decide +kernel
theorem dX6_drops_34 : decode cX6_drops 34 = .ok (.iinc 2 1, 3) := by decide +kernel
theorem dX6_drops_37 : decode cX6_drops 37 = .ok (.goto (-26), 3) := by decide +kernel
theorem dX6_drops_40 : decode cX6_drops 40 = .ok (.iconst 0, 1) := by decide +kernel
theorem dX6_drops_41 : decode cX6_drops 41 = .ok (.istore_n 2, 1) := by decide +kernel
theorem dX6_drops_42 : decode cX6_drops 42 = .ok (.iload_n 2, 1) := by decide +kernel
theorem dX6_drops_43 : decode cX6_drops 43 = .ok (.iconst 5, 1) := by decide +kernel
theorem dX6_drops_44 : decode cX6_drops 44 = .ok (.if_icmp .ge 22, 3) := by decide +kernel
theorem dX6_drops_47 : decode cX6_drops 47 = .ok (.aload_n 0, 1) := by decide +kernel
theorem dX6_drops_48 : decode cX6_drops 48 = .ok (.bipush 70, 2) := by decide +kernel
theorem dX6_drops_50 : decode cX6_drops 50 = .ok (.iconst 5, 1) := by decide +kernel
theorem dX6_drops_51 : decode cX6_drops 51 = .ok (.aload_n 0, 1) := by decide +kernel
theorem dX6_drops_52 : decode cX6_drops 52 = .ok (.iconst 1, 1) := by decide +kernel
theorem dX6_drops_53 : decode cX6_drops 53 = .ok (.iaload, 1) := by decide +kernel
theorem dX6_drops_54 : decode cX6_drops 54 = .ok (.imul, 1) := by decide +kernel
theorem dX6_drops_55 : decode cX6_drops 55 = .ok (.iadd, 1) := by decide +kernel
theorem dX6_drops_56 : decode cX6_drops 56 = .ok (.iload_n 2, 1) := by decide +kernel
theorem dX6_drops_57 : decode cX6_drops 57 = .ok (.iadd, 1) := by decide +kernel
theorem dX6_drops_58 : decode cX6_drops 58 = .ok (.iconst 0, 1) := by decide +kernel
theorem dX6_drops_59 : decode cX6_drops 59 = .ok (.iastore, 1) := by decide +kernel
theorem dX6_drops_60 : decode cX6_drops 60 = .ok (.iinc 2 1, 3) := by decide +kernel
theorem dX6_drops_63 : decode cX6_drops 63 = .ok (.goto (-21), 3) := by decide +kernel
theorem dX6_drops_66 : decode cX6_drops 66 = .ok (.iconst 0, 1) := by decide +kernel
theorem dX6_drops_67 : decode cX6_drops 67 = .ok (.istore_n 2, 1) := by decide +kernel
theorem dX6_drops_68 : decode cX6_drops 68 = .ok (.iload_n 2, 1) := by decide +kernel
theorem dX6_drops_69 : decode cX6_drops 69 = .ok (.iconst 4, 1) := by decide +kernel
theorem dX6_drops_70 : decode cX6_drops 70 = .ok (.if_icmp .ge 47, 3) := by decide +kernel
theorem dX6_drops_73 : decode cX6_drops 73 = .ok (.aload_n 0, 1) := by decide +kernel
theorem dX6_drops_74 : decode cX6_drops 74 = .ok (.sipush 410, 3) := by decide +kernel
theorem dX6_drops_77 : decode cX6_drops 77 = .ok (.iload_n 2, 1) := by decide +kernel
theorem dX6_drops_78 : decode cX6_drops 78 = .ok (.iadd, 1) := by decide +kernel
theorem dX6_drops_79 : decode cX6_drops 79 = .ok (.dup2, 1) := by decide +kernel
theorem dX6_drops_80 : decode cX6_drops 80 = .ok (.iaload, 1) := by decide +kernel
theorem dX6_drops_81 : decode cX6_drops 81 = .ok (.aload_n 0, 1) := by decide +kernel
theorem dX6_drops_82 : decode cX6_drops 82 = .ok (.sipush 410, 3) := by decide +kernel
theorem dX6_drops_85 : decode cX6_drops 85 = .ok (.iload_n 2, 1) := by decide +kernel
theorem dX6_drops_86 : decode cX6_drops 86 = .ok (.iadd, 1) := by decide +kernel
theorem dX6_drops_87 : decode cX6_drops 87 = .ok (.iaload, 1) := by decide +kernel
theorem dX6_drops_88 : decode cX6_drops 88 = .ok (.iload_n 1, 1) := by decide +kernel
theorem dX6_drops_89 : decode cX6_drops 89 = .ok (.if_icmp .le 19, 3) := by decide +kernel
theorem dX6_drops_92 : decode cX6_drops 92 = .ok (.aload_n 0, 1) := by decide +kernel
theorem dX6_drops_93 : decode cX6_drops 93 = .ok (.sipush 410, 3) := by decide +kernel
theorem dX6_drops_96 : decode cX6_drops 96 = .ok (.iload_n 2, 1) := by decide +kernel
theorem dX6_drops_97 : decode cX6_drops 97 = .ok (.iadd, 1) := by decide +kernel
theorem dX6_drops_98 : decode cX6_drops 98 = .ok (.iaload, 1) := by decide +kernel
theorem dX6_drops_99 : decode cX6_drops 99 = .ok (.bipush 99, 2) := by decide +kernel
theorem dX6_drops_101 : decode cX6_drops 101 = .ok (.if_icmp .eq 7, 3) := by decide +kernel
theorem dX6_drops_104 : decode cX6_drops 104 = .ok (.iconst 1, 1) := by decide +kernel
theorem dX6_drops_105 : decode cX6_drops 105 = .ok (.goto 4, 3) := by decide +kernel
theorem dX6_drops_108 : decode cX6_drops 108 = .ok (.iconst 0, 1) := by decide +kernel
theorem dX6_drops_109 : decode cX6_drops 109 = .ok (.isub, 1) := by decide +kernel
theorem dX6_drops_110 : decode cX6_drops 110 = .ok (.iastore, 1) := by decide +kernel
theorem dX6_drops_111 : decode cX6_drops 111 = .ok (.iinc 2 1, 3) := by decide +kernel
theorem dX6_drops_114 : decode cX6_drops 114 = .ok (.goto (-46), 3) := by decide +kernel
theorem dX6_drops_117 : decode cX6_drops 117 = .ok (.return_, 1) := by decide +kernel
theorem dX6_removes_0 : decode cX6_removes 0 = .ok (.aload_n 0, 1) := by decide +kernel
theorem dX6_removes_1 : decode cX6_removes 1 = .ok (.aload_n 0, 1) := by decide +kernel
theorem dX6_removes_2 : decode cX6_removes 2 = .ok (.iload_n 1, 1) := by decide +kernel
theorem dX6_removes_3 : decode cX6_removes 3 = .ok (.iconst 0, 1) := by decide +kernel
theorem dX6_removes_4 : decode cX6_removes 4 = .ok (.invokestatic 36, 3) := by decide +kernel
theorem dX6_removes_7 : decode cX6_removes 7 = .ok (.invokestatic 61, 3) := by decide +kernel
theorem dX6_removes_10 : decode cX6_removes 10 = .ok (.aload_n 0, 1) := by decide +kernel
theorem dX6_removes_11 : decode cX6_removes 11 = .ok (.iconst 4, 1) := by decide +kernel
theorem dX6_removes_12 : decode cX6_removes 12 = .ok (.dup2, 1) := by decide +kernel
theorem dX6_removes_13 : decode cX6_removes 13 = .ok (.iaload, 1) := by decide +kernel
theorem dX6_removes_14 : decode cX6_removes 14 = .ok (.iconst 1, 1) := by decide +kernel
theorem dX6_removes_15 : decode cX6_removes 15 = .ok (.iadd, 1) := by decide +kernel
theorem dX6_removes_16 : decode cX6_removes 16 = .ok (.iastore, 1) := by decide +kernel
theorem dX6_removes_17 : decode cX6_removes 17 = .ok (.aload_n 0, 1) := by decide +kernel
theorem dX6_removes_18 : decode cX6_removes 18 = .ok (.iload_n 1, 1) := by decide +kernel
theorem dX6_removes_19 : decode cX6_removes 19 = .ok (.invokestatic 65, 3) := by decide +kernel
theorem dX6_removes_22 : decode cX6_removes 22 = .ok (.ifCond .ne 10, 3) := by decide +kernel
theorem dX6_removes_25 : decode cX6_removes 25 = .ok (.aload_n 0, 1) := by decide +kernel
theorem dX6_removes_26 : decode cX6_removes 26 = .ok (.iload_n 1, 1) := by decide +kernel
theorem dX6_removes_27 : decode cX6_removes 27 = .ok (.invokestatic 68, 3) := by decide +kernel
theorem dX6_removes_30 : decode cX6_removes 30 = .ok (.iconst 0, 1) := by decide +kernel
theorem dX6_removes_31 : decode cX6_removes 31 = .ok (.ireturn, 1) := by decide +kernel
theorem dX6_removes_32 : decode cX6_removes 32 = .ok (.iconst 0, 1) := by decide +kernel
theorem dX6_removes_33 : decode cX6_removes 33 = .ok (.istore_n 2, 1) := by decide +kernel
theorem dX6_removes_34 : decode cX6_removes 34 = .ok (.iload_n 2, 1) := by decide +kernel
theorem dX6_removes_35 : decode cX6_removes 35 = .ok (.iconst 5, 1) := by decide +kernel
theorem dX6_removes_36 : decode cX6_removes 36 = .ok (.if_icmp .ge 28, 3) := by decide +kernel
theorem dX6_removes_39 : decode cX6_removes 39 = .ok (.aload_n 0, 1) := by decide +kernel
theorem dX6_removes_40 : decode cX6_removes 40 = .ok (.bipush 70, 2) := by decide +kernel
theorem dX6_removes_42 : decode cX6_removes 42 = .ok (.iconst 5, 1) := by decide +kernel
theorem dX6_removes_43 : decode cX6_removes 43 = .ok (.iload_n 1, 1) := by decide +kernel
theorem dX6_removes_44 : decode cX6_removes 44 = .ok (.imul, 1) := by decide +kernel
theorem dX6_removes_45 : decode cX6_removes 45 = .ok (.iadd, 1) := by decide +kernel
theorem dX6_removes_46 : decode cX6_removes 46 = .ok (.iload_n 2, 1) := by decide +kernel
theorem dX6_removes_47 : decode cX6_removes 47 = .ok (.iadd, 1) := by decide +kernel
theorem dX6_removes_48 : decode cX6_removes 48 = .ok (.iload_n 2, 1) := by decide +kernel
theorem dX6_removes_49 : decode cX6_removes 49 = .ok (.ifCond .ne 7, 3) := by decide +kernel
theorem dX6_removes_52 : decode cX6_removes 52 = .ok (.iconst (-1), 1) := by decide +kernel
theorem dX6_removes_53 : decode cX6_removes 53 = .ok (.goto 4, 3) := by decide +kernel
theorem dX6_removes_56 : decode cX6_removes 56 = .ok (.iconst 0, 1) := by decide +kernel
theorem dX6_removes_57 : decode cX6_removes 57 = .ok (.iastore, 1) := by decide +kernel
theorem dX6_removes_58 : decode cX6_removes 58 = .ok (.iinc 2 1, 3) := by decide +kernel
theorem dX6_removes_61 : decode cX6_removes 61 = .ok (.goto (-27), 3) := by decide +kernel
theorem dX6_removes_64 : decode cX6_removes 64 = .ok (.iconst 1, 1) := by decide +kernel
theorem dX6_removes_65 : decode cX6_removes 65 = .ok (.ireturn, 1) := by decide +kernel
theorem dX6_walks_0 : decode cX6_walks 0 = .ok (.aload_n 0, 1) := by decide +kernel
theorem dX6_walks_1 : decode cX6_walks 1 = .ok (.sipush 410, 3) := by decide +kernel
theorem dX6_walks_4 : decode cX6_walks 4 = .ok (.iload_n 1, 1) := by decide +kernel
theorem dX6_walks_5 : decode cX6_walks 5 = .ok (.iadd, 1) := by decide +kernel
theorem dX6_walks_6 : decode cX6_walks 6 = .ok (.iaload, 1) := by decide +kernel
theorem dX6_walks_7 : decode cX6_walks 7 = .ok (.istore_n 3, 1) := by decide +kernel
theorem dX6_walks_8 : decode cX6_walks 8 = .ok (.aload_n 0, 1) := by decide +kernel
theorem dX6_walks_9 : decode cX6_walks 9 = .ok (.sipush 410, 3) := by decide +kernel
theorem dX6_walks_12 : decode cX6_walks 12 = .ok (.iload_n 1, 1) := by decide +kernel
theorem dX6_walks_13 : decode cX6_walks 13 = .ok (.iadd, 1) := by decide +kernel
theorem dX6_walks_14 : decode cX6_walks 14 = .ok (.iload_n 2, 1) := by decide +kernel
theorem dX6_walks_15 : decode cX6_walks 15 = .ok (.iastore, 1) := by decide +kernel
theorem dX6_walks_16 : decode cX6_walks 16 = .ok (.iload_n 3, 1) := by decide +kernel
theorem dX6_walks_17 : decode cX6_walks 17 = .ok (.iconst 0, 1) := by decide +kernel
theorem dX6_walks_18 : decode cX6_walks 18 = .ok (.aload_n 0, 1) := by decide +kernel
theorem dX6_walks_19 : decode cX6_walks 19 = .ok (.iconst 1, 1) := by decide +kernel
theorem dX6_walks_20 : decode cX6_walks 20 = .ok (.iaload, 1) := by decide +kernel
theorem dX6_walks_21 : decode cX6_walks 21 = .ok (.iconst 1, 1) := by decide +kernel
theorem dX6_walks_22 : decode cX6_walks 22 = .ok (.isub, 1) := by decide +kernel
theorem dX6_walks_23 : decode cX6_walks 23 = .ok (.invokestatic 44, 3) := by decide +kernel
theorem dX6_walks_26 : decode cX6_walks 26 = .ok (.ifCond .eq 24, 3) := by decide +kernel
theorem dX6_walks_29 : decode cX6_walks 29 = .ok (.aload_n 0, 1) := by decide +kernel
theorem dX6_walks_30 : decode cX6_walks 30 = .ok (.iload_n 3, 1) := by decide +kernel
theorem dX6_walks_31 : decode cX6_walks 31 = .ok (.invokestatic 40, 3) := by decide +kernel
theorem dX6_walks_34 : decode cX6_walks 34 = .ok (.ifCond .ne 16, 3) := by decide +kernel
theorem dX6_walks_37 : decode cX6_walks 37 = .ok (.aload_n 0, 1) := by decide +kernel
theorem dX6_walks_38 : decode cX6_walks 38 = .ok (.iload_n 3, 1) := by decide +kernel
theorem dX6_walks_39 : decode cX6_walks 39 = .ok (.invokestatic 65, 3) := by decide +kernel
theorem dX6_walks_42 : decode cX6_walks 42 = .ok (.ifCond .ne 8, 3) := by decide +kernel
theorem dX6_walks_45 : decode cX6_walks 45 = .ok (.aload_n 0, 1) := by decide +kernel
theorem dX6_walks_46 : decode cX6_walks 46 = .ok (.iload_n 3, 1) := by decide +kernel
theorem dX6_walks_47 : decode cX6_walks 47 = .ok (.invokestatic 68, 3) := by decide +kernel
theorem dX6_walks_50 : decode cX6_walks 50 = .ok (.return_, 1) := by decide +kernel
theorem dX6_nextThing_0 : decode cX6_nextThing 0 = .ok (.iload_n 1, 1) := by decide +kernel
theorem dX6_nextThing_1 : decode cX6_nextThing 1 = .ok (.bipush 99, 2) := by decide +kernel
theorem dX6_nextThing_3 : decode cX6_nextThing 3 = .ok (.if_icmp .ne 9, 3) := by decide +kernel
theorem dX6_nextThing_6 : decode cX6_nextThing 6 = .ok (.aload_n 0, 1) := by decide +kernel
theorem dX6_nextThing_7 : decode cX6_nextThing 7 = .ok (.iconst 1, 1) := by decide +kernel
theorem dX6_nextThing_8 : decode cX6_nextThing 8 = .ok (.iaload, 1) := by decide +kernel
theorem dX6_nextThing_9 : decode cX6_nextThing 9 = .ok (.goto 6, 3) := by decide +kernel
theorem dX6_nextThing_12 : decode cX6_nextThing 12 = .ok (.iload_n 1, 1) := by decide +kernel
theorem dX6_nextThing_13 : decode cX6_nextThing 13 = .ok (.iconst 1, 1) := by decide +kernel
theorem dX6_nextThing_14 : decode cX6_nextThing 14 = .ok (.iadd, 1) := by decide +kernel
theorem dX6_nextThing_15 : decode cX6_nextThing 15 = .ok (.istore_n 2, 1) := by decide +kernel
theorem dX6_nextThing_16 : decode cX6_nextThing 16 = .ok (.iload_n 2, 1) := by decide +kernel
theorem dX6_nextThing_17 : decode cX6_nextThing 17 = .ok (.aload_n 0, 1) := by decide +kernel
theorem dX6_nextThing_18 : decode cX6_nextThing 18 = .ok (.iconst 1, 1) := by decide +kernel
theorem dX6_nextThing_19 : decode cX6_nextThing 19 = .ok (.iaload, 1) := by decide +kernel
theorem dX6_nextThing_20 : decode cX6_nextThing 20 = .ok (.if_icmp .ge 17, 3) := by decide +kernel
theorem dX6_nextThing_23 : decode cX6_nextThing 23 = .ok (.aload_n 0, 1) := by decide +kernel
theorem dX6_nextThing_24 : decode cX6_nextThing 24 = .ok (.iload_n 2, 1) := by decide +kernel
theorem dX6_nextThing_25 : decode cX6_nextThing 25 = .ok (.invokestatic 40, 3) := by decide +kernel
theorem dX6_nextThing_28 : decode cX6_nextThing 28 = .ok (.ifCond .ne 9, 3) := by decide +kernel
theorem dX6_nextThing_31 : decode cX6_nextThing 31 = .ok (.iinc 2 1, 3) := by decide +kernel
theorem dX6_nextThing_34 : decode cX6_nextThing 34 = .ok (.goto (-18), 3) := by decide +kernel
theorem dX6_nextThing_37 : decode cX6_nextThing 37 = .ok (.iload_n 2, 1) := by decide +kernel
theorem dX6_nextThing_38 : decode cX6_nextThing 38 = .ok (.aload_n 0, 1) := by decide +kernel
theorem dX6_nextThing_39 : decode cX6_nextThing 39 = .ok (.iconst 1, 1) := by decide +kernel
theorem dX6_nextThing_40 : decode cX6_nextThing 40 = .ok (.iaload, 1) := by decide +kernel
theorem dX6_nextThing_41 : decode cX6_nextThing 41 = .ok (.if_icmp .ge 7, 3) := by decide +kernel
theorem dX6_nextThing_44 : decode cX6_nextThing 44 = .ok (.iload_n 2, 1) := by decide +kernel
theorem dX6_nextThing_45 : decode cX6_nextThing 45 = .ok (.goto 5, 3) := by decide +kernel
theorem dX6_nextThing_48 : decode cX6_nextThing 48 = .ok (.bipush 99, 2) := by decide +kernel
theorem dX6_nextThing_50 : decode cX6_nextThing 50 = .ok (.ireturn, 1) := by decide +kernel
theorem dX6_whyNot_0 : decode cX6_whyNot 0 = .ok (.iload_n 1, 1) := by decide +kernel
theorem dX6_whyNot_1 : decode cX6_whyNot 1 = .ok (.ifCond .lt 14, 3) := by decide +kernel
theorem dX6_whyNot_4 : decode cX6_whyNot 4 = .ok (.iload_n 1, 1) := by decide +kernel
theorem dX6_whyNot_5 : decode cX6_whyNot 5 = .ok (.sipush 1000, 3) := by decide +kernel
theorem dX6_whyNot_8 : decode cX6_whyNot 8 = .ok (.idiv, 1) := by decide +kernel
theorem dX6_whyNot_9 : decode cX6_whyNot 9 = .ok (.aload_n 0, 1) := by decide +kernel
theorem dX6_whyNot_10 : decode cX6_whyNot 10 = .ok (.iconst 0, 1) := by decide +kernel
theorem dX6_whyNot_11 : decode cX6_whyNot 11 = .ok (.iaload, 1) := by decide +kernel
theorem dX6_whyNot_12 : decode cX6_whyNot 12 = .ok (.if_icmp .lt 5, 3) := by decide +kernel
theorem dX6_whyNot_15 : decode cX6_whyNot 15 = .ok (.iconst 1, 1) := by decide +kernel
theorem dX6_whyNot_16 : decode cX6_whyNot 16 = .ok (.ireturn, 1) := by decide +kernel
theorem dX6_whyNot_17 : decode cX6_whyNot 17 = .ok (.iload_n 1, 1) := by decide +kernel
theorem dX6_whyNot_18 : decode cX6_whyNot 18 = .ok (.sipush 1000, 3) := by decide +kernel
theorem dX6_whyNot_21 : decode cX6_whyNot 21 = .ok (.idiv, 1) := by decide +kernel
theorem dX6_whyNot_22 : decode cX6_whyNot 22 = .ok (.istore_n 2, 1) := by decide +kernel
theorem dX6_whyNot_23 : decode cX6_whyNot 23 = .ok (.aload_n 0, 1) := by decide +kernel
theorem dX6_whyNot_24 : decode cX6_whyNot 24 = .ok (.bipush 6, 2) := by decide +kernel
theorem dX6_whyNot_26 : decode cX6_whyNot 26 = .ok (.iload_n 2, 1) := by decide +kernel
theorem dX6_whyNot_27 : decode cX6_whyNot 27 = .ok (.iadd, 1) := by decide +kernel
theorem dX6_whyNot_28 : decode cX6_whyNot 28 = .ok (.iaload, 1) := by decide +kernel
theorem dX6_whyNot_29 : decode cX6_whyNot 29 = .ok (.iload_n 1, 1) := by decide +kernel
theorem dX6_whyNot_30 : decode cX6_whyNot 30 = .ok (.sipush 1000, 3) := by decide +kernel
theorem dX6_whyNot_33 : decode cX6_whyNot 33 = .ok (.irem, 1) := by decide +kernel
theorem dX6_whyNot_34 : decode cX6_whyNot 34 = .ok (.if_icmp .eq 5, 3) := by decide +kernel
theorem dX6_whyNot_37 : decode cX6_whyNot 37 = .ok (.iconst 2, 1) := by decide +kernel
theorem dX6_whyNot_38 : decode cX6_whyNot 38 = .ok (.ireturn, 1) := by decide +kernel
theorem dX6_whyNot_39 : decode cX6_whyNot 39 = .ok (.aload_n 0, 1) := by decide +kernel
theorem dX6_whyNot_40 : decode cX6_whyNot 40 = .ok (.iload_n 2, 1) := by decide +kernel
theorem dX6_whyNot_41 : decode cX6_whyNot 41 = .ok (.invokestatic 48, 3) := by decide +kernel
theorem dX6_whyNot_44 : decode cX6_whyNot 44 = .ok (.istore_n 3, 1) := by decide +kernel
theorem dX6_whyNot_45 : decode cX6_whyNot 45 = .ok (.iload_n 3, 1) := by decide +kernel
theorem dX6_whyNot_46 : decode cX6_whyNot 46 = .ok (.iconst (-1), 1) := by decide +kernel
theorem dX6_whyNot_47 : decode cX6_whyNot 47 = .ok (.if_icmp .eq 13, 3) := by decide +kernel
theorem dX6_whyNot_50 : decode cX6_whyNot 50 = .ok (.aload_n 0, 1) := by decide +kernel
theorem dX6_whyNot_51 : decode cX6_whyNot 51 = .ok (.iload_n 3, 1) := by decide +kernel
theorem dX6_whyNot_52 : decode cX6_whyNot 52 = .ok (.iconst 0, 1) := by decide +kernel
theorem dX6_whyNot_53 : decode cX6_whyNot 53 = .ok (.invokestatic 36, 3) := by decide +kernel
theorem dX6_whyNot_56 : decode cX6_whyNot 56 = .ok (.iload_n 2, 1) := by decide +kernel
theorem dX6_whyNot_57 : decode cX6_whyNot 57 = .ok (.if_icmp .eq 7, 3) := by decide +kernel
theorem dX6_whyNot_60 : decode cX6_whyNot 60 = .ok (.iconst 3, 1) := by decide +kernel
theorem dX6_whyNot_61 : decode cX6_whyNot 61 = .ok (.goto 4, 3) := by decide +kernel
theorem dX6_whyNot_64 : decode cX6_whyNot 64 = .ok (.iconst 0, 1) := by decide +kernel
theorem dX6_whyNot_65 : decode cX6_whyNot 65 = .ok (.ireturn, 1) := by decide +kernel
theorem dX6_isNew_0 : decode cX6_isNew 0 = .ok (.iload_n 0, 1) := by decide +kernel
theorem dX6_isNew_1 : decode cX6_isNew 1 = .ok (.iconst 0, 1) := by decide +kernel
theorem dX6_isNew_2 : decode cX6_isNew 2 = .ok (.sipush 999, 3) := by decide +kernel
theorem dX6_isNew_5 : decode cX6_isNew 5 = .ok (.invokestatic 44, 3) := by decide +kernel
theorem dX6_isNew_8 : decode cX6_isNew 8 = .ok (.ifCond .eq 25, 3) := by decide +kernel
theorem dX6_isNew_11 : decode cX6_isNew 11 = .ok (.iload_n 1, 1) := by decide +kernel
theorem dX6_isNew_12 : decode cX6_isNew 12 = .ok (.iconst 1, 1) := by decide +kernel
theorem dX6_isNew_13 : decode cX6_isNew 13 = .ok (.iconst 4, 1) := by decide +kernel
theorem dX6_isNew_14 : decode cX6_isNew 14 = .ok (.invokestatic 44, 3) := by decide +kernel
theorem dX6_isNew_17 : decode cX6_isNew 17 = .ok (.ifCond .eq 16, 3) := by decide +kernel
theorem dX6_isNew_20 : decode cX6_isNew 20 = .ok (.iload_n 2, 1) := by decide +kernel
theorem dX6_isNew_21 : decode cX6_isNew 21 = .ok (.iconst 0, 1) := by decide +kernel
theorem dX6_isNew_22 : decode cX6_isNew 22 = .ok (.iconst 2, 1) := by decide +kernel
theorem dX6_isNew_23 : decode cX6_isNew 23 = .ok (.invokestatic 44, 3) := by decide +kernel
theorem dX6_isNew_26 : decode cX6_isNew 26 = .ok (.ifCond .eq 7, 3) := by decide +kernel
theorem dX6_isNew_29 : decode cX6_isNew 29 = .ok (.iconst 1, 1) := by decide +kernel
theorem dX6_isNew_30 : decode cX6_isNew 30 = .ok (.goto 4, 3) := by decide +kernel
theorem dX6_isNew_33 : decode cX6_isNew 33 = .ok (.iconst 0, 1) := by decide +kernel
theorem dX6_isNew_34 : decode cX6_isNew 34 = .ok (.ireturn, 1) := by decide +kernel
theorem dX6_put_0 : decode cX6_put 0 = .ok (.aload_n 0, 1) := by decide +kernel
theorem dX6_put_1 : decode cX6_put 1 = .ok (.iload_n 1, 1) := by decide +kernel
theorem dX6_put_2 : decode cX6_put 2 = .ok (.iload_n 2, 1) := by decide +kernel
theorem dX6_put_3 : decode cX6_put 3 = .ok (.iload_n 3, 1) := by decide +kernel
theorem dX6_put_4 : decode cX6_put 4 = .ok (.invokestatic 71, 3) := by decide +kernel
theorem dX6_put_7 : decode cX6_put 7 = .ok (.ifCond .ne 7, 3) := by decide +kernel
theorem dX6_put_10 : decode cX6_put 10 = .ok (.iconst 1, 1) := by decide +kernel
theorem dX6_put_11 : decode cX6_put 11 = .ok (.goto 20, 3) := by decide +kernel
theorem dX6_put_14 : decode cX6_put 14 = .ok (.aload_n 0, 1) := by decide +kernel
theorem dX6_put_15 : decode cX6_put 15 = .ok (.getfield 7, 3) := by decide +kernel
theorem dX6_put_18 : decode cX6_put 18 = .ok (.iload_n 2, 1) := by decide +kernel
theorem dX6_put_19 : decode cX6_put 19 = .ok (.invokestatic 58, 3) := by decide +kernel
theorem dX6_put_22 : decode cX6_put 22 = .ok (.iconst (-1), 1) := by decide +kernel
theorem dX6_put_23 : decode cX6_put 23 = .ok (.if_icmp .ne 7, 3) := by decide +kernel
theorem dX6_put_26 : decode cX6_put 26 = .ok (.iconst 2, 1) := by decide +kernel
theorem dX6_put_27 : decode cX6_put 27 = .ok (.goto 4, 3) := by decide +kernel
theorem dX6_put_30 : decode cX6_put 30 = .ok (.iconst 0, 1) := by decide +kernel
theorem dX6_put_31 : decode cX6_put 31 = .ok (.invokevirtual 74, 3) := by decide +kernel
theorem dX6_put_34 : decode cX6_put 34 = .ok (.ifCond .eq 5, 3) := by decide +kernel
theorem dX6_put_37 : decode cX6_put 37 = .ok (.iconst 0, 1) := by decide +kernel
theorem dX6_put_38 : decode cX6_put 38 = .ok (.ireturn, 1) := by decide +kernel
theorem dX6_put_39 : decode cX6_put 39 = .ok (.aload_n 0, 1) := by decide +kernel
theorem dX6_put_40 : decode cX6_put 40 = .ok (.invokevirtual 78, 3) := by decide +kernel
theorem dX6_put_43 : decode cX6_put 43 = .ok (.aload_n 0, 1) := by decide +kernel
theorem dX6_put_44 : decode cX6_put 44 = .ok (.getfield 7, 3) := by decide +kernel
theorem dX6_put_47 : decode cX6_put 47 = .ok (.iconst 1, 1) := by decide +kernel
theorem dX6_put_48 : decode cX6_put 48 = .ok (.iaload, 1) := by decide +kernel
theorem dX6_put_49 : decode cX6_put 49 = .ok (.istore 4, 2) := by decide +kernel
theorem dX6_put_51 : decode cX6_put 51 = .ok (.aload_n 0, 1) := by decide +kernel
theorem dX6_put_52 : decode cX6_put 52 = .ok (.getfield 7, 3) := by decide +kernel
theorem dX6_put_55 : decode cX6_put 55 = .ok (.iload 4, 2) := by decide +kernel
theorem dX6_put_57 : decode cX6_put 57 = .ok (.iload_n 1, 1) := by decide +kernel
theorem dX6_put_58 : decode cX6_put 58 = .ok (.iload_n 2, 1) := by decide +kernel
theorem dX6_put_59 : decode cX6_put 59 = .ok (.iload_n 3, 1) := by decide +kernel
theorem dX6_put_60 : decode cX6_put 60 = .ok (.invokestatic 81, 3) := by decide +kernel
theorem dX6_put_63 : decode cX6_put 63 = .ok (.istore 5, 2) := by decide +kernel
theorem dX6_put_65 : decode cX6_put 65 = .ok (.sipush 1000, 3) := by decide +kernel
theorem dX6_put_68 : decode cX6_put 68 = .ok (.iload 5, 2) := by decide +kernel
theorem dX6_put_70 : decode cX6_put 70 = .ok (.imul, 1) := by decide +kernel
theorem dX6_put_71 : decode cX6_put 71 = .ok (.aload_n 0, 1) := by decide +kernel
theorem dX6_put_72 : decode cX6_put 72 = .ok (.getfield 7, 3) := by decide +kernel
theorem dX6_put_75 : decode cX6_put 75 = .ok (.bipush 6, 2) := by decide +kernel
theorem dX6_put_77 : decode cX6_put 77 = .ok (.iload 5, 2) := by decide +kernel
theorem dX6_put_79 : decode cX6_put 79 = .ok (.iadd, 1) := by decide +kernel
theorem dX6_put_80 : decode cX6_put 80 = .ok (.iaload, 1) := by decide +kernel
theorem dX6_put_81 : decode cX6_put 81 = .ok (.iadd, 1) := by decide +kernel
theorem dX6_put_82 : decode cX6_put 82 = .ok (.ireturn, 1) := by decide +kernel
theorem dX6_putBehind_0 : decode cX6_putBehind 0 = .ok (.aload_n 0, 1) := by decide +kernel
theorem dX6_putBehind_1 : decode cX6_putBehind 1 = .ok (.aload_n 0, 1) := by decide +kernel
theorem dX6_putBehind_2 : decode cX6_putBehind 2 = .ok (.getfield 7, 3) := by decide +kernel
theorem dX6_putBehind_5 : decode cX6_putBehind 5 = .ok (.iload_n 1, 1) := by decide +kernel
theorem dX6_putBehind_6 : decode cX6_putBehind 6 = .ok (.invokestatic 85, 3) := by decide +kernel
theorem dX6_putBehind_9 : decode cX6_putBehind 9 = .ok (.ifCond .eq 7, 3) := by decide +kernel
theorem dX6_putBehind_12 : decode cX6_putBehind 12 = .ok (.iconst 1, 1) := by decide +kernel
theorem dX6_putBehind_13 : decode cX6_putBehind 13 = .ok (.goto 34, 3) := by decide +kernel
theorem dX6_putBehind_16 : decode cX6_putBehind 16 = .ok (.iload_n 2, 1) := by decide +kernel
theorem dX6_putBehind_17 : decode cX6_putBehind 17 = .ok (.iload_n 3, 1) := by decide +kernel
theorem dX6_putBehind_18 : decode cX6_putBehind 18 = .ok (.iload 4, 2) := by decide +kernel
theorem dX6_putBehind_20 : decode cX6_putBehind 20 = .ok (.invokestatic 71, 3) := by decide +kernel
theorem dX6_putBehind_23 : decode cX6_putBehind 23 = .ok (.ifCond .ne 7, 3) := by decide +kernel
theorem dX6_putBehind_26 : decode cX6_putBehind 26 = .ok (.iconst 2, 1) := by decide +kernel
theorem dX6_putBehind_27 : decode cX6_putBehind 27 = .ok (.goto 20, 3) := by decide +kernel
theorem dX6_putBehind_30 : decode cX6_putBehind 30 = .ok (.aload_n 0, 1) := by decide +kernel
theorem dX6_putBehind_31 : decode cX6_putBehind 31 = .ok (.getfield 7, 3) := by decide +kernel
theorem dX6_putBehind_34 : decode cX6_putBehind 34 = .ok (.iload_n 3, 1) := by decide +kernel
theorem dX6_putBehind_35 : decode cX6_putBehind 35 = .ok (.invokestatic 58, 3) := by decide +kernel
theorem dX6_putBehind_38 : decode cX6_putBehind 38 = .ok (.iconst (-1), 1) := by decide +kernel
theorem dX6_putBehind_39 : decode cX6_putBehind 39 = .ok (.if_icmp .ne 7, 3) := by decide +kernel
theorem dX6_putBehind_42 : decode cX6_putBehind 42 = .ok (.iconst 3, 1) := by decide +kernel
theorem dX6_putBehind_43 : decode cX6_putBehind 43 = .ok (.goto 4, 3) := by decide +kernel
theorem dX6_putBehind_46 : decode cX6_putBehind 46 = .ok (.iconst 0, 1) := by decide +kernel
theorem dX6_putBehind_47 : decode cX6_putBehind 47 = .ok (.invokevirtual 74, 3) := by decide +kernel
theorem dX6_putBehind_50 : decode cX6_putBehind 50 = .ok (.ifCond .eq 5, 3) := by decide +kernel
theorem dX6_putBehind_53 : decode cX6_putBehind 53 = .ok (.iconst 0, 1) := by decide +kernel
theorem dX6_putBehind_54 : decode cX6_putBehind 54 = .ok (.ireturn, 1) := by decide +kernel
theorem dX6_putBehind_55 : decode cX6_putBehind 55 = .ok (.aload_n 0, 1) := by decide +kernel
theorem dX6_putBehind_56 : decode cX6_putBehind 56 = .ok (.invokevirtual 78, 3) := by decide +kernel
theorem dX6_putBehind_59 : decode cX6_putBehind 59 = .ok (.aload_n 0, 1) := by decide +kernel
theorem dX6_putBehind_60 : decode cX6_putBehind 60 = .ok (.getfield 7, 3) := by decide +kernel
theorem dX6_putBehind_63 : decode cX6_putBehind 63 = .ok (.aload_n 0, 1) := by decide +kernel
theorem dX6_putBehind_64 : decode cX6_putBehind 64 = .ok (.getfield 7, 3) := by decide +kernel
theorem dX6_putBehind_67 : decode cX6_putBehind 67 = .ok (.iload_n 1, 1) := by decide +kernel
theorem dX6_putBehind_68 : decode cX6_putBehind 68 = .ok (.sipush 1000, 3) := by decide +kernel
theorem dX6_putBehind_71 : decode cX6_putBehind 71 = .ok (.idiv, 1) := by decide +kernel
theorem dX6_putBehind_72 : decode cX6_putBehind 72 = .ok (.invokestatic 48, 3) := by decide +kernel
theorem dX6_putBehind_75 : decode cX6_putBehind 75 = .ok (.iconst 1, 1) := by decide +kernel
theorem dX6_putBehind_76 : decode cX6_putBehind 76 = .ok (.iadd, 1) := by decide +kernel
theorem dX6_putBehind_77 : decode cX6_putBehind 77 = .ok (.iload_n 2, 1) := by decide +kernel
theorem dX6_putBehind_78 : decode cX6_putBehind 78 = .ok (.iload_n 3, 1) := by decide +kernel
theorem dX6_putBehind_79 : decode cX6_putBehind 79 = .ok (.iload 4, 2) := by decide +kernel
theorem dX6_putBehind_81 : decode cX6_putBehind 81 = .ok (.invokestatic 81, 3) := by decide +kernel
theorem dX6_putBehind_84 : decode cX6_putBehind 84 = .ok (.istore 5, 2) := by decide +kernel
theorem dX6_putBehind_86 : decode cX6_putBehind 86 = .ok (.sipush 1000, 3) := by decide +kernel
theorem dX6_putBehind_89 : decode cX6_putBehind 89 = .ok (.iload 5, 2) := by decide +kernel
theorem dX6_putBehind_91 : decode cX6_putBehind 91 = .ok (.imul, 1) := by decide +kernel
theorem dX6_putBehind_92 : decode cX6_putBehind 92 = .ok (.aload_n 0, 1) := by decide +kernel
theorem dX6_putBehind_93 : decode cX6_putBehind 93 = .ok (.getfield 7, 3) := by decide +kernel
theorem dX6_putBehind_96 : decode cX6_putBehind 96 = .ok (.bipush 6, 2) := by decide +kernel
theorem dX6_putBehind_98 : decode cX6_putBehind 98 = .ok (.iload 5, 2) := by decide +kernel
theorem dX6_putBehind_100 : decode cX6_putBehind 100 = .ok (.iadd, 1) := by decide +kernel
theorem dX6_putBehind_101 : decode cX6_putBehind 101 = .ok (.iaload, 1) := by decide +kernel
theorem dX6_putBehind_102 : decode cX6_putBehind 102 = .ok (.iadd, 1) := by decide +kernel
theorem dX6_putBehind_103 : decode cX6_putBehind 103 = .ok (.ireturn, 1) := by decide +kernel
theorem dX6_remove_0 : decode cX6_remove 0 = .ok (.aload_n 0, 1) := by decide +kernel
theorem dX6_remove_1 : decode cX6_remove 1 = .ok (.aload_n 0, 1) := by decide +kernel
theorem dX6_remove_2 : decode cX6_remove 2 = .ok (.getfield 7, 3) := by decide +kernel
theorem dX6_remove_5 : decode cX6_remove 5 = .ok (.iload_n 1, 1) := by decide +kernel
theorem dX6_remove_6 : decode cX6_remove 6 = .ok (.invokestatic 85, 3) := by decide +kernel
theorem dX6_remove_9 : decode cX6_remove 9 = .ok (.ifCond .eq 7, 3) := by decide +kernel
theorem dX6_remove_12 : decode cX6_remove 12 = .ok (.iconst 1, 1) := by decide +kernel
theorem dX6_remove_13 : decode cX6_remove 13 = .ok (.goto 4, 3) := by decide +kernel
theorem dX6_remove_16 : decode cX6_remove 16 = .ok (.iconst 0, 1) := by decide +kernel
theorem dX6_remove_17 : decode cX6_remove 17 = .ok (.invokevirtual 74, 3) := by decide +kernel
theorem dX6_remove_20 : decode cX6_remove 20 = .ok (.ifCond .eq 5, 3) := by decide +kernel
theorem dX6_remove_23 : decode cX6_remove 23 = .ok (.iconst 0, 1) := by decide +kernel
theorem dX6_remove_24 : decode cX6_remove 24 = .ok (.ireturn, 1) := by decide +kernel
theorem dX6_remove_25 : decode cX6_remove 25 = .ok (.aload_n 0, 1) := by decide +kernel
theorem dX6_remove_26 : decode cX6_remove 26 = .ok (.invokevirtual 78, 3) := by decide +kernel
theorem dX6_remove_29 : decode cX6_remove 29 = .ok (.aload_n 0, 1) := by decide +kernel
theorem dX6_remove_30 : decode cX6_remove 30 = .ok (.getfield 7, 3) := by decide +kernel
theorem dX6_remove_33 : decode cX6_remove 33 = .ok (.iload_n 1, 1) := by decide +kernel
theorem dX6_remove_34 : decode cX6_remove 34 = .ok (.sipush 1000, 3) := by decide +kernel
theorem dX6_remove_37 : decode cX6_remove 37 = .ok (.idiv, 1) := by decide +kernel
theorem dX6_remove_38 : decode cX6_remove 38 = .ok (.invokestatic 48, 3) := by decide +kernel
theorem dX6_remove_41 : decode cX6_remove 41 = .ok (.istore_n 2, 1) := by decide +kernel
theorem dX6_remove_42 : decode cX6_remove 42 = .ok (.aload_n 0, 1) := by decide +kernel
theorem dX6_remove_43 : decode cX6_remove 43 = .ok (.getfield 7, 3) := by decide +kernel
theorem dX6_remove_46 : decode cX6_remove 46 = .ok (.iload_n 2, 1) := by decide +kernel
theorem dX6_remove_47 : decode cX6_remove 47 = .ok (.iconst 2, 1) := by decide +kernel
theorem dX6_remove_48 : decode cX6_remove 48 = .ok (.invokestatic 36, 3) := by decide +kernel
theorem dX6_remove_51 : decode cX6_remove 51 = .ok (.istore_n 3, 1) := by decide +kernel
theorem dX6_remove_52 : decode cX6_remove 52 = .ok (.aload_n 0, 1) := by decide +kernel
theorem dX6_remove_53 : decode cX6_remove 53 = .ok (.getfield 7, 3) := by decide +kernel
theorem dX6_remove_56 : decode cX6_remove 56 = .ok (.iload_n 2, 1) := by decide +kernel
theorem dX6_remove_57 : decode cX6_remove 57 = .ok (.invokestatic 88, 3) := by decide +kernel
theorem dX6_remove_60 : decode cX6_remove 60 = .ok (.ifCond .eq 7, 3) := by decide +kernel
theorem dX6_remove_63 : decode cX6_remove 63 = .ok (.iload_n 3, 1) := by decide +kernel
theorem dX6_remove_64 : decode cX6_remove 64 = .ok (.goto 4, 3) := by decide +kernel
theorem dX6_remove_67 : decode cX6_remove 67 = .ok (.iload_n 3, 1) := by decide +kernel
theorem dX6_remove_68 : decode cX6_remove 68 = .ok (.ireturn, 1) := by decide +kernel
theorem dX6_change_0 : decode cX6_change 0 = .ok (.aload_n 0, 1) := by decide +kernel
theorem dX6_change_1 : decode cX6_change 1 = .ok (.aload_n 0, 1) := by decide +kernel
theorem dX6_change_2 : decode cX6_change 2 = .ok (.getfield 7, 3) := by decide +kernel
theorem dX6_change_5 : decode cX6_change 5 = .ok (.iload_n 1, 1) := by decide +kernel
theorem dX6_change_6 : decode cX6_change 6 = .ok (.invokestatic 85, 3) := by decide +kernel
theorem dX6_change_9 : decode cX6_change 9 = .ok (.ifCond .eq 7, 3) := by decide +kernel
theorem dX6_change_12 : decode cX6_change 12 = .ok (.iconst 1, 1) := by decide +kernel
theorem dX6_change_13 : decode cX6_change 13 = .ok (.goto 19, 3) := by decide +kernel
theorem dX6_change_16 : decode cX6_change 16 = .ok (.iload_n 2, 1) := by decide +kernel
theorem dX6_change_17 : decode cX6_change 17 = .ok (.iconst 0, 1) := by decide +kernel
theorem dX6_change_18 : decode cX6_change 18 = .ok (.sipush 999, 3) := by decide +kernel
theorem dX6_change_21 : decode cX6_change 21 = .ok (.invokestatic 44, 3) := by decide +kernel
theorem dX6_change_24 : decode cX6_change 24 = .ok (.ifCond .ne 7, 3) := by decide +kernel
theorem dX6_change_27 : decode cX6_change 27 = .ok (.iconst 2, 1) := by decide +kernel
theorem dX6_change_28 : decode cX6_change 28 = .ok (.goto 4, 3) := by decide +kernel
theorem dX6_change_31 : decode cX6_change 31 = .ok (.iconst 0, 1) := by decide +kernel
theorem dX6_change_32 : decode cX6_change 32 = .ok (.invokevirtual 74, 3) := by decide +kernel
theorem dX6_change_35 : decode cX6_change 35 = .ok (.ifCond .eq 5, 3) := by decide +kernel
theorem dX6_change_38 : decode cX6_change 38 = .ok (.iconst 0, 1) := by decide +kernel
theorem dX6_change_39 : decode cX6_change 39 = .ok (.ireturn, 1) := by decide +kernel
theorem dX6_change_40 : decode cX6_change 40 = .ok (.aload_n 0, 1) := by decide +kernel
theorem dX6_change_41 : decode cX6_change 41 = .ok (.invokevirtual 78, 3) := by decide +kernel
theorem dX6_change_44 : decode cX6_change 44 = .ok (.bipush 70, 2) := by decide +kernel
theorem dX6_change_46 : decode cX6_change 46 = .ok (.iconst 5, 1) := by decide +kernel
theorem dX6_change_47 : decode cX6_change 47 = .ok (.aload_n 0, 1) := by decide +kernel
theorem dX6_change_48 : decode cX6_change 48 = .ok (.getfield 7, 3) := by decide +kernel
theorem dX6_change_51 : decode cX6_change 51 = .ok (.iload_n 1, 1) := by decide +kernel
theorem dX6_change_52 : decode cX6_change 52 = .ok (.sipush 1000, 3) := by decide +kernel
theorem dX6_change_55 : decode cX6_change 55 = .ok (.idiv, 1) := by decide +kernel
theorem dX6_change_56 : decode cX6_change 56 = .ok (.invokestatic 48, 3) := by decide +kernel
theorem dX6_change_59 : decode cX6_change 59 = .ok (.imul, 1) := by decide +kernel
theorem dX6_change_60 : decode cX6_change 60 = .ok (.iadd, 1) := by decide +kernel
theorem dX6_change_61 : decode cX6_change 61 = .ok (.iconst 2, 1) := by decide +kernel
theorem dX6_change_62 : decode cX6_change 62 = .ok (.iadd, 1) := by decide +kernel
theorem dX6_change_63 : decode cX6_change 63 = .ok (.istore_n 3, 1) := by decide +kernel
theorem dX6_change_64 : decode cX6_change 64 = .ok (.aload_n 0, 1) := by decide +kernel
theorem dX6_change_65 : decode cX6_change 65 = .ok (.getfield 7, 3) := by decide +kernel
theorem dX6_change_68 : decode cX6_change 68 = .ok (.iload_n 3, 1) := by decide +kernel
theorem dX6_change_69 : decode cX6_change 69 = .ok (.iaload, 1) := by decide +kernel
theorem dX6_change_70 : decode cX6_change 70 = .ok (.istore 4, 2) := by decide +kernel
theorem dX6_change_72 : decode cX6_change 72 = .ok (.aload_n 0, 1) := by decide +kernel
theorem dX6_change_73 : decode cX6_change 73 = .ok (.getfield 7, 3) := by decide +kernel
theorem dX6_change_76 : decode cX6_change 76 = .ok (.iload_n 3, 1) := by decide +kernel
theorem dX6_change_77 : decode cX6_change 77 = .ok (.iload_n 2, 1) := by decide +kernel
theorem dX6_change_78 : decode cX6_change 78 = .ok (.iastore, 1) := by decide +kernel
theorem dX6_change_79 : decode cX6_change 79 = .ok (.iload 4, 2) := by decide +kernel
theorem dX6_change_81 : decode cX6_change 81 = .ok (.ireturn, 1) := by decide +kernel
theorem dX6_isWalker_0 : decode cX6_isWalker 0 = .ok (.iload_n 0, 1) := by decide +kernel
theorem dX6_isWalker_1 : decode cX6_isWalker 1 = .ok (.iconst 0, 1) := by decide +kernel
theorem dX6_isWalker_2 : decode cX6_isWalker 2 = .ok (.iconst 3, 1) := by decide +kernel
theorem dX6_isWalker_3 : decode cX6_isWalker 3 = .ok (.invokestatic 44, 3) := by decide +kernel
theorem dX6_isWalker_6 : decode cX6_isWalker 6 = .ok (.ireturn, 1) := by decide +kernel
theorem dX6_stands_0 : decode cX6_stands 0 = .ok (.aload_n 0, 1) := by decide +kernel
theorem dX6_stands_1 : decode cX6_stands 1 = .ok (.sipush 410, 3) := by decide +kernel
theorem dX6_stands_4 : decode cX6_stands 4 = .ok (.iload_n 1, 1) := by decide +kernel
theorem dX6_stands_5 : decode cX6_stands 5 = .ok (.iadd, 1) := by decide +kernel
theorem dX6_stands_6 : decode cX6_stands 6 = .ok (.iaload, 1) := by decide +kernel
theorem dX6_stands_7 : decode cX6_stands 7 = .ok (.istore_n 2, 1) := by decide +kernel
theorem dX6_stands_8 : decode cX6_stands 8 = .ok (.iload_n 2, 1) := by decide +kernel
theorem dX6_stands_9 : decode cX6_stands 9 = .ok (.ifCond .ge 7, 3) := by decide +kernel
theorem dX6_stands_12 : decode cX6_stands 12 = .ok (.iconst 0, 1) := by decide +kernel
theorem dX6_stands_13 : decode cX6_stands 13 = .ok (.goto 26, 3) := by decide +kernel
theorem dX6_stands_16 : decode cX6_stands 16 = .ok (.iload_n 2, 1) := by decide +kernel
theorem dX6_stands_17 : decode cX6_stands 17 = .ok (.bipush 99, 2) := by decide +kernel
theorem dX6_stands_19 : decode cX6_stands 19 = .ok (.if_icmp .ne 7, 3) := by decide +kernel
theorem dX6_stands_22 : decode cX6_stands 22 = .ok (.iconst 3, 1) := by decide +kernel
theorem dX6_stands_23 : decode cX6_stands 23 = .ok (.goto 16, 3) := by decide +kernel
theorem dX6_stands_26 : decode cX6_stands 26 = .ok (.aload_n 0, 1) := by decide +kernel
theorem dX6_stands_27 : decode cX6_stands 27 = .ok (.iload_n 2, 1) := by decide +kernel
theorem dX6_stands_28 : decode cX6_stands 28 = .ok (.invokestatic 40, 3) := by decide +kernel
theorem dX6_stands_31 : decode cX6_stands 31 = .ok (.ifCond .eq 7, 3) := by decide +kernel
theorem dX6_stands_34 : decode cX6_stands 34 = .ok (.iconst 1, 1) := by decide +kernel
theorem dX6_stands_35 : decode cX6_stands 35 = .ok (.goto 4, 3) := by decide +kernel
theorem dX6_stands_38 : decode cX6_stands 38 = .ok (.iconst 2, 1) := by decide +kernel
theorem dX6_stands_39 : decode cX6_stands 39 = .ok (.ireturn, 1) := by decide +kernel
theorem dX6_restart_0 : decode cX6_restart 0 = .ok (.aload_n 0, 1) := by decide +kernel
theorem dX6_restart_1 : decode cX6_restart 1 = .ok (.iload_n 1, 1) := by decide +kernel
theorem dX6_restart_2 : decode cX6_restart 2 = .ok (.invokestatic 91, 3) := by decide +kernel
theorem dX6_restart_5 : decode cX6_restart 5 = .ok (.ifCond .eq 7, 3) := by decide +kernel
theorem dX6_restart_8 : decode cX6_restart 8 = .ok (.iconst 0, 1) := by decide +kernel
theorem dX6_restart_9 : decode cX6_restart 9 = .ok (.goto 4, 3) := by decide +kernel
theorem dX6_restart_12 : decode cX6_restart 12 = .ok (.iconst 1, 1) := by decide +kernel
theorem dX6_restart_13 : decode cX6_restart 13 = .ok (.invokevirtual 74, 3) := by decide +kernel
theorem dX6_restart_16 : decode cX6_restart 16 = .ok (.ifCond .eq 5, 3) := by decide +kernel
theorem dX6_restart_19 : decode cX6_restart 19 = .ok (.iconst 0, 1) := by decide +kernel
theorem dX6_restart_20 : decode cX6_restart 20 = .ok (.ireturn, 1) := by decide +kernel
theorem dX6_restart_21 : decode cX6_restart 21 = .ok (.aload_n 0, 1) := by decide +kernel
theorem dX6_restart_22 : decode cX6_restart 22 = .ok (.invokevirtual 78, 3) := by decide +kernel
theorem dX6_restart_25 : decode cX6_restart 25 = .ok (.aload_n 0, 1) := by decide +kernel
theorem dX6_restart_26 : decode cX6_restart 26 = .ok (.getfield 7, 3) := by decide +kernel
theorem dX6_restart_29 : decode cX6_restart 29 = .ok (.iload_n 1, 1) := by decide +kernel
theorem dX6_restart_30 : decode cX6_restart 30 = .ok (.invokestatic 94, 3) := by decide +kernel
theorem dX6_restart_33 : decode cX6_restart 33 = .ok (.istore_n 2, 1) := by decide +kernel
theorem dX6_restart_34 : decode cX6_restart 34 = .ok (.aload_n 0, 1) := by decide +kernel
theorem dX6_restart_35 : decode cX6_restart 35 = .ok (.getfield 7, 3) := by decide +kernel
theorem dX6_restart_38 : decode cX6_restart 38 = .ok (.iload_n 1, 1) := by decide +kernel
theorem dX6_restart_39 : decode cX6_restart 39 = .ok (.iconst (-1), 1) := by decide +kernel
theorem dX6_restart_40 : decode cX6_restart 40 = .ok (.invokestatic 97, 3) := by decide +kernel
theorem dX6_restart_43 : decode cX6_restart 43 = .ok (.iload_n 2, 1) := by decide +kernel
theorem dX6_restart_44 : decode cX6_restart 44 = .ok (.ireturn, 1) := by decide +kernel
theorem dX6_underHandle_0 : decode cX6_underHandle 0 = .ok (.aload_n 0, 1) := by decide +kernel
theorem dX6_underHandle_1 : decode cX6_underHandle 1 = .ok (.getfield 7, 3) := by decide +kernel
theorem dX6_underHandle_4 : decode cX6_underHandle 4 = .ok (.iload_n 1, 1) := by decide +kernel
theorem dX6_underHandle_5 : decode cX6_underHandle 5 = .ok (.invokestatic 94, 3) := by decide +kernel
theorem dX6_underHandle_8 : decode cX6_underHandle 8 = .ok (.iconst 1, 1) := by decide +kernel
theorem dX6_underHandle_9 : decode cX6_underHandle 9 = .ok (.if_icmp .ne 23, 3) := by decide +kernel
theorem dX6_underHandle_12 : decode cX6_underHandle 12 = .ok (.aload_n 0, 1) := by decide +kernel
theorem dX6_underHandle_13 : decode cX6_underHandle 13 = .ok (.getfield 7, 3) := by decide +kernel
theorem dX6_underHandle_16 : decode cX6_underHandle 16 = .ok (.aload_n 0, 1) := by decide +kernel
theorem dX6_underHandle_17 : decode cX6_underHandle 17 = .ok (.getfield 7, 3) := by decide +kernel
theorem dX6_underHandle_20 : decode cX6_underHandle 20 = .ok (.sipush 410, 3) := by decide +kernel
theorem dX6_underHandle_23 : decode cX6_underHandle 23 = .ok (.iload_n 1, 1) := by decide +kernel
theorem dX6_underHandle_24 : decode cX6_underHandle 24 = .ok (.iadd, 1) := by decide +kernel
theorem dX6_underHandle_25 : decode cX6_underHandle 25 = .ok (.iaload, 1) := by decide +kernel
theorem dX6_underHandle_26 : decode cX6_underHandle 26 = .ok (.invokestatic 101, 3) := by decide +kernel
theorem dX6_underHandle_29 : decode cX6_underHandle 29 = .ok (.goto 4, 3) := by decide +kernel
theorem dX6_underHandle_32 : decode cX6_underHandle 32 = .ok (.iconst (-1), 1) := by decide +kernel
theorem dX6_underHandle_33 : decode cX6_underHandle 33 = .ok (.ireturn, 1) := by decide +kernel
theorem dX6_goOn_0 : decode cX6_goOn 0 = .ok (.aload_n 0, 1) := by decide +kernel
theorem dX6_goOn_1 : decode cX6_goOn 1 = .ok (.iload_n 1, 1) := by decide +kernel
theorem dX6_goOn_2 : decode cX6_goOn 2 = .ok (.invokestatic 91, 3) := by decide +kernel
theorem dX6_goOn_5 : decode cX6_goOn 5 = .ok (.ifCond .eq 7, 3) := by decide +kernel
theorem dX6_goOn_8 : decode cX6_goOn 8 = .ok (.iconst 0, 1) := by decide +kernel
theorem dX6_goOn_9 : decode cX6_goOn 9 = .ok (.goto 4, 3) := by decide +kernel
theorem dX6_goOn_12 : decode cX6_goOn 12 = .ok (.iconst 1, 1) := by decide +kernel
theorem dX6_goOn_13 : decode cX6_goOn 13 = .ok (.invokevirtual 74, 3) := by decide +kernel
theorem dX6_goOn_16 : decode cX6_goOn 16 = .ok (.ifCond .eq 5, 3) := by decide +kernel
theorem dX6_goOn_19 : decode cX6_goOn 19 = .ok (.iconst 0, 1) := by decide +kernel
theorem dX6_goOn_20 : decode cX6_goOn 20 = .ok (.ireturn, 1) := by decide +kernel
theorem dX6_goOn_21 : decode cX6_goOn 21 = .ok (.aload_n 0, 1) := by decide +kernel
theorem dX6_goOn_22 : decode cX6_goOn 22 = .ok (.invokevirtual 78, 3) := by decide +kernel
theorem dX6_goOn_25 : decode cX6_goOn 25 = .ok (.aload_n 0, 1) := by decide +kernel
theorem dX6_goOn_26 : decode cX6_goOn 26 = .ok (.getfield 7, 3) := by decide +kernel
theorem dX6_goOn_29 : decode cX6_goOn 29 = .ok (.iload_n 1, 1) := by decide +kernel
theorem dX6_goOn_30 : decode cX6_goOn 30 = .ok (.aload_n 0, 1) := by decide +kernel
theorem dX6_goOn_31 : decode cX6_goOn 31 = .ok (.getfield 7, 3) := by decide +kernel
theorem dX6_goOn_34 : decode cX6_goOn 34 = .ok (.aload_n 0, 1) := by decide +kernel
theorem dX6_goOn_35 : decode cX6_goOn 35 = .ok (.getfield 7, 3) := by decide +kernel
theorem dX6_goOn_38 : decode cX6_goOn 38 = .ok (.sipush 410, 3) := by decide +kernel
theorem dX6_goOn_41 : decode cX6_goOn 41 = .ok (.iload_n 1, 1) := by decide +kernel
theorem dX6_goOn_42 : decode cX6_goOn 42 = .ok (.iadd, 1) := by decide +kernel
theorem dX6_goOn_43 : decode cX6_goOn 43 = .ok (.iaload, 1) := by decide +kernel
theorem dX6_goOn_44 : decode cX6_goOn 44 = .ok (.invokestatic 104, 3) := by decide +kernel
theorem dX6_goOn_47 : decode cX6_goOn 47 = .ok (.invokestatic 97, 3) := by decide +kernel
theorem dX6_goOn_50 : decode cX6_goOn 50 = .ok (.aload_n 0, 1) := by decide +kernel
theorem dX6_goOn_51 : decode cX6_goOn 51 = .ok (.iload_n 1, 1) := by decide +kernel
theorem dX6_goOn_52 : decode cX6_goOn 52 = .ok (.invokevirtual 107, 3) := by decide +kernel
theorem dX6_goOn_55 : decode cX6_goOn 55 = .ok (.ireturn, 1) := by decide +kernel
theorem dX6_take_0 : decode cX6_take 0 = .ok (.aload_n 0, 1) := by decide +kernel
theorem dX6_take_1 : decode cX6_take 1 = .ok (.iload_n 1, 1) := by decide +kernel
theorem dX6_take_2 : decode cX6_take 2 = .ok (.invokestatic 91, 3) := by decide +kernel
theorem dX6_take_5 : decode cX6_take 5 = .ok (.ifCond .ne 7, 3) := by decide +kernel
theorem dX6_take_8 : decode cX6_take 8 = .ok (.iconst 1, 1) := by decide +kernel
theorem dX6_take_9 : decode cX6_take 9 = .ok (.goto 20, 3) := by decide +kernel
theorem dX6_take_12 : decode cX6_take 12 = .ok (.aload_n 0, 1) := by decide +kernel
theorem dX6_take_13 : decode cX6_take 13 = .ok (.getfield 7, 3) := by decide +kernel
theorem dX6_take_16 : decode cX6_take 16 = .ok (.iload_n 1, 1) := by decide +kernel
theorem dX6_take_17 : decode cX6_take 17 = .ok (.invokestatic 94, 3) := by decide +kernel
theorem dX6_take_20 : decode cX6_take 20 = .ok (.iconst 1, 1) := by decide +kernel
theorem dX6_take_21 : decode cX6_take 21 = .ok (.if_icmp .eq 7, 3) := by decide +kernel
theorem dX6_take_24 : decode cX6_take 24 = .ok (.iconst 2, 1) := by decide +kernel
theorem dX6_take_25 : decode cX6_take 25 = .ok (.goto 4, 3) := by decide +kernel
theorem dX6_take_28 : decode cX6_take 28 = .ok (.iconst 0, 1) := by decide +kernel
theorem dX6_take_29 : decode cX6_take 29 = .ok (.invokevirtual 74, 3) := by decide +kernel
theorem dX6_take_32 : decode cX6_take 32 = .ok (.ifCond .eq 5, 3) := by decide +kernel
theorem dX6_take_35 : decode cX6_take 35 = .ok (.iconst 0, 1) := by decide +kernel
theorem dX6_take_36 : decode cX6_take 36 = .ok (.ireturn, 1) := by decide +kernel
theorem dX6_take_37 : decode cX6_take 37 = .ok (.aload_n 0, 1) := by decide +kernel
theorem dX6_take_38 : decode cX6_take 38 = .ok (.invokevirtual 78, 3) := by decide +kernel
theorem dX6_take_41 : decode cX6_take 41 = .ok (.aload_n 0, 1) := by decide +kernel
theorem dX6_take_42 : decode cX6_take 42 = .ok (.getfield 7, 3) := by decide +kernel
theorem dX6_take_45 : decode cX6_take 45 = .ok (.sipush 410, 3) := by decide +kernel
theorem dX6_take_48 : decode cX6_take 48 = .ok (.iload_n 1, 1) := by decide +kernel
theorem dX6_take_49 : decode cX6_take 49 = .ok (.iadd, 1) := by decide +kernel
theorem dX6_take_50 : decode cX6_take 50 = .ok (.iaload, 1) := by decide +kernel
theorem dX6_take_51 : decode cX6_take 51 = .ok (.istore_n 2, 1) := by decide +kernel
theorem dX6_take_52 : decode cX6_take 52 = .ok (.aload_n 0, 1) := by decide +kernel
theorem dX6_take_53 : decode cX6_take 53 = .ok (.getfield 7, 3) := by decide +kernel
theorem dX6_take_56 : decode cX6_take 56 = .ok (.iload_n 2, 1) := by decide +kernel
theorem dX6_take_57 : decode cX6_take 57 = .ok (.iconst 2, 1) := by decide +kernel
theorem dX6_take_58 : decode cX6_take 58 = .ok (.invokestatic 36, 3) := by decide +kernel
theorem dX6_take_61 : decode cX6_take 61 = .ok (.istore_n 3, 1) := by decide +kernel
theorem dX6_take_62 : decode cX6_take 62 = .ok (.aload_n 0, 1) := by decide +kernel
theorem dX6_take_63 : decode cX6_take 63 = .ok (.getfield 7, 3) := by decide +kernel
theorem dX6_take_66 : decode cX6_take 66 = .ok (.iload_n 2, 1) := by decide +kernel
theorem dX6_take_67 : decode cX6_take 67 = .ok (.invokestatic 88, 3) := by decide +kernel
theorem dX6_take_70 : decode cX6_take 70 = .ok (.ifCond .eq 7, 3) := by decide +kernel
theorem dX6_take_73 : decode cX6_take 73 = .ok (.iload_n 3, 1) := by decide +kernel
theorem dX6_take_74 : decode cX6_take 74 = .ok (.goto 4, 3) := by decide +kernel
theorem dX6_take_77 : decode cX6_take 77 = .ok (.iload_n 3, 1) := by decide +kernel
theorem dX6_take_78 : decode cX6_take 78 = .ok (.ireturn, 1) := by decide +kernel
theorem dX6_firesOne_0 : decode cX6_firesOne 0 = .ok (.aload_n 0, 1) := by decide +kernel
theorem dX6_firesOne_1 : decode cX6_firesOne 1 = .ok (.bipush 70, 2) := by decide +kernel
theorem dX6_firesOne_3 : decode cX6_firesOne 3 = .ok (.iconst 5, 1) := by decide +kernel
theorem dX6_firesOne_4 : decode cX6_firesOne 4 = .ok (.iload_n 1, 1) := by decide +kernel
theorem dX6_firesOne_5 : decode cX6_firesOne 5 = .ok (.imul, 1) := by decide +kernel
theorem dX6_firesOne_6 : decode cX6_firesOne 6 = .ok (.iadd, 1) := by decide +kernel
theorem dX6_firesOne_7 : decode cX6_firesOne 7 = .ok (.iconst 4, 1) := by decide +kernel
theorem dX6_firesOne_8 : decode cX6_firesOne 8 = .ok (.iadd, 1) := by decide +kernel
theorem dX6_firesOne_9 : decode cX6_firesOne 9 = .ok (.dup2, 1) := by decide +kernel
theorem dX6_firesOne_10 : decode cX6_firesOne 10 = .ok (.iaload, 1) := by decide +kernel
theorem dX6_firesOne_11 : decode cX6_firesOne 11 = .ok (.iconst 1, 1) := by decide +kernel
theorem dX6_firesOne_12 : decode cX6_firesOne 12 = .ok (.iadd, 1) := by decide +kernel
theorem dX6_firesOne_13 : decode cX6_firesOne 13 = .ok (.iastore, 1) := by decide +kernel
theorem dX6_firesOne_14 : decode cX6_firesOne 14 = .ok (.aload_n 0, 1) := by decide +kernel
theorem dX6_firesOne_15 : decode cX6_firesOne 15 = .ok (.iload_n 1, 1) := by decide +kernel
theorem dX6_firesOne_16 : decode cX6_firesOne 16 = .ok (.iconst 3, 1) := by decide +kernel
theorem dX6_firesOne_17 : decode cX6_firesOne 17 = .ok (.invokestatic 36, 3) := by decide +kernel
theorem dX6_firesOne_20 : decode cX6_firesOne 20 = .ok (.iconst 1, 1) := by decide +kernel
theorem dX6_firesOne_21 : decode cX6_firesOne 21 = .ok (.if_icmp .ne 19, 3) := by decide +kernel
theorem dX6_firesOne_24 : decode cX6_firesOne 24 = .ok (.aload_n 0, 1) := by decide +kernel
theorem dX6_firesOne_25 : decode cX6_firesOne 25 = .ok (.iload_n 1, 1) := by decide +kernel
theorem dX6_firesOne_26 : decode cX6_firesOne 26 = .ok (.invokestatic 88, 3) := by decide +kernel
theorem dX6_firesOne_29 : decode cX6_firesOne 29 = .ok (.ifCond .eq 9, 3) := by decide +kernel
theorem dX6_firesOne_32 : decode cX6_firesOne 32 = .ok (.iload_n 1, 1) := by decide +kernel
theorem dX6_firesOne_33 : decode cX6_firesOne 33 = .ok (.iconst 1, 1) := by decide +kernel
theorem dX6_firesOne_34 : decode cX6_firesOne 34 = .ok (.iadd, 1) := by decide +kernel
theorem dX6_firesOne_35 : decode cX6_firesOne 35 = .ok (.goto 4, 3) := by decide +kernel
theorem dX6_firesOne_38 : decode cX6_firesOne 38 = .ok (.iload_n 1, 1) := by decide +kernel
theorem dX6_firesOne_39 : decode cX6_firesOne 39 = .ok (.ireturn, 1) := by decide +kernel
theorem dX6_firesOne_40 : decode cX6_firesOne 40 = .ok (.aload_n 0, 1) := by decide +kernel
theorem dX6_firesOne_41 : decode cX6_firesOne 41 = .ok (.iload_n 1, 1) := by decide +kernel
theorem dX6_firesOne_42 : decode cX6_firesOne 42 = .ok (.iconst 3, 1) := by decide +kernel
theorem dX6_firesOne_43 : decode cX6_firesOne 43 = .ok (.invokestatic 36, 3) := by decide +kernel
theorem dX6_firesOne_46 : decode cX6_firesOne 46 = .ok (.iconst 2, 1) := by decide +kernel
theorem dX6_firesOne_47 : decode cX6_firesOne 47 = .ok (.if_icmp .ne 26, 3) := by decide +kernel
theorem dX6_firesOne_50 : decode cX6_firesOne 50 = .ok (.aload_n 0, 1) := by decide +kernel
theorem dX6_firesOne_51 : decode cX6_firesOne 51 = .ok (.aload_n 0, 1) := by decide +kernel
theorem dX6_firesOne_52 : decode cX6_firesOne 52 = .ok (.iconst 1, 1) := by decide +kernel
theorem dX6_firesOne_53 : decode cX6_firesOne 53 = .ok (.iaload, 1) := by decide +kernel
theorem dX6_firesOne_54 : decode cX6_firesOne 54 = .ok (.aload_n 0, 1) := by decide +kernel
theorem dX6_firesOne_55 : decode cX6_firesOne 55 = .ok (.iload_n 1, 1) := by decide +kernel
theorem dX6_firesOne_56 : decode cX6_firesOne 56 = .ok (.iconst 2, 1) := by decide +kernel
theorem dX6_firesOne_57 : decode cX6_firesOne 57 = .ok (.invokestatic 36, 3) := by decide +kernel
theorem dX6_firesOne_60 : decode cX6_firesOne 60 = .ok (.aload_n 0, 1) := by decide +kernel
theorem dX6_firesOne_61 : decode cX6_firesOne 61 = .ok (.iload_n 1, 1) := by decide +kernel
theorem dX6_firesOne_62 : decode cX6_firesOne 62 = .ok (.iconst 1, 1) := by decide +kernel
theorem dX6_firesOne_63 : decode cX6_firesOne 63 = .ok (.invokestatic 36, 3) := by decide +kernel
theorem dX6_firesOne_66 : decode cX6_firesOne 66 = .ok (.iconst 0, 1) := by decide +kernel
theorem dX6_firesOne_67 : decode cX6_firesOne 67 = .ok (.invokestatic 81, 3) := by decide +kernel
theorem dX6_firesOne_70 : decode cX6_firesOne 70 = .ok (.goto 4, 3) := by decide +kernel
theorem dX6_firesOne_73 : decode cX6_firesOne 73 = .ok (.iconst 0, 1) := by decide +kernel
theorem dX6_firesOne_74 : decode cX6_firesOne 74 = .ok (.istore_n 2, 1) := by decide +kernel
theorem dX6_firesOne_75 : decode cX6_firesOne 75 = .ok (.iload_n 2, 1) := by decide +kernel
theorem dX6_firesOne_76 : decode cX6_firesOne 76 = .ok (.iconst (-1), 1) := by decide +kernel
theorem dX6_firesOne_77 : decode cX6_firesOne 77 = .ok (.if_icmp .ge 7, 3) := by decide +kernel
theorem dX6_firesOne_80 : decode cX6_firesOne 80 = .ok (.iload_n 1, 1) := by decide +kernel
theorem dX6_firesOne_81 : decode cX6_firesOne 81 = .ok (.goto 6, 3) := by decide +kernel
theorem dX6_firesOne_84 : decode cX6_firesOne 84 = .ok (.iload_n 1, 1) := by decide +kernel
theorem dX6_firesOne_85 : decode cX6_firesOne 85 = .ok (.iconst 1, 1) := by decide +kernel
theorem dX6_firesOne_86 : decode cX6_firesOne 86 = .ok (.iadd, 1) := by decide +kernel
theorem dX6_firesOne_87 : decode cX6_firesOne 87 = .ok (.ireturn, 1) := by decide +kernel
theorem dX6_fires_0 : decode cX6_fires 0 = .ok (.aload_n 0, 1) := by decide +kernel
theorem dX6_fires_1 : decode cX6_fires 1 = .ok (.invokestatic 111, 3) := by decide +kernel
theorem dX6_fires_4 : decode cX6_fires 4 = .ok (.istore_n 1, 1) := by decide +kernel
theorem dX6_fires_5 : decode cX6_fires 5 = .ok (.iconst 0, 1) := by decide +kernel
theorem dX6_fires_6 : decode cX6_fires 6 = .ok (.istore_n 2, 1) := by decide +kernel
theorem dX6_fires_7 : decode cX6_fires 7 = .ok (.iconst 0, 1) := by decide +kernel
theorem dX6_fires_8 : decode cX6_fires 8 = .ok (.istore_n 3, 1) := by decide +kernel
theorem dX6_fires_9 : decode cX6_fires 9 = .ok (.iload_n 1, 1) := by decide +kernel
theorem dX6_fires_10 : decode cX6_fires 10 = .ok (.ifCond .le 38, 3) := by decide +kernel
theorem dX6_fires_13 : decode cX6_fires 13 = .ok (.aload_n 0, 1) := by decide +kernel
theorem dX6_fires_14 : decode cX6_fires 14 = .ok (.iload_n 3, 1) := by decide +kernel
theorem dX6_fires_15 : decode cX6_fires 15 = .ok (.invokestatic 40, 3) := by decide +kernel
theorem dX6_fires_18 : decode cX6_fires 18 = .ok (.ifCond .eq 24, 3) := by decide +kernel
theorem dX6_fires_21 : decode cX6_fires 21 = .ok (.iload_n 2, 1) := by decide +kernel
theorem dX6_fires_22 : decode cX6_fires 22 = .ok (.aload_n 0, 1) := by decide +kernel
theorem dX6_fires_23 : decode cX6_fires 23 = .ok (.iload_n 3, 1) := by decide +kernel
theorem dX6_fires_24 : decode cX6_fires 24 = .ok (.iconst 2, 1) := by decide +kernel
theorem dX6_fires_25 : decode cX6_fires 25 = .ok (.invokestatic 36, 3) := by decide +kernel
theorem dX6_fires_28 : decode cX6_fires 28 = .ok (.iadd, 1) := by decide +kernel
theorem dX6_fires_29 : decode cX6_fires 29 = .ok (.istore_n 2, 1) := by decide +kernel
theorem dX6_fires_30 : decode cX6_fires 30 = .ok (.aload_n 0, 1) := by decide +kernel
theorem dX6_fires_31 : decode cX6_fires 31 = .ok (.iload_n 3, 1) := by decide +kernel
theorem dX6_fires_32 : decode cX6_fires 32 = .ok (.invokestatic 115, 3) := by decide +kernel
theorem dX6_fires_35 : decode cX6_fires 35 = .ok (.istore_n 3, 1) := by decide +kernel
theorem dX6_fires_36 : decode cX6_fires 36 = .ok (.iinc 1 (-1), 3) := by decide +kernel
theorem dX6_fires_39 : decode cX6_fires 39 = .ok (.goto (-30), 3) := by decide +kernel
theorem dX6_fires_42 : decode cX6_fires 42 = .ok (.iinc 3 1, 3) := by decide +kernel
theorem dX6_fires_45 : decode cX6_fires 45 = .ok (.goto (-36), 3) := by decide +kernel
theorem dX6_fires_48 : decode cX6_fires 48 = .ok (.aload_n 0, 1) := by decide +kernel
theorem dX6_fires_49 : decode cX6_fires 49 = .ok (.iconst 2, 1) := by decide +kernel
theorem dX6_fires_50 : decode cX6_fires 50 = .ok (.dup2, 1) := by decide +kernel
theorem dX6_fires_51 : decode cX6_fires 51 = .ok (.iaload, 1) := by decide +kernel
theorem dX6_fires_52 : decode cX6_fires 52 = .ok (.iconst 1, 1) := by decide +kernel
theorem dX6_fires_53 : decode cX6_fires 53 = .ok (.iadd, 1) := by decide +kernel
theorem dX6_fires_54 : decode cX6_fires 54 = .ok (.iastore, 1) := by decide +kernel
theorem dX6_fires_55 : decode cX6_fires 55 = .ok (.iload_n 2, 1) := by decide +kernel
theorem dX6_fires_56 : decode cX6_fires 56 = .ok (.ireturn, 1) := by decide +kernel
theorem dX6_fire_0 : decode cX6_fire 0 = .ok (.aload_n 0, 1) := by decide +kernel
theorem dX6_fire_1 : decode cX6_fire 1 = .ok (.iconst 0, 1) := by decide +kernel
theorem dX6_fire_2 : decode cX6_fire 2 = .ok (.putfield 25, 3) := by decide +kernel
theorem dX6_fire_5 : decode cX6_fire 5 = .ok (.aload_n 0, 1) := by decide +kernel
theorem dX6_fire_6 : decode cX6_fire 6 = .ok (.invokevirtual 78, 3) := by decide +kernel
theorem dX6_fire_9 : decode cX6_fire 9 = .ok (.aload_n 0, 1) := by decide +kernel
theorem dX6_fire_10 : decode cX6_fire 10 = .ok (.getfield 7, 3) := by decide +kernel
theorem dX6_fire_13 : decode cX6_fire 13 = .ok (.invokestatic 118, 3) := by decide +kernel
theorem dX6_fire_16 : decode cX6_fire 16 = .ok (.ireturn, 1) := by decide +kernel
theorem dX6_lowestFrom_0 : decode cX6_lowestFrom 0 = .ok (.iconst (-1), 1) := by decide +kernel
theorem dX6_lowestFrom_1 : decode cX6_lowestFrom 1 = .ok (.istore_n 2, 1) := by decide +kernel
theorem dX6_lowestFrom_2 : decode cX6_lowestFrom 2 = .ok (.iconst 0, 1) := by decide +kernel
theorem dX6_lowestFrom_3 : decode cX6_lowestFrom 3 = .ok (.istore_n 3, 1) := by decide +kernel
theorem dX6_lowestFrom_4 : decode cX6_lowestFrom 4 = .ok (.iload_n 3, 1) := by decide +kernel
theorem dX6_lowestFrom_5 : decode cX6_lowestFrom 5 = .ok (.aload_n 0, 1) := by decide +kernel
theorem dX6_lowestFrom_6 : decode cX6_lowestFrom 6 = .ok (.iconst 1, 1) := by decide +kernel
theorem dX6_lowestFrom_7 : decode cX6_lowestFrom 7 = .ok (.iaload, 1) := by decide +kernel
theorem dX6_lowestFrom_8 : decode cX6_lowestFrom 8 = .ok (.if_icmp .ge 65, 3) := by decide +kernel
theorem dX6_lowestFrom_11 : decode cX6_lowestFrom 11 = .ok (.aload_n 0, 1) := by decide +kernel
theorem dX6_lowestFrom_12 : decode cX6_lowestFrom 12 = .ok (.iload_n 3, 1) := by decide +kernel
theorem dX6_lowestFrom_13 : decode cX6_lowestFrom 13 = .ok (.invokestatic 40, 3) := by decide +kernel
theorem dX6_lowestFrom_16 : decode cX6_lowestFrom 16 = .ok (.ifCond .eq 17, 3) := by decide +kernel
theorem dX6_lowestFrom_19 : decode cX6_lowestFrom 19 = .ok (.aload_n 0, 1) := by decide +kernel
theorem dX6_lowestFrom_20 : decode cX6_lowestFrom 20 = .ok (.iload_n 3, 1) := by decide +kernel
theorem dX6_lowestFrom_21 : decode cX6_lowestFrom 21 = .ok (.iconst 0, 1) := by decide +kernel
theorem dX6_lowestFrom_22 : decode cX6_lowestFrom 22 = .ok (.invokestatic 36, 3) := by decide +kernel
theorem dX6_lowestFrom_25 : decode cX6_lowestFrom 25 = .ok (.iload_n 1, 1) := by decide +kernel
theorem dX6_lowestFrom_26 : decode cX6_lowestFrom 26 = .ok (.if_icmp .lt 7, 3) := by decide +kernel
theorem dX6_lowestFrom_29 : decode cX6_lowestFrom 29 = .ok (.iconst 1, 1) := by decide +kernel
theorem dX6_lowestFrom_30 : decode cX6_lowestFrom 30 = .ok (.goto 4, 3) := by decide +kernel
theorem dX6_lowestFrom_33 : decode cX6_lowestFrom 33 = .ok (.iconst 0, 1) := by decide +kernel
theorem dX6_lowestFrom_34 : decode cX6_lowestFrom 34 = .ok (.istore 4, 2) := by decide +kernel
theorem dX6_lowestFrom_36 : decode cX6_lowestFrom 36 = .ok (.iload 4, 2) := by decide +kernel
theorem dX6_lowestFrom_38 : decode cX6_lowestFrom 38 = .ok (.ifCond .eq 27, 3) := by decide +kernel
theorem dX6_lowestFrom_41 : decode cX6_lowestFrom 41 = .ok (.iload_n 2, 1) := by decide +kernel
theorem dX6_lowestFrom_42 : decode cX6_lowestFrom 42 = .ok (.iconst (-1), 1) := by decide +kernel
theorem dX6_lowestFrom_43 : decode cX6_lowestFrom 43 = .ok (.if_icmp .eq 18, 3) := by decide +kernel
theorem dX6_lowestFrom_46 : decode cX6_lowestFrom 46 = .ok (.aload_n 0, 1) := by decide +kernel
theorem dX6_lowestFrom_47 : decode cX6_lowestFrom 47 = .ok (.iload_n 3, 1) := by decide +kernel
theorem dX6_lowestFrom_48 : decode cX6_lowestFrom 48 = .ok (.iconst 0, 1) := by decide +kernel
theorem dX6_lowestFrom_49 : decode cX6_lowestFrom 49 = .ok (.invokestatic 36, 3) := by decide +kernel
theorem dX6_lowestFrom_52 : decode cX6_lowestFrom 52 = .ok (.aload_n 0, 1) := by decide +kernel
theorem dX6_lowestFrom_53 : decode cX6_lowestFrom 53 = .ok (.iload_n 2, 1) := by decide +kernel
theorem dX6_lowestFrom_54 : decode cX6_lowestFrom 54 = .ok (.iconst 0, 1) := by decide +kernel
theorem dX6_lowestFrom_55 : decode cX6_lowestFrom 55 = .ok (.invokestatic 36, 3) := by decide +kernel
theorem dX6_lowestFrom_58 : decode cX6_lowestFrom 58 = .ok (.if_icmp .ge 7, 3) := by decide +kernel
theorem dX6_lowestFrom_61 : decode cX6_lowestFrom 61 = .ok (.iload_n 3, 1) := by decide +kernel
theorem dX6_lowestFrom_62 : decode cX6_lowestFrom 62 = .ok (.goto 4, 3) := by decide +kernel
theorem dX6_lowestFrom_65 : decode cX6_lowestFrom 65 = .ok (.iload_n 2, 1) := by decide +kernel
theorem dX6_lowestFrom_66 : decode cX6_lowestFrom 66 = .ok (.istore_n 2, 1) := by decide +kernel
theorem dX6_lowestFrom_67 : decode cX6_lowestFrom 67 = .ok (.iinc 3 1, 3) := by decide +kernel
theorem dX6_lowestFrom_70 : decode cX6_lowestFrom 70 = .ok (.goto (-66), 3) := by decide +kernel
theorem dX6_lowestFrom_73 : decode cX6_lowestFrom 73 = .ok (.iload_n 2, 1) := by decide +kernel
theorem dX6_lowestFrom_74 : decode cX6_lowestFrom 74 = .ok (.ireturn, 1) := by decide +kernel
theorem dX6_together_0 : decode cX6_together 0 = .ok (.aload_n 0, 1) := by decide +kernel
theorem dX6_together_1 : decode cX6_together 1 = .ok (.iconst 0, 1) := by decide +kernel
theorem dX6_together_2 : decode cX6_together 2 = .ok (.putfield 25, 3) := by decide +kernel
theorem dX6_together_5 : decode cX6_together 5 = .ok (.aload_n 0, 1) := by decide +kernel
theorem dX6_together_6 : decode cX6_together 6 = .ok (.invokevirtual 78, 3) := by decide +kernel
theorem dX6_together_9 : decode cX6_together 9 = .ok (.iconst 0, 1) := by decide +kernel
theorem dX6_together_10 : decode cX6_together 10 = .ok (.istore_n 1, 1) := by decide +kernel
theorem dX6_together_11 : decode cX6_together 11 = .ok (.iconst 0, 1) := by decide +kernel
theorem dX6_together_12 : decode cX6_together 12 = .ok (.istore_n 2, 1) := by decide +kernel
theorem dX6_together_13 : decode cX6_together 13 = .ok (.aload_n 0, 1) := by decide +kernel
theorem dX6_together_14 : decode cX6_together 14 = .ok (.getfield 7, 3) := by decide +kernel
theorem dX6_together_17 : decode cX6_together 17 = .ok (.iconst 0, 1) := by decide +kernel
theorem dX6_together_18 : decode cX6_together 18 = .ok (.invokestatic 121, 3) := by decide +kernel
theorem dX6_together_21 : decode cX6_together 21 = .ok (.istore_n 3, 1) := by decide +kernel
theorem dX6_together_22 : decode cX6_together 22 = .ok (.iload_n 3, 1) := by decide +kernel
theorem dX6_together_23 : decode cX6_together 23 = .ok (.iconst (-1), 1) := by decide +kernel
theorem dX6_together_24 : decode cX6_together 24 = .ok (.if_icmp .eq 70, 3) := by decide +kernel
theorem dX6_together_27 : decode cX6_together 27 = .ok (.aload_n 0, 1) := by decide +kernel
theorem dX6_together_28 : decode cX6_together 28 = .ok (.getfield 7, 3) := by decide +kernel
theorem dX6_together_31 : decode cX6_together 31 = .ok (.iload_n 3, 1) := by decide +kernel
theorem dX6_together_32 : decode cX6_together 32 = .ok (.iconst 0, 1) := by decide +kernel
theorem dX6_together_33 : decode cX6_together 33 = .ok (.invokestatic 36, 3) := by decide +kernel
theorem dX6_together_36 : decode cX6_together 36 = .ok (.istore 4, 2) := by decide +kernel
theorem dX6_together_38 : decode cX6_together 38 = .ok (.iload 4, 2) := by decide +kernel
theorem dX6_together_40 : decode cX6_together 40 = .ok (.iload_n 2, 1) := by decide +kernel
theorem dX6_together_41 : decode cX6_together 41 = .ok (.if_icmp .eq 29, 3) := by decide +kernel
theorem dX6_together_44 : decode cX6_together 44 = .ok (.aload_n 0, 1) := by decide +kernel
theorem dX6_together_45 : decode cX6_together 45 = .ok (.getfield 7, 3) := by decide +kernel
theorem dX6_together_48 : decode cX6_together 48 = .ok (.iload 4, 2) := by decide +kernel
theorem dX6_together_50 : decode cX6_together 50 = .ok (.invokestatic 61, 3) := by decide +kernel
theorem dX6_together_53 : decode cX6_together 53 = .ok (.aload_n 0, 1) := by decide +kernel
theorem dX6_together_54 : decode cX6_together 54 = .ok (.getfield 7, 3) := by decide +kernel
theorem dX6_together_57 : decode cX6_together 57 = .ok (.bipush 70, 2) := by decide +kernel
theorem dX6_together_59 : decode cX6_together 59 = .ok (.iconst 5, 1) := by decide +kernel
theorem dX6_together_60 : decode cX6_together 60 = .ok (.iload_n 3, 1) := by decide +kernel
theorem dX6_together_61 : decode cX6_together 61 = .ok (.imul, 1) := by decide +kernel
theorem dX6_together_62 : decode cX6_together 62 = .ok (.iadd, 1) := by decide +kernel
theorem dX6_together_63 : decode cX6_together 63 = .ok (.iconst 0, 1) := by decide +kernel
theorem dX6_together_64 : decode cX6_together 64 = .ok (.iadd, 1) := by decide +kernel
theorem dX6_together_65 : decode cX6_together 65 = .ok (.iload_n 2, 1) := by decide +kernel
theorem dX6_together_66 : decode cX6_together 66 = .ok (.iastore, 1) := by decide +kernel
theorem dX6_together_67 : decode cX6_together 67 = .ok (.iinc 1 1, 3) := by decide +kernel
theorem dX6_together_70 : decode cX6_together 70 = .ok (.iload_n 2, 1) := by decide +kernel
theorem dX6_together_71 : decode cX6_together 71 = .ok (.aload_n 0, 1) := by decide +kernel
theorem dX6_together_72 : decode cX6_together 72 = .ok (.getfield 7, 3) := by decide +kernel
theorem dX6_together_75 : decode cX6_together 75 = .ok (.iload_n 3, 1) := by decide +kernel
theorem dX6_together_76 : decode cX6_together 76 = .ok (.iconst 1, 1) := by decide +kernel
theorem dX6_together_77 : decode cX6_together 77 = .ok (.invokestatic 36, 3) := by decide +kernel
theorem dX6_together_80 : decode cX6_together 80 = .ok (.iadd, 1) := by decide +kernel
theorem dX6_together_81 : decode cX6_together 81 = .ok (.istore_n 2, 1) := by decide +kernel
theorem dX6_together_82 : decode cX6_together 82 = .ok (.aload_n 0, 1) := by decide +kernel
theorem dX6_together_83 : decode cX6_together 83 = .ok (.getfield 7, 3) := by decide +kernel
theorem dX6_together_86 : decode cX6_together 86 = .ok (.iload_n 2, 1) := by decide +kernel
theorem dX6_together_87 : decode cX6_together 87 = .ok (.invokestatic 121, 3) := by decide +kernel
theorem dX6_together_90 : decode cX6_together 90 = .ok (.istore_n 3, 1) := by decide +kernel
theorem dX6_together_91 : decode cX6_together 91 = .ok (.goto (-69), 3) := by decide +kernel
theorem dX6_together_94 : decode cX6_together 94 = .ok (.aload_n 0, 1) := by decide +kernel
theorem dX6_together_95 : decode cX6_together 95 = .ok (.getfield 7, 3) := by decide +kernel
theorem dX6_together_98 : decode cX6_together 98 = .ok (.iconst 5, 1) := by decide +kernel
theorem dX6_together_99 : decode cX6_together 99 = .ok (.dup2, 1) := by decide +kernel
theorem dX6_together_100 : decode cX6_together 100 = .ok (.iaload, 1) := by decide +kernel
theorem dX6_together_101 : decode cX6_together 101 = .ok (.iload_n 1, 1) := by decide +kernel
theorem dX6_together_102 : decode cX6_together 102 = .ok (.iadd, 1) := by decide +kernel
theorem dX6_together_103 : decode cX6_together 103 = .ok (.iastore, 1) := by decide +kernel
theorem dX6_together_104 : decode cX6_together 104 = .ok (.iload_n 1, 1) := by decide +kernel
theorem dX6_together_105 : decode cX6_together 105 = .ok (.ireturn, 1) := by decide +kernel
theorem dX6_append_0 : decode cX6_append 0 = .ok (.aload_n 0, 1) := by decide +kernel
theorem dX6_append_1 : decode cX6_append 1 = .ok (.iload_n 1, 1) := by decide +kernel
theorem dX6_append_2 : decode cX6_append 2 = .ok (.bipush 33, 2) := by decide +kernel
theorem dX6_append_4 : decode cX6_append 4 = .ok (.bipush 126, 2) := by decide +kernel
theorem dX6_append_6 : decode cX6_append 6 = .ok (.invokestatic 44, 3) := by decide +kernel
theorem dX6_append_9 : decode cX6_append 9 = .ok (.ifCond .ne 7, 3) := by decide +kernel
theorem dX6_append_12 : decode cX6_append 12 = .ok (.iconst 1, 1) := by decide +kernel
theorem dX6_append_13 : decode cX6_append 13 = .ok (.goto 17, 3) := by decide +kernel
theorem dX6_append_16 : decode cX6_append 16 = .ok (.aload_n 0, 1) := by decide +kernel
theorem dX6_append_17 : decode cX6_append 17 = .ok (.getfield 124, 3) := by decide +kernel
theorem dX6_append_20 : decode cX6_append 20 = .ok (.bipush 60, 2) := by decide +kernel
theorem dX6_append_22 : decode cX6_append 22 = .ok (.if_icmp .ne 7, 3) := by decide +kernel
theorem dX6_append_25 : decode cX6_append 25 = .ok (.iconst 2, 1) := by decide +kernel
theorem dX6_append_26 : decode cX6_append 26 = .ok (.goto 4, 3) := by decide +kernel
theorem dX6_append_29 : decode cX6_append 29 = .ok (.iconst 0, 1) := by decide +kernel
theorem dX6_append_30 : decode cX6_append 30 = .ok (.invokevirtual 74, 3) := by decide +kernel
theorem dX6_append_33 : decode cX6_append 33 = .ok (.ifCond .eq 5, 3) := by decide +kernel
theorem dX6_append_36 : decode cX6_append 36 = .ok (.iconst 0, 1) := by decide +kernel
theorem dX6_append_37 : decode cX6_append 37 = .ok (.ireturn, 1) := by decide +kernel
theorem dX6_append_38 : decode cX6_append 38 = .ok (.aload_n 0, 1) := by decide +kernel
theorem dX6_append_39 : decode cX6_append 39 = .ok (.getfield 19, 3) := by decide +kernel
theorem dX6_append_42 : decode cX6_append 42 = .ok (.aload_n 0, 1) := by decide +kernel
theorem dX6_append_43 : decode cX6_append 43 = .ok (.getfield 124, 3) := by decide +kernel
theorem dX6_append_46 : decode cX6_append 46 = .ok (.iload_n 1, 1) := by decide +kernel
theorem dX6_append_47 : decode cX6_append 47 = .ok (.iastore, 1) := by decide +kernel
theorem dX6_append_48 : decode cX6_append 48 = .ok (.aload_n 0, 1) := by decide +kernel
theorem dX6_append_49 : decode cX6_append 49 = .ok (.dup, 1) := by decide +kernel
theorem dX6_append_50 : decode cX6_append 50 = .ok (.getfield 124, 3) := by decide +kernel
theorem dX6_append_53 : decode cX6_append 53 = .ok (.iconst 1, 1) := by decide +kernel
theorem dX6_append_54 : decode cX6_append 54 = .ok (.iadd, 1) := by decide +kernel
theorem dX6_append_55 : decode cX6_append 55 = .ok (.putfield 124, 3) := by decide +kernel
theorem dX6_append_58 : decode cX6_append 58 = .ok (.aload_n 0, 1) := by decide +kernel
theorem dX6_append_59 : decode cX6_append 59 = .ok (.getfield 124, 3) := by decide +kernel
theorem dX6_append_62 : decode cX6_append 62 = .ok (.ireturn, 1) := by decide +kernel
theorem dX6_clearBuffer_0 : decode cX6_clearBuffer 0 = .ok (.aload_n 0, 1) := by decide +kernel
theorem dX6_clearBuffer_1 : decode cX6_clearBuffer 1 = .ok (.iconst 0, 1) := by decide +kernel
theorem dX6_clearBuffer_2 : decode cX6_clearBuffer 2 = .ok (.putfield 25, 3) := by decide +kernel
theorem dX6_clearBuffer_5 : decode cX6_clearBuffer 5 = .ok (.aload_n 0, 1) := by decide +kernel
theorem dX6_clearBuffer_6 : decode cX6_clearBuffer 6 = .ok (.getfield 124, 3) := by decide +kernel
theorem dX6_clearBuffer_9 : decode cX6_clearBuffer 9 = .ok (.istore_n 1, 1) := by decide +kernel
theorem dX6_clearBuffer_10 : decode cX6_clearBuffer 10 = .ok (.aload_n 0, 1) := by decide +kernel
theorem dX6_clearBuffer_11 : decode cX6_clearBuffer 11 = .ok (.iconst 0, 1) := by decide +kernel
theorem dX6_clearBuffer_12 : decode cX6_clearBuffer 12 = .ok (.putfield 124, 3) := by decide +kernel
theorem dX6_clearBuffer_15 : decode cX6_clearBuffer 15 = .ok (.iload_n 1, 1) := by decide +kernel
theorem dX6_clearBuffer_16 : decode cX6_clearBuffer 16 = .ok (.ireturn, 1) := by decide +kernel
theorem dX6_sees_0 : decode cX6_sees 0 = .ok (.aload_n 0, 1) := by decide +kernel
theorem dX6_sees_1 : decode cX6_sees 1 = .ok (.getfield 127, 3) := by decide +kernel
theorem dX6_sees_4 : decode cX6_sees 4 = .ok (.aload_n 0, 1) := by decide +kernel
theorem dX6_sees_5 : decode cX6_sees 5 = .ok (.getfield 124, 3) := by decide +kernel
theorem dX6_sees_8 : decode cX6_sees 8 = .ok (.if_icmp .ge 24, 3) := by decide +kernel
theorem dX6_sees_11 : decode cX6_sees 11 = .ok (.aload_n 0, 1) := by decide +kernel
theorem dX6_sees_12 : decode cX6_sees 12 = .ok (.getfield 19, 3) := by decide +kernel
theorem dX6_sees_15 : decode cX6_sees 15 = .ok (.aload_n 0, 1) := by decide +kernel
theorem dX6_sees_16 : decode cX6_sees 16 = .ok (.getfield 127, 3) := by decide +kernel
theorem dX6_sees_19 : decode cX6_sees 19 = .ok (.iaload, 1) := by decide +kernel
theorem dX6_sees_20 : decode cX6_sees 20 = .ok (.iload_n 1, 1) := by decide +kernel
theorem dX6_sees_21 : decode cX6_sees 21 = .ok (.iload_n 2, 1) := by decide +kernel
theorem dX6_sees_22 : decode cX6_sees 22 = .ok (.invokestatic 44, 3) := by decide +kernel
theorem dX6_sees_25 : decode cX6_sees 25 = .ok (.ifCond .eq 7, 3) := by decide +kernel
theorem dX6_sees_28 : decode cX6_sees 28 = .ok (.iconst 1, 1) := by decide +kernel
theorem dX6_sees_29 : decode cX6_sees 29 = .ok (.goto 4, 3) := by decide +kernel
theorem dX6_sees_32 : decode cX6_sees 32 = .ok (.iconst 0, 1) := by decide +kernel
theorem dX6_sees_33 : decode cX6_sees 33 = .ok (.ireturn, 1) := by decide +kernel
theorem dX6_takes_0 : decode cX6_takes 0 = .ok (.aload_n 0, 1) := by decide +kernel
theorem dX6_takes_1 : decode cX6_takes 1 = .ok (.iload_n 1, 1) := by decide +kernel
theorem dX6_takes_2 : decode cX6_takes 2 = .ok (.iload_n 1, 1) := by decide +kernel
theorem dX6_takes_3 : decode cX6_takes 3 = .ok (.invokevirtual 130, 3) := by decide +kernel
theorem dX6_takes_6 : decode cX6_takes 6 = .ok (.istore_n 2, 1) := by decide +kernel
theorem dX6_takes_7 : decode cX6_takes 7 = .ok (.aload_n 0, 1) := by decide +kernel
theorem dX6_takes_8 : decode cX6_takes 8 = .ok (.dup, 1) := by decide +kernel
theorem dX6_takes_9 : decode cX6_takes 9 = .ok (.getfield 127, 3) := by decide +kernel
theorem dX6_takes_12 : decode cX6_takes 12 = .ok (.iload_n 2, 1) := by decide +kernel
theorem dX6_takes_13 : decode cX6_takes 13 = .ok (.ifCond .eq 7, 3) := by decide +kernel
theorem dX6_takes_16 : decode cX6_takes 16 = .ok (.iconst 1, 1) := by decide +kernel
theorem dX6_takes_17 : decode cX6_takes 17 = .ok (.goto 4, 3) := by decide +kernel
theorem dX6_takes_20 : decode cX6_takes 20 = .ok (.iconst 0, 1) := by decide +kernel
theorem dX6_takes_21 : decode cX6_takes 21 = .ok (.iadd, 1) := by decide +kernel
theorem dX6_takes_22 : decode cX6_takes 22 = .ok (.putfield 127, 3) := by decide +kernel
theorem dX6_takes_25 : decode cX6_takes 25 = .ok (.iload_n 2, 1) := by decide +kernel
theorem dX6_takes_26 : decode cX6_takes 26 = .ok (.ireturn, 1) := by decide +kernel
theorem dX6_isNumber_0 : decode cX6_isNumber 0 = .ok (.aload_n 0, 1) := by decide +kernel
theorem dX6_isNumber_1 : decode cX6_isNumber 1 = .ok (.bipush 48, 2) := by decide +kernel
theorem dX6_isNumber_3 : decode cX6_isNumber 3 = .ok (.iload_n 2, 1) := by decide +kernel
theorem dX6_isNumber_4 : decode cX6_isNumber 4 = .ok (.iadd, 1) := by decide +kernel
theorem dX6_isNumber_5 : decode cX6_isNumber 5 = .ok (.bipush 48, 2) := by decide +kernel
theorem dX6_isNumber_7 : decode cX6_isNumber 7 = .ok (.iload_n 3, 1) := by decide +kernel
theorem dX6_isNumber_8 : decode cX6_isNumber 8 = .ok (.bipush 9, 2) := by decide +kernel
theorem dX6_isNumber_10 : decode cX6_isNumber 10 = .ok (.if_icmp .ge 7, 3) := by decide +kernel
theorem dX6_isNumber_13 : decode cX6_isNumber 13 = .ok (.iload_n 3, 1) := by decide +kernel
theorem dX6_isNumber_14 : decode cX6_isNumber 14 = .ok (.goto 5, 3) := by decide +kernel
theorem dX6_isNumber_17 : decode cX6_isNumber 17 = .ok (.bipush 9, 2) := by decide +kernel
theorem dX6_isNumber_19 : decode cX6_isNumber 19 = .ok (.iadd, 1) := by decide +kernel
theorem dX6_isNumber_20 : decode cX6_isNumber 20 = .ok (.invokevirtual 130, 3) := by decide +kernel
theorem dX6_isNumber_23 : decode cX6_isNumber 23 = .ok (.ifCond .ne 5, 3) := by decide +kernel
theorem dX6_isNumber_26 : decode cX6_isNumber 26 = .ok (.iconst 0, 1) := by decide +kernel
theorem dX6_isNumber_27 : decode cX6_isNumber 27 = .ok (.ireturn, 1) := by decide +kernel
theorem dX6_isNumber_28 : decode cX6_isNumber 28 = .ok (.aload_n 0, 1) := by decide +kernel
theorem dX6_isNumber_29 : decode cX6_isNumber 29 = .ok (.getfield 19, 3) := by decide +kernel
theorem dX6_isNumber_32 : decode cX6_isNumber 32 = .ok (.aload_n 0, 1) := by decide +kernel
theorem dX6_isNumber_33 : decode cX6_isNumber 33 = .ok (.getfield 127, 3) := by decide +kernel
theorem dX6_isNumber_36 : decode cX6_isNumber 36 = .ok (.iaload, 1) := by decide +kernel
theorem dX6_isNumber_37 : decode cX6_isNumber 37 = .ok (.bipush 48, 2) := by decide +kernel
theorem dX6_isNumber_39 : decode cX6_isNumber 39 = .ok (.isub, 1) := by decide +kernel
theorem dX6_isNumber_40 : decode cX6_isNumber 40 = .ok (.istore 4, 2) := by decide +kernel
theorem dX6_isNumber_42 : decode cX6_isNumber 42 = .ok (.aload_n 0, 1) := by decide +kernel
theorem dX6_isNumber_43 : decode cX6_isNumber 43 = .ok (.dup, 1) := by decide +kernel
theorem dX6_isNumber_44 : decode cX6_isNumber 44 = .ok (.getfield 127, 3) := by decide +kernel
theorem dX6_isNumber_47 : decode cX6_isNumber 47 = .ok (.iconst 1, 1) := by decide +kernel
theorem dX6_isNumber_48 : decode cX6_isNumber 48 = .ok (.iadd, 1) := by decide +kernel
theorem dX6_isNumber_49 : decode cX6_isNumber 49 = .ok (.putfield 127, 3) := by decide +kernel
theorem dX6_isNumber_52 : decode cX6_isNumber 52 = .ok (.iload 4, 2) := by decide +kernel
theorem dX6_isNumber_54 : decode cX6_isNumber 54 = .ok (.ifCond .le 69, 3) := by decide +kernel
theorem dX6_isNumber_57 : decode cX6_isNumber 57 = .ok (.aload_n 0, 1) := by decide +kernel
theorem dX6_isNumber_58 : decode cX6_isNumber 58 = .ok (.bipush 48, 2) := by decide +kernel
theorem dX6_isNumber_60 : decode cX6_isNumber 60 = .ok (.bipush 57, 2) := by decide +kernel
theorem dX6_isNumber_62 : decode cX6_isNumber 62 = .ok (.invokevirtual 130, 3) := by decide +kernel
theorem dX6_isNumber_65 : decode cX6_isNumber 65 = .ok (.ifCond .eq 58, 3) := by decide +kernel
theorem dX6_isNumber_68 : decode cX6_isNumber 68 = .ok (.bipush 10, 2) := by decide +kernel
theorem dX6_isNumber_70 : decode cX6_isNumber 70 = .ok (.iload 4, 2) := by decide +kernel
theorem dX6_isNumber_72 : decode cX6_isNumber 72 = .ok (.imul, 1) := by decide +kernel
theorem dX6_isNumber_73 : decode cX6_isNumber 73 = .ok (.aload_n 0, 1) := by decide +kernel
theorem dX6_isNumber_74 : decode cX6_isNumber 74 = .ok (.getfield 19, 3) := by decide +kernel
theorem dX6_isNumber_77 : decode cX6_isNumber 77 = .ok (.aload_n 0, 1) := by decide +kernel
theorem dX6_isNumber_78 : decode cX6_isNumber 78 = .ok (.getfield 127, 3) := by decide +kernel
theorem dX6_isNumber_81 : decode cX6_isNumber 81 = .ok (.iaload, 1) := by decide +kernel
theorem dX6_isNumber_82 : decode cX6_isNumber 82 = .ok (.iadd, 1) := by decide +kernel
theorem dX6_isNumber_83 : decode cX6_isNumber 83 = .ok (.bipush 48, 2) := by decide +kernel
theorem dX6_isNumber_85 : decode cX6_isNumber 85 = .ok (.isub, 1) := by decide +kernel
theorem dX6_isNumber_86 : decode cX6_isNumber 86 = .ok (.iload_n 3, 1) := by decide +kernel
theorem dX6_isNumber_87 : decode cX6_isNumber 87 = .ok (.if_icmp .gt 36, 3) := by decide +kernel
theorem dX6_isNumber_90 : decode cX6_isNumber 90 = .ok (.bipush 10, 2) := by decide +kernel
theorem dX6_isNumber_92 : decode cX6_isNumber 92 = .ok (.iload 4, 2) := by decide +kernel
theorem dX6_isNumber_94 : decode cX6_isNumber 94 = .ok (.imul, 1) := by decide +kernel
theorem dX6_isNumber_95 : decode cX6_isNumber 95 = .ok (.aload_n 0, 1) := by decide +kernel
theorem dX6_isNumber_96 : decode cX6_isNumber 96 = .ok (.getfield 19, 3) := by decide +kernel
theorem dX6_isNumber_99 : decode cX6_isNumber 99 = .ok (.aload_n 0, 1) := by decide +kernel
theorem dX6_isNumber_100 : decode cX6_isNumber 100 = .ok (.getfield 127, 3) := by decide +kernel
theorem dX6_isNumber_103 : decode cX6_isNumber 103 = .ok (.iaload, 1) := by decide +kernel
theorem dX6_isNumber_104 : decode cX6_isNumber 104 = .ok (.iadd, 1) := by decide +kernel
theorem dX6_isNumber_105 : decode cX6_isNumber 105 = .ok (.bipush 48, 2) := by decide +kernel
theorem dX6_isNumber_107 : decode cX6_isNumber 107 = .ok (.isub, 1) := by decide +kernel
theorem dX6_isNumber_108 : decode cX6_isNumber 108 = .ok (.istore 4, 2) := by decide +kernel
theorem dX6_isNumber_110 : decode cX6_isNumber 110 = .ok (.aload_n 0, 1) := by decide +kernel
theorem dX6_isNumber_111 : decode cX6_isNumber 111 = .ok (.dup, 1) := by decide +kernel
theorem dX6_isNumber_112 : decode cX6_isNumber 112 = .ok (.getfield 127, 3) := by decide +kernel
theorem dX6_isNumber_115 : decode cX6_isNumber 115 = .ok (.iconst 1, 1) := by decide +kernel
theorem dX6_isNumber_116 : decode cX6_isNumber 116 = .ok (.iadd, 1) := by decide +kernel
theorem dX6_isNumber_117 : decode cX6_isNumber 117 = .ok (.putfield 127, 3) := by decide +kernel
theorem dX6_isNumber_120 : decode cX6_isNumber 120 = .ok (.goto (-68), 3) := by decide +kernel
theorem dX6_isNumber_123 : decode cX6_isNumber 123 = .ok (.aload_n 0, 1) := by decide +kernel
theorem dX6_isNumber_124 : decode cX6_isNumber 124 = .ok (.getfield 22, 3) := by decide +kernel
theorem dX6_isNumber_127 : decode cX6_isNumber 127 = .ok (.iconst 3, 1) := by decide +kernel
theorem dX6_isNumber_128 : decode cX6_isNumber 128 = .ok (.aload_n 0, 1) := by decide +kernel
theorem dX6_isNumber_129 : decode cX6_isNumber 129 = .ok (.getfield 134, 3) := by decide +kernel
theorem dX6_isNumber_132 : decode cX6_isNumber 132 = .ok (.imul, 1) := by decide +kernel
theorem dX6_isNumber_133 : decode cX6_isNumber 133 = .ok (.iload_n 1, 1) := by decide +kernel
theorem dX6_isNumber_134 : decode cX6_isNumber 134 = .ok (.iadd, 1) := by decide +kernel
theorem dX6_isNumber_135 : decode cX6_isNumber 135 = .ok (.iload 4, 2) := by decide +kernel
theorem dX6_isNumber_137 : decode cX6_isNumber 137 = .ok (.iastore, 1) := by decide +kernel
theorem dX6_isNumber_138 : decode cX6_isNumber 138 = .ok (.iconst 1, 1) := by decide +kernel
theorem dX6_isNumber_139 : decode cX6_isNumber 139 = .ok (.ireturn, 1) := by decide +kernel
theorem dX6_isThingTold_0 : decode cX6_isThingTold 0 = .ok (.aload_n 0, 1) := by decide +kernel
theorem dX6_isThingTold_1 : decode cX6_isThingTold 1 = .ok (.iconst 0, 1) := by decide +kernel
theorem dX6_isThingTold_2 : decode cX6_isThingTold 2 = .ok (.iconst 0, 1) := by decide +kernel
theorem dX6_isThingTold_3 : decode cX6_isThingTold 3 = .ok (.sipush 999, 3) := by decide +kernel
theorem dX6_isThingTold_6 : decode cX6_isThingTold 6 = .ok (.invokevirtual 137, 3) := by decide +kernel
theorem dX6_isThingTold_9 : decode cX6_isThingTold 9 = .ok (.ifCond .eq 22, 3) := by decide +kernel
theorem dX6_isThingTold_12 : decode cX6_isThingTold 12 = .ok (.aload_n 0, 1) := by decide +kernel
theorem dX6_isThingTold_13 : decode cX6_isThingTold 13 = .ok (.bipush 42, 2) := by decide +kernel
theorem dX6_isThingTold_15 : decode cX6_isThingTold 15 = .ok (.invokevirtual 140, 3) := by decide +kernel
theorem dX6_isThingTold_18 : decode cX6_isThingTold 18 = .ok (.ifCond .eq 13, 3) := by decide +kernel
theorem dX6_isThingTold_21 : decode cX6_isThingTold 21 = .ok (.aload_n 0, 1) := by decide +kernel
theorem dX6_isThingTold_22 : decode cX6_isThingTold 22 = .ok (.iconst 1, 1) := by decide +kernel
theorem dX6_isThingTold_23 : decode cX6_isThingTold 23 = .ok (.iconst 1, 1) := by decide +kernel
theorem dX6_isThingTold_24 : decode cX6_isThingTold 24 = .ok (.iconst 4, 1) := by decide +kernel
theorem dX6_isThingTold_25 : decode cX6_isThingTold 25 = .ok (.invokevirtual 137, 3) := by decide +kernel
theorem dX6_isThingTold_28 : decode cX6_isThingTold 28 = .ok (.ifCond .ne 5, 3) := by decide +kernel
theorem dX6_isThingTold_31 : decode cX6_isThingTold 31 = .ok (.iconst 0, 1) := by decide +kernel
theorem dX6_isThingTold_32 : decode cX6_isThingTold 32 = .ok (.ireturn, 1) := by decide +kernel
theorem dX6_isThingTold_33 : decode cX6_isThingTold 33 = .ok (.aload_n 0, 1) := by decide +kernel
theorem dX6_isThingTold_34 : decode cX6_isThingTold 34 = .ok (.getfield 22, 3) := by decide +kernel
theorem dX6_isThingTold_37 : decode cX6_isThingTold 37 = .ok (.iconst 3, 1) := by decide +kernel
theorem dX6_isThingTold_38 : decode cX6_isThingTold 38 = .ok (.aload_n 0, 1) := by decide +kernel
theorem dX6_isThingTold_39 : decode cX6_isThingTold 39 = .ok (.getfield 134, 3) := by decide +kernel
theorem dX6_isThingTold_42 : decode cX6_isThingTold 42 = .ok (.imul, 1) := by decide +kernel
theorem dX6_isThingTold_43 : decode cX6_isThingTold 43 = .ok (.iconst 2, 1) := by decide +kernel
theorem dX6_isThingTold_44 : decode cX6_isThingTold 44 = .ok (.iadd, 1) := by decide +kernel
theorem dX6_isThingTold_45 : decode cX6_isThingTold 45 = .ok (.aload_n 0, 1) := by decide +kernel
theorem dX6_isThingTold_46 : decode cX6_isThingTold 46 = .ok (.bipush 33, 2) := by decide +kernel
theorem dX6_isThingTold_48 : decode cX6_isThingTold 48 = .ok (.invokevirtual 140, 3) := by decide +kernel
theorem dX6_isThingTold_51 : decode cX6_isThingTold 51 = .ok (.ifCond .eq 7, 3) := by decide +kernel
theorem dX6_isThingTold_54 : decode cX6_isThingTold 54 = .ok (.iconst 1, 1) := by decide +kernel
theorem dX6_isThingTold_55 : decode cX6_isThingTold 55 = .ok (.goto 17, 3) := by decide +kernel
theorem dX6_isThingTold_58 : decode cX6_isThingTold 58 = .ok (.aload_n 0, 1) := by decide +kernel
theorem dX6_isThingTold_59 : decode cX6_isThingTold 59 = .ok (.bipush 43, 2) := by decide +kernel
theorem dX6_isThingTold_61 : decode cX6_isThingTold 61 = .ok (.invokevirtual 140, 3) := by decide +kernel
theorem dX6_isThingTold_64 : decode cX6_isThingTold 64 = .ok (.ifCond .eq 7, 3) := by decide +kernel
theorem dX6_isThingTold_67 : decode cX6_isThingTold 67 = .ok (.iconst 2, 1) := by decide +kernel
theorem dX6_isThingTold_68 : decode cX6_isThingTold 68 = .ok (.goto 4, 3) := by decide +kernel
theorem dX6_isThingTold_71 : decode cX6_isThingTold 71 = .ok (.iconst 0, 1) := by decide +kernel
theorem dX6_isThingTold_72 : decode cX6_isThingTold 72 = .ok (.iastore, 1) := by decide +kernel
theorem dX6_isThingTold_73 : decode cX6_isThingTold 73 = .ok (.iconst 1, 1) := by decide +kernel
theorem dX6_isThingTold_74 : decode cX6_isThingTold 74 = .ok (.ireturn, 1) := by decide +kernel
theorem dX6_isText_0 : decode cX6_isText 0 = .ok (.aload_n 0, 1) := by decide +kernel
theorem dX6_isText_1 : decode cX6_isText 1 = .ok (.iconst 0, 1) := by decide +kernel
theorem dX6_isText_2 : decode cX6_isText 2 = .ok (.putfield 127, 3) := by decide +kernel
theorem dX6_isText_5 : decode cX6_isText 5 = .ok (.aload_n 0, 1) := by decide +kernel
theorem dX6_isText_6 : decode cX6_isText 6 = .ok (.iconst 0, 1) := by decide +kernel
theorem dX6_isText_7 : decode cX6_isText 7 = .ok (.putfield 134, 3) := by decide +kernel
theorem dX6_isText_10 : decode cX6_isText 10 = .ok (.iconst 1, 1) := by decide +kernel
theorem dX6_isText_11 : decode cX6_isText 11 = .ok (.istore_n 1, 1) := by decide +kernel
theorem dX6_isText_12 : decode cX6_isText 12 = .ok (.iload_n 1, 1) := by decide +kernel
theorem dX6_isText_13 : decode cX6_isText 13 = .ok (.ifCond .eq 32, 3) := by decide +kernel
theorem dX6_isText_16 : decode cX6_isText 16 = .ok (.aload_n 0, 1) := by decide +kernel
theorem dX6_isText_17 : decode cX6_isText 17 = .ok (.invokevirtual 143, 3) := by decide +kernel
theorem dX6_isText_20 : decode cX6_isText 20 = .ok (.ifCond .ne 5, 3) := by decide +kernel
theorem dX6_isText_23 : decode cX6_isText 23 = .ok (.iconst 0, 1) := by decide +kernel
theorem dX6_isText_24 : decode cX6_isText 24 = .ok (.ireturn, 1) := by decide +kernel
theorem dX6_isText_25 : decode cX6_isText 25 = .ok (.aload_n 0, 1) := by decide +kernel
theorem dX6_isText_26 : decode cX6_isText 26 = .ok (.dup, 1) := by decide +kernel
theorem dX6_isText_27 : decode cX6_isText 27 = .ok (.getfield 134, 3) := by decide +kernel
theorem dX6_isText_30 : decode cX6_isText 30 = .ok (.iconst 1, 1) := by decide +kernel
theorem dX6_isText_31 : decode cX6_isText 31 = .ok (.iadd, 1) := by decide +kernel
theorem dX6_isText_32 : decode cX6_isText 32 = .ok (.putfield 134, 3) := by decide +kernel
theorem dX6_isText_35 : decode cX6_isText 35 = .ok (.aload_n 0, 1) := by decide +kernel
theorem dX6_isText_36 : decode cX6_isText 36 = .ok (.bipush 44, 2) := by decide +kernel
theorem dX6_isText_38 : decode cX6_isText 38 = .ok (.invokevirtual 140, 3) := by decide +kernel
theorem dX6_isText_41 : decode cX6_isText 41 = .ok (.istore_n 1, 1) := by decide +kernel
theorem dX6_isText_42 : decode cX6_isText 42 = .ok (.goto (-30), 3) := by decide +kernel
theorem dX6_isText_45 : decode cX6_isText 45 = .ok (.aload_n 0, 1) := by decide +kernel
theorem dX6_isText_46 : decode cX6_isText 46 = .ok (.getfield 127, 3) := by decide +kernel
theorem dX6_isText_49 : decode cX6_isText 49 = .ok (.aload_n 0, 1) := by decide +kernel
theorem dX6_isText_50 : decode cX6_isText 50 = .ok (.getfield 124, 3) := by decide +kernel
theorem dX6_isText_53 : decode cX6_isText 53 = .ok (.if_icmp .ne 7, 3) := by decide +kernel
theorem dX6_isText_56 : decode cX6_isText 56 = .ok (.iconst 1, 1) := by decide +kernel
theorem dX6_isText_57 : decode cX6_isText 57 = .ok (.goto 4, 3) := by decide +kernel
theorem dX6_isText_60 : decode cX6_isText 60 = .ok (.iconst 0, 1) := by decide +kernel
theorem dX6_isText_61 : decode cX6_isText 61 = .ok (.ireturn, 1) := by decide +kernel
theorem dX6_firstError_0 : decode cX6_firstError 0 = .ok (.aload_n 0, 1) := by decide +kernel
theorem dX6_firstError_1 : decode cX6_firstError 1 = .ok (.iconst 0, 1) := by decide +kernel
theorem dX6_firstError_2 : decode cX6_firstError 2 = .ok (.putfield 25, 3) := by decide +kernel
theorem dX6_firstError_5 : decode cX6_firstError 5 = .ok (.aload_n 0, 1) := by decide +kernel
theorem dX6_firstError_6 : decode cX6_firstError 6 = .ok (.invokevirtual 147, 3) := by decide +kernel
theorem dX6_firstError_9 : decode cX6_firstError 9 = .ok (.ifCond .eq 10, 3) := by decide +kernel
theorem dX6_firstError_12 : decode cX6_firstError 12 = .ok (.aload_n 0, 1) := by decide +kernel
theorem dX6_firstError_13 : decode cX6_firstError 13 = .ok (.getfield 124, 3) := by decide +kernel
theorem dX6_firstError_16 : decode cX6_firstError 16 = .ok (.goto 7, 3) := by decide +kernel
theorem dX6_firstError_19 : decode cX6_firstError 19 = .ok (.aload_n 0, 1) := by decide +kernel
theorem dX6_firstError_20 : decode cX6_firstError 20 = .ok (.getfield 127, 3) := by decide +kernel
theorem dX6_firstError_23 : decode cX6_firstError 23 = .ok (.ireturn, 1) := by decide +kernel
theorem dX6_putAll_0 : decode cX6_putAll 0 = .ok (.aload_n 0, 1) := by decide +kernel
theorem dX6_putAll_1 : decode cX6_putAll 1 = .ok (.aload_n 0, 1) := by decide +kernel
theorem dX6_putAll_2 : decode cX6_putAll 2 = .ok (.invokevirtual 147, 3) := by decide +kernel
theorem dX6_putAll_5 : decode cX6_putAll 5 = .ok (.ifCond .eq 7, 3) := by decide +kernel
theorem dX6_putAll_8 : decode cX6_putAll 8 = .ok (.iconst 0, 1) := by decide +kernel
theorem dX6_putAll_9 : decode cX6_putAll 9 = .ok (.goto 4, 3) := by decide +kernel
theorem dX6_putAll_12 : decode cX6_putAll 12 = .ok (.iconst 1, 1) := by decide +kernel
theorem dX6_putAll_13 : decode cX6_putAll 13 = .ok (.invokevirtual 74, 3) := by decide +kernel
theorem dX6_putAll_16 : decode cX6_putAll 16 = .ok (.ifCond .eq 5, 3) := by decide +kernel
theorem dX6_putAll_19 : decode cX6_putAll 19 = .ok (.iconst 0, 1) := by decide +kernel
theorem dX6_putAll_20 : decode cX6_putAll 20 = .ok (.ireturn, 1) := by decide +kernel
theorem dX6_putAll_21 : decode cX6_putAll 21 = .ok (.aload_n 0, 1) := by decide +kernel
theorem dX6_putAll_22 : decode cX6_putAll 22 = .ok (.invokevirtual 78, 3) := by decide +kernel
theorem dX6_putAll_25 : decode cX6_putAll 25 = .ok (.iconst 0, 1) := by decide +kernel
theorem dX6_putAll_26 : decode cX6_putAll 26 = .ok (.istore_n 1, 1) := by decide +kernel
theorem dX6_putAll_27 : decode cX6_putAll 27 = .ok (.iconst 0, 1) := by decide +kernel
theorem dX6_putAll_28 : decode cX6_putAll 28 = .ok (.istore_n 2, 1) := by decide +kernel
theorem dX6_putAll_29 : decode cX6_putAll 29 = .ok (.iload_n 2, 1) := by decide +kernel
theorem dX6_putAll_30 : decode cX6_putAll 30 = .ok (.aload_n 0, 1) := by decide +kernel
theorem dX6_putAll_31 : decode cX6_putAll 31 = .ok (.getfield 134, 3) := by decide +kernel
theorem dX6_putAll_34 : decode cX6_putAll 34 = .ok (.if_icmp .ge 62, 3) := by decide +kernel
theorem dX6_putAll_37 : decode cX6_putAll 37 = .ok (.iload_n 1, 1) := by decide +kernel
theorem dX6_putAll_38 : decode cX6_putAll 38 = .ok (.aload_n 0, 1) := by decide +kernel
theorem dX6_putAll_39 : decode cX6_putAll 39 = .ok (.getfield 7, 3) := by decide +kernel
theorem dX6_putAll_42 : decode cX6_putAll 42 = .ok (.aload_n 0, 1) := by decide +kernel
theorem dX6_putAll_43 : decode cX6_putAll 43 = .ok (.getfield 7, 3) := by decide +kernel
theorem dX6_putAll_46 : decode cX6_putAll 46 = .ok (.iconst 1, 1) := by decide +kernel
theorem dX6_putAll_47 : decode cX6_putAll 47 = .ok (.iaload, 1) := by decide +kernel
theorem dX6_putAll_48 : decode cX6_putAll 48 = .ok (.aload_n 0, 1) := by decide +kernel
theorem dX6_putAll_49 : decode cX6_putAll 49 = .ok (.getfield 22, 3) := by decide +kernel
theorem dX6_putAll_52 : decode cX6_putAll 52 = .ok (.iconst 3, 1) := by decide +kernel
theorem dX6_putAll_53 : decode cX6_putAll 53 = .ok (.iload_n 2, 1) := by decide +kernel
theorem dX6_putAll_54 : decode cX6_putAll 54 = .ok (.imul, 1) := by decide +kernel
theorem dX6_putAll_55 : decode cX6_putAll 55 = .ok (.iaload, 1) := by decide +kernel
theorem dX6_putAll_56 : decode cX6_putAll 56 = .ok (.aload_n 0, 1) := by decide +kernel
theorem dX6_putAll_57 : decode cX6_putAll 57 = .ok (.getfield 22, 3) := by decide +kernel
theorem dX6_putAll_60 : decode cX6_putAll 60 = .ok (.iconst 3, 1) := by decide +kernel
theorem dX6_putAll_61 : decode cX6_putAll 61 = .ok (.iload_n 2, 1) := by decide +kernel
theorem dX6_putAll_62 : decode cX6_putAll 62 = .ok (.imul, 1) := by decide +kernel
theorem dX6_putAll_63 : decode cX6_putAll 63 = .ok (.iconst 1, 1) := by decide +kernel
theorem dX6_putAll_64 : decode cX6_putAll 64 = .ok (.iadd, 1) := by decide +kernel
theorem dX6_putAll_65 : decode cX6_putAll 65 = .ok (.iaload, 1) := by decide +kernel
theorem dX6_putAll_66 : decode cX6_putAll 66 = .ok (.aload_n 0, 1) := by decide +kernel
theorem dX6_putAll_67 : decode cX6_putAll 67 = .ok (.getfield 22, 3) := by decide +kernel
theorem dX6_putAll_70 : decode cX6_putAll 70 = .ok (.iconst 3, 1) := by decide +kernel
theorem dX6_putAll_71 : decode cX6_putAll 71 = .ok (.iload_n 2, 1) := by decide +kernel
theorem dX6_putAll_72 : decode cX6_putAll 72 = .ok (.imul, 1) := by decide +kernel
theorem dX6_putAll_73 : decode cX6_putAll 73 = .ok (.iconst 2, 1) := by decide +kernel
theorem dX6_putAll_74 : decode cX6_putAll 74 = .ok (.iadd, 1) := by decide +kernel
theorem dX6_putAll_75 : decode cX6_putAll 75 = .ok (.iaload, 1) := by decide +kernel
theorem dX6_putAll_76 : decode cX6_putAll 76 = .ok (.invokestatic 81, 3) := by decide +kernel
theorem dX6_putAll_79 : decode cX6_putAll 79 = .ok (.iconst (-1), 1) := by decide +kernel
theorem dX6_putAll_80 : decode cX6_putAll 80 = .ok (.if_icmp .ne 7, 3) := by decide +kernel
theorem dX6_putAll_83 : decode cX6_putAll 83 = .ok (.iconst 0, 1) := by decide +kernel
theorem dX6_putAll_84 : decode cX6_putAll 84 = .ok (.goto 4, 3) := by decide +kernel
theorem dX6_putAll_87 : decode cX6_putAll 87 = .ok (.iconst 1, 1) := by decide +kernel
theorem dX6_putAll_88 : decode cX6_putAll 88 = .ok (.iadd, 1) := by decide +kernel
theorem dX6_putAll_89 : decode cX6_putAll 89 = .ok (.istore_n 1, 1) := by decide +kernel
theorem dX6_putAll_90 : decode cX6_putAll 90 = .ok (.iinc 2 1, 3) := by decide +kernel
theorem dX6_putAll_93 : decode cX6_putAll 93 = .ok (.goto (-64), 3) := by decide +kernel
theorem dX6_putAll_96 : decode cX6_putAll 96 = .ok (.aload_n 0, 1) := by decide +kernel
theorem dX6_putAll_97 : decode cX6_putAll 97 = .ok (.iconst 0, 1) := by decide +kernel
theorem dX6_putAll_98 : decode cX6_putAll 98 = .ok (.putfield 124, 3) := by decide +kernel
theorem dX6_putAll_101 : decode cX6_putAll 101 = .ok (.iload_n 1, 1) := by decide +kernel
theorem dX6_putAll_102 : decode cX6_putAll 102 = .ok (.ireturn, 1) := by decide +kernel
theorem dX6_undo_0 : decode cX6_undo 0 = .ok (.aload_n 0, 1) := by decide +kernel
theorem dX6_undo_1 : decode cX6_undo 1 = .ok (.aload_n 0, 1) := by decide +kernel
theorem dX6_undo_2 : decode cX6_undo 2 = .ok (.getfield 29, 3) := by decide +kernel
theorem dX6_undo_5 : decode cX6_undo 5 = .ok (.ifCond .ne 7, 3) := by decide +kernel
theorem dX6_undo_8 : decode cX6_undo 8 = .ok (.iconst 1, 1) := by decide +kernel
theorem dX6_undo_9 : decode cX6_undo 9 = .ok (.goto 4, 3) := by decide +kernel
theorem dX6_undo_12 : decode cX6_undo 12 = .ok (.iconst 0, 1) := by decide +kernel
theorem dX6_undo_13 : decode cX6_undo 13 = .ok (.invokevirtual 74, 3) := by decide +kernel
theorem dX6_undo_16 : decode cX6_undo 16 = .ok (.ifCond .eq 5, 3) := by decide +kernel
theorem dX6_undo_19 : decode cX6_undo 19 = .ok (.iconst 0, 1) := by decide +kernel
theorem dX6_undo_20 : decode cX6_undo 20 = .ok (.ireturn, 1) := by decide +kernel
theorem dX6_undo_21 : decode cX6_undo 21 = .ok (.aload_n 0, 1) := by decide +kernel
theorem dX6_undo_22 : decode cX6_undo 22 = .ok (.dup, 1) := by decide +kernel
theorem dX6_undo_23 : decode cX6_undo 23 = .ok (.getfield 29, 3) := by decide +kernel
theorem dX6_undo_26 : decode cX6_undo 26 = .ok (.iconst 1, 1) := by decide +kernel
theorem dX6_undo_27 : decode cX6_undo 27 = .ok (.isub, 1) := by decide +kernel
theorem dX6_undo_28 : decode cX6_undo 28 = .ok (.putfield 29, 3) := by decide +kernel
theorem dX6_undo_31 : decode cX6_undo 31 = .ok (.aload_n 0, 1) := by decide +kernel
theorem dX6_undo_32 : decode cX6_undo 32 = .ok (.getfield 16, 3) := by decide +kernel
theorem dX6_undo_35 : decode cX6_undo 35 = .ok (.sipush 414, 3) := by decide +kernel
theorem dX6_undo_38 : decode cX6_undo 38 = .ok (.aload_n 0, 1) := by decide +kernel
theorem dX6_undo_39 : decode cX6_undo 39 = .ok (.getfield 29, 3) := by decide +kernel
theorem dX6_undo_42 : decode cX6_undo 42 = .ok (.imul, 1) := by decide +kernel
theorem dX6_undo_43 : decode cX6_undo 43 = .ok (.aload_n 0, 1) := by decide +kernel
theorem dX6_undo_44 : decode cX6_undo 44 = .ok (.getfield 7, 3) := by decide +kernel
theorem dX6_undo_47 : decode cX6_undo 47 = .ok (.iconst 0, 1) := by decide +kernel
theorem dX6_undo_48 : decode cX6_undo 48 = .ok (.invokestatic 32, 3) := by decide +kernel
theorem dX6_undo_51 : decode cX6_undo 51 = .ok (.aload_n 0, 1) := by decide +kernel
theorem dX6_undo_52 : decode cX6_undo 52 = .ok (.getfield 29, 3) := by decide +kernel
theorem dX6_undo_55 : decode cX6_undo 55 = .ok (.ireturn, 1) := by decide +kernel
theorem dX6_refusal_0 : decode cX6_refusal 0 = .ok (.aload_n 0, 1) := by decide +kernel
theorem dX6_refusal_1 : decode cX6_refusal 1 = .ok (.iconst 0, 1) := by decide +kernel
theorem dX6_refusal_2 : decode cX6_refusal 2 = .ok (.putfield 25, 3) := by decide +kernel
theorem dX6_refusal_5 : decode cX6_refusal 5 = .ok (.aload_n 0, 1) := by decide +kernel
theorem dX6_refusal_6 : decode cX6_refusal 6 = .ok (.getfield 7, 3) := by decide +kernel
theorem dX6_refusal_9 : decode cX6_refusal 9 = .ok (.iload_n 1, 1) := by decide +kernel
theorem dX6_refusal_10 : decode cX6_refusal 10 = .ok (.invokestatic 85, 3) := by decide +kernel
theorem dX6_refusal_13 : decode cX6_refusal 13 = .ok (.ireturn, 1) := by decide +kernel
theorem dX6_placeOf_0 : decode cX6_placeOf 0 = .ok (.iconst 0, 1) := by decide +kernel
theorem dX6_placeOf_1 : decode cX6_placeOf 1 = .ok (.istore_n 2, 1) := by decide +kernel
theorem dX6_placeOf_2 : decode cX6_placeOf 2 = .ok (.iconst 0, 1) := by decide +kernel
theorem dX6_placeOf_3 : decode cX6_placeOf 3 = .ok (.istore_n 3, 1) := by decide +kernel
theorem dX6_placeOf_4 : decode cX6_placeOf 4 = .ok (.iload_n 3, 1) := by decide +kernel
theorem dX6_placeOf_5 : decode cX6_placeOf 5 = .ok (.iload_n 1, 1) := by decide +kernel
theorem dX6_placeOf_6 : decode cX6_placeOf 6 = .ok (.if_icmp .ge 28, 3) := by decide +kernel
theorem dX6_placeOf_9 : decode cX6_placeOf 9 = .ok (.iload_n 2, 1) := by decide +kernel
theorem dX6_placeOf_10 : decode cX6_placeOf 10 = .ok (.aload_n 0, 1) := by decide +kernel
theorem dX6_placeOf_11 : decode cX6_placeOf 11 = .ok (.getfield 7, 3) := by decide +kernel
theorem dX6_placeOf_14 : decode cX6_placeOf 14 = .ok (.iload_n 3, 1) := by decide +kernel
theorem dX6_placeOf_15 : decode cX6_placeOf 15 = .ok (.invokestatic 40, 3) := by decide +kernel
theorem dX6_placeOf_18 : decode cX6_placeOf 18 = .ok (.ifCond .eq 7, 3) := by decide +kernel
theorem dX6_placeOf_21 : decode cX6_placeOf 21 = .ok (.iconst 1, 1) := by decide +kernel
theorem dX6_placeOf_22 : decode cX6_placeOf 22 = .ok (.goto 4, 3) := by decide +kernel
theorem dX6_placeOf_25 : decode cX6_placeOf 25 = .ok (.iconst 0, 1) := by decide +kernel
theorem dX6_placeOf_26 : decode cX6_placeOf 26 = .ok (.iadd, 1) := by decide +kernel
theorem dX6_placeOf_27 : decode cX6_placeOf 27 = .ok (.istore_n 2, 1) := by decide +kernel
theorem dX6_placeOf_28 : decode cX6_placeOf 28 = .ok (.iinc 3 1, 3) := by decide +kernel
theorem dX6_placeOf_31 : decode cX6_placeOf 31 = .ok (.goto (-27), 3) := by decide +kernel
theorem dX6_placeOf_34 : decode cX6_placeOf 34 = .ok (.iload_n 2, 1) := by decide +kernel
theorem dX6_placeOf_35 : decode cX6_placeOf 35 = .ok (.ireturn, 1) := by decide +kernel
theorem dX6_ofThing_0 : decode cX6_ofThing 0 = .ok (.iload_n 2, 1) := by decide +kernel
theorem dX6_ofThing_1 : decode cX6_ofThing 1 = .ok (.tableswitch 81 0 4 #[35, 45, 55, 65, 75], 35) := by decide +kernel
theorem dX6_ofThing_36 : decode cX6_ofThing 36 = .ok (.aload_n 0, 1) := by decide +kernel
theorem dX6_ofThing_37 : decode cX6_ofThing 37 = .ok (.getfield 7, 3) := by decide +kernel
theorem dX6_ofThing_40 : decode cX6_ofThing 40 = .ok (.iload_n 1, 1) := by decide +kernel
theorem dX6_ofThing_41 : decode cX6_ofThing 41 = .ok (.iconst 2, 1) := by decide +kernel
theorem dX6_ofThing_42 : decode cX6_ofThing 42 = .ok (.invokestatic 36, 3) := by decide +kernel
theorem dX6_ofThing_45 : decode cX6_ofThing 45 = .ok (.ireturn, 1) := by decide +kernel
theorem dX6_ofThing_46 : decode cX6_ofThing 46 = .ok (.aload_n 0, 1) := by decide +kernel
theorem dX6_ofThing_47 : decode cX6_ofThing 47 = .ok (.getfield 7, 3) := by decide +kernel
theorem dX6_ofThing_50 : decode cX6_ofThing 50 = .ok (.iload_n 1, 1) := by decide +kernel
theorem dX6_ofThing_51 : decode cX6_ofThing 51 = .ok (.iconst 1, 1) := by decide +kernel
theorem dX6_ofThing_52 : decode cX6_ofThing 52 = .ok (.invokestatic 36, 3) := by decide +kernel
theorem dX6_ofThing_55 : decode cX6_ofThing 55 = .ok (.ireturn, 1) := by decide +kernel
theorem dX6_ofThing_56 : decode cX6_ofThing 56 = .ok (.aload_n 0, 1) := by decide +kernel
theorem dX6_ofThing_57 : decode cX6_ofThing 57 = .ok (.getfield 7, 3) := by decide +kernel
theorem dX6_ofThing_60 : decode cX6_ofThing 60 = .ok (.iload_n 1, 1) := by decide +kernel
theorem dX6_ofThing_61 : decode cX6_ofThing 61 = .ok (.iconst 3, 1) := by decide +kernel
theorem dX6_ofThing_62 : decode cX6_ofThing 62 = .ok (.invokestatic 36, 3) := by decide +kernel
theorem dX6_ofThing_65 : decode cX6_ofThing 65 = .ok (.ireturn, 1) := by decide +kernel
theorem dX6_ofThing_66 : decode cX6_ofThing 66 = .ok (.aload_n 0, 1) := by decide +kernel
theorem dX6_ofThing_67 : decode cX6_ofThing 67 = .ok (.getfield 7, 3) := by decide +kernel
theorem dX6_ofThing_70 : decode cX6_ofThing 70 = .ok (.iload_n 1, 1) := by decide +kernel
theorem dX6_ofThing_71 : decode cX6_ofThing 71 = .ok (.iconst 4, 1) := by decide +kernel
theorem dX6_ofThing_72 : decode cX6_ofThing 72 = .ok (.invokestatic 36, 3) := by decide +kernel
theorem dX6_ofThing_75 : decode cX6_ofThing 75 = .ok (.ireturn, 1) := by decide +kernel
theorem dX6_ofThing_76 : decode cX6_ofThing 76 = .ok (.aload_n 0, 1) := by decide +kernel
theorem dX6_ofThing_77 : decode cX6_ofThing 77 = .ok (.iload_n 1, 1) := by decide +kernel
theorem dX6_ofThing_78 : decode cX6_ofThing 78 = .ok (.invokevirtual 150, 3) := by decide +kernel
theorem dX6_ofThing_81 : decode cX6_ofThing 81 = .ok (.ireturn, 1) := by decide +kernel
theorem dX6_ofThing_82 : decode cX6_ofThing 82 = .ok (.aload_n 0, 1) := by decide +kernel
theorem dX6_ofThing_83 : decode cX6_ofThing 83 = .ok (.getfield 7, 3) := by decide +kernel
theorem dX6_ofThing_86 : decode cX6_ofThing 86 = .ok (.iload_n 1, 1) := by decide +kernel
theorem dX6_ofThing_87 : decode cX6_ofThing 87 = .ok (.invokestatic 65, 3) := by decide +kernel
theorem dX6_ofThing_90 : decode cX6_ofThing 90 = .ok (.ireturn, 1) := by decide +kernel
theorem dX6_thing_0 : decode cX6_thing 0 = .ok (.aload_n 0, 1) := by decide +kernel
theorem dX6_thing_1 : decode cX6_thing 1 = .ok (.aload_n 0, 1) := by decide +kernel
theorem dX6_thing_2 : decode cX6_thing 2 = .ok (.getfield 7, 3) := by decide +kernel
theorem dX6_thing_5 : decode cX6_thing 5 = .ok (.iload_n 1, 1) := by decide +kernel
theorem dX6_thing_6 : decode cX6_thing 6 = .ok (.invokestatic 85, 3) := by decide +kernel
theorem dX6_thing_9 : decode cX6_thing 9 = .ok (.ifCond .eq 7, 3) := by decide +kernel
theorem dX6_thing_12 : decode cX6_thing 12 = .ok (.iconst 1, 1) := by decide +kernel
theorem dX6_thing_13 : decode cX6_thing 13 = .ok (.goto 17, 3) := by decide +kernel
theorem dX6_thing_16 : decode cX6_thing 16 = .ok (.iload_n 2, 1) := by decide +kernel
theorem dX6_thing_17 : decode cX6_thing 17 = .ok (.iconst 0, 1) := by decide +kernel
theorem dX6_thing_18 : decode cX6_thing 18 = .ok (.iconst 5, 1) := by decide +kernel
theorem dX6_thing_19 : decode cX6_thing 19 = .ok (.invokestatic 44, 3) := by decide +kernel
theorem dX6_thing_22 : decode cX6_thing 22 = .ok (.ifCond .ne 7, 3) := by decide +kernel
theorem dX6_thing_25 : decode cX6_thing 25 = .ok (.iconst 2, 1) := by decide +kernel
theorem dX6_thing_26 : decode cX6_thing 26 = .ok (.goto 4, 3) := by decide +kernel
theorem dX6_thing_29 : decode cX6_thing 29 = .ok (.iconst 0, 1) := by decide +kernel
theorem dX6_thing_30 : decode cX6_thing 30 = .ok (.invokevirtual 74, 3) := by decide +kernel
theorem dX6_thing_33 : decode cX6_thing 33 = .ok (.ifCond .eq 5, 3) := by decide +kernel
theorem dX6_thing_36 : decode cX6_thing 36 = .ok (.iconst 0, 1) := by decide +kernel
theorem dX6_thing_37 : decode cX6_thing 37 = .ok (.ireturn, 1) := by decide +kernel
theorem dX6_thing_38 : decode cX6_thing 38 = .ok (.aload_n 0, 1) := by decide +kernel
theorem dX6_thing_39 : decode cX6_thing 39 = .ok (.aload_n 0, 1) := by decide +kernel
theorem dX6_thing_40 : decode cX6_thing 40 = .ok (.getfield 7, 3) := by decide +kernel
theorem dX6_thing_43 : decode cX6_thing 43 = .ok (.iload_n 1, 1) := by decide +kernel
theorem dX6_thing_44 : decode cX6_thing 44 = .ok (.sipush 1000, 3) := by decide +kernel
theorem dX6_thing_47 : decode cX6_thing 47 = .ok (.idiv, 1) := by decide +kernel
theorem dX6_thing_48 : decode cX6_thing 48 = .ok (.invokestatic 48, 3) := by decide +kernel
theorem dX6_thing_51 : decode cX6_thing 51 = .ok (.iload_n 2, 1) := by decide +kernel
theorem dX6_thing_52 : decode cX6_thing 52 = .ok (.invokevirtual 153, 3) := by decide +kernel
theorem dX6_thing_55 : decode cX6_thing 55 = .ok (.ireturn, 1) := by decide +kernel
theorem dX6_at_0 : decode cX6_at 0 = .ok (.aload_n 0, 1) := by decide +kernel
theorem dX6_at_1 : decode cX6_at 1 = .ok (.iload_n 1, 1) := by decide +kernel
theorem dX6_at_2 : decode cX6_at 2 = .ok (.ifCond .ge 7, 3) := by decide +kernel
theorem dX6_at_5 : decode cX6_at 5 = .ok (.iconst 1, 1) := by decide +kernel
theorem dX6_at_6 : decode cX6_at 6 = .ok (.goto 4, 3) := by decide +kernel
theorem dX6_at_9 : decode cX6_at 9 = .ok (.iconst 0, 1) := by decide +kernel
theorem dX6_at_10 : decode cX6_at 10 = .ok (.invokevirtual 74, 3) := by decide +kernel
theorem dX6_at_13 : decode cX6_at 13 = .ok (.ifCond .eq 5, 3) := by decide +kernel
theorem dX6_at_16 : decode cX6_at 16 = .ok (.iconst 0, 1) := by decide +kernel
theorem dX6_at_17 : decode cX6_at 17 = .ok (.ireturn, 1) := by decide +kernel
theorem dX6_at_18 : decode cX6_at 18 = .ok (.iconst 0, 1) := by decide +kernel
theorem dX6_at_19 : decode cX6_at 19 = .ok (.istore_n 2, 1) := by decide +kernel
theorem dX6_at_20 : decode cX6_at 20 = .ok (.iload_n 2, 1) := by decide +kernel
theorem dX6_at_21 : decode cX6_at 21 = .ok (.aload_n 0, 1) := by decide +kernel
theorem dX6_at_22 : decode cX6_at 22 = .ok (.getfield 7, 3) := by decide +kernel
theorem dX6_at_25 : decode cX6_at 25 = .ok (.iconst 1, 1) := by decide +kernel
theorem dX6_at_26 : decode cX6_at 26 = .ok (.iaload, 1) := by decide +kernel
theorem dX6_at_27 : decode cX6_at 27 = .ok (.if_icmp .ge 38, 3) := by decide +kernel
theorem dX6_at_30 : decode cX6_at 30 = .ok (.aload_n 0, 1) := by decide +kernel
theorem dX6_at_31 : decode cX6_at 31 = .ok (.getfield 7, 3) := by decide +kernel
theorem dX6_at_34 : decode cX6_at 34 = .ok (.iload_n 2, 1) := by decide +kernel
theorem dX6_at_35 : decode cX6_at 35 = .ok (.invokestatic 40, 3) := by decide +kernel
theorem dX6_at_38 : decode cX6_at 38 = .ok (.ifCond .eq 21, 3) := by decide +kernel
theorem dX6_at_41 : decode cX6_at 41 = .ok (.aload_n 0, 1) := by decide +kernel
theorem dX6_at_42 : decode cX6_at 42 = .ok (.iload_n 2, 1) := by decide +kernel
theorem dX6_at_43 : decode cX6_at 43 = .ok (.invokevirtual 150, 3) := by decide +kernel
theorem dX6_at_46 : decode cX6_at 46 = .ok (.iload_n 1, 1) := by decide +kernel
theorem dX6_at_47 : decode cX6_at 47 = .ok (.if_icmp .ne 12, 3) := by decide +kernel
theorem dX6_at_50 : decode cX6_at 50 = .ok (.aload_n 0, 1) := by decide +kernel
theorem dX6_at_51 : decode cX6_at 51 = .ok (.getfield 7, 3) := by decide +kernel
theorem dX6_at_54 : decode cX6_at 54 = .ok (.iload_n 2, 1) := by decide +kernel
theorem dX6_at_55 : decode cX6_at 55 = .ok (.invokestatic 101, 3) := by decide +kernel
theorem dX6_at_58 : decode cX6_at 58 = .ok (.ireturn, 1) := by decide +kernel
theorem dX6_at_59 : decode cX6_at 59 = .ok (.iinc 2 1, 3) := by decide +kernel
theorem dX6_at_62 : decode cX6_at 62 = .ok (.goto (-42), 3) := by decide +kernel
theorem dX6_at_65 : decode cX6_at 65 = .ok (.iconst (-1), 1) := by decide +kernel
theorem dX6_at_66 : decode cX6_at 66 = .ok (.ireturn, 1) := by decide +kernel
theorem dX6_ofCell_0 : decode cX6_ofCell 0 = .ok (.aload_n 0, 1) := by decide +kernel
theorem dX6_ofCell_1 : decode cX6_ofCell 1 = .ok (.getfield 7, 3) := by decide +kernel
theorem dX6_ofCell_4 : decode cX6_ofCell 4 = .ok (.iload_n 1, 1) := by decide +kernel
theorem dX6_ofCell_5 : decode cX6_ofCell 5 = .ok (.invokestatic 48, 3) := by decide +kernel
theorem dX6_ofCell_8 : decode cX6_ofCell 8 = .ok (.istore_n 2, 1) := by decide +kernel
theorem dX6_ofCell_9 : decode cX6_ofCell 9 = .ok (.iload_n 2, 1) := by decide +kernel
theorem dX6_ofCell_10 : decode cX6_ofCell 10 = .ok (.iconst (-1), 1) := by decide +kernel
theorem dX6_ofCell_11 : decode cX6_ofCell 11 = .ok (.if_icmp .ne 7, 3) := by decide +kernel
theorem dX6_ofCell_14 : decode cX6_ofCell 14 = .ok (.iconst (-1), 1) := by decide +kernel
theorem dX6_ofCell_15 : decode cX6_ofCell 15 = .ok (.goto 11, 3) := by decide +kernel
theorem dX6_ofCell_18 : decode cX6_ofCell 18 = .ok (.aload_n 0, 1) := by decide +kernel
theorem dX6_ofCell_19 : decode cX6_ofCell 19 = .ok (.getfield 7, 3) := by decide +kernel
theorem dX6_ofCell_22 : decode cX6_ofCell 22 = .ok (.iload_n 2, 1) := by decide +kernel
theorem dX6_ofCell_23 : decode cX6_ofCell 23 = .ok (.invokestatic 101, 3) := by decide +kernel
theorem dX6_ofCell_26 : decode cX6_ofCell 26 = .ok (.ireturn, 1) := by decide +kernel
theorem dX6_cell_0 : decode cX6_cell 0 = .ok (.aload_n 0, 1) := by decide +kernel
theorem dX6_cell_1 : decode cX6_cell 1 = .ok (.iload_n 1, 1) := by decide +kernel
theorem dX6_cell_2 : decode cX6_cell 2 = .ok (.iconst 0, 1) := by decide +kernel
theorem dX6_cell_3 : decode cX6_cell 3 = .ok (.aload_n 0, 1) := by decide +kernel
theorem dX6_cell_4 : decode cX6_cell 4 = .ok (.getfield 7, 3) := by decide +kernel
theorem dX6_cell_7 : decode cX6_cell 7 = .ok (.iconst 0, 1) := by decide +kernel
theorem dX6_cell_8 : decode cX6_cell 8 = .ok (.iaload, 1) := by decide +kernel
theorem dX6_cell_9 : decode cX6_cell 9 = .ok (.iconst 1, 1) := by decide +kernel
theorem dX6_cell_10 : decode cX6_cell 10 = .ok (.isub, 1) := by decide +kernel
theorem dX6_cell_11 : decode cX6_cell 11 = .ok (.invokestatic 44, 3) := by decide +kernel
theorem dX6_cell_14 : decode cX6_cell 14 = .ok (.ifCond .ne 7, 3) := by decide +kernel
theorem dX6_cell_17 : decode cX6_cell 17 = .ok (.iconst 1, 1) := by decide +kernel
theorem dX6_cell_18 : decode cX6_cell 18 = .ok (.goto 17, 3) := by decide +kernel
theorem dX6_cell_21 : decode cX6_cell 21 = .ok (.iload_n 2, 1) := by decide +kernel
theorem dX6_cell_22 : decode cX6_cell 22 = .ok (.iconst 0, 1) := by decide +kernel
theorem dX6_cell_23 : decode cX6_cell 23 = .ok (.iconst 1, 1) := by decide +kernel
theorem dX6_cell_24 : decode cX6_cell 24 = .ok (.invokestatic 44, 3) := by decide +kernel
theorem dX6_cell_27 : decode cX6_cell 27 = .ok (.ifCond .ne 7, 3) := by decide +kernel
theorem dX6_cell_30 : decode cX6_cell 30 = .ok (.iconst 2, 1) := by decide +kernel
theorem dX6_cell_31 : decode cX6_cell 31 = .ok (.goto 4, 3) := by decide +kernel
theorem dX6_cell_34 : decode cX6_cell 34 = .ok (.iconst 0, 1) := by decide +kernel
theorem dX6_cell_35 : decode cX6_cell 35 = .ok (.invokevirtual 74, 3) := by decide +kernel
theorem dX6_cell_38 : decode cX6_cell 38 = .ok (.ifCond .eq 5, 3) := by decide +kernel
theorem dX6_cell_41 : decode cX6_cell 41 = .ok (.iconst 0, 1) := by decide +kernel
theorem dX6_cell_42 : decode cX6_cell 42 = .ok (.ireturn, 1) := by decide +kernel
theorem dX6_cell_43 : decode cX6_cell 43 = .ok (.iload_n 2, 1) := by decide +kernel
theorem dX6_cell_44 : decode cX6_cell 44 = .ok (.ifCond .ne 15, 3) := by decide +kernel
theorem dX6_cell_47 : decode cX6_cell 47 = .ok (.aload_n 0, 1) := by decide +kernel
theorem dX6_cell_48 : decode cX6_cell 48 = .ok (.getfield 7, 3) := by decide +kernel
theorem dX6_cell_51 : decode cX6_cell 51 = .ok (.bipush 6, 2) := by decide +kernel
theorem dX6_cell_53 : decode cX6_cell 53 = .ok (.iload_n 1, 1) := by decide +kernel
theorem dX6_cell_54 : decode cX6_cell 54 = .ok (.iadd, 1) := by decide +kernel
theorem dX6_cell_55 : decode cX6_cell 55 = .ok (.iaload, 1) := by decide +kernel
theorem dX6_cell_56 : decode cX6_cell 56 = .ok (.goto 8, 3) := by decide +kernel
theorem dX6_cell_59 : decode cX6_cell 59 = .ok (.aload_n 0, 1) := by decide +kernel
theorem dX6_cell_60 : decode cX6_cell 60 = .ok (.iload_n 1, 1) := by decide +kernel
theorem dX6_cell_61 : decode cX6_cell 61 = .ok (.invokevirtual 157, 3) := by decide +kernel
theorem dX6_cell_64 : decode cX6_cell 64 = .ok (.ireturn, 1) := by decide +kernel
theorem dX6_behind_0 : decode cX6_behind 0 = .ok (.aload_n 0, 1) := by decide +kernel
theorem dX6_behind_1 : decode cX6_behind 1 = .ok (.getfield 7, 3) := by decide +kernel
theorem dX6_behind_4 : decode cX6_behind 4 = .ok (.sipush 410, 3) := by decide +kernel
theorem dX6_behind_7 : decode cX6_behind 7 = .ok (.iload_n 1, 1) := by decide +kernel
theorem dX6_behind_8 : decode cX6_behind 8 = .ok (.iadd, 1) := by decide +kernel
theorem dX6_behind_9 : decode cX6_behind 9 = .ok (.iaload, 1) := by decide +kernel
theorem dX6_behind_10 : decode cX6_behind 10 = .ok (.istore_n 2, 1) := by decide +kernel
theorem dX6_behind_11 : decode cX6_behind 11 = .ok (.iload_n 2, 1) := by decide +kernel
theorem dX6_behind_12 : decode cX6_behind 12 = .ok (.bipush 99, 2) := by decide +kernel
theorem dX6_behind_14 : decode cX6_behind 14 = .ok (.if_icmp .ne 7, 3) := by decide +kernel
theorem dX6_behind_17 : decode cX6_behind 17 = .ok (.iconst 0, 1) := by decide +kernel
theorem dX6_behind_18 : decode cX6_behind 18 = .ok (.goto 26, 3) := by decide +kernel
theorem dX6_behind_21 : decode cX6_behind 21 = .ok (.aload_n 0, 1) := by decide +kernel
theorem dX6_behind_22 : decode cX6_behind 22 = .ok (.getfield 7, 3) := by decide +kernel
theorem dX6_behind_25 : decode cX6_behind 25 = .ok (.invokestatic 111, 3) := by decide +kernel
theorem dX6_behind_28 : decode cX6_behind 28 = .ok (.aload_n 0, 1) := by decide +kernel
theorem dX6_behind_29 : decode cX6_behind 29 = .ok (.iload_n 2, 1) := by decide +kernel
theorem dX6_behind_30 : decode cX6_behind 30 = .ok (.ifCond .ge 7, 3) := by decide +kernel
theorem dX6_behind_33 : decode cX6_behind 33 = .ok (.iconst 0, 1) := by decide +kernel
theorem dX6_behind_34 : decode cX6_behind 34 = .ok (.goto 6, 3) := by decide +kernel
theorem dX6_behind_37 : decode cX6_behind 37 = .ok (.iload_n 2, 1) := by decide +kernel
theorem dX6_behind_38 : decode cX6_behind 38 = .ok (.iconst 1, 1) := by decide +kernel
theorem dX6_behind_39 : decode cX6_behind 39 = .ok (.iadd, 1) := by decide +kernel
theorem dX6_behind_40 : decode cX6_behind 40 = .ok (.invokevirtual 150, 3) := by decide +kernel
theorem dX6_behind_43 : decode cX6_behind 43 = .ok (.isub, 1) := by decide +kernel
theorem dX6_behind_44 : decode cX6_behind 44 = .ok (.ireturn, 1) := by decide +kernel
theorem dX6_ofWalker_0 : decode cX6_ofWalker 0 = .ok (.iload_n 2, 1) := by decide +kernel
theorem dX6_ofWalker_1 : decode cX6_ofWalker 1 = .ok (.ifCond .ne 14, 3) := by decide +kernel
theorem dX6_ofWalker_4 : decode cX6_ofWalker 4 = .ok (.aload_n 0, 1) := by decide +kernel
theorem dX6_ofWalker_5 : decode cX6_ofWalker 5 = .ok (.getfield 7, 3) := by decide +kernel
theorem dX6_ofWalker_8 : decode cX6_ofWalker 8 = .ok (.iload_n 1, 1) := by decide +kernel
theorem dX6_ofWalker_9 : decode cX6_ofWalker 9 = .ok (.invokestatic 94, 3) := by decide +kernel
theorem dX6_ofWalker_12 : decode cX6_ofWalker 12 = .ok (.goto 21, 3) := by decide +kernel
theorem dX6_ofWalker_15 : decode cX6_ofWalker 15 = .ok (.iload_n 2, 1) := by decide +kernel
theorem dX6_ofWalker_16 : decode cX6_ofWalker 16 = .ok (.iconst 1, 1) := by decide +kernel
theorem dX6_ofWalker_17 : decode cX6_ofWalker 17 = .ok (.if_icmp .ne 11, 3) := by decide +kernel
theorem dX6_ofWalker_20 : decode cX6_ofWalker 20 = .ok (.aload_n 0, 1) := by decide +kernel
theorem dX6_ofWalker_21 : decode cX6_ofWalker 21 = .ok (.iload_n 1, 1) := by decide +kernel
theorem dX6_ofWalker_22 : decode cX6_ofWalker 22 = .ok (.invokevirtual 107, 3) := by decide +kernel
theorem dX6_ofWalker_25 : decode cX6_ofWalker 25 = .ok (.goto 8, 3) := by decide +kernel
theorem dX6_ofWalker_28 : decode cX6_ofWalker 28 = .ok (.aload_n 0, 1) := by decide +kernel
theorem dX6_ofWalker_29 : decode cX6_ofWalker 29 = .ok (.iload_n 1, 1) := by decide +kernel
theorem dX6_ofWalker_30 : decode cX6_ofWalker 30 = .ok (.invokevirtual 160, 3) := by decide +kernel
theorem dX6_ofWalker_33 : decode cX6_ofWalker 33 = .ok (.ireturn, 1) := by decide +kernel
theorem dX6_walker_0 : decode cX6_walker 0 = .ok (.aload_n 0, 1) := by decide +kernel
theorem dX6_walker_1 : decode cX6_walker 1 = .ok (.iload_n 1, 1) := by decide +kernel
theorem dX6_walker_2 : decode cX6_walker 2 = .ok (.invokestatic 91, 3) := by decide +kernel
theorem dX6_walker_5 : decode cX6_walker 5 = .ok (.ifCond .ne 7, 3) := by decide +kernel
theorem dX6_walker_8 : decode cX6_walker 8 = .ok (.iconst 1, 1) := by decide +kernel
theorem dX6_walker_9 : decode cX6_walker 9 = .ok (.goto 17, 3) := by decide +kernel
theorem dX6_walker_12 : decode cX6_walker 12 = .ok (.iload_n 2, 1) := by decide +kernel
theorem dX6_walker_13 : decode cX6_walker 13 = .ok (.iconst 0, 1) := by decide +kernel
theorem dX6_walker_14 : decode cX6_walker 14 = .ok (.iconst 2, 1) := by decide +kernel
theorem dX6_walker_15 : decode cX6_walker 15 = .ok (.invokestatic 44, 3) := by decide +kernel
theorem dX6_walker_18 : decode cX6_walker 18 = .ok (.ifCond .ne 7, 3) := by decide +kernel
theorem dX6_walker_21 : decode cX6_walker 21 = .ok (.iconst 2, 1) := by decide +kernel
theorem dX6_walker_22 : decode cX6_walker 22 = .ok (.goto 4, 3) := by decide +kernel
theorem dX6_walker_25 : decode cX6_walker 25 = .ok (.iconst 0, 1) := by decide +kernel
theorem dX6_walker_26 : decode cX6_walker 26 = .ok (.invokevirtual 74, 3) := by decide +kernel
theorem dX6_walker_29 : decode cX6_walker 29 = .ok (.ifCond .eq 7, 3) := by decide +kernel
theorem dX6_walker_32 : decode cX6_walker 32 = .ok (.iconst 0, 1) := by decide +kernel
theorem dX6_walker_33 : decode cX6_walker 33 = .ok (.goto 9, 3) := by decide +kernel
theorem dX6_walker_36 : decode cX6_walker 36 = .ok (.aload_n 0, 1) := by decide +kernel
theorem dX6_walker_37 : decode cX6_walker 37 = .ok (.iload_n 1, 1) := by decide +kernel
theorem dX6_walker_38 : decode cX6_walker 38 = .ok (.iload_n 2, 1) := by decide +kernel
theorem dX6_walker_39 : decode cX6_walker 39 = .ok (.invokevirtual 163, 3) := by decide +kernel
theorem dX6_walker_42 : decode cX6_walker 42 = .ok (.ireturn, 1) := by decide +kernel
theorem dX6_used_0 : decode cX6_used 0 = .ok (.iconst 0, 1) := by decide +kernel
theorem dX6_used_1 : decode cX6_used 1 = .ok (.istore_n 1, 1) := by decide +kernel
theorem dX6_used_2 : decode cX6_used 2 = .ok (.iconst 0, 1) := by decide +kernel
theorem dX6_used_3 : decode cX6_used 3 = .ok (.istore_n 2, 1) := by decide +kernel
theorem dX6_used_4 : decode cX6_used 4 = .ok (.iload_n 2, 1) := by decide +kernel
theorem dX6_used_5 : decode cX6_used 5 = .ok (.aload_n 0, 1) := by decide +kernel
theorem dX6_used_6 : decode cX6_used 6 = .ok (.getfield 7, 3) := by decide +kernel
theorem dX6_used_9 : decode cX6_used 9 = .ok (.iconst 1, 1) := by decide +kernel
theorem dX6_used_10 : decode cX6_used 10 = .ok (.iaload, 1) := by decide +kernel
theorem dX6_used_11 : decode cX6_used 11 = .ok (.if_icmp .ge 21, 3) := by decide +kernel
theorem dX6_used_14 : decode cX6_used 14 = .ok (.iload_n 1, 1) := by decide +kernel
theorem dX6_used_15 : decode cX6_used 15 = .ok (.aload_n 0, 1) := by decide +kernel
theorem dX6_used_16 : decode cX6_used 16 = .ok (.getfield 7, 3) := by decide +kernel
theorem dX6_used_19 : decode cX6_used 19 = .ok (.iload_n 2, 1) := by decide +kernel
theorem dX6_used_20 : decode cX6_used 20 = .ok (.iconst 1, 1) := by decide +kernel
theorem dX6_used_21 : decode cX6_used 21 = .ok (.invokestatic 36, 3) := by decide +kernel
theorem dX6_used_24 : decode cX6_used 24 = .ok (.iadd, 1) := by decide +kernel
theorem dX6_used_25 : decode cX6_used 25 = .ok (.istore_n 1, 1) := by decide +kernel
theorem dX6_used_26 : decode cX6_used 26 = .ok (.iinc 2 1, 3) := by decide +kernel
theorem dX6_used_29 : decode cX6_used 29 = .ok (.goto (-25), 3) := by decide +kernel
theorem dX6_used_32 : decode cX6_used 32 = .ok (.iload_n 1, 1) := by decide +kernel
theorem dX6_used_33 : decode cX6_used 33 = .ok (.ireturn, 1) := by decide +kernel
theorem dX6_values_0 : decode cX6_values 0 = .ok (.iconst 0, 1) := by decide +kernel
theorem dX6_values_1 : decode cX6_values 1 = .ok (.istore_n 1, 1) := by decide +kernel
theorem dX6_values_2 : decode cX6_values 2 = .ok (.iconst 0, 1) := by decide +kernel
theorem dX6_values_3 : decode cX6_values 3 = .ok (.istore_n 2, 1) := by decide +kernel
theorem dX6_values_4 : decode cX6_values 4 = .ok (.iload_n 2, 1) := by decide +kernel
theorem dX6_values_5 : decode cX6_values 5 = .ok (.aload_n 0, 1) := by decide +kernel
theorem dX6_values_6 : decode cX6_values 6 = .ok (.getfield 7, 3) := by decide +kernel
theorem dX6_values_9 : decode cX6_values 9 = .ok (.iconst 1, 1) := by decide +kernel
theorem dX6_values_10 : decode cX6_values 10 = .ok (.iaload, 1) := by decide +kernel
theorem dX6_values_11 : decode cX6_values 11 = .ok (.if_icmp .ge 21, 3) := by decide +kernel
theorem dX6_values_14 : decode cX6_values 14 = .ok (.iload_n 1, 1) := by decide +kernel
theorem dX6_values_15 : decode cX6_values 15 = .ok (.aload_n 0, 1) := by decide +kernel
theorem dX6_values_16 : decode cX6_values 16 = .ok (.getfield 7, 3) := by decide +kernel
theorem dX6_values_19 : decode cX6_values 19 = .ok (.iload_n 2, 1) := by decide +kernel
theorem dX6_values_20 : decode cX6_values 20 = .ok (.iconst 2, 1) := by decide +kernel
theorem dX6_values_21 : decode cX6_values 21 = .ok (.invokestatic 36, 3) := by decide +kernel
theorem dX6_values_24 : decode cX6_values 24 = .ok (.iadd, 1) := by decide +kernel
theorem dX6_values_25 : decode cX6_values 25 = .ok (.istore_n 1, 1) := by decide +kernel
theorem dX6_values_26 : decode cX6_values 26 = .ok (.iinc 2 1, 3) := by decide +kernel
theorem dX6_values_29 : decode cX6_values 29 = .ok (.goto (-25), 3) := by decide +kernel
theorem dX6_values_32 : decode cX6_values 32 = .ok (.iload_n 1, 1) := by decide +kernel
theorem dX6_values_33 : decode cX6_values 33 = .ok (.ireturn, 1) := by decide +kernel
theorem dX6_counted_0 : decode cX6_counted 0 = .ok (.iload_n 1, 1) := by decide +kernel
theorem dX6_counted_1 : decode cX6_counted 1 = .ok (.tableswitch 109 0 8 #[51, 59, 74, 81, 93, 98, 98, 98, 98], 51) := by decide +kernel
theorem dX6_counted_52 : decode cX6_counted 52 = .ok (.aload_n 0, 1) := by decide +kernel
theorem dX6_counted_53 : decode cX6_counted 53 = .ok (.getfield 7, 3) := by decide +kernel
theorem dX6_counted_56 : decode cX6_counted 56 = .ok (.invokestatic 111, 3) := by decide +kernel
theorem dX6_counted_59 : decode cX6_counted 59 = .ok (.ireturn, 1) := by decide +kernel
theorem dX6_counted_60 : decode cX6_counted 60 = .ok (.aload_n 0, 1) := by decide +kernel
theorem dX6_counted_61 : decode cX6_counted 61 = .ok (.getfield 7, 3) := by decide +kernel
theorem dX6_counted_64 : decode cX6_counted 64 = .ok (.iconst 1, 1) := by decide +kernel
theorem dX6_counted_65 : decode cX6_counted 65 = .ok (.iaload, 1) := by decide +kernel
theorem dX6_counted_66 : decode cX6_counted 66 = .ok (.aload_n 0, 1) := by decide +kernel
theorem dX6_counted_67 : decode cX6_counted 67 = .ok (.getfield 7, 3) := by decide +kernel
theorem dX6_counted_70 : decode cX6_counted 70 = .ok (.invokestatic 111, 3) := by decide +kernel
theorem dX6_counted_73 : decode cX6_counted 73 = .ok (.isub, 1) := by decide +kernel
theorem dX6_counted_74 : decode cX6_counted 74 = .ok (.ireturn, 1) := by decide +kernel
theorem dX6_counted_75 : decode cX6_counted 75 = .ok (.aload_n 0, 1) := by decide +kernel
theorem dX6_counted_76 : decode cX6_counted 76 = .ok (.getfield 7, 3) := by decide +kernel
theorem dX6_counted_79 : decode cX6_counted 79 = .ok (.iconst 0, 1) := by decide +kernel
theorem dX6_counted_80 : decode cX6_counted 80 = .ok (.iaload, 1) := by decide +kernel
theorem dX6_counted_81 : decode cX6_counted 81 = .ok (.ireturn, 1) := by decide +kernel
theorem dX6_counted_82 : decode cX6_counted 82 = .ok (.aload_n 0, 1) := by decide +kernel
theorem dX6_counted_83 : decode cX6_counted 83 = .ok (.getfield 7, 3) := by decide +kernel
theorem dX6_counted_86 : decode cX6_counted 86 = .ok (.iconst 0, 1) := by decide +kernel
theorem dX6_counted_87 : decode cX6_counted 87 = .ok (.iaload, 1) := by decide +kernel
theorem dX6_counted_88 : decode cX6_counted 88 = .ok (.aload_n 0, 1) := by decide +kernel
theorem dX6_counted_89 : decode cX6_counted 89 = .ok (.invokevirtual 166, 3) := by decide +kernel
theorem dX6_counted_92 : decode cX6_counted 92 = .ok (.isub, 1) := by decide +kernel
theorem dX6_counted_93 : decode cX6_counted 93 = .ok (.ireturn, 1) := by decide +kernel
theorem dX6_counted_94 : decode cX6_counted 94 = .ok (.aload_n 0, 1) := by decide +kernel
theorem dX6_counted_95 : decode cX6_counted 95 = .ok (.invokevirtual 170, 3) := by decide +kernel
theorem dX6_counted_98 : decode cX6_counted 98 = .ok (.ireturn, 1) := by decide +kernel
theorem dX6_counted_99 : decode cX6_counted 99 = .ok (.aload_n 0, 1) := by decide +kernel
theorem dX6_counted_100 : decode cX6_counted 100 = .ok (.getfield 7, 3) := by decide +kernel
theorem dX6_counted_103 : decode cX6_counted 103 = .ok (.iconst 2, 1) := by decide +kernel
theorem dX6_counted_104 : decode cX6_counted 104 = .ok (.iload_n 1, 1) := by decide +kernel
theorem dX6_counted_105 : decode cX6_counted 105 = .ok (.iadd, 1) := by decide +kernel
theorem dX6_counted_106 : decode cX6_counted 106 = .ok (.iconst 5, 1) := by decide +kernel
theorem dX6_counted_107 : decode cX6_counted 107 = .ok (.isub, 1) := by decide +kernel
theorem dX6_counted_108 : decode cX6_counted 108 = .ok (.iaload, 1) := by decide +kernel
theorem dX6_counted_109 : decode cX6_counted 109 = .ok (.ireturn, 1) := by decide +kernel
theorem dX6_counted_110 : decode cX6_counted 110 = .ok (.aload_n 0, 1) := by decide +kernel
theorem dX6_counted_111 : decode cX6_counted 111 = .ok (.getfield 29, 3) := by decide +kernel
theorem dX6_counted_114 : decode cX6_counted 114 = .ok (.ireturn, 1) := by decide +kernel
theorem dX6_count_0 : decode cX6_count 0 = .ok (.aload_n 0, 1) := by decide +kernel
theorem dX6_count_1 : decode cX6_count 1 = .ok (.iload_n 1, 1) := by decide +kernel
theorem dX6_count_2 : decode cX6_count 2 = .ok (.iconst 0, 1) := by decide +kernel
theorem dX6_count_3 : decode cX6_count 3 = .ok (.bipush 9, 2) := by decide +kernel
theorem dX6_count_5 : decode cX6_count 5 = .ok (.invokestatic 44, 3) := by decide +kernel
theorem dX6_count_8 : decode cX6_count 8 = .ok (.ifCond .eq 7, 3) := by decide +kernel
theorem dX6_count_11 : decode cX6_count 11 = .ok (.iconst 0, 1) := by decide +kernel
theorem dX6_count_12 : decode cX6_count 12 = .ok (.goto 4, 3) := by decide +kernel
theorem dX6_count_15 : decode cX6_count 15 = .ok (.iconst 1, 1) := by decide +kernel
theorem dX6_count_16 : decode cX6_count 16 = .ok (.invokevirtual 74, 3) := by decide +kernel
theorem dX6_count_19 : decode cX6_count 19 = .ok (.ifCond .eq 7, 3) := by decide +kernel
theorem dX6_count_22 : decode cX6_count 22 = .ok (.iconst 0, 1) := by decide +kernel
theorem dX6_count_23 : decode cX6_count 23 = .ok (.goto 8, 3) := by decide +kernel
theorem dX6_count_26 : decode cX6_count 26 = .ok (.aload_n 0, 1) := by decide +kernel
theorem dX6_count_27 : decode cX6_count 27 = .ok (.iload_n 1, 1) := by decide +kernel
theorem dX6_count_28 : decode cX6_count 28 = .ok (.invokevirtual 173, 3) := by decide +kernel
theorem dX6_count_31 : decode cX6_count 31 = .ok (.ireturn, 1) := by decide +kernel
theorem dX6_beginsAt_0 : decode cX6_beginsAt 0 = .ok (.aload_n 0, 1) := by decide +kernel
theorem dX6_beginsAt_1 : decode cX6_beginsAt 1 = .ok (.getfield 7, 3) := by decide +kernel
theorem dX6_beginsAt_4 : decode cX6_beginsAt 4 = .ok (.iload_n 1, 1) := by decide +kernel
theorem dX6_beginsAt_5 : decode cX6_beginsAt 5 = .ok (.invokestatic 58, 3) := by decide +kernel
theorem dX6_beginsAt_8 : decode cX6_beginsAt 8 = .ok (.istore_n 2, 1) := by decide +kernel
theorem dX6_beginsAt_9 : decode cX6_beginsAt 9 = .ok (.iload_n 2, 1) := by decide +kernel
theorem dX6_beginsAt_10 : decode cX6_beginsAt 10 = .ok (.iconst (-1), 1) := by decide +kernel
theorem dX6_beginsAt_11 : decode cX6_beginsAt 11 = .ok (.if_icmp .ne 7, 3) := by decide +kernel
theorem dX6_beginsAt_14 : decode cX6_beginsAt 14 = .ok (.iconst (-1), 1) := by decide +kernel
theorem dX6_beginsAt_15 : decode cX6_beginsAt 15 = .ok (.goto 12, 3) := by decide +kernel
theorem dX6_beginsAt_18 : decode cX6_beginsAt 18 = .ok (.aload_n 0, 1) := by decide +kernel
theorem dX6_beginsAt_19 : decode cX6_beginsAt 19 = .ok (.getfield 7, 3) := by decide +kernel
theorem dX6_beginsAt_22 : decode cX6_beginsAt 22 = .ok (.iload_n 1, 1) := by decide +kernel
theorem dX6_beginsAt_23 : decode cX6_beginsAt 23 = .ok (.iload_n 2, 1) := by decide +kernel
theorem dX6_beginsAt_24 : decode cX6_beginsAt 24 = .ok (.invokestatic 55, 3) := by decide +kernel
theorem dX6_beginsAt_27 : decode cX6_beginsAt 27 = .ok (.ireturn, 1) := by decide +kernel
theorem dX6_begins_0 : decode cX6_begins 0 = .ok (.aload_n 0, 1) := by decide +kernel
theorem dX6_begins_1 : decode cX6_begins 1 = .ok (.iload_n 1, 1) := by decide +kernel
theorem dX6_begins_2 : decode cX6_begins 2 = .ok (.iconst 1, 1) := by decide +kernel
theorem dX6_begins_3 : decode cX6_begins 3 = .ok (.iconst 4, 1) := by decide +kernel
theorem dX6_begins_4 : decode cX6_begins 4 = .ok (.invokestatic 44, 3) := by decide +kernel
theorem dX6_begins_7 : decode cX6_begins 7 = .ok (.ifCond .eq 7, 3) := by decide +kernel
theorem dX6_begins_10 : decode cX6_begins 10 = .ok (.iconst 0, 1) := by decide +kernel
theorem dX6_begins_11 : decode cX6_begins 11 = .ok (.goto 4, 3) := by decide +kernel
theorem dX6_begins_14 : decode cX6_begins 14 = .ok (.iconst 1, 1) := by decide +kernel
theorem dX6_begins_15 : decode cX6_begins 15 = .ok (.invokevirtual 74, 3) := by decide +kernel
theorem dX6_begins_18 : decode cX6_begins 18 = .ok (.ifCond .eq 7, 3) := by decide +kernel
theorem dX6_begins_21 : decode cX6_begins 21 = .ok (.iconst 0, 1) := by decide +kernel
theorem dX6_begins_22 : decode cX6_begins 22 = .ok (.goto 8, 3) := by decide +kernel
theorem dX6_begins_25 : decode cX6_begins 25 = .ok (.aload_n 0, 1) := by decide +kernel
theorem dX6_begins_26 : decode cX6_begins 26 = .ok (.iload_n 1, 1) := by decide +kernel
theorem dX6_begins_27 : decode cX6_begins 27 = .ok (.invokevirtual 176, 3) := by decide +kernel
theorem dX6_begins_30 : decode cX6_begins 30 = .ok (.ireturn, 1) := by decide +kernel
theorem dX6_longest_0 : decode cX6_longest 0 = .ok (.iconst (-1), 1) := by decide +kernel
theorem dX6_longest_1 : decode cX6_longest 1 = .ok (.istore_n 2, 1) := by decide +kernel
theorem dX6_longest_2 : decode cX6_longest 2 = .ok (.iconst 0, 1) := by decide +kernel
theorem dX6_longest_3 : decode cX6_longest 3 = .ok (.istore_n 3, 1) := by decide +kernel
theorem dX6_longest_4 : decode cX6_longest 4 = .ok (.iconst 0, 1) := by decide +kernel
theorem dX6_longest_5 : decode cX6_longest 5 = .ok (.istore 4, 2) := by decide +kernel
theorem dX6_longest_7 : decode cX6_longest 7 = .ok (.iload 4, 2) := by decide +kernel
theorem dX6_longest_9 : decode cX6_longest 9 = .ok (.aload_n 0, 1) := by decide +kernel
theorem dX6_longest_10 : decode cX6_longest 10 = .ok (.getfield 7, 3) := by decide +kernel
theorem dX6_longest_13 : decode cX6_longest 13 = .ok (.iconst 0, 1) := by decide +kernel
theorem dX6_longest_14 : decode cX6_longest 14 = .ok (.iaload, 1) := by decide +kernel
theorem dX6_longest_15 : decode cX6_longest 15 = .ok (.if_icmp .ge 52, 3) := by decide +kernel
theorem dX6_longest_18 : decode cX6_longest 18 = .ok (.aload_n 0, 1) := by decide +kernel
theorem dX6_longest_19 : decode cX6_longest 19 = .ok (.getfield 7, 3) := by decide +kernel
theorem dX6_longest_22 : decode cX6_longest 22 = .ok (.iload 4, 2) := by decide +kernel
theorem dX6_longest_24 : decode cX6_longest 24 = .ok (.aload_n 0, 1) := by decide +kernel
theorem dX6_longest_25 : decode cX6_longest 25 = .ok (.getfield 7, 3) := by decide +kernel
theorem dX6_longest_28 : decode cX6_longest 28 = .ok (.iconst 0, 1) := by decide +kernel
theorem dX6_longest_29 : decode cX6_longest 29 = .ok (.iaload, 1) := by decide +kernel
theorem dX6_longest_30 : decode cX6_longest 30 = .ok (.invokestatic 52, 3) := by decide +kernel
theorem dX6_longest_33 : decode cX6_longest 33 = .ok (.istore 5, 2) := by decide +kernel
theorem dX6_longest_35 : decode cX6_longest 35 = .ok (.iload 5, 2) := by decide +kernel
theorem dX6_longest_37 : decode cX6_longest 37 = .ok (.iload_n 3, 1) := by decide +kernel
theorem dX6_longest_38 : decode cX6_longest 38 = .ok (.if_icmp .le 8, 3) := by decide +kernel
theorem dX6_longest_41 : decode cX6_longest 41 = .ok (.iload 4, 2) := by decide +kernel
theorem dX6_longest_43 : decode cX6_longest 43 = .ok (.goto 4, 3) := by decide +kernel
theorem dX6_longest_46 : decode cX6_longest 46 = .ok (.iload_n 2, 1) := by decide +kernel
theorem dX6_longest_47 : decode cX6_longest 47 = .ok (.istore_n 2, 1) := by decide +kernel
theorem dX6_longest_48 : decode cX6_longest 48 = .ok (.iload 5, 2) := by decide +kernel
theorem dX6_longest_50 : decode cX6_longest 50 = .ok (.iload_n 3, 1) := by decide +kernel
theorem dX6_longest_51 : decode cX6_longest 51 = .ok (.if_icmp .le 8, 3) := by decide +kernel
theorem dX6_longest_54 : decode cX6_longest 54 = .ok (.iload 5, 2) := by decide +kernel
theorem dX6_longest_56 : decode cX6_longest 56 = .ok (.goto 4, 3) := by decide +kernel
theorem dX6_longest_59 : decode cX6_longest 59 = .ok (.iload_n 3, 1) := by decide +kernel
theorem dX6_longest_60 : decode cX6_longest 60 = .ok (.istore_n 3, 1) := by decide +kernel
theorem dX6_longest_61 : decode cX6_longest 61 = .ok (.iinc 4 1, 3) := by decide +kernel
theorem dX6_longest_64 : decode cX6_longest 64 = .ok (.goto (-57), 3) := by decide +kernel
theorem dX6_longest_67 : decode cX6_longest 67 = .ok (.iload_n 1, 1) := by decide +kernel
theorem dX6_longest_68 : decode cX6_longest 68 = .ok (.ifCond .ne 7, 3) := by decide +kernel
theorem dX6_longest_71 : decode cX6_longest 71 = .ok (.iload_n 3, 1) := by decide +kernel
theorem dX6_longest_72 : decode cX6_longest 72 = .ok (.goto 4, 3) := by decide +kernel
theorem dX6_longest_75 : decode cX6_longest 75 = .ok (.iload_n 2, 1) := by decide +kernel
theorem dX6_longest_76 : decode cX6_longest 76 = .ok (.ireturn, 1) := by decide +kernel
theorem dX6_gap_0 : decode cX6_gap 0 = .ok (.aload_n 0, 1) := by decide +kernel
theorem dX6_gap_1 : decode cX6_gap 1 = .ok (.iload_n 1, 1) := by decide +kernel
theorem dX6_gap_2 : decode cX6_gap 2 = .ok (.iconst 0, 1) := by decide +kernel
theorem dX6_gap_3 : decode cX6_gap 3 = .ok (.iconst 1, 1) := by decide +kernel
theorem dX6_gap_4 : decode cX6_gap 4 = .ok (.invokestatic 44, 3) := by decide +kernel
theorem dX6_gap_7 : decode cX6_gap 7 = .ok (.ifCond .eq 7, 3) := by decide +kernel
theorem dX6_gap_10 : decode cX6_gap 10 = .ok (.iconst 0, 1) := by decide +kernel
theorem dX6_gap_11 : decode cX6_gap 11 = .ok (.goto 4, 3) := by decide +kernel
theorem dX6_gap_14 : decode cX6_gap 14 = .ok (.iconst 1, 1) := by decide +kernel
theorem dX6_gap_15 : decode cX6_gap 15 = .ok (.invokevirtual 74, 3) := by decide +kernel
theorem dX6_gap_18 : decode cX6_gap 18 = .ok (.ifCond .eq 7, 3) := by decide +kernel
theorem dX6_gap_21 : decode cX6_gap 21 = .ok (.iconst 0, 1) := by decide +kernel
theorem dX6_gap_22 : decode cX6_gap 22 = .ok (.goto 8, 3) := by decide +kernel
theorem dX6_gap_25 : decode cX6_gap 25 = .ok (.aload_n 0, 1) := by decide +kernel
theorem dX6_gap_26 : decode cX6_gap 26 = .ok (.iload_n 1, 1) := by decide +kernel
theorem dX6_gap_27 : decode cX6_gap 27 = .ok (.invokevirtual 179, 3) := by decide +kernel
theorem dX6_gap_30 : decode cX6_gap 30 = .ok (.ireturn, 1) := by decide +kernel
theorem dX6_fired_0 : decode cX6_fired 0 = .ok (.aload_n 0, 1) := by decide +kernel
theorem dX6_fired_1 : decode cX6_fired 1 = .ok (.getfield 7, 3) := by decide +kernel
theorem dX6_fired_4 : decode cX6_fired 4 = .ok (.iconst 0, 1) := by decide +kernel
theorem dX6_fired_5 : decode cX6_fired 5 = .ok (.aload_n 0, 1) := by decide +kernel
theorem dX6_fired_6 : decode cX6_fired 6 = .ok (.getfield 13, 3) := by decide +kernel
theorem dX6_fired_9 : decode cX6_fired 9 = .ok (.iconst 0, 1) := by decide +kernel
theorem dX6_fired_10 : decode cX6_fired 10 = .ok (.invokestatic 32, 3) := by decide +kernel
theorem dX6_fired_13 : decode cX6_fired 13 = .ok (.iconst 0, 1) := by decide +kernel
theorem dX6_fired_14 : decode cX6_fired 14 = .ok (.istore_n 3, 1) := by decide +kernel
theorem dX6_fired_15 : decode cX6_fired 15 = .ok (.iconst 0, 1) := by decide +kernel
theorem dX6_fired_16 : decode cX6_fired 16 = .ok (.istore 4, 2) := by decide +kernel
theorem dX6_fired_18 : decode cX6_fired 18 = .ok (.iload 4, 2) := by decide +kernel
theorem dX6_fired_20 : decode cX6_fired 20 = .ok (.iload_n 1, 1) := by decide +kernel
theorem dX6_fired_21 : decode cX6_fired 21 = .ok (.if_icmp .ge 19, 3) := by decide +kernel
theorem dX6_fired_24 : decode cX6_fired 24 = .ok (.iload_n 3, 1) := by decide +kernel
theorem dX6_fired_25 : decode cX6_fired 25 = .ok (.aload_n 0, 1) := by decide +kernel
theorem dX6_fired_26 : decode cX6_fired 26 = .ok (.getfield 13, 3) := by decide +kernel
theorem dX6_fired_29 : decode cX6_fired 29 = .ok (.invokestatic 118, 3) := by decide +kernel
theorem dX6_fired_32 : decode cX6_fired 32 = .ok (.iadd, 1) := by decide +kernel
theorem dX6_fired_33 : decode cX6_fired 33 = .ok (.istore_n 3, 1) := by decide +kernel
theorem dX6_fired_34 : decode cX6_fired 34 = .ok (.iinc 4 1, 3) := by decide +kernel
theorem dX6_fired_37 : decode cX6_fired 37 = .ok (.goto (-19), 3) := by decide +kernel
theorem dX6_fired_40 : decode cX6_fired 40 = .ok (.iload_n 2, 1) := by decide +kernel
theorem dX6_fired_41 : decode cX6_fired 41 = .ok (.ifCond .ne 7, 3) := by decide +kernel
theorem dX6_fired_44 : decode cX6_fired 44 = .ok (.iload_n 3, 1) := by decide +kernel
theorem dX6_fired_45 : decode cX6_fired 45 = .ok (.goto 24, 3) := by decide +kernel
theorem dX6_fired_48 : decode cX6_fired 48 = .ok (.iload_n 2, 1) := by decide +kernel
theorem dX6_fired_49 : decode cX6_fired 49 = .ok (.iconst 1, 1) := by decide +kernel
theorem dX6_fired_50 : decode cX6_fired 50 = .ok (.if_icmp .ne 13, 3) := by decide +kernel
theorem dX6_fired_53 : decode cX6_fired 53 = .ok (.aload_n 0, 1) := by decide +kernel
theorem dX6_fired_54 : decode cX6_fired 54 = .ok (.getfield 13, 3) := by decide +kernel
theorem dX6_fired_57 : decode cX6_fired 57 = .ok (.invokestatic 111, 3) := by decide +kernel
theorem dX6_fired_60 : decode cX6_fired 60 = .ok (.goto 9, 3) := by decide +kernel
theorem dX6_fired_63 : decode cX6_fired 63 = .ok (.aload_n 0, 1) := by decide +kernel
theorem dX6_fired_64 : decode cX6_fired 64 = .ok (.getfield 13, 3) := by decide +kernel
theorem dX6_fired_67 : decode cX6_fired 67 = .ok (.iconst 0, 1) := by decide +kernel
theorem dX6_fired_68 : decode cX6_fired 68 = .ok (.iaload, 1) := by decide +kernel
theorem dX6_fired_69 : decode cX6_fired 69 = .ok (.ireturn, 1) := by decide +kernel
theorem dX6_ifFired_0 : decode cX6_ifFired 0 = .ok (.aload_n 0, 1) := by decide +kernel
theorem dX6_ifFired_1 : decode cX6_ifFired 1 = .ok (.iload_n 1, 1) := by decide +kernel
theorem dX6_ifFired_2 : decode cX6_ifFired 2 = .ok (.iconst 1, 1) := by decide +kernel
theorem dX6_ifFired_3 : decode cX6_ifFired 3 = .ok (.bipush 9, 2) := by decide +kernel
theorem dX6_ifFired_5 : decode cX6_ifFired 5 = .ok (.invokestatic 44, 3) := by decide +kernel
theorem dX6_ifFired_8 : decode cX6_ifFired 8 = .ok (.ifCond .eq 16, 3) := by decide +kernel
theorem dX6_ifFired_11 : decode cX6_ifFired 11 = .ok (.iload_n 2, 1) := by decide +kernel
theorem dX6_ifFired_12 : decode cX6_ifFired 12 = .ok (.iconst 0, 1) := by decide +kernel
theorem dX6_ifFired_13 : decode cX6_ifFired 13 = .ok (.iconst 2, 1) := by decide +kernel
theorem dX6_ifFired_14 : decode cX6_ifFired 14 = .ok (.invokestatic 44, 3) := by decide +kernel
theorem dX6_ifFired_17 : decode cX6_ifFired 17 = .ok (.ifCond .eq 7, 3) := by decide +kernel
theorem dX6_ifFired_20 : decode cX6_ifFired 20 = .ok (.iconst 0, 1) := by decide +kernel
theorem dX6_ifFired_21 : decode cX6_ifFired 21 = .ok (.goto 4, 3) := by decide +kernel
theorem dX6_ifFired_24 : decode cX6_ifFired 24 = .ok (.iconst 1, 1) := by decide +kernel
theorem dX6_ifFired_25 : decode cX6_ifFired 25 = .ok (.invokevirtual 74, 3) := by decide +kernel
theorem dX6_ifFired_28 : decode cX6_ifFired 28 = .ok (.ifCond .eq 7, 3) := by decide +kernel
theorem dX6_ifFired_31 : decode cX6_ifFired 31 = .ok (.iconst 0, 1) := by decide +kernel
theorem dX6_ifFired_32 : decode cX6_ifFired 32 = .ok (.goto 9, 3) := by decide +kernel
theorem dX6_ifFired_35 : decode cX6_ifFired 35 = .ok (.aload_n 0, 1) := by decide +kernel
theorem dX6_ifFired_36 : decode cX6_ifFired 36 = .ok (.iload_n 1, 1) := by decide +kernel
theorem dX6_ifFired_37 : decode cX6_ifFired 37 = .ok (.iload_n 2, 1) := by decide +kernel
theorem dX6_ifFired_38 : decode cX6_ifFired 38 = .ok (.invokevirtual 182, 3) := by decide +kernel
theorem dX6_ifFired_41 : decode cX6_ifFired 41 = .ok (.ireturn, 1) := by decide +kernel
theorem dX6_roomFor_0 : decode cX6_roomFor 0 = .ok (.iload_n 2, 1) := by decide +kernel
theorem dX6_roomFor_1 : decode cX6_roomFor 1 = .ok (.ifCond .eq 17, 3) := by decide +kernel
theorem dX6_roomFor_4 : decode cX6_roomFor 4 = .ok (.aload_n 0, 1) := by decide +kernel
theorem dX6_roomFor_5 : decode cX6_roomFor 5 = .ok (.getfield 7, 3) := by decide +kernel
theorem dX6_roomFor_8 : decode cX6_roomFor 8 = .ok (.iconst 0, 1) := by decide +kernel
theorem dX6_roomFor_9 : decode cX6_roomFor 9 = .ok (.iaload, 1) := by decide +kernel
theorem dX6_roomFor_10 : decode cX6_roomFor 10 = .ok (.aload_n 0, 1) := by decide +kernel
theorem dX6_roomFor_11 : decode cX6_roomFor 11 = .ok (.invokevirtual 166, 3) := by decide +kernel
theorem dX6_roomFor_14 : decode cX6_roomFor 14 = .ok (.isub, 1) := by decide +kernel
theorem dX6_roomFor_15 : decode cX6_roomFor 15 = .ok (.iload_n 1, 1) := by decide +kernel
theorem dX6_roomFor_16 : decode cX6_roomFor 16 = .ok (.idiv, 1) := by decide +kernel
theorem dX6_roomFor_17 : decode cX6_roomFor 17 = .ok (.ireturn, 1) := by decide +kernel
theorem dX6_roomFor_18 : decode cX6_roomFor 18 = .ok (.iconst 0, 1) := by decide +kernel
theorem dX6_roomFor_19 : decode cX6_roomFor 19 = .ok (.istore_n 3, 1) := by decide +kernel
theorem dX6_roomFor_20 : decode cX6_roomFor 20 = .ok (.iconst 0, 1) := by decide +kernel
theorem dX6_roomFor_21 : decode cX6_roomFor 21 = .ok (.istore 4, 2) := by decide +kernel
theorem dX6_roomFor_23 : decode cX6_roomFor 23 = .ok (.iload 4, 2) := by decide +kernel
theorem dX6_roomFor_25 : decode cX6_roomFor 25 = .ok (.aload_n 0, 1) := by decide +kernel
theorem dX6_roomFor_26 : decode cX6_roomFor 26 = .ok (.getfield 7, 3) := by decide +kernel
theorem dX6_roomFor_29 : decode cX6_roomFor 29 = .ok (.iconst 0, 1) := by decide +kernel
theorem dX6_roomFor_30 : decode cX6_roomFor 30 = .ok (.iaload, 1) := by decide +kernel
theorem dX6_roomFor_31 : decode cX6_roomFor 31 = .ok (.if_icmp .ge 39, 3) := by decide +kernel
theorem dX6_roomFor_34 : decode cX6_roomFor 34 = .ok (.aload_n 0, 1) := by decide +kernel
theorem dX6_roomFor_35 : decode cX6_roomFor 35 = .ok (.getfield 7, 3) := by decide +kernel
theorem dX6_roomFor_38 : decode cX6_roomFor 38 = .ok (.iload 4, 2) := by decide +kernel
theorem dX6_roomFor_40 : decode cX6_roomFor 40 = .ok (.aload_n 0, 1) := by decide +kernel
theorem dX6_roomFor_41 : decode cX6_roomFor 41 = .ok (.getfield 7, 3) := by decide +kernel
theorem dX6_roomFor_44 : decode cX6_roomFor 44 = .ok (.iconst 0, 1) := by decide +kernel
theorem dX6_roomFor_45 : decode cX6_roomFor 45 = .ok (.iaload, 1) := by decide +kernel
theorem dX6_roomFor_46 : decode cX6_roomFor 46 = .ok (.invokestatic 52, 3) := by decide +kernel
theorem dX6_roomFor_49 : decode cX6_roomFor 49 = .ok (.istore 5, 2) := by decide +kernel
theorem dX6_roomFor_51 : decode cX6_roomFor 51 = .ok (.iload_n 3, 1) := by decide +kernel
theorem dX6_roomFor_52 : decode cX6_roomFor 52 = .ok (.iload 5, 2) := by decide +kernel
theorem dX6_roomFor_54 : decode cX6_roomFor 54 = .ok (.iload_n 1, 1) := by decide +kernel
theorem dX6_roomFor_55 : decode cX6_roomFor 55 = .ok (.idiv, 1) := by decide +kernel
theorem dX6_roomFor_56 : decode cX6_roomFor 56 = .ok (.iadd, 1) := by decide +kernel
theorem dX6_roomFor_57 : decode cX6_roomFor 57 = .ok (.istore_n 3, 1) := by decide +kernel
theorem dX6_roomFor_58 : decode cX6_roomFor 58 = .ok (.iload 4, 2) := by decide +kernel
theorem dX6_roomFor_60 : decode cX6_roomFor 60 = .ok (.iload 5, 2) := by decide +kernel
theorem dX6_roomFor_62 : decode cX6_roomFor 62 = .ok (.iconst 1, 1) := by decide +kernel
theorem dX6_roomFor_63 : decode cX6_roomFor 63 = .ok (.iadd, 1) := by decide +kernel
theorem dX6_roomFor_64 : decode cX6_roomFor 64 = .ok (.iadd, 1) := by decide +kernel
theorem dX6_roomFor_65 : decode cX6_roomFor 65 = .ok (.istore 4, 2) := by decide +kernel
theorem dX6_roomFor_67 : decode cX6_roomFor 67 = .ok (.goto (-44), 3) := by decide +kernel
theorem dX6_roomFor_70 : decode cX6_roomFor 70 = .ok (.iload_n 3, 1) := by decide +kernel
theorem dX6_roomFor_71 : decode cX6_roomFor 71 = .ok (.ireturn, 1) := by decide +kernel
theorem dX6_room_0 : decode cX6_room 0 = .ok (.aload_n 0, 1) := by decide +kernel
theorem dX6_room_1 : decode cX6_room 1 = .ok (.iload_n 1, 1) := by decide +kernel
theorem dX6_room_2 : decode cX6_room 2 = .ok (.iconst 1, 1) := by decide +kernel
theorem dX6_room_3 : decode cX6_room 3 = .ok (.iconst 4, 1) := by decide +kernel
theorem dX6_room_4 : decode cX6_room 4 = .ok (.invokestatic 44, 3) := by decide +kernel
theorem dX6_room_7 : decode cX6_room 7 = .ok (.ifCond .eq 7, 3) := by decide +kernel
theorem dX6_room_10 : decode cX6_room 10 = .ok (.iconst 0, 1) := by decide +kernel
theorem dX6_room_11 : decode cX6_room 11 = .ok (.goto 4, 3) := by decide +kernel
theorem dX6_room_14 : decode cX6_room 14 = .ok (.iconst 1, 1) := by decide +kernel
theorem dX6_room_15 : decode cX6_room 15 = .ok (.invokevirtual 74, 3) := by decide +kernel
theorem dX6_room_18 : decode cX6_room 18 = .ok (.ifCond .eq 7, 3) := by decide +kernel
theorem dX6_room_21 : decode cX6_room 21 = .ok (.iconst 0, 1) := by decide +kernel
theorem dX6_room_22 : decode cX6_room 22 = .ok (.goto 9, 3) := by decide +kernel
theorem dX6_room_25 : decode cX6_room 25 = .ok (.aload_n 0, 1) := by decide +kernel
theorem dX6_room_26 : decode cX6_room 26 = .ok (.iload_n 1, 1) := by decide +kernel
theorem dX6_room_27 : decode cX6_room 27 = .ok (.iload_n 2, 1) := by decide +kernel
theorem dX6_room_28 : decode cX6_room 28 = .ok (.invokevirtual 185, 3) := by decide +kernel
theorem dX6_room_31 : decode cX6_room 31 = .ok (.ireturn, 1) := by decide +kernel
theorem dX6_full_0 : decode cX6_full 0 = .ok (.aload_n 0, 1) := by decide +kernel
theorem dX6_full_1 : decode cX6_full 1 = .ok (.invokevirtual 166, 3) := by decide +kernel
theorem dX6_full_4 : decode cX6_full 4 = .ok (.i2d, 1) := by decide +kernel
theorem dX6_full_5 : decode cX6_full 5 = .ok (.dstore_n 1, 1) := by decide +kernel
theorem dX6_full_6 : decode cX6_full 6 = .ok (.dload_n 1, 1) := by decide +kernel
theorem dX6_full_7 : decode cX6_full 7 = .ok (.aload_n 0, 1) := by decide +kernel
theorem dX6_full_8 : decode cX6_full 8 = .ok (.getfield 7, 3) := by decide +kernel
theorem dX6_full_11 : decode cX6_full 11 = .ok (.iconst 0, 1) := by decide +kernel
theorem dX6_full_12 : decode cX6_full 12 = .ok (.iaload, 1) := by decide +kernel
theorem dX6_full_13 : decode cX6_full 13 = .ok (.i2d, 1) := by decide +kernel
theorem dX6_full_14 : decode cX6_full 14 = .ok (.ddiv, 1) := by decide +kernel
theorem dX6_full_15 : decode cX6_full 15 = .ok (.dreturn, 1) := by decide +kernel
theorem dX6_fullness_0 : decode cX6_fullness 0 = .ok (.aload_n 0, 1) := by decide +kernel
theorem dX6_fullness_1 : decode cX6_fullness 1 = .ok (.iconst 0, 1) := by decide +kernel
theorem dX6_fullness_2 : decode cX6_fullness 2 = .ok (.putfield 25, 3) := by decide +kernel
theorem dX6_fullness_5 : decode cX6_fullness 5 = .ok (.aload_n 0, 1) := by decide +kernel
theorem dX6_fullness_6 : decode cX6_fullness 6 = .ok (.invokevirtual 189, 3) := by decide +kernel
theorem dX6_fullness_9 : decode cX6_fullness 9 = .ok (.dreturn, 1) := by decide +kernel
theorem dX6_mixes_0 : decode cX6_mixes 0 = .ok (.aload_n 0, 1) := by decide +kernel
theorem dX6_mixes_1 : decode cX6_mixes 1 = .ok (.ldc2_w 193, 3) := by decide +kernel
theorem dX6_mixes_4 : decode cX6_mixes 4 = .ok (.aload_n 0, 1) := by decide +kernel
theorem dX6_mixes_5 : decode cX6_mixes 5 = .ok (.getfield 195, 3) := by decide +kernel
theorem dX6_mixes_8 : decode cX6_mixes 8 = .ok (.lmul, 1) := by decide +kernel
theorem dX6_mixes_9 : decode cX6_mixes 9 = .ok (.lload_n 1, 1) := by decide +kernel
theorem dX6_mixes_10 : decode cX6_mixes 10 = .ok (.ladd, 1) := by decide +kernel
theorem dX6_mixes_11 : decode cX6_mixes 11 = .ok (.putfield 195, 3) := by decide +kernel
theorem dX6_mixes_14 : decode cX6_mixes 14 = .ok (.return_, 1) := by decide +kernel
theorem dX6_mixesRow_0 : decode cX6_mixesRow 0 = .ok (.iconst 0, 1) := by decide +kernel
theorem dX6_mixesRow_1 : decode cX6_mixesRow 1 = .ok (.istore_n 1, 1) := by decide +kernel
theorem dX6_mixesRow_2 : decode cX6_mixesRow 2 = .ok (.iload_n 1, 1) := by decide +kernel
theorem dX6_mixesRow_3 : decode cX6_mixesRow 3 = .ok (.aload_n 0, 1) := by decide +kernel
theorem dX6_mixesRow_4 : decode cX6_mixesRow 4 = .ok (.getfield 7, 3) := by decide +kernel
theorem dX6_mixesRow_7 : decode cX6_mixesRow 7 = .ok (.iconst 1, 1) := by decide +kernel
theorem dX6_mixesRow_8 : decode cX6_mixesRow 8 = .ok (.iaload, 1) := by decide +kernel
theorem dX6_mixesRow_9 : decode cX6_mixesRow 9 = .ok (.if_icmp .ge 58, 3) := by decide +kernel
theorem dX6_mixesRow_12 : decode cX6_mixesRow 12 = .ok (.aload_n 0, 1) := by decide +kernel
theorem dX6_mixesRow_13 : decode cX6_mixesRow 13 = .ok (.getfield 7, 3) := by decide +kernel
theorem dX6_mixesRow_16 : decode cX6_mixesRow 16 = .ok (.iload_n 1, 1) := by decide +kernel
theorem dX6_mixesRow_17 : decode cX6_mixesRow 17 = .ok (.invokestatic 40, 3) := by decide +kernel
theorem dX6_mixesRow_20 : decode cX6_mixesRow 20 = .ok (.ifCond .eq 41, 3) := by decide +kernel
theorem dX6_mixesRow_23 : decode cX6_mixesRow 23 = .ok (.aload_n 0, 1) := by decide +kernel
theorem dX6_mixesRow_24 : decode cX6_mixesRow 24 = .ok (.aload_n 0, 1) := by decide +kernel
theorem dX6_mixesRow_25 : decode cX6_mixesRow 25 = .ok (.getfield 7, 3) := by decide +kernel
theorem dX6_mixesRow_28 : decode cX6_mixesRow 28 = .ok (.iload_n 1, 1) := by decide +kernel
theorem dX6_mixesRow_29 : decode cX6_mixesRow 29 = .ok (.invokestatic 101, 3) := by decide +kernel
theorem dX6_mixesRow_32 : decode cX6_mixesRow 32 = .ok (.i2l, 1) := by decide +kernel
theorem dX6_mixesRow_33 : decode cX6_mixesRow 33 = .ok (.invokevirtual 199, 3) := by decide +kernel
theorem dX6_mixesRow_36 : decode cX6_mixesRow 36 = .ok (.iconst 0, 1) := by decide +kernel
theorem dX6_mixesRow_37 : decode cX6_mixesRow 37 = .ok (.istore_n 2, 1) := by decide +kernel
theorem dX6_mixesRow_38 : decode cX6_mixesRow 38 = .ok (.iload_n 2, 1) := by decide +kernel
theorem dX6_mixesRow_39 : decode cX6_mixesRow 39 = .ok (.bipush 6, 2) := by decide +kernel
theorem dX6_mixesRow_41 : decode cX6_mixesRow 41 = .ok (.if_icmp .ge 20, 3) := by decide +kernel
theorem dX6_mixesRow_44 : decode cX6_mixesRow 44 = .ok (.aload_n 0, 1) := by decide +kernel
theorem dX6_mixesRow_45 : decode cX6_mixesRow 45 = .ok (.aload_n 0, 1) := by decide +kernel
theorem dX6_mixesRow_46 : decode cX6_mixesRow 46 = .ok (.iload_n 1, 1) := by decide +kernel
theorem dX6_mixesRow_47 : decode cX6_mixesRow 47 = .ok (.iload_n 2, 1) := by decide +kernel
theorem dX6_mixesRow_48 : decode cX6_mixesRow 48 = .ok (.invokevirtual 153, 3) := by decide +kernel
theorem dX6_mixesRow_51 : decode cX6_mixesRow 51 = .ok (.i2l, 1) := by decide +kernel
theorem dX6_mixesRow_52 : decode cX6_mixesRow 52 = .ok (.invokevirtual 199, 3) := by decide +kernel
theorem dX6_mixesRow_55 : decode cX6_mixesRow 55 = .ok (.iinc 2 1, 3) := by decide +kernel
theorem dX6_mixesRow_58 : decode cX6_mixesRow 58 = .ok (.goto (-20), 3) := by decide +kernel
theorem dX6_mixesRow_61 : decode cX6_mixesRow 61 = .ok (.iinc 1 1, 3) := by decide +kernel
theorem dX6_mixesRow_64 : decode cX6_mixesRow 64 = .ok (.goto (-62), 3) := by decide +kernel
theorem dX6_mixesRow_67 : decode cX6_mixesRow 67 = .ok (.iconst 0, 1) := by decide +kernel
theorem dX6_mixesRow_68 : decode cX6_mixesRow 68 = .ok (.istore_n 1, 1) := by decide +kernel
theorem dX6_mixesRow_69 : decode cX6_mixesRow 69 = .ok (.iload_n 1, 1) := by decide +kernel
theorem dX6_mixesRow_70 : decode cX6_mixesRow 70 = .ok (.aload_n 0, 1) := by decide +kernel
theorem dX6_mixesRow_71 : decode cX6_mixesRow 71 = .ok (.getfield 7, 3) := by decide +kernel
theorem dX6_mixesRow_74 : decode cX6_mixesRow 74 = .ok (.iconst 0, 1) := by decide +kernel
theorem dX6_mixesRow_75 : decode cX6_mixesRow 75 = .ok (.iaload, 1) := by decide +kernel
theorem dX6_mixesRow_76 : decode cX6_mixesRow 76 = .ok (.if_icmp .ge 33, 3) := by decide +kernel
theorem dX6_mixesRow_79 : decode cX6_mixesRow 79 = .ok (.aload_n 0, 1) := by decide +kernel
theorem dX6_mixesRow_80 : decode cX6_mixesRow 80 = .ok (.aload_n 0, 1) := by decide +kernel
theorem dX6_mixesRow_81 : decode cX6_mixesRow 81 = .ok (.getfield 7, 3) := by decide +kernel
theorem dX6_mixesRow_84 : decode cX6_mixesRow 84 = .ok (.bipush 6, 2) := by decide +kernel
theorem dX6_mixesRow_86 : decode cX6_mixesRow 86 = .ok (.iload_n 1, 1) := by decide +kernel
theorem dX6_mixesRow_87 : decode cX6_mixesRow 87 = .ok (.iadd, 1) := by decide +kernel
theorem dX6_mixesRow_88 : decode cX6_mixesRow 88 = .ok (.iaload, 1) := by decide +kernel
theorem dX6_mixesRow_89 : decode cX6_mixesRow 89 = .ok (.i2l, 1) := by decide +kernel
theorem dX6_mixesRow_90 : decode cX6_mixesRow 90 = .ok (.invokevirtual 199, 3) := by decide +kernel
theorem dX6_mixesRow_93 : decode cX6_mixesRow 93 = .ok (.aload_n 0, 1) := by decide +kernel
theorem dX6_mixesRow_94 : decode cX6_mixesRow 94 = .ok (.aload_n 0, 1) := by decide +kernel
theorem dX6_mixesRow_95 : decode cX6_mixesRow 95 = .ok (.iload_n 1, 1) := by decide +kernel
theorem dX6_mixesRow_96 : decode cX6_mixesRow 96 = .ok (.invokevirtual 157, 3) := by decide +kernel
theorem dX6_mixesRow_99 : decode cX6_mixesRow 99 = .ok (.i2l, 1) := by decide +kernel
theorem dX6_mixesRow_100 : decode cX6_mixesRow 100 = .ok (.invokevirtual 199, 3) := by decide +kernel
theorem dX6_mixesRow_103 : decode cX6_mixesRow 103 = .ok (.iinc 1 1, 3) := by decide +kernel
theorem dX6_mixesRow_106 : decode cX6_mixesRow 106 = .ok (.goto (-37), 3) := by decide +kernel
theorem dX6_mixesRow_109 : decode cX6_mixesRow 109 = .ok (.iconst 0, 1) := by decide +kernel
theorem dX6_mixesRow_110 : decode cX6_mixesRow 110 = .ok (.istore_n 1, 1) := by decide +kernel
theorem dX6_mixesRow_111 : decode cX6_mixesRow 111 = .ok (.iload_n 1, 1) := by decide +kernel
theorem dX6_mixesRow_112 : decode cX6_mixesRow 112 = .ok (.bipush 12, 2) := by decide +kernel
theorem dX6_mixesRow_114 : decode cX6_mixesRow 114 = .ok (.if_icmp .ge 24, 3) := by decide +kernel
theorem dX6_mixesRow_117 : decode cX6_mixesRow 117 = .ok (.aload_n 0, 1) := by decide +kernel
theorem dX6_mixesRow_118 : decode cX6_mixesRow 118 = .ok (.aload_n 0, 1) := by decide +kernel
theorem dX6_mixesRow_119 : decode cX6_mixesRow 119 = .ok (.iload_n 1, 1) := by decide +kernel
theorem dX6_mixesRow_120 : decode cX6_mixesRow 120 = .ok (.iconst 3, 1) := by decide +kernel
theorem dX6_mixesRow_121 : decode cX6_mixesRow 121 = .ok (.idiv, 1) := by decide +kernel
theorem dX6_mixesRow_122 : decode cX6_mixesRow 122 = .ok (.iload_n 1, 1) := by decide +kernel
theorem dX6_mixesRow_123 : decode cX6_mixesRow 123 = .ok (.iconst 3, 1) := by decide +kernel
theorem dX6_mixesRow_124 : decode cX6_mixesRow 124 = .ok (.irem, 1) := by decide +kernel
theorem dX6_mixesRow_125 : decode cX6_mixesRow 125 = .ok (.invokevirtual 163, 3) := by decide +kernel
theorem dX6_mixesRow_128 : decode cX6_mixesRow 128 = .ok (.i2l, 1) := by decide +kernel
theorem dX6_mixesRow_129 : decode cX6_mixesRow 129 = .ok (.invokevirtual 199, 3) := by decide +kernel
theorem dX6_mixesRow_132 : decode cX6_mixesRow 132 = .ok (.iinc 1 1, 3) := by decide +kernel
theorem dX6_mixesRow_135 : decode cX6_mixesRow 135 = .ok (.goto (-24), 3) := by decide +kernel
theorem dX6_mixesRow_138 : decode cX6_mixesRow 138 = .ok (.return_, 1) := by decide +kernel
theorem dX6_digest_0 : decode cX6_digest 0 = .ok (.aload_n 0, 1) := by decide +kernel
theorem dX6_digest_1 : decode cX6_digest 1 = .ok (.iconst 0, 1) := by decide +kernel
theorem dX6_digest_2 : decode cX6_digest 2 = .ok (.putfield 25, 3) := by decide +kernel
theorem dX6_digest_5 : decode cX6_digest 5 = .ok (.aload_n 0, 1) := by decide +kernel
theorem dX6_digest_6 : decode cX6_digest 6 = .ok (.ldc2_w 203, 3) := by decide +kernel
theorem dX6_digest_9 : decode cX6_digest 9 = .ok (.putfield 195, 3) := by decide +kernel
theorem dX6_digest_12 : decode cX6_digest 12 = .ok (.iconst 0, 1) := by decide +kernel
theorem dX6_digest_13 : decode cX6_digest 13 = .ok (.istore_n 1, 1) := by decide +kernel
theorem dX6_digest_14 : decode cX6_digest 14 = .ok (.iload_n 1, 1) := by decide +kernel
theorem dX6_digest_15 : decode cX6_digest 15 = .ok (.bipush 10, 2) := by decide +kernel
theorem dX6_digest_17 : decode cX6_digest 17 = .ok (.if_icmp .ge 19, 3) := by decide +kernel
theorem dX6_digest_20 : decode cX6_digest 20 = .ok (.aload_n 0, 1) := by decide +kernel
theorem dX6_digest_21 : decode cX6_digest 21 = .ok (.aload_n 0, 1) := by decide +kernel
theorem dX6_digest_22 : decode cX6_digest 22 = .ok (.iload_n 1, 1) := by decide +kernel
theorem dX6_digest_23 : decode cX6_digest 23 = .ok (.invokevirtual 173, 3) := by decide +kernel
theorem dX6_digest_26 : decode cX6_digest 26 = .ok (.i2l, 1) := by decide +kernel
theorem dX6_digest_27 : decode cX6_digest 27 = .ok (.invokevirtual 199, 3) := by decide +kernel
theorem dX6_digest_30 : decode cX6_digest 30 = .ok (.iinc 1 1, 3) := by decide +kernel
theorem dX6_digest_33 : decode cX6_digest 33 = .ok (.goto (-19), 3) := by decide +kernel
theorem dX6_digest_36 : decode cX6_digest 36 = .ok (.aload_n 0, 1) := by decide +kernel
theorem dX6_digest_37 : decode cX6_digest 37 = .ok (.invokevirtual 205, 3) := by decide +kernel
theorem dX6_digest_40 : decode cX6_digest 40 = .ok (.iconst 1, 1) := by decide +kernel
theorem dX6_digest_41 : decode cX6_digest 41 = .ok (.istore_n 1, 1) := by decide +kernel
theorem dX6_digest_42 : decode cX6_digest 42 = .ok (.iload_n 1, 1) := by decide +kernel
theorem dX6_digest_43 : decode cX6_digest 43 = .ok (.iconst 5, 1) := by decide +kernel
theorem dX6_digest_44 : decode cX6_digest 44 = .ok (.if_icmp .ge 19, 3) := by decide +kernel
theorem dX6_digest_47 : decode cX6_digest 47 = .ok (.aload_n 0, 1) := by decide +kernel
theorem dX6_digest_48 : decode cX6_digest 48 = .ok (.aload_n 0, 1) := by decide +kernel
theorem dX6_digest_49 : decode cX6_digest 49 = .ok (.iload_n 1, 1) := by decide +kernel
theorem dX6_digest_50 : decode cX6_digest 50 = .ok (.invokevirtual 176, 3) := by decide +kernel
theorem dX6_digest_53 : decode cX6_digest 53 = .ok (.i2l, 1) := by decide +kernel
theorem dX6_digest_54 : decode cX6_digest 54 = .ok (.invokevirtual 199, 3) := by decide +kernel
theorem dX6_digest_57 : decode cX6_digest 57 = .ok (.iinc 1 1, 3) := by decide +kernel
theorem dX6_digest_60 : decode cX6_digest 60 = .ok (.goto (-18), 3) := by decide +kernel
theorem dX6_digest_63 : decode cX6_digest 63 = .ok (.aload_n 0, 1) := by decide +kernel
theorem dX6_digest_64 : decode cX6_digest 64 = .ok (.aload_n 0, 1) := by decide +kernel
theorem dX6_digest_65 : decode cX6_digest 65 = .ok (.iconst 0, 1) := by decide +kernel
theorem dX6_digest_66 : decode cX6_digest 66 = .ok (.invokevirtual 179, 3) := by decide +kernel
theorem dX6_digest_69 : decode cX6_digest 69 = .ok (.i2l, 1) := by decide +kernel
theorem dX6_digest_70 : decode cX6_digest 70 = .ok (.invokevirtual 199, 3) := by decide +kernel
theorem dX6_digest_73 : decode cX6_digest 73 = .ok (.aload_n 0, 1) := by decide +kernel
theorem dX6_digest_74 : decode cX6_digest 74 = .ok (.aload_n 0, 1) := by decide +kernel
theorem dX6_digest_75 : decode cX6_digest 75 = .ok (.iconst 1, 1) := by decide +kernel
theorem dX6_digest_76 : decode cX6_digest 76 = .ok (.invokevirtual 179, 3) := by decide +kernel
theorem dX6_digest_79 : decode cX6_digest 79 = .ok (.i2l, 1) := by decide +kernel
theorem dX6_digest_80 : decode cX6_digest 80 = .ok (.invokevirtual 199, 3) := by decide +kernel
theorem dX6_digest_83 : decode cX6_digest 83 = .ok (.iconst 0, 1) := by decide +kernel
theorem dX6_digest_84 : decode cX6_digest 84 = .ok (.istore_n 1, 1) := by decide +kernel
theorem dX6_digest_85 : decode cX6_digest 85 = .ok (.iload_n 1, 1) := by decide +kernel
theorem dX6_digest_86 : decode cX6_digest 86 = .ok (.iconst 3, 1) := by decide +kernel
theorem dX6_digest_87 : decode cX6_digest 87 = .ok (.if_icmp .ge 20, 3) := by decide +kernel
theorem dX6_digest_90 : decode cX6_digest 90 = .ok (.aload_n 0, 1) := by decide +kernel
theorem dX6_digest_91 : decode cX6_digest 91 = .ok (.aload_n 0, 1) := by decide +kernel
theorem dX6_digest_92 : decode cX6_digest 92 = .ok (.iconst 2, 1) := by decide +kernel
theorem dX6_digest_93 : decode cX6_digest 93 = .ok (.iload_n 1, 1) := by decide +kernel
theorem dX6_digest_94 : decode cX6_digest 94 = .ok (.invokevirtual 182, 3) := by decide +kernel
theorem dX6_digest_97 : decode cX6_digest 97 = .ok (.i2l, 1) := by decide +kernel
theorem dX6_digest_98 : decode cX6_digest 98 = .ok (.invokevirtual 199, 3) := by decide +kernel
theorem dX6_digest_101 : decode cX6_digest 101 = .ok (.iinc 1 1, 3) := by decide +kernel
theorem dX6_digest_104 : decode cX6_digest 104 = .ok (.goto (-19), 3) := by decide +kernel
theorem dX6_digest_107 : decode cX6_digest 107 = .ok (.iconst 1, 1) := by decide +kernel
theorem dX6_digest_108 : decode cX6_digest 108 = .ok (.istore_n 1, 1) := by decide +kernel
theorem dX6_digest_109 : decode cX6_digest 109 = .ok (.iload_n 1, 1) := by decide +kernel
theorem dX6_digest_110 : decode cX6_digest 110 = .ok (.iconst 5, 1) := by decide +kernel
theorem dX6_digest_111 : decode cX6_digest 111 = .ok (.if_icmp .ge 31, 3) := by decide +kernel
theorem dX6_digest_114 : decode cX6_digest 114 = .ok (.aload_n 0, 1) := by decide +kernel
theorem dX6_digest_115 : decode cX6_digest 115 = .ok (.aload_n 0, 1) := by decide +kernel
theorem dX6_digest_116 : decode cX6_digest 116 = .ok (.iload_n 1, 1) := by decide +kernel
theorem dX6_digest_117 : decode cX6_digest 117 = .ok (.iconst 0, 1) := by decide +kernel
theorem dX6_digest_118 : decode cX6_digest 118 = .ok (.invokevirtual 185, 3) := by decide +kernel
theorem dX6_digest_121 : decode cX6_digest 121 = .ok (.i2l, 1) := by decide +kernel
theorem dX6_digest_122 : decode cX6_digest 122 = .ok (.invokevirtual 199, 3) := by decide +kernel
theorem dX6_digest_125 : decode cX6_digest 125 = .ok (.aload_n 0, 1) := by decide +kernel
theorem dX6_digest_126 : decode cX6_digest 126 = .ok (.aload_n 0, 1) := by decide +kernel
theorem dX6_digest_127 : decode cX6_digest 127 = .ok (.iload_n 1, 1) := by decide +kernel
theorem dX6_digest_128 : decode cX6_digest 128 = .ok (.iconst 1, 1) := by decide +kernel
theorem dX6_digest_129 : decode cX6_digest 129 = .ok (.invokevirtual 185, 3) := by decide +kernel
theorem dX6_digest_132 : decode cX6_digest 132 = .ok (.i2l, 1) := by decide +kernel
theorem dX6_digest_133 : decode cX6_digest 133 = .ok (.invokevirtual 199, 3) := by decide +kernel
theorem dX6_digest_136 : decode cX6_digest 136 = .ok (.iinc 1 1, 3) := by decide +kernel
theorem dX6_digest_139 : decode cX6_digest 139 = .ok (.goto (-30), 3) := by decide +kernel
theorem dX6_digest_142 : decode cX6_digest 142 = .ok (.aload_n 0, 1) := by decide +kernel
theorem dX6_digest_143 : decode cX6_digest 143 = .ok (.aload_n 0, 1) := by decide +kernel
theorem dX6_digest_144 : decode cX6_digest 144 = .ok (.invokevirtual 189, 3) := by decide +kernel
theorem dX6_digest_147 : decode cX6_digest 147 = .ok (.invokestatic 208, 3) := by decide +kernel
theorem dX6_digest_150 : decode cX6_digest 150 = .ok (.invokevirtual 199, 3) := by decide +kernel
theorem dX6_digest_153 : decode cX6_digest 153 = .ok (.aload_n 0, 1) := by decide +kernel
theorem dX6_digest_154 : decode cX6_digest 154 = .ok (.aload_n 0, 1) := by decide +kernel
theorem dX6_digest_155 : decode cX6_digest 155 = .ok (.getfield 124, 3) := by decide +kernel
theorem dX6_digest_158 : decode cX6_digest 158 = .ok (.i2l, 1) := by decide +kernel
theorem dX6_digest_159 : decode cX6_digest 159 = .ok (.invokevirtual 199, 3) := by decide +kernel
theorem dX6_digest_162 : decode cX6_digest 162 = .ok (.iconst 0, 1) := by decide +kernel
theorem dX6_digest_163 : decode cX6_digest 163 = .ok (.istore_n 1, 1) := by decide +kernel
theorem dX6_digest_164 : decode cX6_digest 164 = .ok (.iload_n 1, 1) := by decide +kernel
theorem dX6_digest_165 : decode cX6_digest 165 = .ok (.aload_n 0, 1) := by decide +kernel
theorem dX6_digest_166 : decode cX6_digest 166 = .ok (.getfield 124, 3) := by decide +kernel
theorem dX6_digest_169 : decode cX6_digest 169 = .ok (.if_icmp .ge 20, 3) := by decide +kernel
theorem dX6_digest_172 : decode cX6_digest 172 = .ok (.aload_n 0, 1) := by decide +kernel
theorem dX6_digest_173 : decode cX6_digest 173 = .ok (.aload_n 0, 1) := by decide +kernel
theorem dX6_digest_174 : decode cX6_digest 174 = .ok (.getfield 19, 3) := by decide +kernel
theorem dX6_digest_177 : decode cX6_digest 177 = .ok (.iload_n 1, 1) := by decide +kernel
theorem dX6_digest_178 : decode cX6_digest 178 = .ok (.iaload, 1) := by decide +kernel
theorem dX6_digest_179 : decode cX6_digest 179 = .ok (.i2l, 1) := by decide +kernel
theorem dX6_digest_180 : decode cX6_digest 180 = .ok (.invokevirtual 199, 3) := by decide +kernel
theorem dX6_digest_183 : decode cX6_digest 183 = .ok (.iinc 1 1, 3) := by decide +kernel
theorem dX6_digest_186 : decode cX6_digest 186 = .ok (.goto (-22), 3) := by decide +kernel
theorem dX6_digest_189 : decode cX6_digest 189 = .ok (.aload_n 0, 1) := by decide +kernel
theorem dX6_digest_190 : decode cX6_digest 190 = .ok (.getfield 195, 3) := by decide +kernel
theorem dX6_digest_193 : decode cX6_digest 193 = .ok (.lreturn, 1) := by decide +kernel
theorem dJxe99ae_isNaN_b9ae7_0 : decode cJxe99ae_isNaN_b9ae7 0 = .ok (.dload_n 0, 1) := by decide +kernel
theorem dJxe99ae_isNaN_b9ae7_1 : decode cJxe99ae_isNaN_b9ae7 1 = .ok (.dload_n 0, 1) := by decide +kernel
theorem dJxe99ae_isNaN_b9ae7_2 : decode cJxe99ae_isNaN_b9ae7 2 = .ok (.dcmp .l, 1) := by decide +kernel
theorem dJxe99ae_isNaN_b9ae7_3 : decode cJxe99ae_isNaN_b9ae7 3 = .ok (.ifCond .eq 7, 3) := by decide +kernel
theorem dJxe99ae_isNaN_b9ae7_6 : decode cJxe99ae_isNaN_b9ae7 6 = .ok (.iconst 1, 1) := by decide +kernel
theorem dJxe99ae_isNaN_b9ae7_7 : decode cJxe99ae_isNaN_b9ae7 7 = .ok (.goto 4, 3) := by decide +kernel
theorem dJxe99ae_isNaN_b9ae7_10 : decode cJxe99ae_isNaN_b9ae7 10 = .ok (.iconst 0, 1) := by decide +kernel
theorem dJxe99ae_isNaN_b9ae7_11 : decode cJxe99ae_isNaN_b9ae7 11 = .ok (.ireturn, 1) := by decide +kernel
theorem dJxe99ae_doubleToLongBits_ccdee_0 : decode cJxe99ae_doubleToLongBits_ccdee 0 = .ok (.dload_n 0, 1) := by decide +kernel
theorem dJxe99ae_doubleToLongBits_ccdee_1 : decode cJxe99ae_doubleToLongBits_ccdee 1 = .ok (.invokestatic 122, 3) := by decide +kernel
theorem dJxe99ae_doubleToLongBits_ccdee_4 : decode cJxe99ae_doubleToLongBits_ccdee 4 = .ok (.ifCond .ne 8, 3) := by decide +kernel
theorem dJxe99ae_doubleToLongBits_ccdee_7 : decode cJxe99ae_doubleToLongBits_ccdee 7 = .ok (.dload_n 0, 1) := by decide +kernel
theorem dJxe99ae_doubleToLongBits_ccdee_8 : decode cJxe99ae_doubleToLongBits_ccdee 8 = .ok (.invokestatic 134, 3) := by decide +kernel
theorem dJxe99ae_doubleToLongBits_ccdee_11 : decode cJxe99ae_doubleToLongBits_ccdee 11 = .ok (.lreturn, 1) := by decide +kernel
theorem dJxe99ae_doubleToLongBits_ccdee_12 : decode cJxe99ae_doubleToLongBits_ccdee 12 = .ok (.ldc2_w 137, 3) := by decide +kernel
theorem dJxe99ae_doubleToLongBits_ccdee_15 : decode cJxe99ae_doubleToLongBits_ccdee 15 = .ok (.lreturn, 1) := by decide +kernel
theorem dJ9_max_7cf53_0 : decode cJ9_max_7cf53 0 = .ok (.iload_n 0, 1) := by decide +kernel
theorem dJ9_max_7cf53_1 : decode cJ9_max_7cf53 1 = .ok (.iload_n 1, 1) := by decide +kernel
theorem dJ9_max_7cf53_2 : decode cJ9_max_7cf53 2 = .ok (.if_icmp .lt 7, 3) := by decide +kernel
theorem dJ9_max_7cf53_5 : decode cJ9_max_7cf53 5 = .ok (.iload_n 0, 1) := by decide +kernel
theorem dJ9_max_7cf53_6 : decode cJ9_max_7cf53 6 = .ok (.goto 4, 3) := by decide +kernel
theorem dJ9_max_7cf53_9 : decode cJ9_max_7cf53 9 = .ok (.iload_n 1, 1) := by decide +kernel
theorem dJ9_max_7cf53_10 : decode cJ9_max_7cf53 10 = .ok (.ireturn, 1) := by decide +kernel
theorem dL_put_0 : decode cL_put 0 = .ok (.aload 4, 2) := by decide +kernel
theorem dL_put_2 : decode cL_put 2 = .ok (.iconst 0, 1) := by decide +kernel
theorem dL_put_3 : decode cL_put 3 = .ok (.aload_n 0, 1) := by decide +kernel
theorem dL_put_4 : decode cL_put 4 = .ok (.iload_n 1, 1) := by decide +kernel
theorem dL_put_5 : decode cL_put 5 = .ok (.iload_n 2, 1) := by decide +kernel
theorem dL_put_6 : decode cL_put 6 = .ok (.iload_n 3, 1) := by decide +kernel
theorem dL_put_7 : decode cL_put 7 = .ok (.invokevirtual 7, 3) := by decide +kernel
theorem dL_put_10 : decode cL_put 10 = .ok (.i2l, 1) := by decide +kernel
theorem dL_put_11 : decode cL_put 11 = .ok (.lastore, 1) := by decide +kernel
theorem dL_put_12 : decode cL_put 12 = .ok (.goto 11, 3) := by decide +kernel
theorem dL_put_15 : decode cL_put 15 = .ok (.astore 5, 2) := by decide +kernel
theorem dL_put_17 : decode cL_put 17 = .ok (.iconst 1, 1) := by decide +kernel
theorem dL_put_18 : decode cL_put 18 = .ok (.ireturn, 1) := by decide +kernel
theorem dL_put_19 : decode cL_put 19 = .ok (.astore 5, 2) := by decide +kernel
theorem dL_put_21 : decode cL_put 21 = .ok (.iconst 2, 1) := by decide +kernel
theorem dL_put_22 : decode cL_put 22 = .ok (.ireturn, 1) := by decide +kernel
theorem dL_put_23 : decode cL_put 23 = .ok (.iconst 0, 1) := by decide +kernel
theorem dL_put_24 : decode cL_put 24 = .ok (.ireturn, 1) := by decide +kernel
theorem dL_putBehind_0 : decode cL_putBehind 0 = .ok (.aload 5, 2) := by decide +kernel
theorem dL_putBehind_2 : decode cL_putBehind 2 = .ok (.iconst 0, 1) := by decide +kernel
theorem dL_putBehind_3 : decode cL_putBehind 3 = .ok (.aload_n 0, 1) := by decide +kernel
theorem dL_putBehind_4 : decode cL_putBehind 4 = .ok (.iload_n 1, 1) := by decide +kernel
theorem dL_putBehind_5 : decode cL_putBehind 5 = .ok (.iload_n 2, 1) := by decide +kernel
theorem dL_putBehind_6 : decode cL_putBehind 6 = .ok (.iload_n 3, 1) := by decide +kernel
theorem dL_putBehind_7 : decode cL_putBehind 7 = .ok (.iload 4, 2) := by decide +kernel
theorem dL_putBehind_9 : decode cL_putBehind 9 = .ok (.invokevirtual 17, 3) := by decide +kernel
theorem dL_putBehind_12 : decode cL_putBehind 12 = .ok (.i2l, 1) := by decide +kernel
theorem dL_putBehind_13 : decode cL_putBehind 13 = .ok (.lastore, 1) := by decide +kernel
theorem dL_putBehind_14 : decode cL_putBehind 14 = .ok (.goto 15, 3) := by decide +kernel
theorem dL_putBehind_17 : decode cL_putBehind 17 = .ok (.astore 6, 2) := by decide +kernel
theorem dL_putBehind_19 : decode cL_putBehind 19 = .ok (.iconst 1, 1) := by decide +kernel
theorem dL_putBehind_20 : decode cL_putBehind 20 = .ok (.ireturn, 1) := by decide +kernel
theorem dL_putBehind_21 : decode cL_putBehind 21 = .ok (.astore 6, 2) := by decide +kernel
theorem dL_putBehind_23 : decode cL_putBehind 23 = .ok (.iconst 2, 1) := by decide +kernel
theorem dL_putBehind_24 : decode cL_putBehind 24 = .ok (.ireturn, 1) := by decide +kernel
theorem dL_putBehind_25 : decode cL_putBehind 25 = .ok (.astore 6, 2) := by decide +kernel
theorem dL_putBehind_27 : decode cL_putBehind 27 = .ok (.iconst 3, 1) := by decide +kernel
theorem dL_putBehind_28 : decode cL_putBehind 28 = .ok (.ireturn, 1) := by decide +kernel
theorem dL_putBehind_29 : decode cL_putBehind 29 = .ok (.iconst 0, 1) := by decide +kernel
theorem dL_putBehind_30 : decode cL_putBehind 30 = .ok (.ireturn, 1) := by decide +kernel
theorem dL_remove_0 : decode cL_remove 0 = .ok (.aload_n 2, 1) := by decide +kernel
theorem dL_remove_1 : decode cL_remove 1 = .ok (.iconst 0, 1) := by decide +kernel
theorem dL_remove_2 : decode cL_remove 2 = .ok (.aload_n 0, 1) := by decide +kernel
theorem dL_remove_3 : decode cL_remove 3 = .ok (.iload_n 1, 1) := by decide +kernel
theorem dL_remove_4 : decode cL_remove 4 = .ok (.invokevirtual 23, 3) := by decide +kernel
theorem dL_remove_7 : decode cL_remove 7 = .ok (.i2l, 1) := by decide +kernel
theorem dL_remove_8 : decode cL_remove 8 = .ok (.lastore, 1) := by decide +kernel
theorem dL_remove_9 : decode cL_remove 9 = .ok (.goto 6, 3) := by decide +kernel
theorem dL_remove_12 : decode cL_remove 12 = .ok (.astore_n 3, 1) := by decide +kernel
theorem dL_remove_13 : decode cL_remove 13 = .ok (.iconst 1, 1) := by decide +kernel
theorem dL_remove_14 : decode cL_remove 14 = .ok (.ireturn, 1) := by decide +kernel
theorem dL_remove_15 : decode cL_remove 15 = .ok (.iconst 0, 1) := by decide +kernel
theorem dL_remove_16 : decode cL_remove 16 = .ok (.ireturn, 1) := by decide +kernel
theorem dL_change_0 : decode cL_change 0 = .ok (.aload_n 3, 1) := by decide +kernel
theorem dL_change_1 : decode cL_change 1 = .ok (.iconst 0, 1) := by decide +kernel
theorem dL_change_2 : decode cL_change 2 = .ok (.aload_n 0, 1) := by decide +kernel
theorem dL_change_3 : decode cL_change 3 = .ok (.iload_n 1, 1) := by decide +kernel
theorem dL_change_4 : decode cL_change 4 = .ok (.iload_n 2, 1) := by decide +kernel
theorem dL_change_5 : decode cL_change 5 = .ok (.invokevirtual 27, 3) := by decide +kernel
theorem dL_change_8 : decode cL_change 8 = .ok (.i2l, 1) := by decide +kernel
theorem dL_change_9 : decode cL_change 9 = .ok (.lastore, 1) := by decide +kernel
theorem dL_change_10 : decode cL_change 10 = .ok (.goto 11, 3) := by decide +kernel
theorem dL_change_13 : decode cL_change 13 = .ok (.astore 4, 2) := by decide +kernel
theorem dL_change_15 : decode cL_change 15 = .ok (.iconst 1, 1) := by decide +kernel
theorem dL_change_16 : decode cL_change 16 = .ok (.ireturn, 1) := by decide +kernel
theorem dL_change_17 : decode cL_change 17 = .ok (.astore 4, 2) := by decide +kernel
theorem dL_change_19 : decode cL_change 19 = .ok (.iconst 2, 1) := by decide +kernel
theorem dL_change_20 : decode cL_change 20 = .ok (.ireturn, 1) := by decide +kernel
theorem dL_change_21 : decode cL_change 21 = .ok (.iconst 0, 1) := by decide +kernel
theorem dL_change_22 : decode cL_change 22 = .ok (.ireturn, 1) := by decide +kernel
theorem dL_restart_0 : decode cL_restart 0 = .ok (.aload_n 2, 1) := by decide +kernel
theorem dL_restart_1 : decode cL_restart 1 = .ok (.iconst 0, 1) := by decide +kernel
theorem dL_restart_2 : decode cL_restart 2 = .ok (.aload_n 0, 1) := by decide +kernel
theorem dL_restart_3 : decode cL_restart 3 = .ok (.iload_n 1, 1) := by decide +kernel
theorem dL_restart_4 : decode cL_restart 4 = .ok (.invokevirtual 31, 3) := by decide +kernel
theorem dL_restart_7 : decode cL_restart 7 = .ok (.i2l, 1) := by decide +kernel
theorem dL_restart_8 : decode cL_restart 8 = .ok (.lastore, 1) := by decide +kernel
theorem dL_restart_9 : decode cL_restart 9 = .ok (.goto 6, 3) := by decide +kernel
theorem dL_restart_12 : decode cL_restart 12 = .ok (.astore_n 3, 1) := by decide +kernel
theorem dL_restart_13 : decode cL_restart 13 = .ok (.iconst 1, 1) := by decide +kernel
theorem dL_restart_14 : decode cL_restart 14 = .ok (.ireturn, 1) := by decide +kernel
theorem dL_restart_15 : decode cL_restart 15 = .ok (.iconst 0, 1) := by decide +kernel
theorem dL_restart_16 : decode cL_restart 16 = .ok (.ireturn, 1) := by decide +kernel
theorem dL_goOn_0 : decode cL_goOn 0 = .ok (.aload_n 2, 1) := by decide +kernel
theorem dL_goOn_1 : decode cL_goOn 1 = .ok (.iconst 0, 1) := by decide +kernel
theorem dL_goOn_2 : decode cL_goOn 2 = .ok (.aload_n 0, 1) := by decide +kernel
theorem dL_goOn_3 : decode cL_goOn 3 = .ok (.iload_n 1, 1) := by decide +kernel
theorem dL_goOn_4 : decode cL_goOn 4 = .ok (.invokevirtual 34, 3) := by decide +kernel
theorem dL_goOn_7 : decode cL_goOn 7 = .ok (.i2l, 1) := by decide +kernel
theorem dL_goOn_8 : decode cL_goOn 8 = .ok (.lastore, 1) := by decide +kernel
theorem dL_goOn_9 : decode cL_goOn 9 = .ok (.goto 6, 3) := by decide +kernel
theorem dL_goOn_12 : decode cL_goOn 12 = .ok (.astore_n 3, 1) := by decide +kernel
theorem dL_goOn_13 : decode cL_goOn 13 = .ok (.iconst 1, 1) := by decide +kernel
theorem dL_goOn_14 : decode cL_goOn 14 = .ok (.ireturn, 1) := by decide +kernel
theorem dL_goOn_15 : decode cL_goOn 15 = .ok (.iconst 0, 1) := by decide +kernel
theorem dL_goOn_16 : decode cL_goOn 16 = .ok (.ireturn, 1) := by decide +kernel
theorem dL_take_0 : decode cL_take 0 = .ok (.aload_n 2, 1) := by decide +kernel
theorem dL_take_1 : decode cL_take 1 = .ok (.iconst 0, 1) := by decide +kernel
theorem dL_take_2 : decode cL_take 2 = .ok (.aload_n 0, 1) := by decide +kernel
theorem dL_take_3 : decode cL_take 3 = .ok (.iload_n 1, 1) := by decide +kernel
theorem dL_take_4 : decode cL_take 4 = .ok (.invokevirtual 37, 3) := by decide +kernel
theorem dL_take_7 : decode cL_take 7 = .ok (.i2l, 1) := by decide +kernel
theorem dL_take_8 : decode cL_take 8 = .ok (.lastore, 1) := by decide +kernel
theorem dL_take_9 : decode cL_take 9 = .ok (.goto 9, 3) := by decide +kernel
theorem dL_take_12 : decode cL_take 12 = .ok (.astore_n 3, 1) := by decide +kernel
theorem dL_take_13 : decode cL_take 13 = .ok (.iconst 1, 1) := by decide +kernel
theorem dL_take_14 : decode cL_take 14 = .ok (.ireturn, 1) := by decide +kernel
theorem dL_take_15 : decode cL_take 15 = .ok (.astore_n 3, 1) := by decide +kernel
theorem dL_take_16 : decode cL_take 16 = .ok (.iconst 2, 1) := by decide +kernel
theorem dL_take_17 : decode cL_take 17 = .ok (.ireturn, 1) := by decide +kernel
theorem dL_take_18 : decode cL_take 18 = .ok (.iconst 0, 1) := by decide +kernel
theorem dL_take_19 : decode cL_take 19 = .ok (.ireturn, 1) := by decide +kernel
theorem dL_append_0 : decode cL_append 0 = .ok (.aload_n 2, 1) := by decide +kernel
theorem dL_append_1 : decode cL_append 1 = .ok (.iconst 0, 1) := by decide +kernel
theorem dL_append_2 : decode cL_append 2 = .ok (.aload_n 0, 1) := by decide +kernel
theorem dL_append_3 : decode cL_append 3 = .ok (.iload_n 1, 1) := by decide +kernel
theorem dL_append_4 : decode cL_append 4 = .ok (.invokevirtual 40, 3) := by decide +kernel
theorem dL_append_7 : decode cL_append 7 = .ok (.i2l, 1) := by decide +kernel
theorem dL_append_8 : decode cL_append 8 = .ok (.lastore, 1) := by decide +kernel
theorem dL_append_9 : decode cL_append 9 = .ok (.goto 9, 3) := by decide +kernel
theorem dL_append_12 : decode cL_append 12 = .ok (.astore_n 3, 1) := by decide +kernel
theorem dL_append_13 : decode cL_append 13 = .ok (.iconst 1, 1) := by decide +kernel
theorem dL_append_14 : decode cL_append 14 = .ok (.ireturn, 1) := by decide +kernel
theorem dL_append_15 : decode cL_append 15 = .ok (.astore_n 3, 1) := by decide +kernel
theorem dL_append_16 : decode cL_append 16 = .ok (.iconst 2, 1) := by decide +kernel
theorem dL_append_17 : decode cL_append 17 = .ok (.ireturn, 1) := by decide +kernel
theorem dL_append_18 : decode cL_append 18 = .ok (.iconst 0, 1) := by decide +kernel
theorem dL_append_19 : decode cL_append 19 = .ok (.ireturn, 1) := by decide +kernel
theorem dL_putAll_0 : decode cL_putAll 0 = .ok (.aload_n 1, 1) := by decide +kernel
theorem dL_putAll_1 : decode cL_putAll 1 = .ok (.iconst 0, 1) := by decide +kernel
theorem dL_putAll_2 : decode cL_putAll 2 = .ok (.aload_n 0, 1) := by decide +kernel
theorem dL_putAll_3 : decode cL_putAll 3 = .ok (.invokevirtual 43, 3) := by decide +kernel
theorem dL_putAll_6 : decode cL_putAll 6 = .ok (.i2l, 1) := by decide +kernel
theorem dL_putAll_7 : decode cL_putAll 7 = .ok (.lastore, 1) := by decide +kernel
theorem dL_putAll_8 : decode cL_putAll 8 = .ok (.goto 6, 3) := by decide +kernel
theorem dL_putAll_11 : decode cL_putAll 11 = .ok (.astore_n 2, 1) := by decide +kernel
theorem dL_putAll_12 : decode cL_putAll 12 = .ok (.iconst 1, 1) := by decide +kernel
theorem dL_putAll_13 : decode cL_putAll 13 = .ok (.ireturn, 1) := by decide +kernel
theorem dL_putAll_14 : decode cL_putAll 14 = .ok (.iconst 0, 1) := by decide +kernel
theorem dL_putAll_15 : decode cL_putAll 15 = .ok (.ireturn, 1) := by decide +kernel
theorem dL_undo_0 : decode cL_undo 0 = .ok (.aload_n 1, 1) := by decide +kernel
theorem dL_undo_1 : decode cL_undo 1 = .ok (.iconst 0, 1) := by decide +kernel
theorem dL_undo_2 : decode cL_undo 2 = .ok (.aload_n 0, 1) := by decide +kernel
theorem dL_undo_3 : decode cL_undo 3 = .ok (.invokevirtual 47, 3) := by decide +kernel
theorem dL_undo_6 : decode cL_undo 6 = .ok (.i2l, 1) := by decide +kernel
theorem dL_undo_7 : decode cL_undo 7 = .ok (.lastore, 1) := by decide +kernel
theorem dL_undo_8 : decode cL_undo 8 = .ok (.goto 6, 3) := by decide +kernel
theorem dL_undo_11 : decode cL_undo 11 = .ok (.astore_n 2, 1) := by decide +kernel
theorem dL_undo_12 : decode cL_undo 12 = .ok (.iconst 1, 1) := by decide +kernel
theorem dL_undo_13 : decode cL_undo 13 = .ok (.ireturn, 1) := by decide +kernel
theorem dL_undo_14 : decode cL_undo 14 = .ok (.iconst 0, 1) := by decide +kernel
theorem dL_undo_15 : decode cL_undo 15 = .ok (.ireturn, 1) := by decide +kernel
theorem dL_thing_0 : decode cL_thing 0 = .ok (.aload_n 3, 1) := by decide +kernel
theorem dL_thing_1 : decode cL_thing 1 = .ok (.iconst 0, 1) := by decide +kernel
theorem dL_thing_2 : decode cL_thing 2 = .ok (.aload_n 0, 1) := by decide +kernel
theorem dL_thing_3 : decode cL_thing 3 = .ok (.iload_n 1, 1) := by decide +kernel
theorem dL_thing_4 : decode cL_thing 4 = .ok (.iload_n 2, 1) := by decide +kernel
theorem dL_thing_5 : decode cL_thing 5 = .ok (.invokevirtual 50, 3) := by decide +kernel
theorem dL_thing_8 : decode cL_thing 8 = .ok (.i2l, 1) := by decide +kernel
theorem dL_thing_9 : decode cL_thing 9 = .ok (.lastore, 1) := by decide +kernel
theorem dL_thing_10 : decode cL_thing 10 = .ok (.goto 11, 3) := by decide +kernel
theorem dL_thing_13 : decode cL_thing 13 = .ok (.astore 4, 2) := by decide +kernel
theorem dL_thing_15 : decode cL_thing 15 = .ok (.iconst 1, 1) := by decide +kernel
theorem dL_thing_16 : decode cL_thing 16 = .ok (.ireturn, 1) := by decide +kernel
theorem dL_thing_17 : decode cL_thing 17 = .ok (.astore 4, 2) := by decide +kernel
theorem dL_thing_19 : decode cL_thing 19 = .ok (.iconst 2, 1) := by decide +kernel
theorem dL_thing_20 : decode cL_thing 20 = .ok (.ireturn, 1) := by decide +kernel
theorem dL_thing_21 : decode cL_thing 21 = .ok (.iconst 0, 1) := by decide +kernel
theorem dL_thing_22 : decode cL_thing 22 = .ok (.ireturn, 1) := by decide +kernel
theorem dL_at_0 : decode cL_at 0 = .ok (.aload_n 2, 1) := by decide +kernel
theorem dL_at_1 : decode cL_at 1 = .ok (.iconst 0, 1) := by decide +kernel
theorem dL_at_2 : decode cL_at 2 = .ok (.aload_n 0, 1) := by decide +kernel
theorem dL_at_3 : decode cL_at 3 = .ok (.iload_n 1, 1) := by decide +kernel
theorem dL_at_4 : decode cL_at 4 = .ok (.invokevirtual 53, 3) := by decide +kernel
theorem dL_at_7 : decode cL_at 7 = .ok (.i2l, 1) := by decide +kernel
theorem dL_at_8 : decode cL_at 8 = .ok (.lastore, 1) := by decide +kernel
theorem dL_at_9 : decode cL_at 9 = .ok (.goto 6, 3) := by decide +kernel
theorem dL_at_12 : decode cL_at 12 = .ok (.astore_n 3, 1) := by decide +kernel
theorem dL_at_13 : decode cL_at 13 = .ok (.iconst 1, 1) := by decide +kernel
theorem dL_at_14 : decode cL_at 14 = .ok (.ireturn, 1) := by decide +kernel
theorem dL_at_15 : decode cL_at 15 = .ok (.iconst 0, 1) := by decide +kernel
theorem dL_at_16 : decode cL_at 16 = .ok (.ireturn, 1) := by decide +kernel
theorem dL_cell_0 : decode cL_cell 0 = .ok (.aload_n 3, 1) := by decide +kernel
theorem dL_cell_1 : decode cL_cell 1 = .ok (.iconst 0, 1) := by decide +kernel
theorem dL_cell_2 : decode cL_cell 2 = .ok (.aload_n 0, 1) := by decide +kernel
theorem dL_cell_3 : decode cL_cell 3 = .ok (.iload_n 1, 1) := by decide +kernel
theorem dL_cell_4 : decode cL_cell 4 = .ok (.iload_n 2, 1) := by decide +kernel
theorem dL_cell_5 : decode cL_cell 5 = .ok (.invokevirtual 56, 3) := by decide +kernel
theorem dL_cell_8 : decode cL_cell 8 = .ok (.i2l, 1) := by decide +kernel
theorem dL_cell_9 : decode cL_cell 9 = .ok (.lastore, 1) := by decide +kernel
theorem dL_cell_10 : decode cL_cell 10 = .ok (.goto 11, 3) := by decide +kernel
theorem dL_cell_13 : decode cL_cell 13 = .ok (.astore 4, 2) := by decide +kernel
theorem dL_cell_15 : decode cL_cell 15 = .ok (.iconst 1, 1) := by decide +kernel
theorem dL_cell_16 : decode cL_cell 16 = .ok (.ireturn, 1) := by decide +kernel
theorem dL_cell_17 : decode cL_cell 17 = .ok (.astore 4, 2) := by decide +kernel
theorem dL_cell_19 : decode cL_cell 19 = .ok (.iconst 2, 1) := by decide +kernel
theorem dL_cell_20 : decode cL_cell 20 = .ok (.ireturn, 1) := by decide +kernel
theorem dL_cell_21 : decode cL_cell 21 = .ok (.iconst 0, 1) := by decide +kernel
theorem dL_cell_22 : decode cL_cell 22 = .ok (.ireturn, 1) := by decide +kernel
theorem dL_walker_0 : decode cL_walker 0 = .ok (.aload_n 3, 1) := by decide +kernel
theorem dL_walker_1 : decode cL_walker 1 = .ok (.iconst 0, 1) := by decide +kernel
theorem dL_walker_2 : decode cL_walker 2 = .ok (.aload_n 0, 1) := by decide +kernel
theorem dL_walker_3 : decode cL_walker 3 = .ok (.iload_n 1, 1) := by decide +kernel
theorem dL_walker_4 : decode cL_walker 4 = .ok (.iload_n 2, 1) := by decide +kernel
theorem dL_walker_5 : decode cL_walker 5 = .ok (.invokevirtual 59, 3) := by decide +kernel
theorem dL_walker_8 : decode cL_walker 8 = .ok (.i2l, 1) := by decide +kernel
theorem dL_walker_9 : decode cL_walker 9 = .ok (.lastore, 1) := by decide +kernel
theorem dL_walker_10 : decode cL_walker 10 = .ok (.goto 11, 3) := by decide +kernel
theorem dL_walker_13 : decode cL_walker 13 = .ok (.astore 4, 2) := by decide +kernel
theorem dL_walker_15 : decode cL_walker 15 = .ok (.iconst 1, 1) := by decide +kernel
theorem dL_walker_16 : decode cL_walker 16 = .ok (.ireturn, 1) := by decide +kernel
theorem dL_walker_17 : decode cL_walker 17 = .ok (.astore 4, 2) := by decide +kernel
theorem dL_walker_19 : decode cL_walker 19 = .ok (.iconst 2, 1) := by decide +kernel
theorem dL_walker_20 : decode cL_walker 20 = .ok (.ireturn, 1) := by decide +kernel
theorem dL_walker_21 : decode cL_walker 21 = .ok (.iconst 0, 1) := by decide +kernel
theorem dL_walker_22 : decode cL_walker 22 = .ok (.ireturn, 1) := by decide +kernel
theorem dL_count_0 : decode cL_count 0 = .ok (.aload_n 2, 1) := by decide +kernel
theorem dL_count_1 : decode cL_count 1 = .ok (.iconst 0, 1) := by decide +kernel
theorem dL_count_2 : decode cL_count 2 = .ok (.aload_n 0, 1) := by decide +kernel
theorem dL_count_3 : decode cL_count 3 = .ok (.iload_n 1, 1) := by decide +kernel
theorem dL_count_4 : decode cL_count 4 = .ok (.invokevirtual 62, 3) := by decide +kernel
theorem dL_count_7 : decode cL_count 7 = .ok (.i2l, 1) := by decide +kernel
theorem dL_count_8 : decode cL_count 8 = .ok (.lastore, 1) := by decide +kernel
theorem dL_count_9 : decode cL_count 9 = .ok (.goto 6, 3) := by decide +kernel
theorem dL_count_12 : decode cL_count 12 = .ok (.astore_n 3, 1) := by decide +kernel
theorem dL_count_13 : decode cL_count 13 = .ok (.iconst 1, 1) := by decide +kernel
theorem dL_count_14 : decode cL_count 14 = .ok (.ireturn, 1) := by decide +kernel
theorem dL_count_15 : decode cL_count 15 = .ok (.iconst 0, 1) := by decide +kernel
theorem dL_count_16 : decode cL_count 16 = .ok (.ireturn, 1) := by decide +kernel
theorem dL_begins_0 : decode cL_begins 0 = .ok (.aload_n 2, 1) := by decide +kernel
theorem dL_begins_1 : decode cL_begins 1 = .ok (.iconst 0, 1) := by decide +kernel
theorem dL_begins_2 : decode cL_begins 2 = .ok (.aload_n 0, 1) := by decide +kernel
theorem dL_begins_3 : decode cL_begins 3 = .ok (.iload_n 1, 1) := by decide +kernel
theorem dL_begins_4 : decode cL_begins 4 = .ok (.invokevirtual 65, 3) := by decide +kernel
theorem dL_begins_7 : decode cL_begins 7 = .ok (.i2l, 1) := by decide +kernel
theorem dL_begins_8 : decode cL_begins 8 = .ok (.lastore, 1) := by decide +kernel
theorem dL_begins_9 : decode cL_begins 9 = .ok (.goto 6, 3) := by decide +kernel
theorem dL_begins_12 : decode cL_begins 12 = .ok (.astore_n 3, 1) := by decide +kernel
theorem dL_begins_13 : decode cL_begins 13 = .ok (.iconst 1, 1) := by decide +kernel
theorem dL_begins_14 : decode cL_begins 14 = .ok (.ireturn, 1) := by decide +kernel
theorem dL_begins_15 : decode cL_begins 15 = .ok (.iconst 0, 1) := by decide +kernel
theorem dL_begins_16 : decode cL_begins 16 = .ok (.ireturn, 1) := by decide +kernel
theorem dL_gap_0 : decode cL_gap 0 = .ok (.aload_n 2, 1) := by decide +kernel
theorem dL_gap_1 : decode cL_gap 1 = .ok (.iconst 0, 1) := by decide +kernel
theorem dL_gap_2 : decode cL_gap 2 = .ok (.aload_n 0, 1) := by decide +kernel
theorem dL_gap_3 : decode cL_gap 3 = .ok (.iload_n 1, 1) := by decide +kernel
theorem dL_gap_4 : decode cL_gap 4 = .ok (.invokevirtual 68, 3) := by decide +kernel
theorem dL_gap_7 : decode cL_gap 7 = .ok (.i2l, 1) := by decide +kernel
theorem dL_gap_8 : decode cL_gap 8 = .ok (.lastore, 1) := by decide +kernel
theorem dL_gap_9 : decode cL_gap 9 = .ok (.goto 6, 3) := by decide +kernel
theorem dL_gap_12 : decode cL_gap 12 = .ok (.astore_n 3, 1) := by decide +kernel
theorem dL_gap_13 : decode cL_gap 13 = .ok (.iconst 1, 1) := by decide +kernel
theorem dL_gap_14 : decode cL_gap 14 = .ok (.ireturn, 1) := by decide +kernel
theorem dL_gap_15 : decode cL_gap 15 = .ok (.iconst 0, 1) := by decide +kernel
theorem dL_gap_16 : decode cL_gap 16 = .ok (.ireturn, 1) := by decide +kernel
theorem dL_ifFired_0 : decode cL_ifFired 0 = .ok (.aload_n 3, 1) := by decide +kernel
theorem dL_ifFired_1 : decode cL_ifFired 1 = .ok (.iconst 0, 1) := by decide +kernel
theorem dL_ifFired_2 : decode cL_ifFired 2 = .ok (.aload_n 0, 1) := by decide +kernel
theorem dL_ifFired_3 : decode cL_ifFired 3 = .ok (.iload_n 1, 1) := by decide +kernel
theorem dL_ifFired_4 : decode cL_ifFired 4 = .ok (.iload_n 2, 1) := by decide +kernel
theorem dL_ifFired_5 : decode cL_ifFired 5 = .ok (.invokevirtual 71, 3) := by decide +kernel
theorem dL_ifFired_8 : decode cL_ifFired 8 = .ok (.i2l, 1) := by decide +kernel
theorem dL_ifFired_9 : decode cL_ifFired 9 = .ok (.lastore, 1) := by decide +kernel
theorem dL_ifFired_10 : decode cL_ifFired 10 = .ok (.goto 7, 3) := by decide +kernel
theorem dL_ifFired_13 : decode cL_ifFired 13 = .ok (.astore 4, 2) := by decide +kernel
theorem dL_ifFired_15 : decode cL_ifFired 15 = .ok (.iconst 1, 1) := by decide +kernel
theorem dL_ifFired_16 : decode cL_ifFired 16 = .ok (.ireturn, 1) := by decide +kernel
theorem dL_ifFired_17 : decode cL_ifFired 17 = .ok (.iconst 0, 1) := by decide +kernel
theorem dL_ifFired_18 : decode cL_ifFired 18 = .ok (.ireturn, 1) := by decide +kernel
theorem dL_room_0 : decode cL_room 0 = .ok (.aload_n 3, 1) := by decide +kernel
theorem dL_room_1 : decode cL_room 1 = .ok (.iconst 0, 1) := by decide +kernel
theorem dL_room_2 : decode cL_room 2 = .ok (.aload_n 0, 1) := by decide +kernel
theorem dL_room_3 : decode cL_room 3 = .ok (.iload_n 1, 1) := by decide +kernel
theorem dL_room_4 : decode cL_room 4 = .ok (.iload_n 2, 1) := by decide +kernel
theorem dL_room_5 : decode cL_room 5 = .ok (.invokevirtual 74, 3) := by decide +kernel
theorem dL_room_8 : decode cL_room 8 = .ok (.i2l, 1) := by decide +kernel
theorem dL_room_9 : decode cL_room 9 = .ok (.lastore, 1) := by decide +kernel
theorem dL_room_10 : decode cL_room 10 = .ok (.goto 7, 3) := by decide +kernel
theorem dL_room_13 : decode cL_room 13 = .ok (.astore 4, 2) := by decide +kernel
theorem dL_room_15 : decode cL_room 15 = .ok (.iconst 1, 1) := by decide +kernel
theorem dL_room_16 : decode cL_room 16 = .ok (.ireturn, 1) := by decide +kernel
theorem dL_room_17 : decode cL_room 17 = .ok (.iconst 0, 1) := by decide +kernel
theorem dL_room_18 : decode cL_room 18 = .ok (.ireturn, 1) := by decide +kernel
theorem dL_law_0 : decode cL_law 0 = .ok (.new 8, 3) := by decide +kernel
theorem dL_law_3 : decode cL_law 3 = .ok (.dup, 1) := by decide +kernel
theorem dL_law_4 : decode cL_law 4 = .ok (.invokespecial 78, 3) := by decide +kernel
theorem dL_law_7 : decode cL_law 7 = .ok (.astore_n 1, 1) := by decide +kernel
theorem dL_law_8 : decode cL_law 8 = .ok (.new 79, 3) := by decide +kernel
theorem dL_law_11 : decode cL_law 11 = .ok (.dup, 1) := by decide +kernel
theorem dL_law_12 : decode cL_law 12 = .ok (.invokespecial 81, 3) := by decide +kernel
theorem dL_law_15 : decode cL_law 15 = .ok (.astore_n 2, 1) := by decide +kernel
theorem dL_law_16 : decode cL_law 16 = .ok (.iconst 1, 1) := by decide +kernel
theorem dL_law_17 : decode cL_law 17 = .ok (.newarray .long, 2) := by decide +kernel
theorem dL_law_19 : decode cL_law 19 = .ok (.astore_n 3, 1) := by decide +kernel
theorem dL_law_20 : decode cL_law 20 = .ok (.iconst 0, 1) := by decide +kernel
theorem dL_law_21 : decode cL_law 21 = .ok (.istore 4, 2) := by decide +kernel
theorem dL_law_23 : decode cL_law 23 = .ok (.iload 4, 2) := by decide +kernel
theorem dL_law_25 : decode cL_law 25 = .ok (.aload_n 0, 1) := by decide +kernel
theorem dL_law_26 : decode cL_law 26 = .ok (.arraylength, 1) := by decide +kernel
theorem dL_law_27 : decode cL_law 27 = .ok (.iconst 5, 1) := by decide +kernel
theorem dL_law_28 : decode cL_law 28 = .ok (.isub, 1) := by decide +kernel
theorem dL_law_29 : decode cL_law 29 = .ok (.if_icmp .gt 1453, 3) := by decide +kernel
theorem dL_law_32 : decode cL_law 32 = .ok (.aload_n 0, 1) := by decide +kernel
theorem dL_law_33 : decode cL_law 33 = .ok (.iload 4, 2) := by decide +kernel
theorem dL_law_35 : decode cL_law 35 = .ok (.iaload, 1) := by decide +kernel
theorem dL_law_36 : decode cL_law 36 = .ok (.bipush 31, 2) := by decide +kernel
theorem dL_law_38 : decode cL_law 38 = .ok (.iand, 1) := by decide +kernel
theorem dL_law_39 : decode cL_law 39 = .ok (.tableswitch 1437 0 25 #[117, 197, 289, 345, 413, 469, 525, 581, 594, 607, 663, 676, 689, 733, 777, 802, 870, 926, 994, 1062, 1118, 1174, 1230, 1298, 1382, 1423], 117) := by decide +kernel
theorem dL_law_156 : decode cL_law 156 = .ok (.aload_n 1, 1) := by decide +kernel
theorem dL_law_157 : decode cL_law 157 = .ok (.aload_n 0, 1) := by decide +kernel
theorem dL_law_158 : decode cL_law 158 = .ok (.iload 4, 2) := by decide +kernel
theorem dL_law_160 : decode cL_law 160 = .ok (.iconst 1, 1) := by decide +kernel
theorem dL_law_161 : decode cL_law 161 = .ok (.iadd, 1) := by decide +kernel
theorem dL_law_162 : decode cL_law 162 = .ok (.iaload, 1) := by decide +kernel
theorem dL_law_163 : decode cL_law 163 = .ok (.aload_n 0, 1) := by decide +kernel
theorem dL_law_164 : decode cL_law 164 = .ok (.iload 4, 2) := by decide +kernel
theorem dL_law_166 : decode cL_law 166 = .ok (.iconst 2, 1) := by decide +kernel
theorem dL_law_167 : decode cL_law 167 = .ok (.iadd, 1) := by decide +kernel
theorem dL_law_168 : decode cL_law 168 = .ok (.iaload, 1) := by decide +kernel
theorem dL_law_169 : decode cL_law 169 = .ok (.aload_n 0, 1) := by decide +kernel
theorem dL_law_170 : decode cL_law 170 = .ok (.iload 4, 2) := by decide +kernel
theorem dL_law_172 : decode cL_law 172 = .ok (.iconst 3, 1) := by decide +kernel
theorem dL_law_173 : decode cL_law 173 = .ok (.iadd, 1) := by decide +kernel
theorem dL_law_174 : decode cL_law 174 = .ok (.iaload, 1) := by decide +kernel
theorem dL_law_175 : decode cL_law 175 = .ok (.aload_n 3, 1) := by decide +kernel
theorem dL_law_176 : decode cL_law 176 = .ok (.invokestatic 82, 3) := by decide +kernel
theorem dL_law_179 : decode cL_law 179 = .ok (.istore 5, 2) := by decide +kernel
theorem dL_law_181 : decode cL_law 181 = .ok (.aload_n 2, 1) := by decide +kernel
theorem dL_law_182 : decode cL_law 182 = .ok (.aload_n 0, 1) := by decide +kernel
theorem dL_law_183 : decode cL_law 183 = .ok (.iload 4, 2) := by decide +kernel
theorem dL_law_185 : decode cL_law 185 = .ok (.iconst 1, 1) := by decide +kernel
theorem dL_law_186 : decode cL_law 186 = .ok (.iadd, 1) := by decide +kernel
theorem dL_law_187 : decode cL_law 187 = .ok (.iaload, 1) := by decide +kernel
theorem dL_law_188 : decode cL_law 188 = .ok (.aload_n 0, 1) := by decide +kernel
theorem dL_law_189 : decode cL_law 189 = .ok (.iload 4, 2) := by decide +kernel
theorem dL_law_191 : decode cL_law 191 = .ok (.iconst 2, 1) := by decide +kernel
theorem dL_law_192 : decode cL_law 192 = .ok (.iadd, 1) := by decide +kernel
theorem dL_law_193 : decode cL_law 193 = .ok (.iaload, 1) := by decide +kernel
theorem dL_law_194 : decode cL_law 194 = .ok (.aload_n 0, 1) := by decide +kernel
theorem dL_law_195 : decode cL_law 195 = .ok (.iload 4, 2) := by decide +kernel
theorem dL_law_197 : decode cL_law 197 = .ok (.iconst 3, 1) := by decide +kernel
theorem dL_law_198 : decode cL_law 198 = .ok (.iadd, 1) := by decide +kernel
theorem dL_law_199 : decode cL_law 199 = .ok (.iaload, 1) := by decide +kernel
theorem dL_law_200 : decode cL_law 200 = .ok (.invokevirtual 87, 3) := by decide +kernel
theorem dL_law_203 : decode cL_law 203 = .ok (.istore 6, 2) := by decide +kernel
theorem dL_law_205 : decode cL_law 205 = .ok (.aload_n 2, 1) := by decide +kernel
theorem dL_law_206 : decode cL_law 206 = .ok (.invokevirtual 88, 3) := by decide +kernel
theorem dL_law_209 : decode cL_law 209 = .ok (.iload 5, 2) := by decide +kernel
theorem dL_law_211 : decode cL_law 211 = .ok (.if_icmp .eq 5, 3) := by decide +kernel
theorem dL_law_214 : decode cL_law 214 = .ok (.iconst 0, 1) := by decide +kernel
theorem dL_law_215 : decode cL_law 215 = .ok (.ireturn, 1) := by decide +kernel
theorem dL_law_216 : decode cL_law 216 = .ok (.iload 5, 2) := by decide +kernel
theorem dL_law_218 : decode cL_law 218 = .ok (.ifCond .ne 15, 3) := by decide +kernel
theorem dL_law_221 : decode cL_law 221 = .ok (.aload_n 3, 1) := by decide +kernel
theorem dL_law_222 : decode cL_law 222 = .ok (.iconst 0, 1) := by decide +kernel
theorem dL_law_223 : decode cL_law 223 = .ok (.laload, 1) := by decide +kernel
theorem dL_law_224 : decode cL_law 224 = .ok (.iload 6, 2) := by decide +kernel
theorem dL_law_226 : decode cL_law 226 = .ok (.i2l, 1) := by decide +kernel
theorem dL_law_227 : decode cL_law 227 = .ok (.lcmp, 1) := by decide +kernel
theorem dL_law_228 : decode cL_law 228 = .ok (.ifCond .eq 5, 3) := by decide +kernel
theorem dL_law_231 : decode cL_law 231 = .ok (.iconst 0, 1) := by decide +kernel
theorem dL_law_232 : decode cL_law 232 = .ok (.ireturn, 1) := by decide +kernel
theorem dL_law_233 : decode cL_law 233 = .ok (.goto 1243, 3) := by decide +kernel
theorem dL_law_236 : decode cL_law 236 = .ok (.aload_n 1, 1) := by decide +kernel
theorem dL_law_237 : decode cL_law 237 = .ok (.aload_n 0, 1) := by decide +kernel
theorem dL_law_238 : decode cL_law 238 = .ok (.iload 4, 2) := by decide +kernel
theorem dL_law_240 : decode cL_law 240 = .ok (.iconst 1, 1) := by decide +kernel
theorem dL_law_241 : decode cL_law 241 = .ok (.iadd, 1) := by decide +kernel
theorem dL_law_242 : decode cL_law 242 = .ok (.iaload, 1) := by decide +kernel
theorem dL_law_243 : decode cL_law 243 = .ok (.aload_n 0, 1) := by decide +kernel
theorem dL_law_244 : decode cL_law 244 = .ok (.iload 4, 2) := by decide +kernel
theorem dL_law_246 : decode cL_law 246 = .ok (.iconst 2, 1) := by decide +kernel
theorem dL_law_247 : decode cL_law 247 = .ok (.iadd, 1) := by decide +kernel
theorem dL_law_248 : decode cL_law 248 = .ok (.iaload, 1) := by decide +kernel
theorem dL_law_249 : decode cL_law 249 = .ok (.aload_n 0, 1) := by decide +kernel
theorem dL_law_250 : decode cL_law 250 = .ok (.iload 4, 2) := by decide +kernel
theorem dL_law_252 : decode cL_law 252 = .ok (.iconst 3, 1) := by decide +kernel
theorem dL_law_253 : decode cL_law 253 = .ok (.iadd, 1) := by decide +kernel
theorem dL_law_254 : decode cL_law 254 = .ok (.iaload, 1) := by decide +kernel
theorem dL_law_255 : decode cL_law 255 = .ok (.aload_n 0, 1) := by decide +kernel
theorem dL_law_256 : decode cL_law 256 = .ok (.iload 4, 2) := by decide +kernel
theorem dL_law_258 : decode cL_law 258 = .ok (.iconst 4, 1) := by decide +kernel
theorem dL_law_259 : decode cL_law 259 = .ok (.iadd, 1) := by decide +kernel
theorem dL_law_260 : decode cL_law 260 = .ok (.iaload, 1) := by decide +kernel
theorem dL_law_261 : decode cL_law 261 = .ok (.aload_n 3, 1) := by decide +kernel
theorem dL_law_262 : decode cL_law 262 = .ok (.invokestatic 91, 3) := by decide +kernel
theorem dL_law_265 : decode cL_law 265 = .ok (.istore 5, 2) := by decide +kernel
theorem dL_law_267 : decode cL_law 267 = .ok (.aload_n 2, 1) := by decide +kernel
theorem dL_law_268 : decode cL_law 268 = .ok (.aload_n 0, 1) := by decide +kernel
theorem dL_law_269 : decode cL_law 269 = .ok (.iload 4, 2) := by decide +kernel
theorem dL_law_271 : decode cL_law 271 = .ok (.iconst 1, 1) := by decide +kernel
theorem dL_law_272 : decode cL_law 272 = .ok (.iadd, 1) := by decide +kernel
theorem dL_law_273 : decode cL_law 273 = .ok (.iaload, 1) := by decide +kernel
theorem dL_law_274 : decode cL_law 274 = .ok (.aload_n 0, 1) := by decide +kernel
theorem dL_law_275 : decode cL_law 275 = .ok (.iload 4, 2) := by decide +kernel
theorem dL_law_277 : decode cL_law 277 = .ok (.iconst 2, 1) := by decide +kernel
theorem dL_law_278 : decode cL_law 278 = .ok (.iadd, 1) := by decide +kernel
theorem dL_law_279 : decode cL_law 279 = .ok (.iaload, 1) := by decide +kernel
theorem dL_law_280 : decode cL_law 280 = .ok (.aload_n 0, 1) := by decide +kernel
theorem dL_law_281 : decode cL_law 281 = .ok (.iload 4, 2) := by decide +kernel
theorem dL_law_283 : decode cL_law 283 = .ok (.iconst 3, 1) := by decide +kernel
theorem dL_law_284 : decode cL_law 284 = .ok (.iadd, 1) := by decide +kernel
theorem dL_law_285 : decode cL_law 285 = .ok (.iaload, 1) := by decide +kernel
theorem dL_law_286 : decode cL_law 286 = .ok (.aload_n 0, 1) := by decide +kernel
theorem dL_law_287 : decode cL_law 287 = .ok (.iload 4, 2) := by decide +kernel
theorem dL_law_289 : decode cL_law 289 = .ok (.iconst 4, 1) := by decide +kernel
theorem dL_law_290 : decode cL_law 290 = .ok (.iadd, 1) := by decide +kernel
theorem dL_law_291 : decode cL_law 291 = .ok (.iaload, 1) := by decide +kernel
theorem dL_law_292 : decode cL_law 292 = .ok (.invokevirtual 94, 3) := by decide +kernel
theorem dL_law_295 : decode cL_law 295 = .ok (.istore 6, 2) := by decide +kernel
theorem dL_law_297 : decode cL_law 297 = .ok (.aload_n 2, 1) := by decide +kernel
theorem dL_law_298 : decode cL_law 298 = .ok (.invokevirtual 88, 3) := by decide +kernel
theorem dL_law_301 : decode cL_law 301 = .ok (.iload 5, 2) := by decide +kernel
theorem dL_law_303 : decode cL_law 303 = .ok (.if_icmp .eq 5, 3) := by decide +kernel
theorem dL_law_306 : decode cL_law 306 = .ok (.iconst 0, 1) := by decide +kernel
theorem dL_law_307 : decode cL_law 307 = .ok (.ireturn, 1) := by decide +kernel
theorem dL_law_308 : decode cL_law 308 = .ok (.iload 5, 2) := by decide +kernel
theorem dL_law_310 : decode cL_law 310 = .ok (.ifCond .ne 15, 3) := by decide +kernel
theorem dL_law_313 : decode cL_law 313 = .ok (.aload_n 3, 1) := by decide +kernel
theorem dL_law_314 : decode cL_law 314 = .ok (.iconst 0, 1) := by decide +kernel
theorem dL_law_315 : decode cL_law 315 = .ok (.laload, 1) := by decide +kernel
theorem dL_law_316 : decode cL_law 316 = .ok (.iload 6, 2) := by decide +kernel
theorem dL_law_318 : decode cL_law 318 = .ok (.i2l, 1) := by decide +kernel
theorem dL_law_319 : decode cL_law 319 = .ok (.lcmp, 1) := by decide +kernel
theorem dL_law_320 : decode cL_law 320 = .ok (.ifCond .eq 5, 3) := by decide +kernel
theorem dL_law_323 : decode cL_law 323 = .ok (.iconst 0, 1) := by decide +kernel
theorem dL_law_324 : decode cL_law 324 = .ok (.ireturn, 1) := by decide +kernel
theorem dL_law_325 : decode cL_law 325 = .ok (.goto 1151, 3) := by decide +kernel
theorem dL_law_328 : decode cL_law 328 = .ok (.aload_n 1, 1) := by decide +kernel
theorem dL_law_329 : decode cL_law 329 = .ok (.aload_n 0, 1) := by decide +kernel
theorem dL_law_330 : decode cL_law 330 = .ok (.iload 4, 2) := by decide +kernel
theorem dL_law_332 : decode cL_law 332 = .ok (.iconst 1, 1) := by decide +kernel
theorem dL_law_333 : decode cL_law 333 = .ok (.iadd, 1) := by decide +kernel
theorem dL_law_334 : decode cL_law 334 = .ok (.iaload, 1) := by decide +kernel
theorem dL_law_335 : decode cL_law 335 = .ok (.aload_n 3, 1) := by decide +kernel
theorem dL_law_336 : decode cL_law 336 = .ok (.invokestatic 95, 3) := by decide +kernel
theorem dL_law_339 : decode cL_law 339 = .ok (.istore 5, 2) := by decide +kernel
theorem dL_law_341 : decode cL_law 341 = .ok (.aload_n 2, 1) := by decide +kernel
theorem dL_law_342 : decode cL_law 342 = .ok (.aload_n 0, 1) := by decide +kernel
theorem dL_law_343 : decode cL_law 343 = .ok (.iload 4, 2) := by decide +kernel
theorem dL_law_345 : decode cL_law 345 = .ok (.iconst 1, 1) := by decide +kernel
theorem dL_law_346 : decode cL_law 346 = .ok (.iadd, 1) := by decide +kernel
theorem dL_law_347 : decode cL_law 347 = .ok (.iaload, 1) := by decide +kernel
theorem dL_law_348 : decode cL_law 348 = .ok (.invokevirtual 98, 3) := by decide +kernel
theorem dL_law_351 : decode cL_law 351 = .ok (.istore 6, 2) := by decide +kernel
theorem dL_law_353 : decode cL_law 353 = .ok (.aload_n 2, 1) := by decide +kernel
theorem dL_law_354 : decode cL_law 354 = .ok (.invokevirtual 88, 3) := by decide +kernel
theorem dL_law_357 : decode cL_law 357 = .ok (.iload 5, 2) := by decide +kernel
theorem dL_law_359 : decode cL_law 359 = .ok (.if_icmp .eq 5, 3) := by decide +kernel
theorem dL_law_362 : decode cL_law 362 = .ok (.iconst 0, 1) := by decide +kernel
theorem dL_law_363 : decode cL_law 363 = .ok (.ireturn, 1) := by decide +kernel
theorem dL_law_364 : decode cL_law 364 = .ok (.iload 5, 2) := by decide +kernel
theorem dL_law_366 : decode cL_law 366 = .ok (.ifCond .ne 15, 3) := by decide +kernel
theorem dL_law_369 : decode cL_law 369 = .ok (.aload_n 3, 1) := by decide +kernel
theorem dL_law_370 : decode cL_law 370 = .ok (.iconst 0, 1) := by decide +kernel
theorem dL_law_371 : decode cL_law 371 = .ok (.laload, 1) := by decide +kernel
theorem dL_law_372 : decode cL_law 372 = .ok (.iload 6, 2) := by decide +kernel
theorem dL_law_374 : decode cL_law 374 = .ok (.i2l, 1) := by decide +kernel
theorem dL_law_375 : decode cL_law 375 = .ok (.lcmp, 1) := by decide +kernel
theorem dL_law_376 : decode cL_law 376 = .ok (.ifCond .eq 5, 3) := by decide +kernel
theorem dL_law_379 : decode cL_law 379 = .ok (.iconst 0, 1) := by decide +kernel
theorem dL_law_380 : decode cL_law 380 = .ok (.ireturn, 1) := by decide +kernel
theorem dL_law_381 : decode cL_law 381 = .ok (.goto 1095, 3) := by decide +kernel
theorem dL_law_384 : decode cL_law 384 = .ok (.aload_n 1, 1) := by decide +kernel
theorem dL_law_385 : decode cL_law 385 = .ok (.aload_n 0, 1) := by decide +kernel
theorem dL_law_386 : decode cL_law 386 = .ok (.iload 4, 2) := by decide +kernel
theorem dL_law_388 : decode cL_law 388 = .ok (.iconst 1, 1) := by decide +kernel
theorem dL_law_389 : decode cL_law 389 = .ok (.iadd, 1) := by decide +kernel
theorem dL_law_390 : decode cL_law 390 = .ok (.iaload, 1) := by decide +kernel
theorem dL_law_391 : decode cL_law 391 = .ok (.aload_n 0, 1) := by decide +kernel
theorem dL_law_392 : decode cL_law 392 = .ok (.iload 4, 2) := by decide +kernel
theorem dL_law_394 : decode cL_law 394 = .ok (.iconst 2, 1) := by decide +kernel
theorem dL_law_395 : decode cL_law 395 = .ok (.iadd, 1) := by decide +kernel
theorem dL_law_396 : decode cL_law 396 = .ok (.iaload, 1) := by decide +kernel
theorem dL_law_397 : decode cL_law 397 = .ok (.aload_n 3, 1) := by decide +kernel
theorem dL_law_398 : decode cL_law 398 = .ok (.invokestatic 99, 3) := by decide +kernel
theorem dL_law_401 : decode cL_law 401 = .ok (.istore 5, 2) := by decide +kernel
theorem dL_law_403 : decode cL_law 403 = .ok (.aload_n 2, 1) := by decide +kernel
theorem dL_law_404 : decode cL_law 404 = .ok (.aload_n 0, 1) := by decide +kernel
theorem dL_law_405 : decode cL_law 405 = .ok (.iload 4, 2) := by decide +kernel
theorem dL_law_407 : decode cL_law 407 = .ok (.iconst 1, 1) := by decide +kernel
theorem dL_law_408 : decode cL_law 408 = .ok (.iadd, 1) := by decide +kernel
theorem dL_law_409 : decode cL_law 409 = .ok (.iaload, 1) := by decide +kernel
theorem dL_law_410 : decode cL_law 410 = .ok (.aload_n 0, 1) := by decide +kernel
theorem dL_law_411 : decode cL_law 411 = .ok (.iload 4, 2) := by decide +kernel
theorem dL_law_413 : decode cL_law 413 = .ok (.iconst 2, 1) := by decide +kernel
theorem dL_law_414 : decode cL_law 414 = .ok (.iadd, 1) := by decide +kernel
theorem dL_law_415 : decode cL_law 415 = .ok (.iaload, 1) := by decide +kernel
theorem dL_law_416 : decode cL_law 416 = .ok (.invokevirtual 102, 3) := by decide +kernel
theorem dL_law_419 : decode cL_law 419 = .ok (.istore 6, 2) := by decide +kernel
theorem dL_law_421 : decode cL_law 421 = .ok (.aload_n 2, 1) := by decide +kernel
theorem dL_law_422 : decode cL_law 422 = .ok (.invokevirtual 88, 3) := by decide +kernel
theorem dL_law_425 : decode cL_law 425 = .ok (.iload 5, 2) := by decide +kernel
theorem dL_law_427 : decode cL_law 427 = .ok (.if_icmp .eq 5, 3) := by decide +kernel
theorem dL_law_430 : decode cL_law 430 = .ok (.iconst 0, 1) := by decide +kernel
theorem dL_law_431 : decode cL_law 431 = .ok (.ireturn, 1) := by decide +kernel
theorem dL_law_432 : decode cL_law 432 = .ok (.iload 5, 2) := by decide +kernel
theorem dL_law_434 : decode cL_law 434 = .ok (.ifCond .ne 15, 3) := by decide +kernel
theorem dL_law_437 : decode cL_law 437 = .ok (.aload_n 3, 1) := by decide +kernel
theorem dL_law_438 : decode cL_law 438 = .ok (.iconst 0, 1) := by decide +kernel
theorem dL_law_439 : decode cL_law 439 = .ok (.laload, 1) := by decide +kernel
theorem dL_law_440 : decode cL_law 440 = .ok (.iload 6, 2) := by decide +kernel
theorem dL_law_442 : decode cL_law 442 = .ok (.i2l, 1) := by decide +kernel
theorem dL_law_443 : decode cL_law 443 = .ok (.lcmp, 1) := by decide +kernel
theorem dL_law_444 : decode cL_law 444 = .ok (.ifCond .eq 5, 3) := by decide +kernel
theorem dL_law_447 : decode cL_law 447 = .ok (.iconst 0, 1) := by decide +kernel
theorem dL_law_448 : decode cL_law 448 = .ok (.ireturn, 1) := by decide +kernel
theorem dL_law_449 : decode cL_law 449 = .ok (.goto 1027, 3) := by decide +kernel
theorem dL_law_452 : decode cL_law 452 = .ok (.aload_n 1, 1) := by decide +kernel
theorem dL_law_453 : decode cL_law 453 = .ok (.aload_n 0, 1) := by decide +kernel
theorem dL_law_454 : decode cL_law 454 = .ok (.iload 4, 2) := by decide +kernel
theorem dL_law_456 : decode cL_law 456 = .ok (.iconst 1, 1) := by decide +kernel
theorem dL_law_457 : decode cL_law 457 = .ok (.iadd, 1) := by decide +kernel
theorem dL_law_458 : decode cL_law 458 = .ok (.iaload, 1) := by decide +kernel
theorem dL_law_459 : decode cL_law 459 = .ok (.aload_n 3, 1) := by decide +kernel
theorem dL_law_460 : decode cL_law 460 = .ok (.invokestatic 103, 3) := by decide +kernel
theorem dL_law_463 : decode cL_law 463 = .ok (.istore 5, 2) := by decide +kernel
theorem dL_law_465 : decode cL_law 465 = .ok (.aload_n 2, 1) := by decide +kernel
theorem dL_law_466 : decode cL_law 466 = .ok (.aload_n 0, 1) := by decide +kernel
theorem dL_law_467 : decode cL_law 467 = .ok (.iload 4, 2) := by decide +kernel
theorem dL_law_469 : decode cL_law 469 = .ok (.iconst 1, 1) := by decide +kernel
theorem dL_law_470 : decode cL_law 470 = .ok (.iadd, 1) := by decide +kernel
theorem dL_law_471 : decode cL_law 471 = .ok (.iaload, 1) := by decide +kernel
theorem dL_law_472 : decode cL_law 472 = .ok (.invokevirtual 105, 3) := by decide +kernel
theorem dL_law_475 : decode cL_law 475 = .ok (.istore 6, 2) := by decide +kernel
theorem dL_law_477 : decode cL_law 477 = .ok (.aload_n 2, 1) := by decide +kernel
theorem dL_law_478 : decode cL_law 478 = .ok (.invokevirtual 88, 3) := by decide +kernel
theorem dL_law_481 : decode cL_law 481 = .ok (.iload 5, 2) := by decide +kernel
theorem dL_law_483 : decode cL_law 483 = .ok (.if_icmp .eq 5, 3) := by decide +kernel
theorem dL_law_486 : decode cL_law 486 = .ok (.iconst 0, 1) := by decide +kernel
theorem dL_law_487 : decode cL_law 487 = .ok (.ireturn, 1) := by decide +kernel
theorem dL_law_488 : decode cL_law 488 = .ok (.iload 5, 2) := by decide +kernel
theorem dL_law_490 : decode cL_law 490 = .ok (.ifCond .ne 15, 3) := by decide +kernel
theorem dL_law_493 : decode cL_law 493 = .ok (.aload_n 3, 1) := by decide +kernel
theorem dL_law_494 : decode cL_law 494 = .ok (.iconst 0, 1) := by decide +kernel
theorem dL_law_495 : decode cL_law 495 = .ok (.laload, 1) := by decide +kernel
theorem dL_law_496 : decode cL_law 496 = .ok (.iload 6, 2) := by decide +kernel
theorem dL_law_498 : decode cL_law 498 = .ok (.i2l, 1) := by decide +kernel
theorem dL_law_499 : decode cL_law 499 = .ok (.lcmp, 1) := by decide +kernel
theorem dL_law_500 : decode cL_law 500 = .ok (.ifCond .eq 5, 3) := by decide +kernel
theorem dL_law_503 : decode cL_law 503 = .ok (.iconst 0, 1) := by decide +kernel
theorem dL_law_504 : decode cL_law 504 = .ok (.ireturn, 1) := by decide +kernel
theorem dL_law_505 : decode cL_law 505 = .ok (.goto 971, 3) := by decide +kernel
theorem dL_law_508 : decode cL_law 508 = .ok (.aload_n 1, 1) := by decide +kernel
theorem dL_law_509 : decode cL_law 509 = .ok (.aload_n 0, 1) := by decide +kernel
theorem dL_law_510 : decode cL_law 510 = .ok (.iload 4, 2) := by decide +kernel
theorem dL_law_512 : decode cL_law 512 = .ok (.iconst 1, 1) := by decide +kernel
theorem dL_law_513 : decode cL_law 513 = .ok (.iadd, 1) := by decide +kernel
theorem dL_law_514 : decode cL_law 514 = .ok (.iaload, 1) := by decide +kernel
theorem dL_law_515 : decode cL_law 515 = .ok (.aload_n 3, 1) := by decide +kernel
theorem dL_law_516 : decode cL_law 516 = .ok (.invokestatic 106, 3) := by decide +kernel
theorem dL_law_519 : decode cL_law 519 = .ok (.istore 5, 2) := by decide +kernel
theorem dL_law_521 : decode cL_law 521 = .ok (.aload_n 2, 1) := by decide +kernel
theorem dL_law_522 : decode cL_law 522 = .ok (.aload_n 0, 1) := by decide +kernel
theorem dL_law_523 : decode cL_law 523 = .ok (.iload 4, 2) := by decide +kernel
theorem dL_law_525 : decode cL_law 525 = .ok (.iconst 1, 1) := by decide +kernel
theorem dL_law_526 : decode cL_law 526 = .ok (.iadd, 1) := by decide +kernel
theorem dL_law_527 : decode cL_law 527 = .ok (.iaload, 1) := by decide +kernel
theorem dL_law_528 : decode cL_law 528 = .ok (.invokevirtual 108, 3) := by decide +kernel
theorem dL_law_531 : decode cL_law 531 = .ok (.istore 6, 2) := by decide +kernel
theorem dL_law_533 : decode cL_law 533 = .ok (.aload_n 2, 1) := by decide +kernel
theorem dL_law_534 : decode cL_law 534 = .ok (.invokevirtual 88, 3) := by decide +kernel
theorem dL_law_537 : decode cL_law 537 = .ok (.iload 5, 2) := by decide +kernel
theorem dL_law_539 : decode cL_law 539 = .ok (.if_icmp .eq 5, 3) := by decide +kernel
theorem dL_law_542 : decode cL_law 542 = .ok (.iconst 0, 1) := by decide +kernel
theorem dL_law_543 : decode cL_law 543 = .ok (.ireturn, 1) := by decide +kernel
theorem dL_law_544 : decode cL_law 544 = .ok (.iload 5, 2) := by decide +kernel
theorem dL_law_546 : decode cL_law 546 = .ok (.ifCond .ne 15, 3) := by decide +kernel
theorem dL_law_549 : decode cL_law 549 = .ok (.aload_n 3, 1) := by decide +kernel
theorem dL_law_550 : decode cL_law 550 = .ok (.iconst 0, 1) := by decide +kernel
theorem dL_law_551 : decode cL_law 551 = .ok (.laload, 1) := by decide +kernel
theorem dL_law_552 : decode cL_law 552 = .ok (.iload 6, 2) := by decide +kernel
theorem dL_law_554 : decode cL_law 554 = .ok (.i2l, 1) := by decide +kernel
theorem dL_law_555 : decode cL_law 555 = .ok (.lcmp, 1) := by decide +kernel
theorem dL_law_556 : decode cL_law 556 = .ok (.ifCond .eq 5, 3) := by decide +kernel
theorem dL_law_559 : decode cL_law 559 = .ok (.iconst 0, 1) := by decide +kernel
theorem dL_law_560 : decode cL_law 560 = .ok (.ireturn, 1) := by decide +kernel
theorem dL_law_561 : decode cL_law 561 = .ok (.goto 915, 3) := by decide +kernel
theorem dL_law_564 : decode cL_law 564 = .ok (.aload_n 1, 1) := by decide +kernel
theorem dL_law_565 : decode cL_law 565 = .ok (.aload_n 0, 1) := by decide +kernel
theorem dL_law_566 : decode cL_law 566 = .ok (.iload 4, 2) := by decide +kernel
theorem dL_law_568 : decode cL_law 568 = .ok (.iconst 1, 1) := by decide +kernel
theorem dL_law_569 : decode cL_law 569 = .ok (.iadd, 1) := by decide +kernel
theorem dL_law_570 : decode cL_law 570 = .ok (.iaload, 1) := by decide +kernel
theorem dL_law_571 : decode cL_law 571 = .ok (.aload_n 3, 1) := by decide +kernel
theorem dL_law_572 : decode cL_law 572 = .ok (.invokestatic 109, 3) := by decide +kernel
theorem dL_law_575 : decode cL_law 575 = .ok (.istore 5, 2) := by decide +kernel
theorem dL_law_577 : decode cL_law 577 = .ok (.aload_n 2, 1) := by decide +kernel
theorem dL_law_578 : decode cL_law 578 = .ok (.aload_n 0, 1) := by decide +kernel
theorem dL_law_579 : decode cL_law 579 = .ok (.iload 4, 2) := by decide +kernel
theorem dL_law_581 : decode cL_law 581 = .ok (.iconst 1, 1) := by decide +kernel
theorem dL_law_582 : decode cL_law 582 = .ok (.iadd, 1) := by decide +kernel
theorem dL_law_583 : decode cL_law 583 = .ok (.iaload, 1) := by decide +kernel
theorem dL_law_584 : decode cL_law 584 = .ok (.invokevirtual 111, 3) := by decide +kernel
theorem dL_law_587 : decode cL_law 587 = .ok (.istore 6, 2) := by decide +kernel
theorem dL_law_589 : decode cL_law 589 = .ok (.aload_n 2, 1) := by decide +kernel
theorem dL_law_590 : decode cL_law 590 = .ok (.invokevirtual 88, 3) := by decide +kernel
theorem dL_law_593 : decode cL_law 593 = .ok (.iload 5, 2) := by decide +kernel
theorem dL_law_595 : decode cL_law 595 = .ok (.if_icmp .eq 5, 3) := by decide +kernel
theorem dL_law_598 : decode cL_law 598 = .ok (.iconst 0, 1) := by decide +kernel
theorem dL_law_599 : decode cL_law 599 = .ok (.ireturn, 1) := by decide +kernel
theorem dL_law_600 : decode cL_law 600 = .ok (.iload 5, 2) := by decide +kernel
theorem dL_law_602 : decode cL_law 602 = .ok (.ifCond .ne 15, 3) := by decide +kernel
theorem dL_law_605 : decode cL_law 605 = .ok (.aload_n 3, 1) := by decide +kernel
theorem dL_law_606 : decode cL_law 606 = .ok (.iconst 0, 1) := by decide +kernel
theorem dL_law_607 : decode cL_law 607 = .ok (.laload, 1) := by decide +kernel
theorem dL_law_608 : decode cL_law 608 = .ok (.iload 6, 2) := by decide +kernel
theorem dL_law_610 : decode cL_law 610 = .ok (.i2l, 1) := by decide +kernel
theorem dL_law_611 : decode cL_law 611 = .ok (.lcmp, 1) := by decide +kernel
theorem dL_law_612 : decode cL_law 612 = .ok (.ifCond .eq 5, 3) := by decide +kernel
theorem dL_law_615 : decode cL_law 615 = .ok (.iconst 0, 1) := by decide +kernel
theorem dL_law_616 : decode cL_law 616 = .ok (.ireturn, 1) := by decide +kernel
theorem dL_law_617 : decode cL_law 617 = .ok (.goto 859, 3) := by decide +kernel
theorem dL_law_620 : decode cL_law 620 = .ok (.aload_n 1, 1) := by decide +kernel
theorem dL_law_621 : decode cL_law 621 = .ok (.invokevirtual 112, 3) := by decide +kernel
theorem dL_law_624 : decode cL_law 624 = .ok (.aload_n 2, 1) := by decide +kernel
theorem dL_law_625 : decode cL_law 625 = .ok (.invokevirtual 115, 3) := by decide +kernel
theorem dL_law_628 : decode cL_law 628 = .ok (.if_icmp .eq 848, 3) := by decide +kernel
theorem dL_law_631 : decode cL_law 631 = .ok (.iconst 0, 1) := by decide +kernel
theorem dL_law_632 : decode cL_law 632 = .ok (.ireturn, 1) := by decide +kernel
theorem dL_law_633 : decode cL_law 633 = .ok (.aload_n 1, 1) := by decide +kernel
theorem dL_law_634 : decode cL_law 634 = .ok (.invokevirtual 116, 3) := by decide +kernel
theorem dL_law_637 : decode cL_law 637 = .ok (.aload_n 2, 1) := by decide +kernel
theorem dL_law_638 : decode cL_law 638 = .ok (.invokevirtual 119, 3) := by decide +kernel
theorem dL_law_641 : decode cL_law 641 = .ok (.if_icmp .eq 835, 3) := by decide +kernel
theorem dL_law_644 : decode cL_law 644 = .ok (.iconst 0, 1) := by decide +kernel
theorem dL_law_645 : decode cL_law 645 = .ok (.ireturn, 1) := by decide +kernel
theorem dL_law_646 : decode cL_law 646 = .ok (.aload_n 1, 1) := by decide +kernel
theorem dL_law_647 : decode cL_law 647 = .ok (.aload_n 0, 1) := by decide +kernel
theorem dL_law_648 : decode cL_law 648 = .ok (.iload 4, 2) := by decide +kernel
theorem dL_law_650 : decode cL_law 650 = .ok (.iconst 1, 1) := by decide +kernel
theorem dL_law_651 : decode cL_law 651 = .ok (.iadd, 1) := by decide +kernel
theorem dL_law_652 : decode cL_law 652 = .ok (.iaload, 1) := by decide +kernel
theorem dL_law_653 : decode cL_law 653 = .ok (.aload_n 3, 1) := by decide +kernel
theorem dL_law_654 : decode cL_law 654 = .ok (.invokestatic 120, 3) := by decide +kernel
theorem dL_law_657 : decode cL_law 657 = .ok (.istore 5, 2) := by decide +kernel
theorem dL_law_659 : decode cL_law 659 = .ok (.aload_n 2, 1) := by decide +kernel
theorem dL_law_660 : decode cL_law 660 = .ok (.aload_n 0, 1) := by decide +kernel
theorem dL_law_661 : decode cL_law 661 = .ok (.iload 4, 2) := by decide +kernel
theorem dL_law_663 : decode cL_law 663 = .ok (.iconst 1, 1) := by decide +kernel
theorem dL_law_664 : decode cL_law 664 = .ok (.iadd, 1) := by decide +kernel
theorem dL_law_665 : decode cL_law 665 = .ok (.iaload, 1) := by decide +kernel
theorem dL_law_666 : decode cL_law 666 = .ok (.invokevirtual 122, 3) := by decide +kernel
theorem dL_law_669 : decode cL_law 669 = .ok (.istore 6, 2) := by decide +kernel
theorem dL_law_671 : decode cL_law 671 = .ok (.aload_n 2, 1) := by decide +kernel
theorem dL_law_672 : decode cL_law 672 = .ok (.invokevirtual 88, 3) := by decide +kernel
theorem dL_law_675 : decode cL_law 675 = .ok (.iload 5, 2) := by decide +kernel
theorem dL_law_677 : decode cL_law 677 = .ok (.if_icmp .eq 5, 3) := by decide +kernel
theorem dL_law_680 : decode cL_law 680 = .ok (.iconst 0, 1) := by decide +kernel
theorem dL_law_681 : decode cL_law 681 = .ok (.ireturn, 1) := by decide +kernel
theorem dL_law_682 : decode cL_law 682 = .ok (.iload 5, 2) := by decide +kernel
theorem dL_law_684 : decode cL_law 684 = .ok (.ifCond .ne 15, 3) := by decide +kernel
theorem dL_law_687 : decode cL_law 687 = .ok (.aload_n 3, 1) := by decide +kernel
theorem dL_law_688 : decode cL_law 688 = .ok (.iconst 0, 1) := by decide +kernel
theorem dL_law_689 : decode cL_law 689 = .ok (.laload, 1) := by decide +kernel
theorem dL_law_690 : decode cL_law 690 = .ok (.iload 6, 2) := by decide +kernel
theorem dL_law_692 : decode cL_law 692 = .ok (.i2l, 1) := by decide +kernel
theorem dL_law_693 : decode cL_law 693 = .ok (.lcmp, 1) := by decide +kernel
theorem dL_law_694 : decode cL_law 694 = .ok (.ifCond .eq 5, 3) := by decide +kernel
theorem dL_law_697 : decode cL_law 697 = .ok (.iconst 0, 1) := by decide +kernel
theorem dL_law_698 : decode cL_law 698 = .ok (.ireturn, 1) := by decide +kernel
theorem dL_law_699 : decode cL_law 699 = .ok (.goto 777, 3) := by decide +kernel
theorem dL_law_702 : decode cL_law 702 = .ok (.aload_n 1, 1) := by decide +kernel
theorem dL_law_703 : decode cL_law 703 = .ok (.invokevirtual 123, 3) := by decide +kernel
theorem dL_law_706 : decode cL_law 706 = .ok (.aload_n 2, 1) := by decide +kernel
theorem dL_law_707 : decode cL_law 707 = .ok (.invokevirtual 126, 3) := by decide +kernel
theorem dL_law_710 : decode cL_law 710 = .ok (.if_icmp .eq 766, 3) := by decide +kernel
theorem dL_law_713 : decode cL_law 713 = .ok (.iconst 0, 1) := by decide +kernel
theorem dL_law_714 : decode cL_law 714 = .ok (.ireturn, 1) := by decide +kernel
theorem dL_law_715 : decode cL_law 715 = .ok (.aload_n 1, 1) := by decide +kernel
theorem dL_law_716 : decode cL_law 716 = .ok (.invokevirtual 127, 3) := by decide +kernel
theorem dL_law_719 : decode cL_law 719 = .ok (.aload_n 2, 1) := by decide +kernel
theorem dL_law_720 : decode cL_law 720 = .ok (.invokevirtual 130, 3) := by decide +kernel
theorem dL_law_723 : decode cL_law 723 = .ok (.if_icmp .eq 753, 3) := by decide +kernel
theorem dL_law_726 : decode cL_law 726 = .ok (.iconst 0, 1) := by decide +kernel
theorem dL_law_727 : decode cL_law 727 = .ok (.ireturn, 1) := by decide +kernel
theorem dL_law_728 : decode cL_law 728 = .ok (.aload_n 1, 1) := by decide +kernel
theorem dL_law_729 : decode cL_law 729 = .ok (.aload_n 3, 1) := by decide +kernel
theorem dL_law_730 : decode cL_law 730 = .ok (.invokestatic 131, 3) := by decide +kernel
theorem dL_law_733 : decode cL_law 733 = .ok (.istore 5, 2) := by decide +kernel
theorem dL_law_735 : decode cL_law 735 = .ok (.aload_n 2, 1) := by decide +kernel
theorem dL_law_736 : decode cL_law 736 = .ok (.invokevirtual 134, 3) := by decide +kernel
theorem dL_law_739 : decode cL_law 739 = .ok (.istore 6, 2) := by decide +kernel
theorem dL_law_741 : decode cL_law 741 = .ok (.aload_n 2, 1) := by decide +kernel
theorem dL_law_742 : decode cL_law 742 = .ok (.invokevirtual 88, 3) := by decide +kernel
theorem dL_law_745 : decode cL_law 745 = .ok (.iload 5, 2) := by decide +kernel
theorem dL_law_747 : decode cL_law 747 = .ok (.if_icmp .eq 5, 3) := by decide +kernel
theorem dL_law_750 : decode cL_law 750 = .ok (.iconst 0, 1) := by decide +kernel
theorem dL_law_751 : decode cL_law 751 = .ok (.ireturn, 1) := by decide +kernel
theorem dL_law_752 : decode cL_law 752 = .ok (.iload 5, 2) := by decide +kernel
theorem dL_law_754 : decode cL_law 754 = .ok (.ifCond .ne 15, 3) := by decide +kernel
theorem dL_law_757 : decode cL_law 757 = .ok (.aload_n 3, 1) := by decide +kernel
theorem dL_law_758 : decode cL_law 758 = .ok (.iconst 0, 1) := by decide +kernel
theorem dL_law_759 : decode cL_law 759 = .ok (.laload, 1) := by decide +kernel
theorem dL_law_760 : decode cL_law 760 = .ok (.iload 6, 2) := by decide +kernel
theorem dL_law_762 : decode cL_law 762 = .ok (.i2l, 1) := by decide +kernel
theorem dL_law_763 : decode cL_law 763 = .ok (.lcmp, 1) := by decide +kernel
theorem dL_law_764 : decode cL_law 764 = .ok (.ifCond .eq 5, 3) := by decide +kernel
theorem dL_law_767 : decode cL_law 767 = .ok (.iconst 0, 1) := by decide +kernel
theorem dL_law_768 : decode cL_law 768 = .ok (.ireturn, 1) := by decide +kernel
theorem dL_law_769 : decode cL_law 769 = .ok (.goto 707, 3) := by decide +kernel
theorem dL_law_772 : decode cL_law 772 = .ok (.aload_n 1, 1) := by decide +kernel
theorem dL_law_773 : decode cL_law 773 = .ok (.aload_n 3, 1) := by decide +kernel
theorem dL_law_774 : decode cL_law 774 = .ok (.invokestatic 135, 3) := by decide +kernel
theorem dL_law_777 : decode cL_law 777 = .ok (.istore 5, 2) := by decide +kernel
theorem dL_law_779 : decode cL_law 779 = .ok (.aload_n 2, 1) := by decide +kernel
theorem dL_law_780 : decode cL_law 780 = .ok (.invokevirtual 137, 3) := by decide +kernel
theorem dL_law_783 : decode cL_law 783 = .ok (.istore 6, 2) := by decide +kernel
theorem dL_law_785 : decode cL_law 785 = .ok (.aload_n 2, 1) := by decide +kernel
theorem dL_law_786 : decode cL_law 786 = .ok (.invokevirtual 88, 3) := by decide +kernel
theorem dL_law_789 : decode cL_law 789 = .ok (.iload 5, 2) := by decide +kernel
theorem dL_law_791 : decode cL_law 791 = .ok (.if_icmp .eq 5, 3) := by decide +kernel
theorem dL_law_794 : decode cL_law 794 = .ok (.iconst 0, 1) := by decide +kernel
theorem dL_law_795 : decode cL_law 795 = .ok (.ireturn, 1) := by decide +kernel
theorem dL_law_796 : decode cL_law 796 = .ok (.iload 5, 2) := by decide +kernel
theorem dL_law_798 : decode cL_law 798 = .ok (.ifCond .ne 15, 3) := by decide +kernel
theorem dL_law_801 : decode cL_law 801 = .ok (.aload_n 3, 1) := by decide +kernel
theorem dL_law_802 : decode cL_law 802 = .ok (.iconst 0, 1) := by decide +kernel
theorem dL_law_803 : decode cL_law 803 = .ok (.laload, 1) := by decide +kernel
theorem dL_law_804 : decode cL_law 804 = .ok (.iload 6, 2) := by decide +kernel
theorem dL_law_806 : decode cL_law 806 = .ok (.i2l, 1) := by decide +kernel
theorem dL_law_807 : decode cL_law 807 = .ok (.lcmp, 1) := by decide +kernel
theorem dL_law_808 : decode cL_law 808 = .ok (.ifCond .eq 5, 3) := by decide +kernel
theorem dL_law_811 : decode cL_law 811 = .ok (.iconst 0, 1) := by decide +kernel
theorem dL_law_812 : decode cL_law 812 = .ok (.ireturn, 1) := by decide +kernel
theorem dL_law_813 : decode cL_law 813 = .ok (.goto 663, 3) := by decide +kernel
theorem dL_law_816 : decode cL_law 816 = .ok (.aload_n 1, 1) := by decide +kernel
theorem dL_law_817 : decode cL_law 817 = .ok (.aload_n 0, 1) := by decide +kernel
theorem dL_law_818 : decode cL_law 818 = .ok (.iload 4, 2) := by decide +kernel
theorem dL_law_820 : decode cL_law 820 = .ok (.iconst 1, 1) := by decide +kernel
theorem dL_law_821 : decode cL_law 821 = .ok (.iadd, 1) := by decide +kernel
theorem dL_law_822 : decode cL_law 822 = .ok (.iaload, 1) := by decide +kernel
theorem dL_law_823 : decode cL_law 823 = .ok (.invokevirtual 138, 3) := by decide +kernel
theorem dL_law_826 : decode cL_law 826 = .ok (.aload_n 2, 1) := by decide +kernel
theorem dL_law_827 : decode cL_law 827 = .ok (.aload_n 0, 1) := by decide +kernel
theorem dL_law_828 : decode cL_law 828 = .ok (.iload 4, 2) := by decide +kernel
theorem dL_law_830 : decode cL_law 830 = .ok (.iconst 1, 1) := by decide +kernel
theorem dL_law_831 : decode cL_law 831 = .ok (.iadd, 1) := by decide +kernel
theorem dL_law_832 : decode cL_law 832 = .ok (.iaload, 1) := by decide +kernel
theorem dL_law_833 : decode cL_law 833 = .ok (.invokevirtual 141, 3) := by decide +kernel
theorem dL_law_836 : decode cL_law 836 = .ok (.if_icmp .eq 640, 3) := by decide +kernel
theorem dL_law_839 : decode cL_law 839 = .ok (.iconst 0, 1) := by decide +kernel
theorem dL_law_840 : decode cL_law 840 = .ok (.ireturn, 1) := by decide +kernel
theorem dL_law_841 : decode cL_law 841 = .ok (.aload_n 1, 1) := by decide +kernel
theorem dL_law_842 : decode cL_law 842 = .ok (.aload_n 0, 1) := by decide +kernel
theorem dL_law_843 : decode cL_law 843 = .ok (.iload 4, 2) := by decide +kernel
theorem dL_law_845 : decode cL_law 845 = .ok (.iconst 1, 1) := by decide +kernel
theorem dL_law_846 : decode cL_law 846 = .ok (.iadd, 1) := by decide +kernel
theorem dL_law_847 : decode cL_law 847 = .ok (.iaload, 1) := by decide +kernel
theorem dL_law_848 : decode cL_law 848 = .ok (.aload_n 0, 1) := by decide +kernel
theorem dL_law_849 : decode cL_law 849 = .ok (.iload 4, 2) := by decide +kernel
theorem dL_law_851 : decode cL_law 851 = .ok (.iconst 2, 1) := by decide +kernel
theorem dL_law_852 : decode cL_law 852 = .ok (.iadd, 1) := by decide +kernel
theorem dL_law_853 : decode cL_law 853 = .ok (.iaload, 1) := by decide +kernel
theorem dL_law_854 : decode cL_law 854 = .ok (.aload_n 3, 1) := by decide +kernel
theorem dL_law_855 : decode cL_law 855 = .ok (.invokestatic 142, 3) := by decide +kernel
theorem dL_law_858 : decode cL_law 858 = .ok (.istore 5, 2) := by decide +kernel
theorem dL_law_860 : decode cL_law 860 = .ok (.aload_n 2, 1) := by decide +kernel
theorem dL_law_861 : decode cL_law 861 = .ok (.aload_n 0, 1) := by decide +kernel
theorem dL_law_862 : decode cL_law 862 = .ok (.iload 4, 2) := by decide +kernel
theorem dL_law_864 : decode cL_law 864 = .ok (.iconst 1, 1) := by decide +kernel
theorem dL_law_865 : decode cL_law 865 = .ok (.iadd, 1) := by decide +kernel
theorem dL_law_866 : decode cL_law 866 = .ok (.iaload, 1) := by decide +kernel
theorem dL_law_867 : decode cL_law 867 = .ok (.aload_n 0, 1) := by decide +kernel
theorem dL_law_868 : decode cL_law 868 = .ok (.iload 4, 2) := by decide +kernel
theorem dL_law_870 : decode cL_law 870 = .ok (.iconst 2, 1) := by decide +kernel
theorem dL_law_871 : decode cL_law 871 = .ok (.iadd, 1) := by decide +kernel
theorem dL_law_872 : decode cL_law 872 = .ok (.iaload, 1) := by decide +kernel
theorem dL_law_873 : decode cL_law 873 = .ok (.invokevirtual 144, 3) := by decide +kernel
theorem dL_law_876 : decode cL_law 876 = .ok (.istore 6, 2) := by decide +kernel
theorem dL_law_878 : decode cL_law 878 = .ok (.aload_n 2, 1) := by decide +kernel
theorem dL_law_879 : decode cL_law 879 = .ok (.invokevirtual 88, 3) := by decide +kernel
theorem dL_law_882 : decode cL_law 882 = .ok (.iload 5, 2) := by decide +kernel
theorem dL_law_884 : decode cL_law 884 = .ok (.if_icmp .eq 5, 3) := by decide +kernel
theorem dL_law_887 : decode cL_law 887 = .ok (.iconst 0, 1) := by decide +kernel
theorem dL_law_888 : decode cL_law 888 = .ok (.ireturn, 1) := by decide +kernel
theorem dL_law_889 : decode cL_law 889 = .ok (.iload 5, 2) := by decide +kernel
theorem dL_law_891 : decode cL_law 891 = .ok (.ifCond .ne 15, 3) := by decide +kernel
theorem dL_law_894 : decode cL_law 894 = .ok (.aload_n 3, 1) := by decide +kernel
theorem dL_law_895 : decode cL_law 895 = .ok (.iconst 0, 1) := by decide +kernel
theorem dL_law_896 : decode cL_law 896 = .ok (.laload, 1) := by decide +kernel
theorem dL_law_897 : decode cL_law 897 = .ok (.iload 6, 2) := by decide +kernel
theorem dL_law_899 : decode cL_law 899 = .ok (.i2l, 1) := by decide +kernel
theorem dL_law_900 : decode cL_law 900 = .ok (.lcmp, 1) := by decide +kernel
theorem dL_law_901 : decode cL_law 901 = .ok (.ifCond .eq 5, 3) := by decide +kernel
theorem dL_law_904 : decode cL_law 904 = .ok (.iconst 0, 1) := by decide +kernel
theorem dL_law_905 : decode cL_law 905 = .ok (.ireturn, 1) := by decide +kernel
theorem dL_law_906 : decode cL_law 906 = .ok (.goto 570, 3) := by decide +kernel
theorem dL_law_909 : decode cL_law 909 = .ok (.aload_n 1, 1) := by decide +kernel
theorem dL_law_910 : decode cL_law 910 = .ok (.aload_n 0, 1) := by decide +kernel
theorem dL_law_911 : decode cL_law 911 = .ok (.iload 4, 2) := by decide +kernel
theorem dL_law_913 : decode cL_law 913 = .ok (.iconst 1, 1) := by decide +kernel
theorem dL_law_914 : decode cL_law 914 = .ok (.iadd, 1) := by decide +kernel
theorem dL_law_915 : decode cL_law 915 = .ok (.iaload, 1) := by decide +kernel
theorem dL_law_916 : decode cL_law 916 = .ok (.aload_n 3, 1) := by decide +kernel
theorem dL_law_917 : decode cL_law 917 = .ok (.invokestatic 145, 3) := by decide +kernel
theorem dL_law_920 : decode cL_law 920 = .ok (.istore 5, 2) := by decide +kernel
theorem dL_law_922 : decode cL_law 922 = .ok (.aload_n 2, 1) := by decide +kernel
theorem dL_law_923 : decode cL_law 923 = .ok (.aload_n 0, 1) := by decide +kernel
theorem dL_law_924 : decode cL_law 924 = .ok (.iload 4, 2) := by decide +kernel
theorem dL_law_926 : decode cL_law 926 = .ok (.iconst 1, 1) := by decide +kernel
theorem dL_law_927 : decode cL_law 927 = .ok (.iadd, 1) := by decide +kernel
theorem dL_law_928 : decode cL_law 928 = .ok (.iaload, 1) := by decide +kernel
theorem dL_law_929 : decode cL_law 929 = .ok (.invokevirtual 147, 3) := by decide +kernel
theorem dL_law_932 : decode cL_law 932 = .ok (.istore 6, 2) := by decide +kernel
theorem dL_law_934 : decode cL_law 934 = .ok (.aload_n 2, 1) := by decide +kernel
theorem dL_law_935 : decode cL_law 935 = .ok (.invokevirtual 88, 3) := by decide +kernel
theorem dL_law_938 : decode cL_law 938 = .ok (.iload 5, 2) := by decide +kernel
theorem dL_law_940 : decode cL_law 940 = .ok (.if_icmp .eq 5, 3) := by decide +kernel
theorem dL_law_943 : decode cL_law 943 = .ok (.iconst 0, 1) := by decide +kernel
theorem dL_law_944 : decode cL_law 944 = .ok (.ireturn, 1) := by decide +kernel
theorem dL_law_945 : decode cL_law 945 = .ok (.iload 5, 2) := by decide +kernel
theorem dL_law_947 : decode cL_law 947 = .ok (.ifCond .ne 15, 3) := by decide +kernel
theorem dL_law_950 : decode cL_law 950 = .ok (.aload_n 3, 1) := by decide +kernel
theorem dL_law_951 : decode cL_law 951 = .ok (.iconst 0, 1) := by decide +kernel
theorem dL_law_952 : decode cL_law 952 = .ok (.laload, 1) := by decide +kernel
theorem dL_law_953 : decode cL_law 953 = .ok (.iload 6, 2) := by decide +kernel
theorem dL_law_955 : decode cL_law 955 = .ok (.i2l, 1) := by decide +kernel
theorem dL_law_956 : decode cL_law 956 = .ok (.lcmp, 1) := by decide +kernel
theorem dL_law_957 : decode cL_law 957 = .ok (.ifCond .eq 5, 3) := by decide +kernel
theorem dL_law_960 : decode cL_law 960 = .ok (.iconst 0, 1) := by decide +kernel
theorem dL_law_961 : decode cL_law 961 = .ok (.ireturn, 1) := by decide +kernel
theorem dL_law_962 : decode cL_law 962 = .ok (.goto 514, 3) := by decide +kernel
theorem dL_law_965 : decode cL_law 965 = .ok (.aload_n 1, 1) := by decide +kernel
theorem dL_law_966 : decode cL_law 966 = .ok (.aload_n 0, 1) := by decide +kernel
theorem dL_law_967 : decode cL_law 967 = .ok (.iload 4, 2) := by decide +kernel
theorem dL_law_969 : decode cL_law 969 = .ok (.iconst 1, 1) := by decide +kernel
theorem dL_law_970 : decode cL_law 970 = .ok (.iadd, 1) := by decide +kernel
theorem dL_law_971 : decode cL_law 971 = .ok (.iaload, 1) := by decide +kernel
theorem dL_law_972 : decode cL_law 972 = .ok (.aload_n 0, 1) := by decide +kernel
theorem dL_law_973 : decode cL_law 973 = .ok (.iload 4, 2) := by decide +kernel
theorem dL_law_975 : decode cL_law 975 = .ok (.iconst 2, 1) := by decide +kernel
theorem dL_law_976 : decode cL_law 976 = .ok (.iadd, 1) := by decide +kernel
theorem dL_law_977 : decode cL_law 977 = .ok (.iaload, 1) := by decide +kernel
theorem dL_law_978 : decode cL_law 978 = .ok (.aload_n 3, 1) := by decide +kernel
theorem dL_law_979 : decode cL_law 979 = .ok (.invokestatic 148, 3) := by decide +kernel
theorem dL_law_982 : decode cL_law 982 = .ok (.istore 5, 2) := by decide +kernel
theorem dL_law_984 : decode cL_law 984 = .ok (.aload_n 2, 1) := by decide +kernel
theorem dL_law_985 : decode cL_law 985 = .ok (.aload_n 0, 1) := by decide +kernel
theorem dL_law_986 : decode cL_law 986 = .ok (.iload 4, 2) := by decide +kernel
theorem dL_law_988 : decode cL_law 988 = .ok (.iconst 1, 1) := by decide +kernel
theorem dL_law_989 : decode cL_law 989 = .ok (.iadd, 1) := by decide +kernel
theorem dL_law_990 : decode cL_law 990 = .ok (.iaload, 1) := by decide +kernel
theorem dL_law_991 : decode cL_law 991 = .ok (.aload_n 0, 1) := by decide +kernel
theorem dL_law_992 : decode cL_law 992 = .ok (.iload 4, 2) := by decide +kernel
theorem dL_law_994 : decode cL_law 994 = .ok (.iconst 2, 1) := by decide +kernel
theorem dL_law_995 : decode cL_law 995 = .ok (.iadd, 1) := by decide +kernel
theorem dL_law_996 : decode cL_law 996 = .ok (.iaload, 1) := by decide +kernel
theorem dL_law_997 : decode cL_law 997 = .ok (.invokevirtual 150, 3) := by decide +kernel
theorem dL_law_1000 : decode cL_law 1000 = .ok (.istore 6, 2) := by decide +kernel
theorem dL_law_1002 : decode cL_law 1002 = .ok (.aload_n 2, 1) := by decide +kernel
theorem dL_law_1003 : decode cL_law 1003 = .ok (.invokevirtual 88, 3) := by decide +kernel
theorem dL_law_1006 : decode cL_law 1006 = .ok (.iload 5, 2) := by decide +kernel
theorem dL_law_1008 : decode cL_law 1008 = .ok (.if_icmp .eq 5, 3) := by decide +kernel
theorem dL_law_1011 : decode cL_law 1011 = .ok (.iconst 0, 1) := by decide +kernel
theorem dL_law_1012 : decode cL_law 1012 = .ok (.ireturn, 1) := by decide +kernel
theorem dL_law_1013 : decode cL_law 1013 = .ok (.iload 5, 2) := by decide +kernel
theorem dL_law_1015 : decode cL_law 1015 = .ok (.ifCond .ne 15, 3) := by decide +kernel
theorem dL_law_1018 : decode cL_law 1018 = .ok (.aload_n 3, 1) := by decide +kernel
theorem dL_law_1019 : decode cL_law 1019 = .ok (.iconst 0, 1) := by decide +kernel
theorem dL_law_1020 : decode cL_law 1020 = .ok (.laload, 1) := by decide +kernel
theorem dL_law_1021 : decode cL_law 1021 = .ok (.iload 6, 2) := by decide +kernel
theorem dL_law_1023 : decode cL_law 1023 = .ok (.i2l, 1) := by decide +kernel
theorem dL_law_1024 : decode cL_law 1024 = .ok (.lcmp, 1) := by decide +kernel
theorem dL_law_1025 : decode cL_law 1025 = .ok (.ifCond .eq 5, 3) := by decide +kernel
theorem dL_law_1028 : decode cL_law 1028 = .ok (.iconst 0, 1) := by decide +kernel
theorem dL_law_1029 : decode cL_law 1029 = .ok (.ireturn, 1) := by decide +kernel
theorem dL_law_1030 : decode cL_law 1030 = .ok (.goto 446, 3) := by decide +kernel
theorem dL_law_1033 : decode cL_law 1033 = .ok (.aload_n 1, 1) := by decide +kernel
theorem dL_law_1034 : decode cL_law 1034 = .ok (.aload_n 0, 1) := by decide +kernel
theorem dL_law_1035 : decode cL_law 1035 = .ok (.iload 4, 2) := by decide +kernel
theorem dL_law_1037 : decode cL_law 1037 = .ok (.iconst 1, 1) := by decide +kernel
theorem dL_law_1038 : decode cL_law 1038 = .ok (.iadd, 1) := by decide +kernel
theorem dL_law_1039 : decode cL_law 1039 = .ok (.iaload, 1) := by decide +kernel
theorem dL_law_1040 : decode cL_law 1040 = .ok (.aload_n 0, 1) := by decide +kernel
theorem dL_law_1041 : decode cL_law 1041 = .ok (.iload 4, 2) := by decide +kernel
theorem dL_law_1043 : decode cL_law 1043 = .ok (.iconst 2, 1) := by decide +kernel
theorem dL_law_1044 : decode cL_law 1044 = .ok (.iadd, 1) := by decide +kernel
theorem dL_law_1045 : decode cL_law 1045 = .ok (.iaload, 1) := by decide +kernel
theorem dL_law_1046 : decode cL_law 1046 = .ok (.aload_n 3, 1) := by decide +kernel
theorem dL_law_1047 : decode cL_law 1047 = .ok (.invokestatic 151, 3) := by decide +kernel
theorem dL_law_1050 : decode cL_law 1050 = .ok (.istore 5, 2) := by decide +kernel
theorem dL_law_1052 : decode cL_law 1052 = .ok (.aload_n 2, 1) := by decide +kernel
theorem dL_law_1053 : decode cL_law 1053 = .ok (.aload_n 0, 1) := by decide +kernel
theorem dL_law_1054 : decode cL_law 1054 = .ok (.iload 4, 2) := by decide +kernel
theorem dL_law_1056 : decode cL_law 1056 = .ok (.iconst 1, 1) := by decide +kernel
theorem dL_law_1057 : decode cL_law 1057 = .ok (.iadd, 1) := by decide +kernel
theorem dL_law_1058 : decode cL_law 1058 = .ok (.iaload, 1) := by decide +kernel
theorem dL_law_1059 : decode cL_law 1059 = .ok (.aload_n 0, 1) := by decide +kernel
theorem dL_law_1060 : decode cL_law 1060 = .ok (.iload 4, 2) := by decide +kernel
theorem dL_law_1062 : decode cL_law 1062 = .ok (.iconst 2, 1) := by decide +kernel
theorem dL_law_1063 : decode cL_law 1063 = .ok (.iadd, 1) := by decide +kernel
theorem dL_law_1064 : decode cL_law 1064 = .ok (.iaload, 1) := by decide +kernel
theorem dL_law_1065 : decode cL_law 1065 = .ok (.invokevirtual 153, 3) := by decide +kernel
theorem dL_law_1068 : decode cL_law 1068 = .ok (.istore 6, 2) := by decide +kernel
theorem dL_law_1070 : decode cL_law 1070 = .ok (.aload_n 2, 1) := by decide +kernel
theorem dL_law_1071 : decode cL_law 1071 = .ok (.invokevirtual 88, 3) := by decide +kernel
theorem dL_law_1074 : decode cL_law 1074 = .ok (.iload 5, 2) := by decide +kernel
theorem dL_law_1076 : decode cL_law 1076 = .ok (.if_icmp .eq 5, 3) := by decide +kernel
theorem dL_law_1079 : decode cL_law 1079 = .ok (.iconst 0, 1) := by decide +kernel
theorem dL_law_1080 : decode cL_law 1080 = .ok (.ireturn, 1) := by decide +kernel
theorem dL_law_1081 : decode cL_law 1081 = .ok (.iload 5, 2) := by decide +kernel
theorem dL_law_1083 : decode cL_law 1083 = .ok (.ifCond .ne 15, 3) := by decide +kernel
theorem dL_law_1086 : decode cL_law 1086 = .ok (.aload_n 3, 1) := by decide +kernel
theorem dL_law_1087 : decode cL_law 1087 = .ok (.iconst 0, 1) := by decide +kernel
theorem dL_law_1088 : decode cL_law 1088 = .ok (.laload, 1) := by decide +kernel
theorem dL_law_1089 : decode cL_law 1089 = .ok (.iload 6, 2) := by decide +kernel
theorem dL_law_1091 : decode cL_law 1091 = .ok (.i2l, 1) := by decide +kernel
theorem dL_law_1092 : decode cL_law 1092 = .ok (.lcmp, 1) := by decide +kernel
theorem dL_law_1093 : decode cL_law 1093 = .ok (.ifCond .eq 5, 3) := by decide +kernel
theorem dL_law_1096 : decode cL_law 1096 = .ok (.iconst 0, 1) := by decide +kernel
theorem dL_law_1097 : decode cL_law 1097 = .ok (.ireturn, 1) := by decide +kernel
theorem dL_law_1098 : decode cL_law 1098 = .ok (.goto 378, 3) := by decide +kernel
theorem dL_law_1101 : decode cL_law 1101 = .ok (.aload_n 1, 1) := by decide +kernel
theorem dL_law_1102 : decode cL_law 1102 = .ok (.aload_n 0, 1) := by decide +kernel
theorem dL_law_1103 : decode cL_law 1103 = .ok (.iload 4, 2) := by decide +kernel
theorem dL_law_1105 : decode cL_law 1105 = .ok (.iconst 1, 1) := by decide +kernel
theorem dL_law_1106 : decode cL_law 1106 = .ok (.iadd, 1) := by decide +kernel
theorem dL_law_1107 : decode cL_law 1107 = .ok (.iaload, 1) := by decide +kernel
theorem dL_law_1108 : decode cL_law 1108 = .ok (.aload_n 3, 1) := by decide +kernel
theorem dL_law_1109 : decode cL_law 1109 = .ok (.invokestatic 154, 3) := by decide +kernel
theorem dL_law_1112 : decode cL_law 1112 = .ok (.istore 5, 2) := by decide +kernel
theorem dL_law_1114 : decode cL_law 1114 = .ok (.aload_n 2, 1) := by decide +kernel
theorem dL_law_1115 : decode cL_law 1115 = .ok (.aload_n 0, 1) := by decide +kernel
theorem dL_law_1116 : decode cL_law 1116 = .ok (.iload 4, 2) := by decide +kernel
theorem dL_law_1118 : decode cL_law 1118 = .ok (.iconst 1, 1) := by decide +kernel
theorem dL_law_1119 : decode cL_law 1119 = .ok (.iadd, 1) := by decide +kernel
theorem dL_law_1120 : decode cL_law 1120 = .ok (.iaload, 1) := by decide +kernel
theorem dL_law_1121 : decode cL_law 1121 = .ok (.invokevirtual 156, 3) := by decide +kernel
theorem dL_law_1124 : decode cL_law 1124 = .ok (.istore 6, 2) := by decide +kernel
theorem dL_law_1126 : decode cL_law 1126 = .ok (.aload_n 2, 1) := by decide +kernel
theorem dL_law_1127 : decode cL_law 1127 = .ok (.invokevirtual 88, 3) := by decide +kernel
theorem dL_law_1130 : decode cL_law 1130 = .ok (.iload 5, 2) := by decide +kernel
theorem dL_law_1132 : decode cL_law 1132 = .ok (.if_icmp .eq 5, 3) := by decide +kernel
theorem dL_law_1135 : decode cL_law 1135 = .ok (.iconst 0, 1) := by decide +kernel
theorem dL_law_1136 : decode cL_law 1136 = .ok (.ireturn, 1) := by decide +kernel
theorem dL_law_1137 : decode cL_law 1137 = .ok (.iload 5, 2) := by decide +kernel
theorem dL_law_1139 : decode cL_law 1139 = .ok (.ifCond .ne 15, 3) := by decide +kernel
theorem dL_law_1142 : decode cL_law 1142 = .ok (.aload_n 3, 1) := by decide +kernel
theorem dL_law_1143 : decode cL_law 1143 = .ok (.iconst 0, 1) := by decide +kernel
theorem dL_law_1144 : decode cL_law 1144 = .ok (.laload, 1) := by decide +kernel
theorem dL_law_1145 : decode cL_law 1145 = .ok (.iload 6, 2) := by decide +kernel
theorem dL_law_1147 : decode cL_law 1147 = .ok (.i2l, 1) := by decide +kernel
theorem dL_law_1148 : decode cL_law 1148 = .ok (.lcmp, 1) := by decide +kernel
theorem dL_law_1149 : decode cL_law 1149 = .ok (.ifCond .eq 5, 3) := by decide +kernel
theorem dL_law_1152 : decode cL_law 1152 = .ok (.iconst 0, 1) := by decide +kernel
theorem dL_law_1153 : decode cL_law 1153 = .ok (.ireturn, 1) := by decide +kernel
theorem dL_law_1154 : decode cL_law 1154 = .ok (.goto 322, 3) := by decide +kernel
theorem dL_law_1157 : decode cL_law 1157 = .ok (.aload_n 1, 1) := by decide +kernel
theorem dL_law_1158 : decode cL_law 1158 = .ok (.aload_n 0, 1) := by decide +kernel
theorem dL_law_1159 : decode cL_law 1159 = .ok (.iload 4, 2) := by decide +kernel
theorem dL_law_1161 : decode cL_law 1161 = .ok (.iconst 1, 1) := by decide +kernel
theorem dL_law_1162 : decode cL_law 1162 = .ok (.iadd, 1) := by decide +kernel
theorem dL_law_1163 : decode cL_law 1163 = .ok (.iaload, 1) := by decide +kernel
theorem dL_law_1164 : decode cL_law 1164 = .ok (.aload_n 3, 1) := by decide +kernel
theorem dL_law_1165 : decode cL_law 1165 = .ok (.invokestatic 157, 3) := by decide +kernel
theorem dL_law_1168 : decode cL_law 1168 = .ok (.istore 5, 2) := by decide +kernel
theorem dL_law_1170 : decode cL_law 1170 = .ok (.aload_n 2, 1) := by decide +kernel
theorem dL_law_1171 : decode cL_law 1171 = .ok (.aload_n 0, 1) := by decide +kernel
theorem dL_law_1172 : decode cL_law 1172 = .ok (.iload 4, 2) := by decide +kernel
theorem dL_law_1174 : decode cL_law 1174 = .ok (.iconst 1, 1) := by decide +kernel
theorem dL_law_1175 : decode cL_law 1175 = .ok (.iadd, 1) := by decide +kernel
theorem dL_law_1176 : decode cL_law 1176 = .ok (.iaload, 1) := by decide +kernel
theorem dL_law_1177 : decode cL_law 1177 = .ok (.invokevirtual 159, 3) := by decide +kernel
theorem dL_law_1180 : decode cL_law 1180 = .ok (.istore 6, 2) := by decide +kernel
theorem dL_law_1182 : decode cL_law 1182 = .ok (.aload_n 2, 1) := by decide +kernel
theorem dL_law_1183 : decode cL_law 1183 = .ok (.invokevirtual 88, 3) := by decide +kernel
theorem dL_law_1186 : decode cL_law 1186 = .ok (.iload 5, 2) := by decide +kernel
theorem dL_law_1188 : decode cL_law 1188 = .ok (.if_icmp .eq 5, 3) := by decide +kernel
theorem dL_law_1191 : decode cL_law 1191 = .ok (.iconst 0, 1) := by decide +kernel
theorem dL_law_1192 : decode cL_law 1192 = .ok (.ireturn, 1) := by decide +kernel
theorem dL_law_1193 : decode cL_law 1193 = .ok (.iload 5, 2) := by decide +kernel
theorem dL_law_1195 : decode cL_law 1195 = .ok (.ifCond .ne 15, 3) := by decide +kernel
theorem dL_law_1198 : decode cL_law 1198 = .ok (.aload_n 3, 1) := by decide +kernel
theorem dL_law_1199 : decode cL_law 1199 = .ok (.iconst 0, 1) := by decide +kernel
theorem dL_law_1200 : decode cL_law 1200 = .ok (.laload, 1) := by decide +kernel
theorem dL_law_1201 : decode cL_law 1201 = .ok (.iload 6, 2) := by decide +kernel
theorem dL_law_1203 : decode cL_law 1203 = .ok (.i2l, 1) := by decide +kernel
theorem dL_law_1204 : decode cL_law 1204 = .ok (.lcmp, 1) := by decide +kernel
theorem dL_law_1205 : decode cL_law 1205 = .ok (.ifCond .eq 5, 3) := by decide +kernel
theorem dL_law_1208 : decode cL_law 1208 = .ok (.iconst 0, 1) := by decide +kernel
theorem dL_law_1209 : decode cL_law 1209 = .ok (.ireturn, 1) := by decide +kernel
theorem dL_law_1210 : decode cL_law 1210 = .ok (.goto 266, 3) := by decide +kernel
theorem dL_law_1213 : decode cL_law 1213 = .ok (.aload_n 1, 1) := by decide +kernel
theorem dL_law_1214 : decode cL_law 1214 = .ok (.aload_n 0, 1) := by decide +kernel
theorem dL_law_1215 : decode cL_law 1215 = .ok (.iload 4, 2) := by decide +kernel
theorem dL_law_1217 : decode cL_law 1217 = .ok (.iconst 1, 1) := by decide +kernel
theorem dL_law_1218 : decode cL_law 1218 = .ok (.iadd, 1) := by decide +kernel
theorem dL_law_1219 : decode cL_law 1219 = .ok (.iaload, 1) := by decide +kernel
theorem dL_law_1220 : decode cL_law 1220 = .ok (.aload_n 3, 1) := by decide +kernel
theorem dL_law_1221 : decode cL_law 1221 = .ok (.invokestatic 160, 3) := by decide +kernel
theorem dL_law_1224 : decode cL_law 1224 = .ok (.istore 5, 2) := by decide +kernel
theorem dL_law_1226 : decode cL_law 1226 = .ok (.aload_n 2, 1) := by decide +kernel
theorem dL_law_1227 : decode cL_law 1227 = .ok (.aload_n 0, 1) := by decide +kernel
theorem dL_law_1228 : decode cL_law 1228 = .ok (.iload 4, 2) := by decide +kernel
theorem dL_law_1230 : decode cL_law 1230 = .ok (.iconst 1, 1) := by decide +kernel
theorem dL_law_1231 : decode cL_law 1231 = .ok (.iadd, 1) := by decide +kernel
theorem dL_law_1232 : decode cL_law 1232 = .ok (.iaload, 1) := by decide +kernel
theorem dL_law_1233 : decode cL_law 1233 = .ok (.invokevirtual 162, 3) := by decide +kernel
theorem dL_law_1236 : decode cL_law 1236 = .ok (.istore 6, 2) := by decide +kernel
theorem dL_law_1238 : decode cL_law 1238 = .ok (.aload_n 2, 1) := by decide +kernel
theorem dL_law_1239 : decode cL_law 1239 = .ok (.invokevirtual 88, 3) := by decide +kernel
theorem dL_law_1242 : decode cL_law 1242 = .ok (.iload 5, 2) := by decide +kernel
theorem dL_law_1244 : decode cL_law 1244 = .ok (.if_icmp .eq 5, 3) := by decide +kernel
theorem dL_law_1247 : decode cL_law 1247 = .ok (.iconst 0, 1) := by decide +kernel
theorem dL_law_1248 : decode cL_law 1248 = .ok (.ireturn, 1) := by decide +kernel
theorem dL_law_1249 : decode cL_law 1249 = .ok (.iload 5, 2) := by decide +kernel
theorem dL_law_1251 : decode cL_law 1251 = .ok (.ifCond .ne 15, 3) := by decide +kernel
theorem dL_law_1254 : decode cL_law 1254 = .ok (.aload_n 3, 1) := by decide +kernel
theorem dL_law_1255 : decode cL_law 1255 = .ok (.iconst 0, 1) := by decide +kernel
theorem dL_law_1256 : decode cL_law 1256 = .ok (.laload, 1) := by decide +kernel
theorem dL_law_1257 : decode cL_law 1257 = .ok (.iload 6, 2) := by decide +kernel
theorem dL_law_1259 : decode cL_law 1259 = .ok (.i2l, 1) := by decide +kernel
theorem dL_law_1260 : decode cL_law 1260 = .ok (.lcmp, 1) := by decide +kernel
theorem dL_law_1261 : decode cL_law 1261 = .ok (.ifCond .eq 5, 3) := by decide +kernel
theorem dL_law_1264 : decode cL_law 1264 = .ok (.iconst 0, 1) := by decide +kernel
theorem dL_law_1265 : decode cL_law 1265 = .ok (.ireturn, 1) := by decide +kernel
theorem dL_law_1266 : decode cL_law 1266 = .ok (.goto 210, 3) := by decide +kernel
theorem dL_law_1269 : decode cL_law 1269 = .ok (.aload_n 1, 1) := by decide +kernel
theorem dL_law_1270 : decode cL_law 1270 = .ok (.aload_n 0, 1) := by decide +kernel
theorem dL_law_1271 : decode cL_law 1271 = .ok (.iload 4, 2) := by decide +kernel
theorem dL_law_1273 : decode cL_law 1273 = .ok (.iconst 1, 1) := by decide +kernel
theorem dL_law_1274 : decode cL_law 1274 = .ok (.iadd, 1) := by decide +kernel
theorem dL_law_1275 : decode cL_law 1275 = .ok (.iaload, 1) := by decide +kernel
theorem dL_law_1276 : decode cL_law 1276 = .ok (.aload_n 0, 1) := by decide +kernel
theorem dL_law_1277 : decode cL_law 1277 = .ok (.iload 4, 2) := by decide +kernel
theorem dL_law_1279 : decode cL_law 1279 = .ok (.iconst 2, 1) := by decide +kernel
theorem dL_law_1280 : decode cL_law 1280 = .ok (.iadd, 1) := by decide +kernel
theorem dL_law_1281 : decode cL_law 1281 = .ok (.iaload, 1) := by decide +kernel
theorem dL_law_1282 : decode cL_law 1282 = .ok (.aload_n 3, 1) := by decide +kernel
theorem dL_law_1283 : decode cL_law 1283 = .ok (.invokestatic 163, 3) := by decide +kernel
theorem dL_law_1286 : decode cL_law 1286 = .ok (.istore 5, 2) := by decide +kernel
theorem dL_law_1288 : decode cL_law 1288 = .ok (.aload_n 2, 1) := by decide +kernel
theorem dL_law_1289 : decode cL_law 1289 = .ok (.aload_n 0, 1) := by decide +kernel
theorem dL_law_1290 : decode cL_law 1290 = .ok (.iload 4, 2) := by decide +kernel
theorem dL_law_1292 : decode cL_law 1292 = .ok (.iconst 1, 1) := by decide +kernel
theorem dL_law_1293 : decode cL_law 1293 = .ok (.iadd, 1) := by decide +kernel
theorem dL_law_1294 : decode cL_law 1294 = .ok (.iaload, 1) := by decide +kernel
theorem dL_law_1295 : decode cL_law 1295 = .ok (.aload_n 0, 1) := by decide +kernel
theorem dL_law_1296 : decode cL_law 1296 = .ok (.iload 4, 2) := by decide +kernel
theorem dL_law_1298 : decode cL_law 1298 = .ok (.iconst 2, 1) := by decide +kernel
theorem dL_law_1299 : decode cL_law 1299 = .ok (.iadd, 1) := by decide +kernel
theorem dL_law_1300 : decode cL_law 1300 = .ok (.iaload, 1) := by decide +kernel
theorem dL_law_1301 : decode cL_law 1301 = .ok (.invokevirtual 165, 3) := by decide +kernel
theorem dL_law_1304 : decode cL_law 1304 = .ok (.istore 6, 2) := by decide +kernel
theorem dL_law_1306 : decode cL_law 1306 = .ok (.aload_n 2, 1) := by decide +kernel
theorem dL_law_1307 : decode cL_law 1307 = .ok (.invokevirtual 88, 3) := by decide +kernel
theorem dL_law_1310 : decode cL_law 1310 = .ok (.iload 5, 2) := by decide +kernel
theorem dL_law_1312 : decode cL_law 1312 = .ok (.if_icmp .eq 5, 3) := by decide +kernel
theorem dL_law_1315 : decode cL_law 1315 = .ok (.iconst 0, 1) := by decide +kernel
theorem dL_law_1316 : decode cL_law 1316 = .ok (.ireturn, 1) := by decide +kernel
theorem dL_law_1317 : decode cL_law 1317 = .ok (.iload 5, 2) := by decide +kernel
theorem dL_law_1319 : decode cL_law 1319 = .ok (.ifCond .ne 15, 3) := by decide +kernel
theorem dL_law_1322 : decode cL_law 1322 = .ok (.aload_n 3, 1) := by decide +kernel
theorem dL_law_1323 : decode cL_law 1323 = .ok (.iconst 0, 1) := by decide +kernel
theorem dL_law_1324 : decode cL_law 1324 = .ok (.laload, 1) := by decide +kernel
theorem dL_law_1325 : decode cL_law 1325 = .ok (.iload 6, 2) := by decide +kernel
theorem dL_law_1327 : decode cL_law 1327 = .ok (.i2l, 1) := by decide +kernel
theorem dL_law_1328 : decode cL_law 1328 = .ok (.lcmp, 1) := by decide +kernel
theorem dL_law_1329 : decode cL_law 1329 = .ok (.ifCond .eq 5, 3) := by decide +kernel
theorem dL_law_1332 : decode cL_law 1332 = .ok (.iconst 0, 1) := by decide +kernel
theorem dL_law_1333 : decode cL_law 1333 = .ok (.ireturn, 1) := by decide +kernel
theorem dL_law_1334 : decode cL_law 1334 = .ok (.goto 142, 3) := by decide +kernel
theorem dL_law_1337 : decode cL_law 1337 = .ok (.aload_n 1, 1) := by decide +kernel
theorem dL_law_1338 : decode cL_law 1338 = .ok (.aload_n 0, 1) := by decide +kernel
theorem dL_law_1339 : decode cL_law 1339 = .ok (.iload 4, 2) := by decide +kernel
theorem dL_law_1341 : decode cL_law 1341 = .ok (.iconst 1, 1) := by decide +kernel
theorem dL_law_1342 : decode cL_law 1342 = .ok (.iadd, 1) := by decide +kernel
theorem dL_law_1343 : decode cL_law 1343 = .ok (.iaload, 1) := by decide +kernel
theorem dL_law_1344 : decode cL_law 1344 = .ok (.aload_n 0, 1) := by decide +kernel
theorem dL_law_1345 : decode cL_law 1345 = .ok (.iload 4, 2) := by decide +kernel
theorem dL_law_1347 : decode cL_law 1347 = .ok (.iconst 2, 1) := by decide +kernel
theorem dL_law_1348 : decode cL_law 1348 = .ok (.iadd, 1) := by decide +kernel
theorem dL_law_1349 : decode cL_law 1349 = .ok (.iaload, 1) := by decide +kernel
theorem dL_law_1350 : decode cL_law 1350 = .ok (.ifCond .eq 7, 3) := by decide +kernel
theorem dL_law_1353 : decode cL_law 1353 = .ok (.iconst 1, 1) := by decide +kernel
theorem dL_law_1354 : decode cL_law 1354 = .ok (.goto 4, 3) := by decide +kernel
theorem dL_law_1357 : decode cL_law 1357 = .ok (.iconst 0, 1) := by decide +kernel
theorem dL_law_1358 : decode cL_law 1358 = .ok (.aload_n 3, 1) := by decide +kernel
theorem dL_law_1359 : decode cL_law 1359 = .ok (.invokestatic 166, 3) := by decide +kernel
theorem dL_law_1362 : decode cL_law 1362 = .ok (.istore 5, 2) := by decide +kernel
theorem dL_law_1364 : decode cL_law 1364 = .ok (.aload_n 2, 1) := by decide +kernel
theorem dL_law_1365 : decode cL_law 1365 = .ok (.aload_n 0, 1) := by decide +kernel
theorem dL_law_1366 : decode cL_law 1366 = .ok (.iload 4, 2) := by decide +kernel
theorem dL_law_1368 : decode cL_law 1368 = .ok (.iconst 1, 1) := by decide +kernel
theorem dL_law_1369 : decode cL_law 1369 = .ok (.iadd, 1) := by decide +kernel
theorem dL_law_1370 : decode cL_law 1370 = .ok (.iaload, 1) := by decide +kernel
theorem dL_law_1371 : decode cL_law 1371 = .ok (.aload_n 0, 1) := by decide +kernel
theorem dL_law_1372 : decode cL_law 1372 = .ok (.iload 4, 2) := by decide +kernel
theorem dL_law_1374 : decode cL_law 1374 = .ok (.iconst 2, 1) := by decide +kernel
theorem dL_law_1375 : decode cL_law 1375 = .ok (.iadd, 1) := by decide +kernel
theorem dL_law_1376 : decode cL_law 1376 = .ok (.iaload, 1) := by decide +kernel
theorem dL_law_1377 : decode cL_law 1377 = .ok (.ifCond .eq 7, 3) := by decide +kernel
theorem dL_law_1380 : decode cL_law 1380 = .ok (.iconst 1, 1) := by decide +kernel
theorem dL_law_1381 : decode cL_law 1381 = .ok (.goto 4, 3) := by decide +kernel
theorem dL_law_1384 : decode cL_law 1384 = .ok (.iconst 0, 1) := by decide +kernel
theorem dL_law_1385 : decode cL_law 1385 = .ok (.invokevirtual 169, 3) := by decide +kernel
theorem dL_law_1388 : decode cL_law 1388 = .ok (.istore 6, 2) := by decide +kernel
theorem dL_law_1390 : decode cL_law 1390 = .ok (.aload_n 2, 1) := by decide +kernel
theorem dL_law_1391 : decode cL_law 1391 = .ok (.invokevirtual 88, 3) := by decide +kernel
theorem dL_law_1394 : decode cL_law 1394 = .ok (.iload 5, 2) := by decide +kernel
theorem dL_law_1396 : decode cL_law 1396 = .ok (.if_icmp .eq 5, 3) := by decide +kernel
theorem dL_law_1399 : decode cL_law 1399 = .ok (.iconst 0, 1) := by decide +kernel
theorem dL_law_1400 : decode cL_law 1400 = .ok (.ireturn, 1) := by decide +kernel
theorem dL_law_1401 : decode cL_law 1401 = .ok (.iload 5, 2) := by decide +kernel
theorem dL_law_1403 : decode cL_law 1403 = .ok (.ifCond .ne 15, 3) := by decide +kernel
theorem dL_law_1406 : decode cL_law 1406 = .ok (.aload_n 3, 1) := by decide +kernel
theorem dL_law_1407 : decode cL_law 1407 = .ok (.iconst 0, 1) := by decide +kernel
theorem dL_law_1408 : decode cL_law 1408 = .ok (.laload, 1) := by decide +kernel
theorem dL_law_1409 : decode cL_law 1409 = .ok (.iload 6, 2) := by decide +kernel
theorem dL_law_1411 : decode cL_law 1411 = .ok (.i2l, 1) := by decide +kernel
theorem dL_law_1412 : decode cL_law 1412 = .ok (.lcmp, 1) := by decide +kernel
theorem dL_law_1413 : decode cL_law 1413 = .ok (.ifCond .eq 5, 3) := by decide +kernel
theorem dL_law_1416 : decode cL_law 1416 = .ok (.iconst 0, 1) := by decide +kernel
theorem dL_law_1417 : decode cL_law 1417 = .ok (.ireturn, 1) := by decide +kernel
theorem dL_law_1418 : decode cL_law 1418 = .ok (.goto 58, 3) := by decide +kernel
theorem dL_law_1421 : decode cL_law 1421 = .ok (.aload_n 1, 1) := by decide +kernel
theorem dL_law_1422 : decode cL_law 1422 = .ok (.invokevirtual 170, 3) := by decide +kernel
theorem dL_law_1425 : decode cL_law 1425 = .ok (.dstore 5, 2) := by decide +kernel
theorem dL_law_1427 : decode cL_law 1427 = .ok (.aload_n 2, 1) := by decide +kernel
theorem dL_law_1428 : decode cL_law 1428 = .ok (.invokevirtual 174, 3) := by decide +kernel
theorem dL_law_1431 : decode cL_law 1431 = .ok (.dstore 7, 2) := by decide +kernel
theorem dL_law_1433 : decode cL_law 1433 = .ok (.dload 5, 2) := by decide +kernel
theorem dL_law_1435 : decode cL_law 1435 = .ok (.dload 7, 2) := by decide +kernel
theorem dL_law_1437 : decode cL_law 1437 = .ok (.dcmp .l, 1) := by decide +kernel
theorem dL_law_1438 : decode cL_law 1438 = .ok (.ifCond .eq 21, 3) := by decide +kernel
theorem dL_law_1441 : decode cL_law 1441 = .ok (.dload 5, 2) := by decide +kernel
theorem dL_law_1443 : decode cL_law 1443 = .ok (.dload 5, 2) := by decide +kernel
theorem dL_law_1445 : decode cL_law 1445 = .ok (.dcmp .l, 1) := by decide +kernel
theorem dL_law_1446 : decode cL_law 1446 = .ok (.ifCond .eq 11, 3) := by decide +kernel
theorem dL_law_1449 : decode cL_law 1449 = .ok (.dload 7, 2) := by decide +kernel
theorem dL_law_1451 : decode cL_law 1451 = .ok (.dload 7, 2) := by decide +kernel
theorem dL_law_1453 : decode cL_law 1453 = .ok (.dcmp .l, 1) := by decide +kernel
theorem dL_law_1454 : decode cL_law 1454 = .ok (.ifCond .ne 5, 3) := by decide +kernel
theorem dL_law_1457 : decode cL_law 1457 = .ok (.iconst 0, 1) := by decide +kernel
theorem dL_law_1458 : decode cL_law 1458 = .ok (.ireturn, 1) := by decide +kernel
theorem dL_law_1459 : decode cL_law 1459 = .ok (.goto 17, 3) := by decide +kernel
theorem dL_law_1462 : decode cL_law 1462 = .ok (.aload_n 1, 1) := by decide +kernel
theorem dL_law_1463 : decode cL_law 1463 = .ok (.invokevirtual 175, 3) := by decide +kernel
theorem dL_law_1466 : decode cL_law 1466 = .ok (.aload_n 2, 1) := by decide +kernel
theorem dL_law_1467 : decode cL_law 1467 = .ok (.invokevirtual 179, 3) := by decide +kernel
theorem dL_law_1470 : decode cL_law 1470 = .ok (.lcmp, 1) := by decide +kernel
theorem dL_law_1471 : decode cL_law 1471 = .ok (.ifCond .eq 5, 3) := by decide +kernel
theorem dL_law_1474 : decode cL_law 1474 = .ok (.iconst 0, 1) := by decide +kernel
theorem dL_law_1475 : decode cL_law 1475 = .ok (.ireturn, 1) := by decide +kernel
theorem dL_law_1476 : decode cL_law 1476 = .ok (.iinc 4 5, 3) := by decide +kernel
theorem dL_law_1479 : decode cL_law 1479 = .ok (.goto (-1456), 3) := by decide +kernel
theorem dL_law_1482 : decode cL_law 1482 = .ok (.iconst 1, 1) := by decide +kernel
theorem dL_law_1483 : decode cL_law 1483 = .ok (.ireturn, 1) := by decide +kernel
abbrev vwCl : List vw_C := [(RX0, TX0, 2), (RX1, TX1, 3), (RX2, TX2, 7), (RX3, TX3, 7), (RX4, TX4, 2), (RX5, TX5, 4), (RX6, TX6, 11)]
