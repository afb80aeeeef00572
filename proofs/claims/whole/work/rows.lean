section
-- ===== PART A: goes FIRST, ahead of the names: the tables' words, and 'selects' of the private methods out of them =====
/-- a private method of a class that the tables say can be made, by its rows of tables_1 -/
def lw_okq (q : MethodName × Nat) : Prop := (q.1.cls ≠ "java/lang/invoke/MethodHandle" ∧ q.1.cls ≠ "java/lang/invoke/VarHandle") ∧ Cond.instantiable q.1.cls q.2 ∈ tables_1 ∧ Cond.privateMethod q.1 ∈ tables_1 ∧ Cond.instanceMethod q.1 ∈ tables_1
theorem lw_p0 : lw_okq (⟨"ChalkRings$History", "slotOf", "(I)LChalkRings$Playground;"⟩, 3) := ⟨⟨by decide +kernel, by decide +kernel⟩, List.mem_of_getElem? (i := 195) (by decide +kernel), List.mem_of_getElem? (i := 312) (by decide +kernel), List.mem_of_getElem? (i := 313) (by decide +kernel)⟩
theorem lw_p1 : lw_okq (⟨"ChalkRings$Roll", "rollAll", "(LChalkRings$Playground;LChalkRings$Marble;)V"⟩, 10) := ⟨⟨by decide +kernel, by decide +kernel⟩, List.mem_of_getElem? (i := 152) (by decide +kernel), List.mem_of_getElem? (i := 406) (by decide +kernel), List.mem_of_getElem? (i := 407) (by decide +kernel)⟩
theorem lw_p2 : lw_okq (⟨"ChalkRings$Roll", "rollToHit", "(LChalkRings$Playground;LChalkRings$Marble;)LChalkRings$Marble;"⟩, 10) := ⟨⟨by decide +kernel, by decide +kernel⟩, List.mem_of_getElem? (i := 152) (by decide +kernel), List.mem_of_getElem? (i := 410) (by decide +kernel), List.mem_of_getElem? (i := 411) (by decide +kernel)⟩
theorem lw_p3 : lw_okq (⟨"ChalkRings$Roll", "turnAtWalls", "(LChalkRings$Marble;)V"⟩, 10) := ⟨⟨by decide +kernel, by decide +kernel⟩, List.mem_of_getElem? (i := 152) (by decide +kernel), List.mem_of_getElem? (i := 415) (by decide +kernel), List.mem_of_getElem? (i := 416) (by decide +kernel)⟩
theorem lw_p4 : lw_okq (⟨"ChalkRings$Roll", "passedOn", "(II)I"⟩, 10) := ⟨⟨by decide +kernel, by decide +kernel⟩, List.mem_of_getElem? (i := 152) (by decide +kernel), List.mem_of_getElem? (i := 424) (by decide +kernel), List.mem_of_getElem? (i := 425) (by decide +kernel)⟩
theorem lw_p5 : lw_okq (⟨"ChalkRings$Roll", "takeWinnings", "(LChalkRings$Playground;I)V"⟩, 10) := ⟨⟨by decide +kernel, by decide +kernel⟩, List.mem_of_getElem? (i := 152) (by decide +kernel), List.mem_of_getElem? (i := 431) (by decide +kernel), List.mem_of_getElem? (i := 432) (by decide +kernel)⟩
theorem lw_p6 : lw_okq (⟨"ChalkRings", "tryFlick", "(III)V"⟩, 5) := ⟨⟨by decide +kernel, by decide +kernel⟩, List.mem_of_getElem? (i := 13) (by decide +kernel), List.mem_of_getElem? (i := 498) (by decide +kernel), List.mem_of_getElem? (i := 499) (by decide +kernel)⟩
theorem lw_p7 : lw_okq (⟨"ChalkRings$ItemReader", "take", "(C)V"⟩, 9) := ⟨⟨by decide +kernel, by decide +kernel⟩, List.mem_of_getElem? (i := 215) (by decide +kernel), List.mem_of_getElem? (i := 542) (by decide +kernel), List.mem_of_getElem? (i := 543) (by decide +kernel)⟩
theorem lw_p8 : lw_okq (⟨"ChalkRings$ItemReader", "takeNumber", "(II)I"⟩, 9) := ⟨⟨by decide +kernel, by decide +kernel⟩, List.mem_of_getElem? (i := 215) (by decide +kernel), List.mem_of_getElem? (i := 550) (by decide +kernel), List.mem_of_getElem? (i := 551) (by decide +kernel)⟩
theorem lw_p9 : lw_okq (⟨"ChalkRings$ItemReader", "digitAt", "(I)I"⟩, 9) := ⟨⟨by decide +kernel, by decide +kernel⟩, List.mem_of_getElem? (i := 215) (by decide +kernel), List.mem_of_getElem? (i := 554) (by decide +kernel), List.mem_of_getElem? (i := 555) (by decide +kernel)⟩
theorem lw_p10 : lw_okq (⟨"ChalkRings", "addItemRead", "()Z"⟩, 5) := ⟨⟨by decide +kernel, by decide +kernel⟩, List.mem_of_getElem? (i := 13) (by decide +kernel), List.mem_of_getElem? (i := 567) (by decide +kernel), List.mem_of_getElem? (i := 568) (by decide +kernel)⟩
theorem lw_p11 : lw_okq (⟨"ChalkRingsModel", "isMarble", "(I)Z"⟩, 22) := ⟨⟨by decide +kernel, by decide +kernel⟩, List.mem_of_getElem? (i := 594) (by decide +kernel), List.mem_of_getElem? (i := 672) (by decide +kernel), List.mem_of_getElem? (i := 673) (by decide +kernel)⟩
theorem lw_p12 : lw_okq (⟨"ChalkRingsModel", "isThere", "(I)Z"⟩, 22) := ⟨⟨by decide +kernel, by decide +kernel⟩, List.mem_of_getElem? (i := 594) (by decide +kernel), List.mem_of_getElem? (i := 682) (by decide +kernel), List.mem_of_getElem? (i := 683) (by decide +kernel)⟩
theorem lw_p13 : lw_okq (⟨"ChalkRingsModel", "part", "(II)I"⟩, 22) := ⟨⟨by decide +kernel, by decide +kernel⟩, List.mem_of_getElem? (i := 594) (by decide +kernel), List.mem_of_getElem? (i := 686) (by decide +kernel), List.mem_of_getElem? (i := 687) (by decide +kernel)⟩
theorem lw_p14 : lw_okq (⟨"ChalkRingsModel", "record", "()V"⟩, 22) := ⟨⟨by decide +kernel, by decide +kernel⟩, List.mem_of_getElem? (i := 594) (by decide +kernel), List.mem_of_getElem? (i := 690) (by decide +kernel), List.mem_of_getElem? (i := 691) (by decide +kernel)⟩
theorem lw_p15 : lw_okq (⟨"ChalkRingsModel", "flicks", "(IIII)V"⟩, 22) := ⟨⟨by decide +kernel, by decide +kernel⟩, List.mem_of_getElem? (i := 594) (by decide +kernel), List.mem_of_getElem? (i := 697) (by decide +kernel), List.mem_of_getElem? (i := 698) (by decide +kernel)⟩
def lw_privs_1 : List (MethodName × Nat) := [(⟨"ChalkRings$History", "slotOf", "(I)LChalkRings$Playground;"⟩, 3), (⟨"ChalkRings$Roll", "rollAll", "(LChalkRings$Playground;LChalkRings$Marble;)V"⟩, 10), (⟨"ChalkRings$Roll", "rollToHit", "(LChalkRings$Playground;LChalkRings$Marble;)LChalkRings$Marble;"⟩, 10), (⟨"ChalkRings$Roll", "turnAtWalls", "(LChalkRings$Marble;)V"⟩, 10), (⟨"ChalkRings$Roll", "passedOn", "(II)I"⟩, 10), (⟨"ChalkRings$Roll", "takeWinnings", "(LChalkRings$Playground;I)V"⟩, 10), (⟨"ChalkRings", "tryFlick", "(III)V"⟩, 5), (⟨"ChalkRings$ItemReader", "take", "(C)V"⟩, 9), (⟨"ChalkRings$ItemReader", "takeNumber", "(II)I"⟩, 9), (⟨"ChalkRings$ItemReader", "digitAt", "(I)I"⟩, 9), (⟨"ChalkRings", "addItemRead", "()Z"⟩, 5), (⟨"ChalkRingsModel", "isMarble", "(I)Z"⟩, 22), (⟨"ChalkRingsModel", "isThere", "(I)Z"⟩, 22), (⟨"ChalkRingsModel", "part", "(II)I"⟩, 22), (⟨"ChalkRingsModel", "record", "()V"⟩, 22), (⟨"ChalkRingsModel", "flicks", "(IIII)V"⟩, 22)]
theorem lw_r1 : ∀ q ∈ lw_privs_1, lw_okq q := List.forall_mem_cons.mpr ⟨lw_p0, List.forall_mem_cons.mpr ⟨lw_p1, List.forall_mem_cons.mpr ⟨lw_p2, List.forall_mem_cons.mpr ⟨lw_p3, List.forall_mem_cons.mpr ⟨lw_p4, List.forall_mem_cons.mpr ⟨lw_p5, List.forall_mem_cons.mpr ⟨lw_p6, List.forall_mem_cons.mpr ⟨lw_p7, List.forall_mem_cons.mpr ⟨lw_p8, List.forall_mem_cons.mpr ⟨lw_p9, List.forall_mem_cons.mpr ⟨lw_p10, List.forall_mem_cons.mpr ⟨lw_p11, List.forall_mem_cons.mpr ⟨lw_p12, List.forall_mem_cons.mpr ⟨lw_p13, List.forall_mem_cons.mpr ⟨lw_p14, List.forall_mem_cons.mpr ⟨lw_p15, fun _ h => absurd h List.not_mem_nil⟩⟩⟩⟩⟩⟩⟩⟩⟩⟩⟩⟩⟩⟩⟩⟩
theorem lw_p16 : lw_okq (⟨"ChalkRingsModel", "ringsOfMarble", "(I)I"⟩, 22) := ⟨⟨by decide +kernel, by decide +kernel⟩, List.mem_of_getElem? (i := 594) (by decide +kernel), List.mem_of_getElem? (i := 701) (by decide +kernel), List.mem_of_getElem? (i := 702) (by decide +kernel)⟩
theorem lw_p17 : lw_okq (⟨"ChalkRingsModel", "ringsOf", "(II)I"⟩, 22) := ⟨⟨by decide +kernel, by decide +kernel⟩, List.mem_of_getElem? (i := 594) (by decide +kernel), List.mem_of_getElem? (i := 705) (by decide +kernel), List.mem_of_getElem? (i := 706) (by decide +kernel)⟩
theorem lw_p18 : lw_okq (⟨"ChalkRingsModel", "isIn", "(III)Z"⟩, 22) := ⟨⟨by decide +kernel, by decide +kernel⟩, List.mem_of_getElem? (i := 594) (by decide +kernel), List.mem_of_getElem? (i := 709) (by decide +kernel), List.mem_of_getElem? (i := 710) (by decide +kernel)⟩
theorem lw_p19 : lw_okq (⟨"ChalkRingsModel", "ringPart", "(II)I"⟩, 22) := ⟨⟨by decide +kernel, by decide +kernel⟩, List.mem_of_getElem? (i := 594) (by decide +kernel), List.mem_of_getElem? (i := 713) (by decide +kernel), List.mem_of_getElem? (i := 714) (by decide +kernel)⟩
theorem lw_p20 : lw_okq (⟨"ChalkRingsModel", "rolls", "(III)V"⟩, 22) := ⟨⟨by decide +kernel, by decide +kernel⟩, List.mem_of_getElem? (i := 594) (by decide +kernel), List.mem_of_getElem? (i := 717) (by decide +kernel), List.mem_of_getElem? (i := 718) (by decide +kernel)⟩
theorem lw_p21 : lw_okq (⟨"ChalkRingsModel", "marbleAt", "(II)I"⟩, 22) := ⟨⟨by decide +kernel, by decide +kernel⟩, List.mem_of_getElem? (i := 594) (by decide +kernel), List.mem_of_getElem? (i := 721) (by decide +kernel), List.mem_of_getElem? (i := 722) (by decide +kernel)⟩
theorem lw_p22 : lw_okq (⟨"ChalkRingsModel", "setPart", "(III)V"⟩, 22) := ⟨⟨by decide +kernel, by decide +kernel⟩, List.mem_of_getElem? (i := 594) (by decide +kernel), List.mem_of_getElem? (i := 728) (by decide +kernel), List.mem_of_getElem? (i := 729) (by decide +kernel)⟩
theorem lw_p23 : lw_okq (⟨"ChalkRingsModel", "goesOn", "()V"⟩, 22) := ⟨⟨by decide +kernel, by decide +kernel⟩, List.mem_of_getElem? (i := 594) (by decide +kernel), List.mem_of_getElem? (i := 732) (by decide +kernel), List.mem_of_getElem? (i := 733) (by decide +kernel)⟩
theorem lw_p24 : lw_okq (⟨"ChalkRingsModel", "whyNotPut", "(IIII)I"⟩, 22) := ⟨⟨by decide +kernel, by decide +kernel⟩, List.mem_of_getElem? (i := 594) (by decide +kernel), List.mem_of_getElem? (i := 744) (by decide +kernel), List.mem_of_getElem? (i := 745) (by decide +kernel)⟩
theorem lw_p25 : lw_okq (⟨"ChalkRingsModel", "puts", "(IIII)I"⟩, 22) := ⟨⟨by decide +kernel, by decide +kernel⟩, List.mem_of_getElem? (i := 594) (by decide +kernel), List.mem_of_getElem? (i := 751) (by decide +kernel), List.mem_of_getElem? (i := 752) (by decide +kernel)⟩
theorem lw_p26 : lw_okq (⟨"ChalkRingsModel", "whyNotDrawn", "(III)I"⟩, 22) := ⟨⟨by decide +kernel, by decide +kernel⟩, List.mem_of_getElem? (i := 594) (by decide +kernel), List.mem_of_getElem? (i := 759) (by decide +kernel), List.mem_of_getElem? (i := 760) (by decide +kernel)⟩
theorem lw_p27 : lw_okq (⟨"ChalkRingsModel", "draws", "(III)I"⟩, 22) := ⟨⟨by decide +kernel, by decide +kernel⟩, List.mem_of_getElem? (i := 594) (by decide +kernel), List.mem_of_getElem? (i := 763) (by decide +kernel), List.mem_of_getElem? (i := 764) (by decide +kernel)⟩
theorem lw_p28 : lw_okq (⟨"ChalkRingsModel", "ofMarble", "(II)I"⟩, 22) := ⟨⟨by decide +kernel, by decide +kernel⟩, List.mem_of_getElem? (i := 594) (by decide +kernel), List.mem_of_getElem? (i := 783) (by decide +kernel), List.mem_of_getElem? (i := 784) (by decide +kernel)⟩
theorem lw_p29 : lw_okq (⟨"ChalkRingsModel", "ofRing", "(II)I"⟩, 22) := ⟨⟨by decide +kernel, by decide +kernel⟩, List.mem_of_getElem? (i := 594) (by decide +kernel), List.mem_of_getElem? (i := 791) (by decide +kernel), List.mem_of_getElem? (i := 792) (by decide +kernel)⟩
theorem lw_p30 : lw_okq (⟨"ChalkRingsModel", "marblesIn", "(I)I"⟩, 22) := ⟨⟨by decide +kernel, by decide +kernel⟩, List.mem_of_getElem? (i := 594) (by decide +kernel), List.mem_of_getElem? (i := 795) (by decide +kernel), List.mem_of_getElem? (i := 796) (by decide +kernel)⟩
theorem lw_p31 : lw_okq (⟨"ChalkRingsModel", "pointsIn", "(I)I"⟩, 22) := ⟨⟨by decide +kernel, by decide +kernel⟩, List.mem_of_getElem? (i := 594) (by decide +kernel), List.mem_of_getElem? (i := 799) (by decide +kernel), List.mem_of_getElem? (i := 800) (by decide +kernel)⟩
def lw_privs_2 : List (MethodName × Nat) := [(⟨"ChalkRingsModel", "ringsOfMarble", "(I)I"⟩, 22), (⟨"ChalkRingsModel", "ringsOf", "(II)I"⟩, 22), (⟨"ChalkRingsModel", "isIn", "(III)Z"⟩, 22), (⟨"ChalkRingsModel", "ringPart", "(II)I"⟩, 22), (⟨"ChalkRingsModel", "rolls", "(III)V"⟩, 22), (⟨"ChalkRingsModel", "marbleAt", "(II)I"⟩, 22), (⟨"ChalkRingsModel", "setPart", "(III)V"⟩, 22), (⟨"ChalkRingsModel", "goesOn", "()V"⟩, 22), (⟨"ChalkRingsModel", "whyNotPut", "(IIII)I"⟩, 22), (⟨"ChalkRingsModel", "puts", "(IIII)I"⟩, 22), (⟨"ChalkRingsModel", "whyNotDrawn", "(III)I"⟩, 22), (⟨"ChalkRingsModel", "draws", "(III)I"⟩, 22), (⟨"ChalkRingsModel", "ofMarble", "(II)I"⟩, 22), (⟨"ChalkRingsModel", "ofRing", "(II)I"⟩, 22), (⟨"ChalkRingsModel", "marblesIn", "(I)I"⟩, 22), (⟨"ChalkRingsModel", "pointsIn", "(I)I"⟩, 22)]
theorem lw_r2 : ∀ q ∈ lw_privs_2, lw_okq q := List.forall_mem_cons.mpr ⟨lw_p16, List.forall_mem_cons.mpr ⟨lw_p17, List.forall_mem_cons.mpr ⟨lw_p18, List.forall_mem_cons.mpr ⟨lw_p19, List.forall_mem_cons.mpr ⟨lw_p20, List.forall_mem_cons.mpr ⟨lw_p21, List.forall_mem_cons.mpr ⟨lw_p22, List.forall_mem_cons.mpr ⟨lw_p23, List.forall_mem_cons.mpr ⟨lw_p24, List.forall_mem_cons.mpr ⟨lw_p25, List.forall_mem_cons.mpr ⟨lw_p26, List.forall_mem_cons.mpr ⟨lw_p27, List.forall_mem_cons.mpr ⟨lw_p28, List.forall_mem_cons.mpr ⟨lw_p29, List.forall_mem_cons.mpr ⟨lw_p30, List.forall_mem_cons.mpr ⟨lw_p31, fun _ h => absurd h List.not_mem_nil⟩⟩⟩⟩⟩⟩⟩⟩⟩⟩⟩⟩⟩⟩⟩⟩
theorem lw_p32 : lw_okq (⟨"ChalkRingsModel", "scoreOf", "(I)I"⟩, 22) := ⟨⟨by decide +kernel, by decide +kernel⟩, List.mem_of_getElem? (i := 594) (by decide +kernel), List.mem_of_getElem? (i := 811) (by decide +kernel), List.mem_of_getElem? (i := 812) (by decide +kernel)⟩
theorem lw_p33 : lw_okq (⟨"ChalkRingsModel", "findLeader", "()I"⟩, 22) := ⟨⟨by decide +kernel, by decide +kernel⟩, List.mem_of_getElem? (i := 594) (by decide +kernel), List.mem_of_getElem? (i := 819) (by decide +kernel), List.mem_of_getElem? (i := 820) (by decide +kernel)⟩
theorem lw_p34 : lw_okq (⟨"ChalkRingsModel", "stepsOut", "(I)I"⟩, 22) := ⟨⟨by decide +kernel, by decide +kernel⟩, List.mem_of_getElem? (i := 594) (by decide +kernel), List.mem_of_getElem? (i := 835) (by decide +kernel), List.mem_of_getElem? (i := 836) (by decide +kernel)⟩
theorem lw_p35 : lw_okq (⟨"ChalkRingsModel", "findError", "()I"⟩, 22) := ⟨⟨by decide +kernel, by decide +kernel⟩, List.mem_of_getElem? (i := 594) (by decide +kernel), List.mem_of_getElem? (i := 851) (by decide +kernel), List.mem_of_getElem? (i := 852) (by decide +kernel)⟩
theorem lw_p36 : lw_okq (⟨"ChalkRingsModel", "readsItem", "()Z"⟩, 22) := ⟨⟨by decide +kernel, by decide +kernel⟩, List.mem_of_getElem? (i := 594) (by decide +kernel), List.mem_of_getElem? (i := 855) (by decide +kernel), List.mem_of_getElem? (i := 856) (by decide +kernel)⟩
theorem lw_p37 : lw_okq (⟨"ChalkRingsModel", "character", "(I)I"⟩, 22) := ⟨⟨by decide +kernel, by decide +kernel⟩, List.mem_of_getElem? (i := 594) (by decide +kernel), List.mem_of_getElem? (i := 859) (by decide +kernel), List.mem_of_getElem? (i := 860) (by decide +kernel)⟩
theorem lw_p38 : lw_okq (⟨"ChalkRingsModel", "readsNumber", "(II)Z"⟩, 22) := ⟨⟨by decide +kernel, by decide +kernel⟩, List.mem_of_getElem? (i := 594) (by decide +kernel), List.mem_of_getElem? (i := 863) (by decide +kernel), List.mem_of_getElem? (i := 864) (by decide +kernel)⟩
theorem lw_p39 : lw_okq (⟨"ChalkRingsModel", "readsDigit", "(II)Z"⟩, 22) := ⟨⟨by decide +kernel, by decide +kernel⟩, List.mem_of_getElem? (i := 594) (by decide +kernel), List.mem_of_getElem? (i := 867) (by decide +kernel), List.mem_of_getElem? (i := 868) (by decide +kernel)⟩
theorem lw_p40 : lw_okq (⟨"ChalkRingsModel", "isNext", "(I)Z"⟩, 22) := ⟨⟨by decide +kernel, by decide +kernel⟩, List.mem_of_getElem? (i := 594) (by decide +kernel), List.mem_of_getElem? (i := 871) (by decide +kernel), List.mem_of_getElem? (i := 872) (by decide +kernel)⟩
theorem lw_p41 : lw_okq (⟨"ChalkRingsModel", "does", "()Z"⟩, 22) := ⟨⟨by decide +kernel, by decide +kernel⟩, List.mem_of_getElem? (i := 594) (by decide +kernel), List.mem_of_getElem? (i := 879) (by decide +kernel), List.mem_of_getElem? (i := 880) (by decide +kernel)⟩
def lw_privs_3 : List (MethodName × Nat) := [(⟨"ChalkRingsModel", "scoreOf", "(I)I"⟩, 22), (⟨"ChalkRingsModel", "findLeader", "()I"⟩, 22), (⟨"ChalkRingsModel", "stepsOut", "(I)I"⟩, 22), (⟨"ChalkRingsModel", "findError", "()I"⟩, 22), (⟨"ChalkRingsModel", "readsItem", "()Z"⟩, 22), (⟨"ChalkRingsModel", "character", "(I)I"⟩, 22), (⟨"ChalkRingsModel", "readsNumber", "(II)Z"⟩, 22), (⟨"ChalkRingsModel", "readsDigit", "(II)Z"⟩, 22), (⟨"ChalkRingsModel", "isNext", "(I)Z"⟩, 22), (⟨"ChalkRingsModel", "does", "()Z"⟩, 22)]
theorem lw_r3 : ∀ q ∈ lw_privs_3, lw_okq q := List.forall_mem_cons.mpr ⟨lw_p32, List.forall_mem_cons.mpr ⟨lw_p33, List.forall_mem_cons.mpr ⟨lw_p34, List.forall_mem_cons.mpr ⟨lw_p35, List.forall_mem_cons.mpr ⟨lw_p36, List.forall_mem_cons.mpr ⟨lw_p37, List.forall_mem_cons.mpr ⟨lw_p38, List.forall_mem_cons.mpr ⟨lw_p39, List.forall_mem_cons.mpr ⟨lw_p40, List.forall_mem_cons.mpr ⟨lw_p41, fun _ h => absurd h List.not_mem_nil⟩⟩⟩⟩⟩⟩⟩⟩⟩⟩
def lw_privs : List (MethodName × Nat) := lw_privs_1 ++ (lw_privs_2 ++ (lw_privs_3))
def lw_tbl : List Cond := k2_sels lw_privs ++ tables_1
theorem lw_privs_ok : ∀ q ∈ lw_privs, lw_okq q := by
  show ∀ q ∈ lw_privs_1 ++ (lw_privs_2 ++ (lw_privs_3)), lw_okq q
  exact List.forall_mem_append.mpr ⟨lw_r1, List.forall_mem_append.mpr ⟨lw_r2, lw_r3⟩⟩
end
section
/-! ===== BEGIN words of one list among another's, by their places ===== -/
theorem goodIn_r {big : List Cond} (ws : List Cond) (ps : List Nat) (hp : ws = ps.filterMap (fun i => big[i]?)) (h : ws.all goodWord = true) : GoodIn big ws := by
  intro w hw
  have h1 := List.all_eq_true.mp h w hw
  rw [hp] at hw
  obtain ⟨i, -, hi⟩ := List.mem_filterMap.mp hw
  have hm : w ∈ big := by first | exact List.mem_of_getElem? hi | exact List.getElem?_mem hi
  exact ⟨hm, good_of_word h1⟩
theorem goodIn_app {big a b : List Cond} (ha : GoodIn big a) (hb : GoodIn big b) : GoodIn big (a ++ b) := fun w h => (List.mem_append.mp h).elim (ha w) (hb w)
theorem goodIn_ca {big a b : List Cond} {c : Cond} (ha : GoodIn big (c :: a)) (hb : GoodIn big b) : GoodIn big (c :: (a ++ b)) := fun w h => (List.mem_cons.mp h).elim (fun e => ha w (List.mem_cons.mpr (Or.inl e))) (fun h => (List.mem_append.mp h).elim (fun h => ha w (List.mem_cons.mpr (Or.inr h))) (hb w))
theorem goodIn_sub {big ws : List Cond} (hm : ∀ w ∈ ws, w ∈ big) (h : ws.all goodWord = true) : GoodIn big ws := fun w hw => ⟨hm w hw, good_of_word (List.all_eq_true.mp h w hw)⟩
/-! ===== END ===== -/

/-! ===== BEGIN printed: names, fields, word lists, decode rows ===== -/
def RX0 : String := "ChalkRings$History"
def TX0 : u_T := fun k => match k with
  | 0 => ("ChalkRings$History", "saved", "[LChalkRings$Playground;", true)
  | 1 => ("ChalkRings$History", "oldest", "I", false)
  | _ => ("ChalkRings$History", "depth", "I", false)
def tyX0 : Nat → FieldType := fun k => match k with
  | 0 => .array (.object "ChalkRings$Playground")
  | 1 => .int
  | _ => .int
abbrev wsX00 : List Cond := u_ws RX0 TX0 3
theorem nmX0 : ∀ a, a < 3 → ∀ b, b < 3 → a ≠ b → (TX0 a).2.1 ≠ (TX0 b).2.1 := by decide +kernel
theorem tyX0_ok : ∀ k, k < 3 → parseFieldDescriptor (TX0 k).2.2.1 = some (tyX0 k) := by decide +kernel
abbrev cX0_init : ByteArray := prog_2_method_1_code
def yX0_init : MethodName := ⟨RX0, "<init>", "()V"⟩
abbrev cX0_save : ByteArray := prog_2_method_2_code
def yX0_save : MethodName := ⟨RX0, "save", "(LChalkRings$Playground;)V"⟩
abbrev cX0_restore : ByteArray := prog_2_method_3_code
def yX0_restore : MethodName := ⟨RX0, "restore", "(LChalkRings$Playground;)V"⟩
abbrev cX0_slotOf : ByteArray := prog_2_method_4_code
def yX0_slotOf : MethodName := ⟨RX0, "slotOf", "(I)LChalkRings$Playground;"⟩
def RX1 : String := "ChalkRings$ItemReader"
def TX1 : u_T := fun k => match k with
  | 0 => ("ChalkRings$ItemReader", "text", "LChalkRings$Text;", true)
  | 1 => ("ChalkRings$ItemReader", "place", "I", false)
  | 2 => ("ChalkRings$ItemReader", "failed", "Z", false)
  | 3 => ("ChalkRings$ItemReader", "isRing", "Z", false)
  | 4 => ("ChalkRings$ItemReader", "x", "I", false)
  | 5 => ("ChalkRings$ItemReader", "y", "I", false)
  | 6 => ("ChalkRings$ItemReader", "radius", "I", false)
  | 7 => ("ChalkRings$ItemReader", "size", "I", false)
  | _ => ("ChalkRings$ItemReader", "owner", "I", false)
def tyX1 : Nat → FieldType := fun k => match k with
  | 0 => .object "ChalkRings$Text"
  | 1 => .int
  | 2 => .boolean
  | 3 => .boolean
  | 4 => .int
  | 5 => .int
  | 6 => .int
  | 7 => .int
  | _ => .int
abbrev wsX10 : List Cond := u_ws RX1 TX1 9
theorem nmX1 : ∀ a, a < 9 → ∀ b, b < 9 → a ≠ b → (TX1 a).2.1 ≠ (TX1 b).2.1 := by decide +kernel
theorem tyX1_ok : ∀ k, k < 9 → parseFieldDescriptor (TX1 k).2.2.1 = some (tyX1 k) := by decide +kernel
abbrev cX1_init : ByteArray := prog_3_method_1_code
def yX1_init : MethodName := ⟨RX1, "<init>", "()V"⟩
abbrev cX1_start : ByteArray := prog_3_method_2_code
def yX1_start : MethodName := ⟨RX1, "start", "()V"⟩
abbrev cX1_hasMore : ByteArray := prog_3_method_3_code
def yX1_hasMore : MethodName := ⟨RX1, "hasMore", "()Z"⟩
abbrev cX1_readItem : ByteArray := prog_3_method_4_code
def yX1_readItem : MethodName := ⟨RX1, "readItem", "()V"⟩
abbrev cX1_take : ByteArray := prog_3_method_5_code
def yX1_take : MethodName := ⟨RX1, "take", "(C)V"⟩
abbrev cX1_takeNumber : ByteArray := prog_3_method_6_code
def yX1_takeNumber : MethodName := ⟨RX1, "takeNumber", "(II)I"⟩
abbrev cX1_digitAt : ByteArray := prog_3_method_7_code
def yX1_digitAt : MethodName := ⟨RX1, "digitAt", "(I)I"⟩
def RX2 : String := "ChalkRings$Marble"
def TX2 : u_T := fun k => match k with
  | 0 => ("ChalkRings$Marble", "number", "I", true)
  | 1 => ("ChalkRings$Marble", "x", "I", false)
  | 2 => ("ChalkRings$Marble", "y", "I", false)
  | 3 => ("ChalkRings$Marble", "size", "I", false)
  | 4 => ("ChalkRings$Marble", "owner", "I", false)
  | 5 => ("ChalkRings$Marble", "winner", "I", false)
  | 6 => ("ChalkRings$Marble", "lies", "Z", false)
  | 7 => ("ChalkRings$Marble", "ringsAhead", "I", false)
  | _ => ("ChalkRings$Marble", "wasHit", "Z", false)
def tyX2 : Nat → FieldType := fun k => match k with
  | 0 => .int
  | 1 => .int
  | 2 => .int
  | 3 => .int
  | 4 => .int
  | 5 => .int
  | 6 => .boolean
  | 7 => .int
  | _ => .boolean
abbrev wsX20 : List Cond := u_ws RX2 TX2 9
theorem nmX2 : ∀ a, a < 9 → ∀ b, b < 9 → a ≠ b → (TX2 a).2.1 ≠ (TX2 b).2.1 := by decide +kernel
theorem tyX2_ok : ∀ k, k < 9 → parseFieldDescriptor (TX2 k).2.2.1 = some (tyX2 k) := by decide +kernel
abbrev cX2_init : ByteArray := prog_4_method_1_code
def yX2_init : MethodName := ⟨RX2, "<init>", "(I)V"⟩
abbrev cX2_copyFrom : ByteArray := prog_4_method_2_code
def yX2_copyFrom : MethodName := ⟨RX2, "copyFrom", "(LChalkRings$Marble;)V"⟩
def RX3 : String := "ChalkRings$Playground"
def TX3 : u_T := fun k => match k with
  | 0 => ("ChalkRings$Playground", "marbles", "[LChalkRings$Marble;", true)
  | 1 => ("ChalkRings$Playground", "rings", "[LChalkRings$Ring;", true)
  | 2 => ("ChalkRings$Playground", "placed", "I", false)
  | 3 => ("ChalkRings$Playground", "drawn", "I", false)
  | 4 => ("ChalkRings$Playground", "onMove", "I", false)
  | 5 => ("ChalkRings$Playground", "flicks", "I", false)
  | 6 => ("ChalkRings$Playground", "hits", "I", false)
  | 7 => ("ChalkRings$Playground", "won", "I", false)
  | 8 => ("ChalkRings$Playground", "grown", "I", false)
  | _ => ("ChalkRings$Playground", "walls", "I", false)
def tyX3 : Nat → FieldType := fun k => match k with
  | 0 => .array (.object "ChalkRings$Marble")
  | 1 => .array (.object "ChalkRings$Ring")
  | 2 => .int
  | 3 => .int
  | 4 => .int
  | 5 => .int
  | 6 => .int
  | 7 => .int
  | 8 => .int
  | _ => .int
abbrev wsX30 : List Cond := u_ws RX3 TX3 10
theorem nmX3 : ∀ a, a < 10 → ∀ b, b < 10 → a ≠ b → (TX3 a).2.1 ≠ (TX3 b).2.1 := by decide +kernel
theorem tyX3_ok : ∀ k, k < 10 → parseFieldDescriptor (TX3 k).2.2.1 = some (tyX3 k) := by decide +kernel
abbrev cX3_init : ByteArray := prog_5_method_1_code
def yX3_init : MethodName := ⟨RX3, "<init>", "()V"⟩
abbrev cX3_copyFrom : ByteArray := prog_5_method_2_code
def yX3_copyFrom : MethodName := ⟨RX3, "copyFrom", "(LChalkRings$Playground;)V"⟩
abbrev cX3_wipe : ByteArray := prog_5_method_3_code
def yX3_wipe : MethodName := ⟨RX3, "wipe", "()V"⟩
abbrev cX3_findMarble : ByteArray := prog_5_method_4_code
def yX3_findMarble : MethodName := ⟨RX3, "findMarble", "(I)LChalkRings$Marble;"⟩
abbrev cX3_findRing : ByteArray := prog_5_method_5_code
def yX3_findRing : MethodName := ⟨RX3, "findRing", "(I)LChalkRings$Ring;"⟩
abbrev cX3_refusalOfMarble : ByteArray := prog_5_method_6_code
def yX3_refusalOfMarble : MethodName := ⟨RX3, "refusalOfMarble", "(IIII)I"⟩
abbrev cX3_addMarble : ByteArray := prog_5_method_7_code
def yX3_addMarble : MethodName := ⟨RX3, "addMarble", "(IIII)I"⟩
abbrev cX3_refusalOfRing : ByteArray := prog_5_method_8_code
def yX3_refusalOfRing : MethodName := ⟨RX3, "refusalOfRing", "(III)I"⟩
abbrev cX3_addRing : ByteArray := prog_5_method_9_code
def yX3_addRing : MethodName := ⟨RX3, "addRing", "(III)I"⟩
abbrev cX3_nextPlayer : ByteArray := prog_5_method_10_code
def yX3_nextPlayer : MethodName := ⟨RX3, "nextPlayer", "()V"⟩
abbrev cX3_marbleOn : ByteArray := prog_5_method_11_code
def yX3_marbleOn : MethodName := ⟨RX3, "marbleOn", "(II)LChalkRings$Marble;"⟩
abbrev cX3_ringsAround : ByteArray := prog_5_method_12_code
def yX3_ringsAround : MethodName := ⟨RX3, "ringsAround", "(II)I"⟩
abbrev cX3_marblesIn : ByteArray := prog_5_method_13_code
def yX3_marblesIn : MethodName := ⟨RX3, "marblesIn", "(LChalkRings$Ring;)I"⟩
abbrev cX3_pointsOf : ByteArray := prog_5_method_14_code
def yX3_pointsOf : MethodName := ⟨RX3, "pointsOf", "(I)I"⟩
abbrev cX3_isOutAfter : ByteArray := prog_5_method_15_code
def yX3_isOutAfter : MethodName := ⟨RX3, "isOutAfter", "(LChalkRings$Marble;I)Z"⟩
abbrev cX3_markAhead : ByteArray := prog_5_method_16_code
def yX3_markAhead : MethodName := ⟨RX3, "markAhead", "()V"⟩
abbrev cX3_isWonBy : ByteArray := prog_5_method_17_code
def yX3_isWonBy : MethodName := ⟨RX3, "isWonBy", "(LChalkRings$Marble;I)Z"⟩
abbrev cX3_growRings : ByteArray := prog_5_method_18_code
def yX3_growRings : MethodName := ⟨RX3, "growRings", "(I)V"⟩
def RX4 : String := "ChalkRings$Ring"
def TX4 : u_T := fun k => match k with
  | 0 => ("ChalkRings$Ring", "x", "I", false)
  | 1 => ("ChalkRings$Ring", "y", "I", false)
  | _ => ("ChalkRings$Ring", "radius", "I", false)
def tyX4 : Nat → FieldType := fun k => match k with
  | 0 => .int
  | 1 => .int
  | _ => .int
abbrev wsX40 : List Cond := u_ws RX4 TX4 3
theorem nmX4 : ∀ a, a < 3 → ∀ b, b < 3 → a ≠ b → (TX4 a).2.1 ≠ (TX4 b).2.1 := by decide +kernel
theorem tyX4_ok : ∀ k, k < 3 → parseFieldDescriptor (TX4 k).2.2.1 = some (tyX4 k) := by decide +kernel
abbrev cX4_init : ByteArray := prog_6_method_1_code
def yX4_init : MethodName := ⟨RX4, "<init>", "()V"⟩
abbrev cX4_copyFrom : ByteArray := prog_6_method_2_code
def yX4_copyFrom : MethodName := ⟨RX4, "copyFrom", "(LChalkRings$Ring;)V"⟩
abbrev cX4_holds : ByteArray := prog_6_method_3_code
def yX4_holds : MethodName := ⟨RX4, "holds", "(II)Z"⟩
abbrev cX4_pointsInside : ByteArray := prog_6_method_4_code
def yX4_pointsInside : MethodName := ⟨RX4, "pointsInside", "()I"⟩
def RX5 : String := "ChalkRings$Roll"
def TX5 : u_T := fun k => match k with
  | 0 => ("ChalkRings$Roll", "won", "I", false)
  | 1 => ("ChalkRings$Roll", "wonSizes", "I", false)
  | 2 => ("ChalkRings$Roll", "hits", "I", false)
  | 3 => ("ChalkRings$Roll", "last", "I", false)
  | 4 => ("ChalkRings$Roll", "lastX", "I", false)
  | 5 => ("ChalkRings$Roll", "lastY", "I", false)
  | 6 => ("ChalkRings$Roll", "walls", "I", false)
  | 7 => ("ChalkRings$Roll", "strength", "I", false)
  | 8 => ("ChalkRings$Roll", "addX", "I", false)
  | _ => ("ChalkRings$Roll", "addY", "I", false)
def tyX5 : Nat → FieldType := fun k => match k with
  | 0 => .int
  | 1 => .int
  | 2 => .int
  | 3 => .int
  | 4 => .int
  | 5 => .int
  | 6 => .int
  | 7 => .int
  | 8 => .int
  | _ => .int
abbrev wsX50 : List Cond := u_ws RX5 TX5 10
theorem nmX5 : ∀ a, a < 10 → ∀ b, b < 10 → a ≠ b → (TX5 a).2.1 ≠ (TX5 b).2.1 := by decide +kernel
theorem tyX5_ok : ∀ k, k < 10 → parseFieldDescriptor (TX5 k).2.2.1 = some (tyX5 k) := by decide +kernel
abbrev cX5_init : ByteArray := prog_7_method_1_code
def yX5_init : MethodName := ⟨RX5, "<init>", "()V"⟩
abbrev cX5_play : ByteArray := prog_7_method_2_code
def yX5_play : MethodName := ⟨RX5, "play", "(LChalkRings$Playground;III)V"⟩
abbrev cX5_rollAll : ByteArray := prog_7_method_3_code
def yX5_rollAll : MethodName := ⟨RX5, "rollAll", "(LChalkRings$Playground;LChalkRings$Marble;)V"⟩
abbrev cX5_rollToHit : ByteArray := prog_7_method_4_code
def yX5_rollToHit : MethodName := ⟨RX5, "rollToHit", "(LChalkRings$Playground;LChalkRings$Marble;)LChalkRings$Marble;"⟩
abbrev cX5_turnAtWalls : ByteArray := prog_7_method_5_code
def yX5_turnAtWalls : MethodName := ⟨RX5, "turnAtWalls", "(LChalkRings$Marble;)V"⟩
abbrev cX5_passedOn : ByteArray := prog_7_method_6_code
def yX5_passedOn : MethodName := ⟨RX5, "passedOn", "(II)I"⟩
abbrev cX5_takeWinnings : ByteArray := prog_7_method_7_code
def yX5_takeWinnings : MethodName := ⟨RX5, "takeWinnings", "(LChalkRings$Playground;I)V"⟩
def RX6 : String := "ChalkRings$Text"
def TX6 : u_T := fun k => match k with
  | 0 => ("ChalkRings$Text", "signs", "[C", true)
  | _ => ("ChalkRings$Text", "length", "I", false)
def tyX6 : Nat → FieldType := fun k => match k with
  | 0 => .array .char
  | _ => .int
abbrev wsX60 : List Cond := u_ws RX6 TX6 2
theorem nmX6 : ∀ a, a < 2 → ∀ b, b < 2 → a ≠ b → (TX6 a).2.1 ≠ (TX6 b).2.1 := by decide +kernel
theorem tyX6_ok : ∀ k, k < 2 → parseFieldDescriptor (TX6 k).2.2.1 = some (tyX6 k) := by decide +kernel
abbrev cX6_init : ByteArray := prog_8_method_1_code
def yX6_init : MethodName := ⟨RX6, "<init>", "()V"⟩
abbrev cX6_append : ByteArray := prog_8_method_2_code
def yX6_append : MethodName := ⟨RX6, "append", "(C)Z"⟩
abbrev cX6_signAt : ByteArray := prog_8_method_3_code
def yX6_signAt : MethodName := ⟨RX6, "signAt", "(I)I"⟩
def RX7 : String := "ChalkRings"
def TX7 : u_T := fun k => match k with
  | 0 => ("ChalkRings", "now", "LChalkRings$Playground;", true)
  | 1 => ("ChalkRings", "trial", "LChalkRings$Playground;", true)
  | 2 => ("ChalkRings", "roll", "LChalkRings$Roll;", true)
  | 3 => ("ChalkRings", "history", "LChalkRings$History;", true)
  | _ => ("ChalkRings", "reader", "LChalkRings$ItemReader;", true)
def tyX7 : Nat → FieldType := fun k => match k with
  | 0 => .object "ChalkRings$Playground"
  | 1 => .object "ChalkRings$Playground"
  | 2 => .object "ChalkRings$Roll"
  | 3 => .object "ChalkRings$History"
  | _ => .object "ChalkRings$ItemReader"
abbrev wsX70 : List Cond := u_ws RX7 TX7 5
theorem nmX7 : ∀ a, a < 5 → ∀ b, b < 5 → a ≠ b → (TX7 a).2.1 ≠ (TX7 b).2.1 := by decide +kernel
theorem tyX7_ok : ∀ k, k < 5 → parseFieldDescriptor (TX7 k).2.2.1 = some (tyX7 k) := by decide +kernel
abbrev cX7_init : ByteArray := prog_1_method_1_code
def yX7_init : MethodName := ⟨RX7, "<init>", "()V"⟩
abbrev cX7_putMarble : ByteArray := prog_1_method_2_code
def yX7_putMarble : MethodName := ⟨RX7, "putMarble", "(IIII)I"⟩
abbrev cX7_drawRing : ByteArray := prog_1_method_3_code
def yX7_drawRing : MethodName := ⟨RX7, "drawRing", "(III)I"⟩
abbrev cX7_move : ByteArray := prog_1_method_4_code
def yX7_move : MethodName := ⟨RX7, "move", "(III)I"⟩
abbrev cX7_clear : ByteArray := prog_1_method_5_code
def yX7_clear : MethodName := ⟨RX7, "clear", "()I"⟩
abbrev cX7_flick : ByteArray := prog_1_method_6_code
def yX7_flick : MethodName := ⟨RX7, "flick", "(III)I"⟩
abbrev cX7_pass : ByteArray := prog_1_method_7_code
def yX7_pass : MethodName := ⟨RX7, "pass", "()I"⟩
abbrev cX7_count : ByteArray := prog_1_method_8_code
def yX7_count : MethodName := ⟨RX7, "count", "(I)I"⟩
abbrev cX7_marble : ByteArray := prog_1_method_9_code
def yX7_marble : MethodName := ⟨RX7, "marble", "(II)I"⟩
abbrev cX7_ring : ByteArray := prog_1_method_10_code
def yX7_ring : MethodName := ⟨RX7, "ring", "(II)I"⟩
abbrev cX7_at : ByteArray := prog_1_method_11_code
def yX7_at : MethodName := ⟨RX7, "at", "(II)I"⟩
abbrev cX7_score : ByteArray := prog_1_method_12_code
def yX7_score : MethodName := ⟨RX7, "score", "(I)I"⟩
abbrev cX7_leader : ByteArray := prog_1_method_13_code
def yX7_leader : MethodName := ⟨RX7, "leader", "()I"⟩
abbrev cX7_ifFlicked : ByteArray := prog_1_method_14_code
def yX7_ifFlicked : MethodName := ⟨RX7, "ifFlicked", "(IIII)I"⟩
abbrev cX7_bestFlick : ByteArray := prog_1_method_15_code
def yX7_bestFlick : MethodName := ⟨RX7, "bestFlick", "(I)I"⟩
abbrev cX7_wayOut : ByteArray := prog_1_method_16_code
def yX7_wayOut : MethodName := ⟨RX7, "wayOut", "(I)I"⟩
abbrev cX7_type : ByteArray := prog_1_method_17_code
def yX7_type : MethodName := ⟨RX7, "type", "(I)I"⟩
abbrev cX7_clearText : ByteArray := prog_1_method_18_code
def yX7_clearText : MethodName := ⟨RX7, "clearText", "()I"⟩
abbrev cX7_syntaxError : ByteArray := prog_1_method_19_code
def yX7_syntaxError : MethodName := ⟨RX7, "syntaxError", "()I"⟩
abbrev cX7_readItems : ByteArray := prog_1_method_20_code
def yX7_readItems : MethodName := ⟨RX7, "readItems", "()I"⟩
abbrev cX7_undo : ByteArray := prog_1_method_21_code
def yX7_undo : MethodName := ⟨RX7, "undo", "()I"⟩
abbrev cX7_digest : ByteArray := prog_1_method_22_code
def yX7_digest : MethodName := ⟨RX7, "digest", "()J"⟩
abbrev cX7_tryFlick : ByteArray := prog_1_method_23_code
def yX7_tryFlick : MethodName := ⟨RX7, "tryFlick", "(III)V"⟩
abbrev cX7_addItemRead : ByteArray := prog_1_method_24_code
def yX7_addItemRead : MethodName := ⟨RX7, "addItemRead", "()Z"⟩
abbrev cX7_mix : ByteArray := prog_1_method_25_code
def yX7_mix : MethodName := ⟨RX7, "mix", "(JJ)J"⟩
abbrev cX7_isPoint : ByteArray := prog_1_method_26_code
def yX7_isPoint : MethodName := ⟨RX7, "isPoint", "(II)Z"⟩
abbrev cX7_isPlayer : ByteArray := prog_1_method_27_code
def yX7_isPlayer : MethodName := ⟨RX7, "isPlayer", "(I)Z"⟩
abbrev cX7_isDirection : ByteArray := prog_1_method_28_code
def yX7_isDirection : MethodName := ⟨RX7, "isDirection", "(I)Z"⟩
abbrev cX7_isStrength : ByteArray := prog_1_method_29_code
def yX7_isStrength : MethodName := ⟨RX7, "isStrength", "(I)Z"⟩
abbrev cX7_stepX : ByteArray := prog_1_method_30_code
def yX7_stepX : MethodName := ⟨RX7, "stepX", "(I)I"⟩
abbrev cX7_stepY : ByteArray := prog_1_method_31_code
def yX7_stepY : MethodName := ⟨RX7, "stepY", "(I)I"⟩
def RX8 : String := "ChalkRingsModel"
def TX8 : u_T := fun k => match k with
  | 0 => ("ChalkRingsModel", "state", "[I", true)
  | 1 => ("ChalkRingsModel", "kept", "[I", true)
  | 2 => ("ChalkRingsModel", "history", "[I", true)
  | 3 => ("ChalkRingsModel", "recorded", "I", false)
  | 4 => ("ChalkRingsModel", "text", "[I", true)
  | 5 => ("ChalkRingsModel", "textLength", "I", false)
  | 6 => ("ChalkRingsModel", "stepX", "[I", true)
  | 7 => ("ChalkRingsModel", "stepY", "[I", true)
  | 8 => ("ChalkRingsModel", "ringsAhead", "[I", true)
  | 9 => ("ChalkRingsModel", "hit", "I", false)
  | 10 => ("ChalkRingsModel", "lastOne", "I", false)
  | 11 => ("ChalkRingsModel", "lastX", "I", false)
  | 12 => ("ChalkRingsModel", "lastY", "I", false)
  | 13 => ("ChalkRingsModel", "wonMany", "I", false)
  | 14 => ("ChalkRingsModel", "wonBulk", "I", false)
  | 15 => ("ChalkRingsModel", "at", "I", false)
  | 16 => ("ChalkRingsModel", "letter", "I", false)
  | 17 => ("ChalkRingsModel", "number", "I", false)
  | 18 => ("ChalkRingsModel", "xRead", "I", false)
  | 19 => ("ChalkRingsModel", "yRead", "I", false)
  | 20 => ("ChalkRingsModel", "three", "I", false)
  | _ => ("ChalkRingsModel", "four", "I", false)
def tyX8 : Nat → FieldType := fun k => match k with
  | 0 => .array .int
  | 1 => .array .int
  | 2 => .array .int
  | 3 => .int
  | 4 => .array .int
  | 5 => .int
  | 6 => .array .int
  | 7 => .array .int
  | 8 => .array .int
  | 9 => .int
  | 10 => .int
  | 11 => .int
  | 12 => .int
  | 13 => .int
  | 14 => .int
  | 15 => .int
  | 16 => .int
  | 17 => .int
  | 18 => .int
  | 19 => .int
  | 20 => .int
  | _ => .int
abbrev wsX80 : List Cond := u_ws RX8 TX8 22
theorem nmX8 : ∀ a, a < 22 → ∀ b, b < 22 → a ≠ b → (TX8 a).2.1 ≠ (TX8 b).2.1 := by decide +kernel
theorem tyX8_ok : ∀ k, k < 22 → parseFieldDescriptor (TX8 k).2.2.1 = some (tyX8 k) := by decide +kernel
abbrev cX8_init : ByteArray := prog_10_method_1_code
def yX8_init : MethodName := ⟨RX8, "<init>", "()V"⟩
abbrev cX8_within : ByteArray := prog_10_method_3_code
def yX8_within : MethodName := ⟨RX8, "within", "(III)Z"⟩
abbrev cX8_copies : ByteArray := prog_10_method_4_code
def yX8_copies : MethodName := ⟨RX8, "copies", "([II[II)V"⟩
abbrev cX8_record : ByteArray := prog_10_method_5_code
def yX8_record : MethodName := ⟨RX8, "record", "()V"⟩
abbrev cX8_isPoint : ByteArray := prog_10_method_6_code
def yX8_isPoint : MethodName := ⟨RX8, "isPoint", "(II)Z"⟩
abbrev cX8_isMarble : ByteArray := prog_10_method_7_code
def yX8_isMarble : MethodName := ⟨RX8, "isMarble", "(I)Z"⟩
abbrev cX8_part : ByteArray := prog_10_method_8_code
def yX8_part : MethodName := ⟨RX8, "part", "(II)I"⟩
abbrev cX8_setPart : ByteArray := prog_10_method_9_code
def yX8_setPart : MethodName := ⟨RX8, "setPart", "(III)V"⟩
abbrev cX8_isThere : ByteArray := prog_10_method_10_code
def yX8_isThere : MethodName := ⟨RX8, "isThere", "(I)Z"⟩
abbrev cX8_ringPart : ByteArray := prog_10_method_11_code
def yX8_ringPart : MethodName := ⟨RX8, "ringPart", "(II)I"⟩
abbrev cX8_isIn : ByteArray := prog_10_method_12_code
def yX8_isIn : MethodName := ⟨RX8, "isIn", "(III)Z"⟩
abbrev cX8_ringsOf : ByteArray := prog_10_method_13_code
def yX8_ringsOf : MethodName := ⟨RX8, "ringsOf", "(II)I"⟩
abbrev cX8_ringsOfMarble : ByteArray := prog_10_method_14_code
def yX8_ringsOfMarble : MethodName := ⟨RX8, "ringsOfMarble", "(I)I"⟩
abbrev cX8_ones : ByteArray := prog_10_method_15_code
def yX8_ones : MethodName := ⟨RX8, "ones", "(I)I"⟩
abbrev cX8_marbleAt : ByteArray := prog_10_method_16_code
def yX8_marbleAt : MethodName := ⟨RX8, "marbleAt", "(II)I"⟩
abbrev cX8_rolls : ByteArray := prog_10_method_17_code
def yX8_rolls : MethodName := ⟨RX8, "rolls", "(III)V"⟩
abbrev cX8_flicks : ByteArray := prog_10_method_18_code
def yX8_flicks : MethodName := ⟨RX8, "flicks", "(IIII)V"⟩
abbrev cX8_isFlick : ByteArray := prog_10_method_19_code
def yX8_isFlick : MethodName := ⟨RX8, "isFlick", "(II)Z"⟩
abbrev cX8_goesOn : ByteArray := prog_10_method_20_code
def yX8_goesOn : MethodName := ⟨RX8, "goesOn", "()V"⟩
abbrev cX8_flick : ByteArray := prog_10_method_21_code
def yX8_flick : MethodName := ⟨RX8, "flick", "(III)I"⟩
abbrev cX8_pass : ByteArray := prog_10_method_22_code
def yX8_pass : MethodName := ⟨RX8, "pass", "()I"⟩
abbrev cX8_whyNotPut : ByteArray := prog_10_method_23_code
def yX8_whyNotPut : MethodName := ⟨RX8, "whyNotPut", "(IIII)I"⟩
abbrev cX8_puts : ByteArray := prog_10_method_24_code
def yX8_puts : MethodName := ⟨RX8, "puts", "(IIII)I"⟩
abbrev cX8_putMarble : ByteArray := prog_10_method_25_code
def yX8_putMarble : MethodName := ⟨RX8, "putMarble", "(IIII)I"⟩
abbrev cX8_whyNotDrawn : ByteArray := prog_10_method_26_code
def yX8_whyNotDrawn : MethodName := ⟨RX8, "whyNotDrawn", "(III)I"⟩
abbrev cX8_draws : ByteArray := prog_10_method_27_code
def yX8_draws : MethodName := ⟨RX8, "draws", "(III)I"⟩
abbrev cX8_drawRing : ByteArray := prog_10_method_28_code
def yX8_drawRing : MethodName := ⟨RX8, "drawRing", "(III)I"⟩
abbrev cX8_move : ByteArray := prog_10_method_29_code
def yX8_move : MethodName := ⟨RX8, "move", "(III)I"⟩
abbrev cX8_clear : ByteArray := prog_10_method_30_code
def yX8_clear : MethodName := ⟨RX8, "clear", "()I"⟩
abbrev cX8_count : ByteArray := prog_10_method_31_code
def yX8_count : MethodName := ⟨RX8, "count", "(I)I"⟩
abbrev cX8_ofMarble : ByteArray := prog_10_method_32_code
def yX8_ofMarble : MethodName := ⟨RX8, "ofMarble", "(II)I"⟩
abbrev cX8_marble : ByteArray := prog_10_method_33_code
def yX8_marble : MethodName := ⟨RX8, "marble", "(II)I"⟩
abbrev cX8_marblesIn : ByteArray := prog_10_method_34_code
def yX8_marblesIn : MethodName := ⟨RX8, "marblesIn", "(I)I"⟩
abbrev cX8_pointsIn : ByteArray := prog_10_method_35_code
def yX8_pointsIn : MethodName := ⟨RX8, "pointsIn", "(I)I"⟩
abbrev cX8_ofRing : ByteArray := prog_10_method_36_code
def yX8_ofRing : MethodName := ⟨RX8, "ofRing", "(II)I"⟩
abbrev cX8_ring : ByteArray := prog_10_method_37_code
def yX8_ring : MethodName := ⟨RX8, "ring", "(II)I"⟩
abbrev cX8_at : ByteArray := prog_10_method_38_code
def yX8_at : MethodName := ⟨RX8, "at", "(II)I"⟩
abbrev cX8_scoreOf : ByteArray := prog_10_method_39_code
def yX8_scoreOf : MethodName := ⟨RX8, "scoreOf", "(I)I"⟩
abbrev cX8_score : ByteArray := prog_10_method_40_code
def yX8_score : MethodName := ⟨RX8, "score", "(I)I"⟩
abbrev cX8_findLeader : ByteArray := prog_10_method_41_code
def yX8_findLeader : MethodName := ⟨RX8, "findLeader", "()I"⟩
abbrev cX8_leader : ByteArray := prog_10_method_42_code
def yX8_leader : MethodName := ⟨RX8, "leader", "()I"⟩
abbrev cX8_ifFlicked : ByteArray := prog_10_method_43_code
def yX8_ifFlicked : MethodName := ⟨RX8, "ifFlicked", "(IIII)I"⟩
abbrev cX8_bestFlick : ByteArray := prog_10_method_44_code
def yX8_bestFlick : MethodName := ⟨RX8, "bestFlick", "(I)I"⟩
abbrev cX8_stepsOut : ByteArray := prog_10_method_45_code
def yX8_stepsOut : MethodName := ⟨RX8, "stepsOut", "(I)I"⟩
abbrev cX8_wayOut : ByteArray := prog_10_method_46_code
def yX8_wayOut : MethodName := ⟨RX8, "wayOut", "(I)I"⟩
abbrev cX8_type : ByteArray := prog_10_method_47_code
def yX8_type : MethodName := ⟨RX8, "type", "(I)I"⟩
abbrev cX8_clearText : ByteArray := prog_10_method_48_code
def yX8_clearText : MethodName := ⟨RX8, "clearText", "()I"⟩
abbrev cX8_character : ByteArray := prog_10_method_49_code
def yX8_character : MethodName := ⟨RX8, "character", "(I)I"⟩
abbrev cX8_isNext : ByteArray := prog_10_method_50_code
def yX8_isNext : MethodName := ⟨RX8, "isNext", "(I)Z"⟩
abbrev cX8_readsDigit : ByteArray := prog_10_method_51_code
def yX8_readsDigit : MethodName := ⟨RX8, "readsDigit", "(II)Z"⟩
abbrev cX8_readsNumber : ByteArray := prog_10_method_52_code
def yX8_readsNumber : MethodName := ⟨RX8, "readsNumber", "(II)Z"⟩
abbrev cX8_readsItem : ByteArray := prog_10_method_53_code
def yX8_readsItem : MethodName := ⟨RX8, "readsItem", "()Z"⟩
abbrev cX8_findError : ByteArray := prog_10_method_54_code
def yX8_findError : MethodName := ⟨RX8, "findError", "()I"⟩
abbrev cX8_syntaxError : ByteArray := prog_10_method_55_code
def yX8_syntaxError : MethodName := ⟨RX8, "syntaxError", "()I"⟩
abbrev cX8_does : ByteArray := prog_10_method_56_code
def yX8_does : MethodName := ⟨RX8, "does", "()Z"⟩
abbrev cX8_readItems : ByteArray := prog_10_method_57_code
def yX8_readItems : MethodName := ⟨RX8, "readItems", "()I"⟩
abbrev cX8_undo : ByteArray := prog_10_method_58_code
def yX8_undo : MethodName := ⟨RX8, "undo", "()I"⟩
abbrev cX8_digest : ByteArray := prog_10_method_59_code
def yX8_digest : MethodName := ⟨RX8, "digest", "()J"⟩
def RJ6 : String := "java/lang/Integer"
def TJ6 : u_T := fun k => match k with
  | _ => ("", "", "", false)
def tyJ6 : Nat → FieldType := fun k => match k with
  | _ => .int
abbrev wsJ60 : List Cond := u_ws RJ6 TJ6 0
theorem nmJ6 : ∀ a, a < 0 → ∀ b, b < 0 → a ≠ b → (TJ6 a).2.1 ≠ (TJ6 b).2.1 := by decide +kernel
theorem tyJ6_ok : ∀ k, k < 0 → parseFieldDescriptor (TJ6 k).2.2.1 = some (tyJ6 k) := by decide +kernel
abbrev cJ6_bitCount_0f7a4 : ByteArray := prog_11_method_49_code
def yJ6_bitCount_0f7a4 : MethodName := ⟨RJ6, "bitCount", "(I)I"⟩
def RJ9 : String := "java/lang/Math"
def TJ9 : u_T := fun k => match k with
  | _ => ("", "", "", false)
def tyJ9 : Nat → FieldType := fun k => match k with
  | _ => .int
abbrev wsJ90 : List Cond := u_ws RJ9 TJ9 0
theorem nmJ9 : ∀ a, a < 0 → ∀ b, b < 0 → a ≠ b → (TJ9 a).2.1 ≠ (TJ9 b).2.1 := by decide +kernel
theorem tyJ9_ok : ∀ k, k < 0 → parseFieldDescriptor (TJ9 k).2.2.1 = some (tyJ9 k) := by decide +kernel
abbrev cJ9_max_7cf53 : ByteArray := prog_12_method_65_code
def yJ9_max_7cf53 : MethodName := ⟨RJ9, "max", "(II)I"⟩
abbrev cJ9_min_7cf53 : ByteArray := prog_12_method_69_code
def yJ9_min_7cf53 : MethodName := ⟨RJ9, "min", "(II)I"⟩
def RL : String := "ChalkRingsLaw"
abbrev cL_law : ByteArray := code
def yL_law : MethodName := ⟨RL, "law", "([I)Z"⟩
abbrev vwCl : List vw_C := [(RX0, TX0, 3), (RX1, TX1, 9), (RX2, TX2, 9), (RX3, TX3, 10), (RX4, TX4, 3), (RX5, TX5, 10), (RX6, TX6, 2), (RX7, TX7, 5), (RX8, TX8, 22)]
end
section
theorem dX0_init_0 : decode cX0_init 0 = .ok (.aload_n 0, 1) := by decide +kernel
theorem dX0_init_1 : decode cX0_init 1 = .ok (.invokespecial 3, 3) := by decide +kernel
theorem dX0_init_4 : decode cX0_init 4 = .ok (.aload_n 0, 1) := by decide +kernel
theorem dX0_init_5 : decode cX0_init 5 = .ok (.bipush 6, 2) := by decide +kernel
theorem dX0_init_7 : decode cX0_init 7 = .ok (.anewarray 9, 3) := by decide +kernel
theorem dX0_init_10 : decode cX0_init 10 = .ok (.putfield 11, 3) := by decide +kernel
theorem dX0_init_13 : decode cX0_init 13 = .ok (.iconst 0, 1) := by decide +kernel
theorem dX0_init_14 : decode cX0_init 14 = .ok (.istore_n 1, 1) := by decide +kernel
theorem dX0_init_15 : decode cX0_init 15 = .ok (.iload_n 1, 1) := by decide +kernel
theorem dX0_init_16 : decode cX0_init 16 = .ok (.aload_n 0, 1) := by decide +kernel
theorem dX0_init_17 : decode cX0_init 17 = .ok (.getfield 11, 3) := by decide +kernel
theorem dX0_init_20 : decode cX0_init 20 = .ok (.arraylength, 1) := by decide +kernel
theorem dX0_init_21 : decode cX0_init 21 = .ok (.if_icmp .ge 22, 3) := by decide +kernel
theorem dX0_init_24 : decode cX0_init 24 = .ok (.aload_n 0, 1) := by decide +kernel
theorem dX0_init_25 : decode cX0_init 25 = .ok (.getfield 11, 3) := by decide +kernel
theorem dX0_init_28 : decode cX0_init 28 = .ok (.iload_n 1, 1) := by decide +kernel
theorem dX0_init_29 : decode cX0_init 29 = .ok (.new 9, 3) := by decide +kernel
theorem dX0_init_32 : decode cX0_init 32 = .ok (.dup, 1) := by decide +kernel
theorem dX0_init_33 : decode cX0_init 33 = .ok (.invokespecial 17, 3) := by decide +kernel
theorem dX0_init_36 : decode cX0_init 36 = .ok (.aastore, 1) := by decide +kernel
theorem dX0_init_37 : decode cX0_init 37 = .ok (.iinc 1 1, 3) := by decide +kernel
theorem dX0_init_40 : decode cX0_init 40 = .ok (.goto (-25), 3) := by decide +kernel
theorem dX0_init_43 : decode cX0_init 43 = .ok (.return_, 1) := by decide +kernel
theorem dX0_save_0 : decode cX0_save 0 = .ok (.aload_n 0, 1) := by decide +kernel
theorem dX0_save_1 : decode cX0_save 1 = .ok (.getfield 18, 3) := by decide +kernel
theorem dX0_save_4 : decode cX0_save 4 = .ok (.bipush 6, 2) := by decide +kernel
theorem dX0_save_6 : decode cX0_save 6 = .ok (.if_icmp .lt 21, 3) := by decide +kernel
theorem dX0_save_9 : decode cX0_save 9 = .ok (.aload_n 0, 1) := by decide +kernel
theorem dX0_save_10 : decode cX0_save 10 = .ok (.aload_n 0, 1) := by decide +kernel
theorem dX0_save_11 : decode cX0_save 11 = .ok (.getfield 22, 3) := by decide +kernel
theorem dX0_save_14 : decode cX0_save 14 = .ok (.iconst 1, 1) := by decide +kernel
theorem dX0_save_15 : decode cX0_save 15 = .ok (.iadd, 1) := by decide +kernel
theorem dX0_save_16 : decode cX0_save 16 = .ok (.bipush 6, 2) := by decide +kernel
theorem dX0_save_18 : decode cX0_save 18 = .ok (.irem, 1) := by decide +kernel
theorem dX0_save_19 : decode cX0_save 19 = .ok (.putfield 22, 3) := by decide +kernel
theorem dX0_save_22 : decode cX0_save 22 = .ok (.aload_n 0, 1) := by decide +kernel
theorem dX0_save_23 : decode cX0_save 23 = .ok (.iconst 5, 1) := by decide +kernel
theorem dX0_save_24 : decode cX0_save 24 = .ok (.putfield 18, 3) := by decide +kernel
theorem dX0_save_27 : decode cX0_save 27 = .ok (.aload_n 0, 1) := by decide +kernel
theorem dX0_save_28 : decode cX0_save 28 = .ok (.aload_n 0, 1) := by decide +kernel
theorem dX0_save_29 : decode cX0_save 29 = .ok (.getfield 18, 3) := by decide +kernel
theorem dX0_save_32 : decode cX0_save 32 = .ok (.invokevirtual 25, 3) := by decide +kernel
theorem dX0_save_35 : decode cX0_save 35 = .ok (.astore_n 2, 1) := by decide +kernel
theorem dX0_save_36 : decode cX0_save 36 = .ok (.aload_n 2, 1) := by decide +kernel
theorem dX0_save_37 : decode cX0_save 37 = .ok (.ifnull 18, 3) := by decide +kernel
theorem dX0_save_40 : decode cX0_save 40 = .ok (.aload_n 2, 1) := by decide +kernel
theorem dX0_save_41 : decode cX0_save 41 = .ok (.aload_n 1, 1) := by decide +kernel
theorem dX0_save_42 : decode cX0_save 42 = .ok (.invokevirtual 29, 3) := by decide +kernel
theorem dX0_save_45 : decode cX0_save 45 = .ok (.aload_n 0, 1) := by decide +kernel
theorem dX0_save_46 : decode cX0_save 46 = .ok (.dup, 1) := by decide +kernel
theorem dX0_save_47 : decode cX0_save 47 = .ok (.getfield 18, 3) := by decide +kernel
theorem dX0_save_50 : decode cX0_save 50 = .ok (.iconst 1, 1) := by decide +kernel
theorem dX0_save_51 : decode cX0_save 51 = .ok (.iadd, 1) := by decide +kernel
theorem dX0_save_52 : decode cX0_save 52 = .ok (.putfield 18, 3) := by decide +kernel
theorem dX0_save_55 : decode cX0_save 55 = .ok (.return_, 1) := by decide +kernel
theorem dX0_restore_0 : decode cX0_restore 0 = .ok (.aload_n 0, 1) := by decide +kernel
theorem dX0_restore_1 : decode cX0_restore 1 = .ok (.aload_n 0, 1) := by decide +kernel
theorem dX0_restore_2 : decode cX0_restore 2 = .ok (.getfield 18, 3) := by decide +kernel
theorem dX0_restore_5 : decode cX0_restore 5 = .ok (.iconst 1, 1) := by decide +kernel
theorem dX0_restore_6 : decode cX0_restore 6 = .ok (.isub, 1) := by decide +kernel
theorem dX0_restore_7 : decode cX0_restore 7 = .ok (.invokevirtual 25, 3) := by decide +kernel
theorem dX0_restore_10 : decode cX0_restore 10 = .ok (.astore_n 2, 1) := by decide +kernel
theorem dX0_restore_11 : decode cX0_restore 11 = .ok (.aload_n 2, 1) := by decide +kernel
theorem dX0_restore_12 : decode cX0_restore 12 = .ok (.ifnull 18, 3) := by decide +kernel
theorem dX0_restore_15 : decode cX0_restore 15 = .ok (.aload_n 1, 1) := by decide +kernel
theorem dX0_restore_16 : decode cX0_restore 16 = .ok (.aload_n 2, 1) := by decide +kernel
theorem dX0_restore_17 : decode cX0_restore 17 = .ok (.invokevirtual 29, 3) := by decide +kernel
theorem dX0_restore_20 : decode cX0_restore 20 = .ok (.aload_n 0, 1) := by decide +kernel
theorem dX0_restore_21 : decode cX0_restore 21 = .ok (.dup, 1) := by decide +kernel
theorem dX0_restore_22 : decode cX0_restore 22 = .ok (.getfield 18, 3) := by decide +kernel
theorem dX0_restore_25 : decode cX0_restore 25 = .ok (.iconst 1, 1) := by decide +kernel
theorem dX0_restore_26 : decode cX0_restore 26 = .ok (.isub, 1) := by decide +kernel
theorem dX0_restore_27 : decode cX0_restore 27 = .ok (.putfield 18, 3) := by decide +kernel
theorem dX0_restore_30 : decode cX0_restore 30 = .ok (.return_, 1) := by decide +kernel
theorem dX0_slotOf_0 : decode cX0_slotOf 0 = .ok (.aload_n 0, 1) := by decide +kernel
theorem dX0_slotOf_1 : decode cX0_slotOf 1 = .ok (.getfield 22, 3) := by decide +kernel
theorem dX0_slotOf_4 : decode cX0_slotOf 4 = .ok (.iload_n 1, 1) := by decide +kernel
theorem dX0_slotOf_5 : decode cX0_slotOf 5 = .ok (.iadd, 1) := by decide +kernel
theorem dX0_slotOf_6 : decode cX0_slotOf 6 = .ok (.bipush 6, 2) := by decide +kernel
theorem dX0_slotOf_8 : decode cX0_slotOf 8 = .ok (.irem, 1) := by decide +kernel
theorem dX0_slotOf_9 : decode cX0_slotOf 9 = .ok (.istore_n 2, 1) := by decide +kernel
theorem dX0_slotOf_10 : decode cX0_slotOf 10 = .ok (.iload_n 2, 1) := by decide +kernel
theorem dX0_slotOf_11 : decode cX0_slotOf 11 = .ok (.ifCond .lt 12, 3) := by decide +kernel
theorem dX0_slotOf_14 : decode cX0_slotOf 14 = .ok (.iload_n 2, 1) := by decide +kernel
theorem dX0_slotOf_15 : decode cX0_slotOf 15 = .ok (.aload_n 0, 1) := by decide +kernel
theorem dX0_slotOf_16 : decode cX0_slotOf 16 = .ok (.getfield 11, 3) := by decide +kernel
theorem dX0_slotOf_19 : decode cX0_slotOf 19 = .ok (.arraylength, 1) := by decide +kernel
theorem dX0_slotOf_20 : decode cX0_slotOf 20 = .ok (.if_icmp .lt 7, 3) := by decide +kernel
theorem dX0_slotOf_23 : decode cX0_slotOf 23 = .ok (.aconst_null, 1) := by decide +kernel
theorem dX0_slotOf_24 : decode cX0_slotOf 24 = .ok (.goto 9, 3) := by decide +kernel
theorem dX0_slotOf_27 : decode cX0_slotOf 27 = .ok (.aload_n 0, 1) := by decide +kernel
theorem dX0_slotOf_28 : decode cX0_slotOf 28 = .ok (.getfield 11, 3) := by decide +kernel
theorem dX0_slotOf_31 : decode cX0_slotOf 31 = .ok (.iload_n 2, 1) := by decide +kernel
theorem dX0_slotOf_32 : decode cX0_slotOf 32 = .ok (.aaload, 1) := by decide +kernel
theorem dX0_slotOf_33 : decode cX0_slotOf 33 = .ok (.areturn, 1) := by decide +kernel
theorem dX1_init_0 : decode cX1_init 0 = .ok (.aload_n 0, 1) := by decide +kernel
theorem dX1_init_1 : decode cX1_init 1 = .ok (.invokespecial 3, 3) := by decide +kernel
theorem dX1_init_4 : decode cX1_init 4 = .ok (.aload_n 0, 1) := by decide +kernel
theorem dX1_init_5 : decode cX1_init 5 = .ok (.new 9, 3) := by decide +kernel
theorem dX1_init_8 : decode cX1_init 8 = .ok (.dup, 1) := by decide +kernel
theorem dX1_init_9 : decode cX1_init 9 = .ok (.invokespecial 11, 3) := by decide +kernel
theorem dX1_init_12 : decode cX1_init 12 = .ok (.putfield 12, 3) := by decide +kernel
theorem dX1_init_15 : decode cX1_init 15 = .ok (.return_, 1) := by decide +kernel
theorem dX1_start_0 : decode cX1_start 0 = .ok (.aload_n 0, 1) := by decide +kernel
theorem dX1_start_1 : decode cX1_start 1 = .ok (.iconst 0, 1) := by decide +kernel
theorem dX1_start_2 : decode cX1_start 2 = .ok (.putfield 18, 3) := by decide +kernel
theorem dX1_start_5 : decode cX1_start 5 = .ok (.aload_n 0, 1) := by decide +kernel
theorem dX1_start_6 : decode cX1_start 6 = .ok (.iconst 0, 1) := by decide +kernel
theorem dX1_start_7 : decode cX1_start 7 = .ok (.putfield 22, 3) := by decide +kernel
theorem dX1_start_10 : decode cX1_start 10 = .ok (.return_, 1) := by decide +kernel
theorem dX1_hasMore_0 : decode cX1_hasMore 0 = .ok (.aload_n 0, 1) := by decide +kernel
theorem dX1_hasMore_1 : decode cX1_hasMore 1 = .ok (.getfield 22, 3) := by decide +kernel
theorem dX1_hasMore_4 : decode cX1_hasMore 4 = .ok (.ifCond .ne 21, 3) := by decide +kernel
theorem dX1_hasMore_7 : decode cX1_hasMore 7 = .ok (.aload_n 0, 1) := by decide +kernel
theorem dX1_hasMore_8 : decode cX1_hasMore 8 = .ok (.getfield 18, 3) := by decide +kernel
theorem dX1_hasMore_11 : decode cX1_hasMore 11 = .ok (.aload_n 0, 1) := by decide +kernel
theorem dX1_hasMore_12 : decode cX1_hasMore 12 = .ok (.getfield 12, 3) := by decide +kernel
theorem dX1_hasMore_15 : decode cX1_hasMore 15 = .ok (.getfield 26, 3) := by decide +kernel
theorem dX1_hasMore_18 : decode cX1_hasMore 18 = .ok (.if_icmp .ge 7, 3) := by decide +kernel
theorem dX1_hasMore_21 : decode cX1_hasMore 21 = .ok (.iconst 1, 1) := by decide +kernel
theorem dX1_hasMore_22 : decode cX1_hasMore 22 = .ok (.goto 4, 3) := by decide +kernel
theorem dX1_hasMore_25 : decode cX1_hasMore 25 = .ok (.iconst 0, 1) := by decide +kernel
theorem dX1_hasMore_26 : decode cX1_hasMore 26 = .ok (.ireturn, 1) := by decide +kernel
theorem dX1_readItem_0 : decode cX1_readItem 0 = .ok (.aload_n 0, 1) := by decide +kernel
theorem dX1_readItem_1 : decode cX1_readItem 1 = .ok (.getfield 18, 3) := by decide +kernel
theorem dX1_readItem_4 : decode cX1_readItem 4 = .ok (.ifCond .le 9, 3) := by decide +kernel
theorem dX1_readItem_7 : decode cX1_readItem 7 = .ok (.aload_n 0, 1) := by decide +kernel
theorem dX1_readItem_8 : decode cX1_readItem 8 = .ok (.bipush 59, 2) := by decide +kernel
theorem dX1_readItem_10 : decode cX1_readItem 10 = .ok (.invokevirtual 29, 3) := by decide +kernel
theorem dX1_readItem_13 : decode cX1_readItem 13 = .ok (.aload_n 0, 1) := by decide +kernel
theorem dX1_readItem_14 : decode cX1_readItem 14 = .ok (.aload_n 0, 1) := by decide +kernel
theorem dX1_readItem_15 : decode cX1_readItem 15 = .ok (.getfield 12, 3) := by decide +kernel
theorem dX1_readItem_18 : decode cX1_readItem 18 = .ok (.aload_n 0, 1) := by decide +kernel
theorem dX1_readItem_19 : decode cX1_readItem 19 = .ok (.getfield 18, 3) := by decide +kernel
theorem dX1_readItem_22 : decode cX1_readItem 22 = .ok (.invokevirtual 33, 3) := by decide +kernel
theorem dX1_readItem_25 : decode cX1_readItem 25 = .ok (.bipush 114, 2) := by decide +kernel
theorem dX1_readItem_27 : decode cX1_readItem 27 = .ok (.if_icmp .ne 7, 3) := by decide +kernel
theorem dX1_readItem_30 : decode cX1_readItem 30 = .ok (.iconst 1, 1) := by decide +kernel
theorem dX1_readItem_31 : decode cX1_readItem 31 = .ok (.goto 4, 3) := by decide +kernel
theorem dX1_readItem_34 : decode cX1_readItem 34 = .ok (.iconst 0, 1) := by decide +kernel
theorem dX1_readItem_35 : decode cX1_readItem 35 = .ok (.putfield 37, 3) := by decide +kernel
theorem dX1_readItem_38 : decode cX1_readItem 38 = .ok (.aload_n 0, 1) := by decide +kernel
theorem dX1_readItem_39 : decode cX1_readItem 39 = .ok (.aload_n 0, 1) := by decide +kernel
theorem dX1_readItem_40 : decode cX1_readItem 40 = .ok (.getfield 37, 3) := by decide +kernel
theorem dX1_readItem_43 : decode cX1_readItem 43 = .ok (.ifCond .eq 8, 3) := by decide +kernel
theorem dX1_readItem_46 : decode cX1_readItem 46 = .ok (.bipush 114, 2) := by decide +kernel
theorem dX1_readItem_48 : decode cX1_readItem 48 = .ok (.goto 5, 3) := by decide +kernel
theorem dX1_readItem_51 : decode cX1_readItem 51 = .ok (.bipush 109, 2) := by decide +kernel
theorem dX1_readItem_53 : decode cX1_readItem 53 = .ok (.invokevirtual 29, 3) := by decide +kernel
theorem dX1_readItem_56 : decode cX1_readItem 56 = .ok (.aload_n 0, 1) := by decide +kernel
theorem dX1_readItem_57 : decode cX1_readItem 57 = .ok (.aload_n 0, 1) := by decide +kernel
theorem dX1_readItem_58 : decode cX1_readItem 58 = .ok (.iconst 0, 1) := by decide +kernel
theorem dX1_readItem_59 : decode cX1_readItem 59 = .ok (.bipush 30, 2) := by decide +kernel
theorem dX1_readItem_61 : decode cX1_readItem 61 = .ok (.invokevirtual 40, 3) := by decide +kernel
theorem dX1_readItem_64 : decode cX1_readItem 64 = .ok (.putfield 44, 3) := by decide +kernel
theorem dX1_readItem_67 : decode cX1_readItem 67 = .ok (.aload_n 0, 1) := by decide +kernel
theorem dX1_readItem_68 : decode cX1_readItem 68 = .ok (.bipush 44, 2) := by decide +kernel
theorem dX1_readItem_70 : decode cX1_readItem 70 = .ok (.invokevirtual 29, 3) := by decide +kernel
theorem dX1_readItem_73 : decode cX1_readItem 73 = .ok (.aload_n 0, 1) := by decide +kernel
theorem dX1_readItem_74 : decode cX1_readItem 74 = .ok (.aload_n 0, 1) := by decide +kernel
theorem dX1_readItem_75 : decode cX1_readItem 75 = .ok (.iconst 0, 1) := by decide +kernel
theorem dX1_readItem_76 : decode cX1_readItem 76 = .ok (.bipush 30, 2) := by decide +kernel
theorem dX1_readItem_78 : decode cX1_readItem 78 = .ok (.invokevirtual 40, 3) := by decide +kernel
theorem dX1_readItem_81 : decode cX1_readItem 81 = .ok (.putfield 47, 3) := by decide +kernel
theorem dX1_readItem_84 : decode cX1_readItem 84 = .ok (.aload_n 0, 1) := by decide +kernel
theorem dX1_readItem_85 : decode cX1_readItem 85 = .ok (.getfield 37, 3) := by decide +kernel
theorem dX1_readItem_88 : decode cX1_readItem 88 = .ok (.ifCond .eq 23, 3) := by decide +kernel
theorem dX1_readItem_91 : decode cX1_readItem 91 = .ok (.aload_n 0, 1) := by decide +kernel
theorem dX1_readItem_92 : decode cX1_readItem 92 = .ok (.bipush 58, 2) := by decide +kernel
theorem dX1_readItem_94 : decode cX1_readItem 94 = .ok (.invokevirtual 29, 3) := by decide +kernel
theorem dX1_readItem_97 : decode cX1_readItem 97 = .ok (.aload_n 0, 1) := by decide +kernel
theorem dX1_readItem_98 : decode cX1_readItem 98 = .ok (.aload_n 0, 1) := by decide +kernel
theorem dX1_readItem_99 : decode cX1_readItem 99 = .ok (.iconst 1, 1) := by decide +kernel
theorem dX1_readItem_100 : decode cX1_readItem 100 = .ok (.bipush 15, 2) := by decide +kernel
theorem dX1_readItem_102 : decode cX1_readItem 102 = .ok (.invokevirtual 40, 3) := by decide +kernel
theorem dX1_readItem_105 : decode cX1_readItem 105 = .ok (.putfield 50, 3) := by decide +kernel
theorem dX1_readItem_108 : decode cX1_readItem 108 = .ok (.goto 35, 3) := by decide +kernel
theorem dX1_readItem_111 : decode cX1_readItem 111 = .ok (.aload_n 0, 1) := by decide +kernel
theorem dX1_readItem_112 : decode cX1_readItem 112 = .ok (.bipush 115, 2) := by decide +kernel
theorem dX1_readItem_114 : decode cX1_readItem 114 = .ok (.invokevirtual 29, 3) := by decide +kernel
theorem dX1_readItem_117 : decode cX1_readItem 117 = .ok (.aload_n 0, 1) := by decide +kernel
theorem dX1_readItem_118 : decode cX1_readItem 118 = .ok (.aload_n 0, 1) := by decide +kernel
theorem dX1_readItem_119 : decode cX1_readItem 119 = .ok (.iconst 1, 1) := by decide +kernel
theorem dX1_readItem_120 : decode cX1_readItem 120 = .ok (.iconst 3, 1) := by decide +kernel
theorem dX1_readItem_121 : decode cX1_readItem 121 = .ok (.invokevirtual 40, 3) := by decide +kernel
theorem dX1_readItem_124 : decode cX1_readItem 124 = .ok (.putfield 53, 3) := by decide +kernel
theorem dX1_readItem_127 : decode cX1_readItem 127 = .ok (.aload_n 0, 1) := by decide +kernel
theorem dX1_readItem_128 : decode cX1_readItem 128 = .ok (.bipush 112, 2) := by decide +kernel
theorem dX1_readItem_130 : decode cX1_readItem 130 = .ok (.invokevirtual 29, 3) := by decide +kernel
theorem dX1_readItem_133 : decode cX1_readItem 133 = .ok (.aload_n 0, 1) := by decide +kernel
theorem dX1_readItem_134 : decode cX1_readItem 134 = .ok (.aload_n 0, 1) := by decide +kernel
theorem dX1_readItem_135 : decode cX1_readItem 135 = .ok (.iconst 0, 1) := by decide +kernel
theorem dX1_readItem_136 : decode cX1_readItem 136 = .ok (.iconst 2, 1) := by decide +kernel
theorem dX1_readItem_137 : decode cX1_readItem 137 = .ok (.invokevirtual 40, 3) := by decide +kernel
theorem dX1_readItem_140 : decode cX1_readItem 140 = .ok (.putfield 56, 3) := by decide +kernel
theorem dX1_readItem_143 : decode cX1_readItem 143 = .ok (.return_, 1) := by decide +kernel
theorem dX1_take_0 : decode cX1_take 0 = .ok (.aload_n 0, 1) := by decide +kernel
theorem dX1_take_1 : decode cX1_take 1 = .ok (.getfield 22, 3) := by decide +kernel
theorem dX1_take_4 : decode cX1_take 4 = .ok (.ifCond .eq 4, 3) := by decide +kernel
theorem dX1_take_7 : decode cX1_take 7 = .ok (.return_, 1) := by decide +kernel
theorem dX1_take_8 : decode cX1_take 8 = .ok (.aload_n 0, 1) := by decide +kernel
theorem dX1_take_9 : decode cX1_take 9 = .ok (.getfield 12, 3) := by decide +kernel
theorem dX1_take_12 : decode cX1_take 12 = .ok (.aload_n 0, 1) := by decide +kernel
theorem dX1_take_13 : decode cX1_take 13 = .ok (.getfield 18, 3) := by decide +kernel
theorem dX1_take_16 : decode cX1_take 16 = .ok (.invokevirtual 33, 3) := by decide +kernel
theorem dX1_take_19 : decode cX1_take 19 = .ok (.iload_n 1, 1) := by decide +kernel
theorem dX1_take_20 : decode cX1_take 20 = .ok (.if_icmp .ne 16, 3) := by decide +kernel
theorem dX1_take_23 : decode cX1_take 23 = .ok (.aload_n 0, 1) := by decide +kernel
theorem dX1_take_24 : decode cX1_take 24 = .ok (.dup, 1) := by decide +kernel
theorem dX1_take_25 : decode cX1_take 25 = .ok (.getfield 18, 3) := by decide +kernel
theorem dX1_take_28 : decode cX1_take 28 = .ok (.iconst 1, 1) := by decide +kernel
theorem dX1_take_29 : decode cX1_take 29 = .ok (.iadd, 1) := by decide +kernel
theorem dX1_take_30 : decode cX1_take 30 = .ok (.putfield 18, 3) := by decide +kernel
theorem dX1_take_33 : decode cX1_take 33 = .ok (.goto 8, 3) := by decide +kernel
theorem dX1_take_36 : decode cX1_take 36 = .ok (.aload_n 0, 1) := by decide +kernel
theorem dX1_take_37 : decode cX1_take 37 = .ok (.iconst 1, 1) := by decide +kernel
theorem dX1_take_38 : decode cX1_take 38 = .ok (.putfield 22, 3) := by decide +kernel
theorem dX1_take_41 : decode cX1_take 41 = .ok (.return_, 1) := by decide +kernel
theorem dX1_takeNumber_0 : decode cX1_takeNumber 0 = .ok (.aload_n 0, 1) := by decide +kernel
theorem dX1_takeNumber_1 : decode cX1_takeNumber 1 = .ok (.aload_n 0, 1) := by decide +kernel
theorem dX1_takeNumber_2 : decode cX1_takeNumber 2 = .ok (.getfield 18, 3) := by decide +kernel
theorem dX1_takeNumber_5 : decode cX1_takeNumber 5 = .ok (.invokevirtual 59, 3) := by decide +kernel
theorem dX1_takeNumber_8 : decode cX1_takeNumber 8 = .ok (.istore_n 3, 1) := by decide +kernel
theorem dX1_takeNumber_9 : decode cX1_takeNumber 9 = .ok (.aload_n 0, 1) := by decide +kernel
theorem dX1_takeNumber_10 : decode cX1_takeNumber 10 = .ok (.getfield 22, 3) := by decide +kernel
theorem dX1_takeNumber_13 : decode cX1_takeNumber 13 = .ok (.ifCond .ne 13, 3) := by decide +kernel
theorem dX1_takeNumber_16 : decode cX1_takeNumber 16 = .ok (.iload_n 3, 1) := by decide +kernel
theorem dX1_takeNumber_17 : decode cX1_takeNumber 17 = .ok (.iload_n 1, 1) := by decide +kernel
theorem dX1_takeNumber_18 : decode cX1_takeNumber 18 = .ok (.if_icmp .lt 8, 3) := by decide +kernel
theorem dX1_takeNumber_21 : decode cX1_takeNumber 21 = .ok (.iload_n 3, 1) := by decide +kernel
theorem dX1_takeNumber_22 : decode cX1_takeNumber 22 = .ok (.iload_n 2, 1) := by decide +kernel
theorem dX1_takeNumber_23 : decode cX1_takeNumber 23 = .ok (.if_icmp .le 10, 3) := by decide +kernel
theorem dX1_takeNumber_26 : decode cX1_takeNumber 26 = .ok (.aload_n 0, 1) := by decide +kernel
theorem dX1_takeNumber_27 : decode cX1_takeNumber 27 = .ok (.iconst 1, 1) := by decide +kernel
theorem dX1_takeNumber_28 : decode cX1_takeNumber 28 = .ok (.putfield 22, 3) := by decide +kernel
theorem dX1_takeNumber_31 : decode cX1_takeNumber 31 = .ok (.iload_n 1, 1) := by decide +kernel
theorem dX1_takeNumber_32 : decode cX1_takeNumber 32 = .ok (.ireturn, 1) := by decide +kernel
theorem dX1_takeNumber_33 : decode cX1_takeNumber 33 = .ok (.aload_n 0, 1) := by decide +kernel
theorem dX1_takeNumber_34 : decode cX1_takeNumber 34 = .ok (.dup, 1) := by decide +kernel
theorem dX1_takeNumber_35 : decode cX1_takeNumber 35 = .ok (.getfield 18, 3) := by decide +kernel
theorem dX1_takeNumber_38 : decode cX1_takeNumber 38 = .ok (.iconst 1, 1) := by decide +kernel
theorem dX1_takeNumber_39 : decode cX1_takeNumber 39 = .ok (.iadd, 1) := by decide +kernel
theorem dX1_takeNumber_40 : decode cX1_takeNumber 40 = .ok (.putfield 18, 3) := by decide +kernel
theorem dX1_takeNumber_43 : decode cX1_takeNumber 43 = .ok (.iconst 0, 1) := by decide +kernel
theorem dX1_takeNumber_44 : decode cX1_takeNumber 44 = .ok (.istore 4, 2) := by decide +kernel
theorem dX1_takeNumber_46 : decode cX1_takeNumber 46 = .ok (.iload 4, 2) := by decide +kernel
theorem dX1_takeNumber_48 : decode cX1_takeNumber 48 = .ok (.bipush 80, 2) := by decide +kernel
theorem dX1_takeNumber_50 : decode cX1_takeNumber 50 = .ok (.if_icmp .ge 60, 3) := by decide +kernel
theorem dX1_takeNumber_53 : decode cX1_takeNumber 53 = .ok (.iload_n 3, 1) := by decide +kernel
theorem dX1_takeNumber_54 : decode cX1_takeNumber 54 = .ok (.ifCond .le 56, 3) := by decide +kernel
theorem dX1_takeNumber_57 : decode cX1_takeNumber 57 = .ok (.aload_n 0, 1) := by decide +kernel
theorem dX1_takeNumber_58 : decode cX1_takeNumber 58 = .ok (.aload_n 0, 1) := by decide +kernel
theorem dX1_takeNumber_59 : decode cX1_takeNumber 59 = .ok (.getfield 18, 3) := by decide +kernel
theorem dX1_takeNumber_62 : decode cX1_takeNumber 62 = .ok (.invokevirtual 59, 3) := by decide +kernel
theorem dX1_takeNumber_65 : decode cX1_takeNumber 65 = .ok (.istore 5, 2) := by decide +kernel
theorem dX1_takeNumber_67 : decode cX1_takeNumber 67 = .ok (.iload 5, 2) := by decide +kernel
theorem dX1_takeNumber_69 : decode cX1_takeNumber 69 = .ok (.ifCond .lt 41, 3) := by decide +kernel
theorem dX1_takeNumber_72 : decode cX1_takeNumber 72 = .ok (.iload_n 3, 1) := by decide +kernel
theorem dX1_takeNumber_73 : decode cX1_takeNumber 73 = .ok (.bipush 10, 2) := by decide +kernel
theorem dX1_takeNumber_75 : decode cX1_takeNumber 75 = .ok (.imul, 1) := by decide +kernel
theorem dX1_takeNumber_76 : decode cX1_takeNumber 76 = .ok (.iload 5, 2) := by decide +kernel
theorem dX1_takeNumber_78 : decode cX1_takeNumber 78 = .ok (.iadd, 1) := by decide +kernel
theorem dX1_takeNumber_79 : decode cX1_takeNumber 79 = .ok (.iload_n 2, 1) := by decide +kernel
theorem dX1_takeNumber_80 : decode cX1_takeNumber 80 = .ok (.if_icmp .le 6, 3) := by decide +kernel
theorem dX1_takeNumber_83 : decode cX1_takeNumber 83 = .ok (.goto 27, 3) := by decide +kernel
theorem dX1_takeNumber_86 : decode cX1_takeNumber 86 = .ok (.iload_n 3, 1) := by decide +kernel
theorem dX1_takeNumber_87 : decode cX1_takeNumber 87 = .ok (.bipush 10, 2) := by decide +kernel
theorem dX1_takeNumber_89 : decode cX1_takeNumber 89 = .ok (.imul, 1) := by decide +kernel
theorem dX1_takeNumber_90 : decode cX1_takeNumber 90 = .ok (.iload 5, 2) := by decide +kernel
theorem dX1_takeNumber_92 : decode cX1_takeNumber 92 = .ok (.iadd, 1) := by decide +kernel
theorem dX1_takeNumber_93 : decode cX1_takeNumber 93 = .ok (.istore_n 3, 1) := by decide +kernel
theorem dX1_takeNumber_94 : decode cX1_takeNumber 94 = .ok (.aload_n 0, 1) := by decide +kernel
theorem dX1_takeNumber_95 : decode cX1_takeNumber 95 = .ok (.dup, 1) := by decide +kernel
theorem dX1_takeNumber_96 : decode cX1_takeNumber 96 = .ok (.getfield 18, 3) := by decide +kernel
theorem dX1_takeNumber_99 : decode cX1_takeNumber 99 = .ok (.iconst 1, 1) := by decide +kernel
theorem dX1_takeNumber_100 : decode cX1_takeNumber 100 = .ok (.iadd, 1) := by decide +kernel
theorem dX1_takeNumber_101 : decode cX1_takeNumber 101 = .ok (.putfield 18, 3) := by decide +kernel
theorem dX1_takeNumber_104 : decode cX1_takeNumber 104 = .ok (.iinc 4 1, 3) := by decide +kernel
theorem dX1_takeNumber_107 : decode cX1_takeNumber 107 = .ok (.goto (-61), 3) := by decide +kernel
theorem dX1_takeNumber_110 : decode cX1_takeNumber 110 = .ok (.iload_n 3, 1) := by decide +kernel
theorem dX1_takeNumber_111 : decode cX1_takeNumber 111 = .ok (.ireturn, 1) := by decide +kernel
theorem dX1_digitAt_0 : decode cX1_digitAt 0 = .ok (.aload_n 0, 1) := by decide +kernel
theorem dX1_digitAt_1 : decode cX1_digitAt 1 = .ok (.getfield 12, 3) := by decide +kernel
theorem dX1_digitAt_4 : decode cX1_digitAt 4 = .ok (.iload_n 1, 1) := by decide +kernel
theorem dX1_digitAt_5 : decode cX1_digitAt 5 = .ok (.invokevirtual 33, 3) := by decide +kernel
theorem dX1_digitAt_8 : decode cX1_digitAt 8 = .ok (.istore_n 2, 1) := by decide +kernel
theorem dX1_digitAt_9 : decode cX1_digitAt 9 = .ok (.iload_n 2, 1) := by decide +kernel
theorem dX1_digitAt_10 : decode cX1_digitAt 10 = .ok (.bipush 48, 2) := by decide +kernel
theorem dX1_digitAt_12 : decode cX1_digitAt 12 = .ok (.if_icmp .lt 9, 3) := by decide +kernel
theorem dX1_digitAt_15 : decode cX1_digitAt 15 = .ok (.iload_n 2, 1) := by decide +kernel
theorem dX1_digitAt_16 : decode cX1_digitAt 16 = .ok (.bipush 57, 2) := by decide +kernel
theorem dX1_digitAt_18 : decode cX1_digitAt 18 = .ok (.if_icmp .le 7, 3) := by decide +kernel
theorem dX1_digitAt_21 : decode cX1_digitAt 21 = .ok (.iconst (-1), 1) := by decide +kernel
theorem dX1_digitAt_22 : decode cX1_digitAt 22 = .ok (.goto 7, 3) := by decide +kernel
theorem dX1_digitAt_25 : decode cX1_digitAt 25 = .ok (.iload_n 2, 1) := by decide +kernel
theorem dX1_digitAt_26 : decode cX1_digitAt 26 = .ok (.bipush 48, 2) := by decide +kernel
theorem dX1_digitAt_28 : decode cX1_digitAt 28 = .ok (.isub, 1) := by decide +kernel
theorem dX1_digitAt_29 : decode cX1_digitAt 29 = .ok (.ireturn, 1) := by decide +kernel
theorem dX2_init_0 : decode cX2_init 0 = .ok (.aload_n 0, 1) := by decide +kernel
theorem dX2_init_1 : decode cX2_init 1 = .ok (.invokespecial 3, 3) := by decide +kernel
theorem dX2_init_4 : decode cX2_init 4 = .ok (.aload_n 0, 1) := by decide +kernel
theorem dX2_init_5 : decode cX2_init 5 = .ok (.iload_n 1, 1) := by decide +kernel
theorem dX2_init_6 : decode cX2_init 6 = .ok (.putfield 9, 3) := by decide +kernel
theorem dX2_init_9 : decode cX2_init 9 = .ok (.aload_n 0, 1) := by decide +kernel
theorem dX2_init_10 : decode cX2_init 10 = .ok (.iconst (-1), 1) := by decide +kernel
theorem dX2_init_11 : decode cX2_init 11 = .ok (.putfield 15, 3) := by decide +kernel
theorem dX2_init_14 : decode cX2_init 14 = .ok (.return_, 1) := by decide +kernel
theorem dX2_copyFrom_0 : decode cX2_copyFrom 0 = .ok (.aload_n 0, 1) := by decide +kernel
theorem dX2_copyFrom_1 : decode cX2_copyFrom 1 = .ok (.aload_n 1, 1) := by decide +kernel
theorem dX2_copyFrom_2 : decode cX2_copyFrom 2 = .ok (.getfield 18, 3) := by decide +kernel
theorem dX2_copyFrom_5 : decode cX2_copyFrom 5 = .ok (.putfield 18, 3) := by decide +kernel
theorem dX2_copyFrom_8 : decode cX2_copyFrom 8 = .ok (.aload_n 0, 1) := by decide +kernel
theorem dX2_copyFrom_9 : decode cX2_copyFrom 9 = .ok (.aload_n 1, 1) := by decide +kernel
theorem dX2_copyFrom_10 : decode cX2_copyFrom 10 = .ok (.getfield 21, 3) := by decide +kernel
theorem dX2_copyFrom_13 : decode cX2_copyFrom 13 = .ok (.putfield 21, 3) := by decide +kernel
theorem dX2_copyFrom_16 : decode cX2_copyFrom 16 = .ok (.aload_n 0, 1) := by decide +kernel
theorem dX2_copyFrom_17 : decode cX2_copyFrom 17 = .ok (.aload_n 1, 1) := by decide +kernel
theorem dX2_copyFrom_18 : decode cX2_copyFrom 18 = .ok (.getfield 24, 3) := by decide +kernel
theorem dX2_copyFrom_21 : decode cX2_copyFrom 21 = .ok (.putfield 24, 3) := by decide +kernel
theorem dX2_copyFrom_24 : decode cX2_copyFrom 24 = .ok (.aload_n 0, 1) := by decide +kernel
theorem dX2_copyFrom_25 : decode cX2_copyFrom 25 = .ok (.aload_n 1, 1) := by decide +kernel
theorem dX2_copyFrom_26 : decode cX2_copyFrom 26 = .ok (.getfield 27, 3) := by decide +kernel
theorem dX2_copyFrom_29 : decode cX2_copyFrom 29 = .ok (.putfield 27, 3) := by decide +kernel
theorem dX2_copyFrom_32 : decode cX2_copyFrom 32 = .ok (.aload_n 0, 1) := by decide +kernel
theorem dX2_copyFrom_33 : decode cX2_copyFrom 33 = .ok (.aload_n 1, 1) := by decide +kernel
theorem dX2_copyFrom_34 : decode cX2_copyFrom 34 = .ok (.getfield 15, 3) := by decide +kernel
theorem dX2_copyFrom_37 : decode cX2_copyFrom 37 = .ok (.putfield 15, 3) := by decide +kernel
theorem dX2_copyFrom_40 : decode cX2_copyFrom 40 = .ok (.aload_n 0, 1) := by decide +kernel
theorem dX2_copyFrom_41 : decode cX2_copyFrom 41 = .ok (.aload_n 1, 1) := by decide +kernel
theorem dX2_copyFrom_42 : decode cX2_copyFrom 42 = .ok (.getfield 30, 3) := by decide +kernel
theorem dX2_copyFrom_45 : decode cX2_copyFrom 45 = .ok (.putfield 30, 3) := by decide +kernel
theorem dX2_copyFrom_48 : decode cX2_copyFrom 48 = .ok (.return_, 1) := by decide +kernel
theorem dX3_init_0 : decode cX3_init 0 = .ok (.aload_n 0, 1) := by decide +kernel
theorem dX3_init_1 : decode cX3_init 1 = .ok (.invokespecial 3, 3) := by decide +kernel
theorem dX3_init_4 : decode cX3_init 4 = .ok (.aload_n 0, 1) := by decide +kernel
theorem dX3_init_5 : decode cX3_init 5 = .ok (.bipush 12, 2) := by decide +kernel
theorem dX3_init_7 : decode cX3_init 7 = .ok (.anewarray 9, 3) := by decide +kernel
theorem dX3_init_10 : decode cX3_init 10 = .ok (.putfield 11, 3) := by decide +kernel
theorem dX3_init_13 : decode cX3_init 13 = .ok (.iconst 0, 1) := by decide +kernel
theorem dX3_init_14 : decode cX3_init 14 = .ok (.istore_n 1, 1) := by decide +kernel
theorem dX3_init_15 : decode cX3_init 15 = .ok (.iload_n 1, 1) := by decide +kernel
theorem dX3_init_16 : decode cX3_init 16 = .ok (.aload_n 0, 1) := by decide +kernel
theorem dX3_init_17 : decode cX3_init 17 = .ok (.getfield 11, 3) := by decide +kernel
theorem dX3_init_20 : decode cX3_init 20 = .ok (.arraylength, 1) := by decide +kernel
theorem dX3_init_21 : decode cX3_init 21 = .ok (.if_icmp .ge 23, 3) := by decide +kernel
theorem dX3_init_24 : decode cX3_init 24 = .ok (.aload_n 0, 1) := by decide +kernel
theorem dX3_init_25 : decode cX3_init 25 = .ok (.getfield 11, 3) := by decide +kernel
theorem dX3_init_28 : decode cX3_init 28 = .ok (.iload_n 1, 1) := by decide +kernel
theorem dX3_init_29 : decode cX3_init 29 = .ok (.new 9, 3) := by decide +kernel
theorem dX3_init_32 : decode cX3_init 32 = .ok (.dup, 1) := by decide +kernel
theorem dX3_init_33 : decode cX3_init 33 = .ok (.iload_n 1, 1) := by decide +kernel
theorem dX3_init_34 : decode cX3_init 34 = .ok (.invokespecial 17, 3) := by decide +kernel
theorem dX3_init_37 : decode cX3_init 37 = .ok (.aastore, 1) := by decide +kernel
theorem dX3_init_38 : decode cX3_init 38 = .ok (.iinc 1 1, 3) := by decide +kernel
theorem dX3_init_41 : decode cX3_init 41 = .ok (.goto (-26), 3) := by decide +kernel
theorem dX3_init_44 : decode cX3_init 44 = .ok (.aload_n 0, 1) := by decide +kernel
theorem dX3_init_45 : decode cX3_init 45 = .ok (.iconst 4, 1) := by decide +kernel
theorem dX3_init_46 : decode cX3_init 46 = .ok (.anewarray 20, 3) := by decide +kernel
theorem dX3_init_49 : decode cX3_init 49 = .ok (.putfield 22, 3) := by decide +kernel
theorem dX3_init_52 : decode cX3_init 52 = .ok (.iconst 0, 1) := by decide +kernel
theorem dX3_init_53 : decode cX3_init 53 = .ok (.istore_n 1, 1) := by decide +kernel
theorem dX3_init_54 : decode cX3_init 54 = .ok (.iload_n 1, 1) := by decide +kernel
theorem dX3_init_55 : decode cX3_init 55 = .ok (.aload_n 0, 1) := by decide +kernel
theorem dX3_init_56 : decode cX3_init 56 = .ok (.getfield 22, 3) := by decide +kernel
theorem dX3_init_59 : decode cX3_init 59 = .ok (.arraylength, 1) := by decide +kernel
theorem dX3_init_60 : decode cX3_init 60 = .ok (.if_icmp .ge 22, 3) := by decide +kernel
theorem dX3_init_63 : decode cX3_init 63 = .ok (.aload_n 0, 1) := by decide +kernel
theorem dX3_init_64 : decode cX3_init 64 = .ok (.getfield 22, 3) := by decide +kernel
theorem dX3_init_67 : decode cX3_init 67 = .ok (.iload_n 1, 1) := by decide +kernel
theorem dX3_init_68 : decode cX3_init 68 = .ok (.new 20, 3) := by decide +kernel
theorem dX3_init_71 : decode cX3_init 71 = .ok (.dup, 1) := by decide +kernel
theorem dX3_init_72 : decode cX3_init 72 = .ok (.invokespecial 26, 3) := by decide +kernel
theorem dX3_init_75 : decode cX3_init 75 = .ok (.aastore, 1) := by decide +kernel
theorem dX3_init_76 : decode cX3_init 76 = .ok (.iinc 1 1, 3) := by decide +kernel
theorem dX3_init_79 : decode cX3_init 79 = .ok (.goto (-25), 3) := by decide +kernel
theorem dX3_init_82 : decode cX3_init 82 = .ok (.return_, 1) := by decide +kernel
theorem dX3_copyFrom_0 : decode cX3_copyFrom 0 = .ok (.iconst 0, 1) := by decide +kernel
theorem dX3_copyFrom_1 : decode cX3_copyFrom 1 = .ok (.istore_n 2, 1) := by decide +kernel
theorem dX3_copyFrom_2 : decode cX3_copyFrom 2 = .ok (.iload_n 2, 1) := by decide +kernel
theorem dX3_copyFrom_3 : decode cX3_copyFrom 3 = .ok (.aload_n 0, 1) := by decide +kernel
theorem dX3_copyFrom_4 : decode cX3_copyFrom 4 = .ok (.getfield 11, 3) := by decide +kernel
theorem dX3_copyFrom_7 : decode cX3_copyFrom 7 = .ok (.arraylength, 1) := by decide +kernel
theorem dX3_copyFrom_8 : decode cX3_copyFrom 8 = .ok (.if_icmp .ge 48, 3) := by decide +kernel
theorem dX3_copyFrom_11 : decode cX3_copyFrom 11 = .ok (.iload_n 2, 1) := by decide +kernel
theorem dX3_copyFrom_12 : decode cX3_copyFrom 12 = .ok (.aload_n 1, 1) := by decide +kernel
theorem dX3_copyFrom_13 : decode cX3_copyFrom 13 = .ok (.getfield 11, 3) := by decide +kernel
theorem dX3_copyFrom_16 : decode cX3_copyFrom 16 = .ok (.arraylength, 1) := by decide +kernel
theorem dX3_copyFrom_17 : decode cX3_copyFrom 17 = .ok (.if_icmp .ge 39, 3) := by decide +kernel
theorem dX3_copyFrom_20 : decode cX3_copyFrom 20 = .ok (.aload_n 0, 1) := by decide +kernel
theorem dX3_copyFrom_21 : decode cX3_copyFrom 21 = .ok (.getfield 11, 3) := by decide +kernel
theorem dX3_copyFrom_24 : decode cX3_copyFrom 24 = .ok (.iload_n 2, 1) := by decide +kernel
theorem dX3_copyFrom_25 : decode cX3_copyFrom 25 = .ok (.aaload, 1) := by decide +kernel
theorem dX3_copyFrom_26 : decode cX3_copyFrom 26 = .ok (.astore_n 3, 1) := by decide +kernel
theorem dX3_copyFrom_27 : decode cX3_copyFrom 27 = .ok (.aload_n 1, 1) := by decide +kernel
theorem dX3_copyFrom_28 : decode cX3_copyFrom 28 = .ok (.getfield 11, 3) := by decide +kernel
theorem dX3_copyFrom_31 : decode cX3_copyFrom 31 = .ok (.iload_n 2, 1) := by decide +kernel
theorem dX3_copyFrom_32 : decode cX3_copyFrom 32 = .ok (.aaload, 1) := by decide +kernel
theorem dX3_copyFrom_33 : decode cX3_copyFrom 33 = .ok (.astore 4, 2) := by decide +kernel
theorem dX3_copyFrom_35 : decode cX3_copyFrom 35 = .ok (.aload_n 3, 1) := by decide +kernel
theorem dX3_copyFrom_36 : decode cX3_copyFrom 36 = .ok (.ifnull 14, 3) := by decide +kernel
theorem dX3_copyFrom_39 : decode cX3_copyFrom 39 = .ok (.aload 4, 2) := by decide +kernel
theorem dX3_copyFrom_41 : decode cX3_copyFrom 41 = .ok (.ifnull 9, 3) := by decide +kernel
theorem dX3_copyFrom_44 : decode cX3_copyFrom 44 = .ok (.aload_n 3, 1) := by decide +kernel
theorem dX3_copyFrom_45 : decode cX3_copyFrom 45 = .ok (.aload 4, 2) := by decide +kernel
theorem dX3_copyFrom_47 : decode cX3_copyFrom 47 = .ok (.invokevirtual 27, 3) := by decide +kernel
theorem dX3_copyFrom_50 : decode cX3_copyFrom 50 = .ok (.iinc 2 1, 3) := by decide +kernel
theorem dX3_copyFrom_53 : decode cX3_copyFrom 53 = .ok (.goto (-51), 3) := by decide +kernel
theorem dX3_copyFrom_56 : decode cX3_copyFrom 56 = .ok (.iconst 0, 1) := by decide +kernel
theorem dX3_copyFrom_57 : decode cX3_copyFrom 57 = .ok (.istore_n 2, 1) := by decide +kernel
theorem dX3_copyFrom_58 : decode cX3_copyFrom 58 = .ok (.iload_n 2, 1) := by decide +kernel
theorem dX3_copyFrom_59 : decode cX3_copyFrom 59 = .ok (.aload_n 0, 1) := by decide +kernel
theorem dX3_copyFrom_60 : decode cX3_copyFrom 60 = .ok (.getfield 22, 3) := by decide +kernel
theorem dX3_copyFrom_63 : decode cX3_copyFrom 63 = .ok (.arraylength, 1) := by decide +kernel
theorem dX3_copyFrom_64 : decode cX3_copyFrom 64 = .ok (.if_icmp .ge 48, 3) := by decide +kernel
theorem dX3_copyFrom_67 : decode cX3_copyFrom 67 = .ok (.iload_n 2, 1) := by decide +kernel
theorem dX3_copyFrom_68 : decode cX3_copyFrom 68 = .ok (.aload_n 1, 1) := by decide +kernel
theorem dX3_copyFrom_69 : decode cX3_copyFrom 69 = .ok (.getfield 22, 3) := by decide +kernel
theorem dX3_copyFrom_72 : decode cX3_copyFrom 72 = .ok (.arraylength, 1) := by decide +kernel
theorem dX3_copyFrom_73 : decode cX3_copyFrom 73 = .ok (.if_icmp .ge 39, 3) := by decide +kernel
theorem dX3_copyFrom_76 : decode cX3_copyFrom 76 = .ok (.aload_n 0, 1) := by decide +kernel
theorem dX3_copyFrom_77 : decode cX3_copyFrom 77 = .ok (.getfield 22, 3) := by decide +kernel
theorem dX3_copyFrom_80 : decode cX3_copyFrom 80 = .ok (.iload_n 2, 1) := by decide +kernel
theorem dX3_copyFrom_81 : decode cX3_copyFrom 81 = .ok (.aaload, 1) := by decide +kernel
theorem dX3_copyFrom_82 : decode cX3_copyFrom 82 = .ok (.astore_n 3, 1) := by decide +kernel
theorem dX3_copyFrom_83 : decode cX3_copyFrom 83 = .ok (.aload_n 1, 1) := by decide +kernel
theorem dX3_copyFrom_84 : decode cX3_copyFrom 84 = .ok (.getfield 22, 3) := by decide +kernel
theorem dX3_copyFrom_87 : decode cX3_copyFrom 87 = .ok (.iload_n 2, 1) := by decide +kernel
theorem dX3_copyFrom_88 : decode cX3_copyFrom 88 = .ok (.aaload, 1) := by decide +kernel
theorem dX3_copyFrom_89 : decode cX3_copyFrom 89 = .ok (.astore 4, 2) := by decide +kernel
theorem dX3_copyFrom_91 : decode cX3_copyFrom 91 = .ok (.aload_n 3, 1) := by decide +kernel
theorem dX3_copyFrom_92 : decode cX3_copyFrom 92 = .ok (.ifnull 14, 3) := by decide +kernel
theorem dX3_copyFrom_95 : decode cX3_copyFrom 95 = .ok (.aload 4, 2) := by decide +kernel
theorem dX3_copyFrom_97 : decode cX3_copyFrom 97 = .ok (.ifnull 9, 3) := by decide +kernel
theorem dX3_copyFrom_100 : decode cX3_copyFrom 100 = .ok (.aload_n 3, 1) := by decide +kernel
theorem dX3_copyFrom_101 : decode cX3_copyFrom 101 = .ok (.aload 4, 2) := by decide +kernel
theorem dX3_copyFrom_103 : decode cX3_copyFrom 103 = .ok (.invokevirtual 31, 3) := by decide +kernel
theorem dX3_copyFrom_106 : decode cX3_copyFrom 106 = .ok (.iinc 2 1, 3) := by decide +kernel
theorem dX3_copyFrom_109 : decode cX3_copyFrom 109 = .ok (.goto (-51), 3) := by decide +kernel
theorem dX3_copyFrom_112 : decode cX3_copyFrom 112 = .ok (.aload_n 0, 1) := by decide +kernel
theorem dX3_copyFrom_113 : decode cX3_copyFrom 113 = .ok (.aload_n 1, 1) := by decide +kernel
theorem dX3_copyFrom_114 : decode cX3_copyFrom 114 = .ok (.getfield 34, 3) := by decide +kernel
theorem dX3_copyFrom_117 : decode cX3_copyFrom 117 = .ok (.putfield 34, 3) := by decide +kernel
theorem dX3_copyFrom_120 : decode cX3_copyFrom 120 = .ok (.aload_n 0, 1) := by decide +kernel
theorem dX3_copyFrom_121 : decode cX3_copyFrom 121 = .ok (.aload_n 1, 1) := by decide +kernel
theorem dX3_copyFrom_122 : decode cX3_copyFrom 122 = .ok (.getfield 38, 3) := by decide +kernel
theorem dX3_copyFrom_125 : decode cX3_copyFrom 125 = .ok (.putfield 38, 3) := by decide +kernel
theorem dX3_copyFrom_128 : decode cX3_copyFrom 128 = .ok (.aload_n 0, 1) := by decide +kernel
theorem dX3_copyFrom_129 : decode cX3_copyFrom 129 = .ok (.aload_n 1, 1) := by decide +kernel
theorem dX3_copyFrom_130 : decode cX3_copyFrom 130 = .ok (.getfield 41, 3) := by decide +kernel
theorem dX3_copyFrom_133 : decode cX3_copyFrom 133 = .ok (.putfield 41, 3) := by decide +kernel
theorem dX3_copyFrom_136 : decode cX3_copyFrom 136 = .ok (.aload_n 0, 1) := by decide +kernel
theorem dX3_copyFrom_137 : decode cX3_copyFrom 137 = .ok (.aload_n 1, 1) := by decide +kernel
theorem dX3_copyFrom_138 : decode cX3_copyFrom 138 = .ok (.getfield 44, 3) := by decide +kernel
theorem dX3_copyFrom_141 : decode cX3_copyFrom 141 = .ok (.putfield 44, 3) := by decide +kernel
theorem dX3_copyFrom_144 : decode cX3_copyFrom 144 = .ok (.aload_n 0, 1) := by decide +kernel
theorem dX3_copyFrom_145 : decode cX3_copyFrom 145 = .ok (.aload_n 1, 1) := by decide +kernel
theorem dX3_copyFrom_146 : decode cX3_copyFrom 146 = .ok (.getfield 47, 3) := by decide +kernel
theorem dX3_copyFrom_149 : decode cX3_copyFrom 149 = .ok (.putfield 47, 3) := by decide +kernel
theorem dX3_copyFrom_152 : decode cX3_copyFrom 152 = .ok (.aload_n 0, 1) := by decide +kernel
theorem dX3_copyFrom_153 : decode cX3_copyFrom 153 = .ok (.aload_n 1, 1) := by decide +kernel
theorem dX3_copyFrom_154 : decode cX3_copyFrom 154 = .ok (.getfield 50, 3) := by decide +kernel
theorem dX3_copyFrom_157 : decode cX3_copyFrom 157 = .ok (.putfield 50, 3) := by decide +kernel
theorem dX3_copyFrom_160 : decode cX3_copyFrom 160 = .ok (.aload_n 0, 1) := by decide +kernel
theorem dX3_copyFrom_161 : decode cX3_copyFrom 161 = .ok (.aload_n 1, 1) := by decide +kernel
theorem dX3_copyFrom_162 : decode cX3_copyFrom 162 = .ok (.getfield 53, 3) := by decide +kernel
theorem dX3_copyFrom_165 : decode cX3_copyFrom 165 = .ok (.putfield 53, 3) := by decide +kernel
theorem dX3_copyFrom_168 : decode cX3_copyFrom 168 = .ok (.aload_n 0, 1) := by decide +kernel
theorem dX3_copyFrom_169 : decode cX3_copyFrom 169 = .ok (.aload_n 1, 1) := by decide +kernel
theorem dX3_copyFrom_170 : decode cX3_copyFrom 170 = .ok (.getfield 56, 3) := by decide +kernel
theorem dX3_copyFrom_173 : decode cX3_copyFrom 173 = .ok (.putfield 56, 3) := by decide +kernel
theorem dX3_copyFrom_176 : decode cX3_copyFrom 176 = .ok (.return_, 1) := by decide +kernel
theorem dX3_wipe_0 : decode cX3_wipe 0 = .ok (.aload_n 0, 1) := by decide +kernel
theorem dX3_wipe_1 : decode cX3_wipe 1 = .ok (.getfield 11, 3) := by decide +kernel
theorem dX3_wipe_4 : decode cX3_wipe 4 = .ok (.astore_n 1, 1) := by decide +kernel
theorem dX3_wipe_5 : decode cX3_wipe 5 = .ok (.aload_n 1, 1) := by decide +kernel
theorem dX3_wipe_6 : decode cX3_wipe 6 = .ok (.arraylength, 1) := by decide +kernel
theorem dX3_wipe_7 : decode cX3_wipe 7 = .ok (.istore_n 2, 1) := by decide +kernel
theorem dX3_wipe_8 : decode cX3_wipe 8 = .ok (.iconst 0, 1) := by decide +kernel
theorem dX3_wipe_9 : decode cX3_wipe 9 = .ok (.istore_n 3, 1) := by decide +kernel
theorem dX3_wipe_10 : decode cX3_wipe 10 = .ok (.iload_n 3, 1) := by decide +kernel
theorem dX3_wipe_11 : decode cX3_wipe 11 = .ok (.iload_n 2, 1) := by decide +kernel
theorem dX3_wipe_12 : decode cX3_wipe 12 = .ok (.if_icmp .ge 31, 3) := by decide +kernel
theorem dX3_wipe_15 : decode cX3_wipe 15 = .ok (.aload_n 1, 1) := by decide +kernel
theorem dX3_wipe_16 : decode cX3_wipe 16 = .ok (.iload_n 3, 1) := by decide +kernel
theorem dX3_wipe_17 : decode cX3_wipe 17 = .ok (.aaload, 1) := by decide +kernel
theorem dX3_wipe_18 : decode cX3_wipe 18 = .ok (.astore 4, 2) := by decide +kernel
theorem dX3_wipe_20 : decode cX3_wipe 20 = .ok (.aload 4, 2) := by decide +kernel
theorem dX3_wipe_22 : decode cX3_wipe 22 = .ok (.ifnull 15, 3) := by decide +kernel
theorem dX3_wipe_25 : decode cX3_wipe 25 = .ok (.aload 4, 2) := by decide +kernel
theorem dX3_wipe_27 : decode cX3_wipe 27 = .ok (.iconst 0, 1) := by decide +kernel
theorem dX3_wipe_28 : decode cX3_wipe 28 = .ok (.putfield 59, 3) := by decide +kernel
theorem dX3_wipe_31 : decode cX3_wipe 31 = .ok (.aload 4, 2) := by decide +kernel
theorem dX3_wipe_33 : decode cX3_wipe 33 = .ok (.iconst (-1), 1) := by decide +kernel
theorem dX3_wipe_34 : decode cX3_wipe 34 = .ok (.putfield 63, 3) := by decide +kernel
theorem dX3_wipe_37 : decode cX3_wipe 37 = .ok (.iinc 3 1, 3) := by decide +kernel
theorem dX3_wipe_40 : decode cX3_wipe 40 = .ok (.goto (-30), 3) := by decide +kernel
theorem dX3_wipe_43 : decode cX3_wipe 43 = .ok (.aload_n 0, 1) := by decide +kernel
theorem dX3_wipe_44 : decode cX3_wipe 44 = .ok (.getfield 22, 3) := by decide +kernel
theorem dX3_wipe_47 : decode cX3_wipe 47 = .ok (.astore_n 1, 1) := by decide +kernel
theorem dX3_wipe_48 : decode cX3_wipe 48 = .ok (.aload_n 1, 1) := by decide +kernel
theorem dX3_wipe_49 : decode cX3_wipe 49 = .ok (.arraylength, 1) := by decide +kernel
theorem dX3_wipe_50 : decode cX3_wipe 50 = .ok (.istore_n 2, 1) := by decide +kernel
theorem dX3_wipe_51 : decode cX3_wipe 51 = .ok (.iconst 0, 1) := by decide +kernel
theorem dX3_wipe_52 : decode cX3_wipe 52 = .ok (.istore_n 3, 1) := by decide +kernel
theorem dX3_wipe_53 : decode cX3_wipe 53 = .ok (.iload_n 3, 1) := by decide +kernel
theorem dX3_wipe_54 : decode cX3_wipe 54 = .ok (.iload_n 2, 1) := by decide +kernel
theorem dX3_wipe_55 : decode cX3_wipe 55 = .ok (.if_icmp .ge 25, 3) := by decide +kernel
theorem dX3_wipe_58 : decode cX3_wipe 58 = .ok (.aload_n 1, 1) := by decide +kernel
theorem dX3_wipe_59 : decode cX3_wipe 59 = .ok (.iload_n 3, 1) := by decide +kernel
theorem dX3_wipe_60 : decode cX3_wipe 60 = .ok (.aaload, 1) := by decide +kernel
theorem dX3_wipe_61 : decode cX3_wipe 61 = .ok (.astore 4, 2) := by decide +kernel
theorem dX3_wipe_63 : decode cX3_wipe 63 = .ok (.aload 4, 2) := by decide +kernel
theorem dX3_wipe_65 : decode cX3_wipe 65 = .ok (.ifnull 9, 3) := by decide +kernel
theorem dX3_wipe_68 : decode cX3_wipe 68 = .ok (.aload 4, 2) := by decide +kernel
theorem dX3_wipe_70 : decode cX3_wipe 70 = .ok (.iconst 0, 1) := by decide +kernel
theorem dX3_wipe_71 : decode cX3_wipe 71 = .ok (.putfield 66, 3) := by decide +kernel
theorem dX3_wipe_74 : decode cX3_wipe 74 = .ok (.iinc 3 1, 3) := by decide +kernel
theorem dX3_wipe_77 : decode cX3_wipe 77 = .ok (.goto (-24), 3) := by decide +kernel
theorem dX3_wipe_80 : decode cX3_wipe 80 = .ok (.aload_n 0, 1) := by decide +kernel
theorem dX3_wipe_81 : decode cX3_wipe 81 = .ok (.iconst 0, 1) := by decide +kernel
theorem dX3_wipe_82 : decode cX3_wipe 82 = .ok (.putfield 34, 3) := by decide +kernel
theorem dX3_wipe_85 : decode cX3_wipe 85 = .ok (.aload_n 0, 1) := by decide +kernel
theorem dX3_wipe_86 : decode cX3_wipe 86 = .ok (.iconst 0, 1) := by decide +kernel
theorem dX3_wipe_87 : decode cX3_wipe 87 = .ok (.putfield 38, 3) := by decide +kernel
theorem dX3_wipe_90 : decode cX3_wipe 90 = .ok (.aload_n 0, 1) := by decide +kernel
theorem dX3_wipe_91 : decode cX3_wipe 91 = .ok (.iconst 0, 1) := by decide +kernel
theorem dX3_wipe_92 : decode cX3_wipe 92 = .ok (.putfield 41, 3) := by decide +kernel
theorem dX3_wipe_95 : decode cX3_wipe 95 = .ok (.aload_n 0, 1) := by decide +kernel
theorem dX3_wipe_96 : decode cX3_wipe 96 = .ok (.iconst 0, 1) := by decide +kernel
theorem dX3_wipe_97 : decode cX3_wipe 97 = .ok (.putfield 44, 3) := by decide +kernel
theorem dX3_wipe_100 : decode cX3_wipe 100 = .ok (.aload_n 0, 1) := by decide +kernel
theorem dX3_wipe_101 : decode cX3_wipe 101 = .ok (.iconst 0, 1) := by decide +kernel
theorem dX3_wipe_102 : decode cX3_wipe 102 = .ok (.putfield 47, 3) := by decide +kernel
theorem dX3_wipe_105 : decode cX3_wipe 105 = .ok (.aload_n 0, 1) := by decide +kernel
theorem dX3_wipe_106 : decode cX3_wipe 106 = .ok (.iconst 0, 1) := by decide +kernel
theorem dX3_wipe_107 : decode cX3_wipe 107 = .ok (.putfield 50, 3) := by decide +kernel
theorem dX3_wipe_110 : decode cX3_wipe 110 = .ok (.aload_n 0, 1) := by decide +kernel
theorem dX3_wipe_111 : decode cX3_wipe 111 = .ok (.iconst 0, 1) := by decide +kernel
theorem dX3_wipe_112 : decode cX3_wipe 112 = .ok (.putfield 53, 3) := by decide +kernel
theorem dX3_wipe_115 : decode cX3_wipe 115 = .ok (.aload_n 0, 1) := by decide +kernel
theorem dX3_wipe_116 : decode cX3_wipe 116 = .ok (.iconst 0, 1) := by decide +kernel
theorem dX3_wipe_117 : decode cX3_wipe 117 = .ok (.putfield 56, 3) := by decide +kernel
theorem dX3_wipe_120 : decode cX3_wipe 120 = .ok (.return_, 1) := by decide +kernel
theorem dX3_findMarble_0 : decode cX3_findMarble 0 = .ok (.iload_n 1, 1) := by decide +kernel
theorem dX3_findMarble_1 : decode cX3_findMarble 1 = .ok (.ifCond .lt 20, 3) := by decide +kernel
theorem dX3_findMarble_4 : decode cX3_findMarble 4 = .ok (.iload_n 1, 1) := by decide +kernel
theorem dX3_findMarble_5 : decode cX3_findMarble 5 = .ok (.aload_n 0, 1) := by decide +kernel
theorem dX3_findMarble_6 : decode cX3_findMarble 6 = .ok (.getfield 34, 3) := by decide +kernel
theorem dX3_findMarble_9 : decode cX3_findMarble 9 = .ok (.if_icmp .ge 12, 3) := by decide +kernel
theorem dX3_findMarble_12 : decode cX3_findMarble 12 = .ok (.iload_n 1, 1) := by decide +kernel
theorem dX3_findMarble_13 : decode cX3_findMarble 13 = .ok (.aload_n 0, 1) := by decide +kernel
theorem dX3_findMarble_14 : decode cX3_findMarble 14 = .ok (.getfield 11, 3) := by decide +kernel
theorem dX3_findMarble_17 : decode cX3_findMarble 17 = .ok (.arraylength, 1) := by decide +kernel
theorem dX3_findMarble_18 : decode cX3_findMarble 18 = .ok (.if_icmp .lt 7, 3) := by decide +kernel
theorem dX3_findMarble_21 : decode cX3_findMarble 21 = .ok (.aconst_null, 1) := by decide +kernel
theorem dX3_findMarble_22 : decode cX3_findMarble 22 = .ok (.goto 9, 3) := by decide +kernel
theorem dX3_findMarble_25 : decode cX3_findMarble 25 = .ok (.aload_n 0, 1) := by decide +kernel
theorem dX3_findMarble_26 : decode cX3_findMarble 26 = .ok (.getfield 11, 3) := by decide +kernel
theorem dX3_findMarble_29 : decode cX3_findMarble 29 = .ok (.iload_n 1, 1) := by decide +kernel
theorem dX3_findMarble_30 : decode cX3_findMarble 30 = .ok (.aaload, 1) := by decide +kernel
theorem dX3_findMarble_31 : decode cX3_findMarble 31 = .ok (.areturn, 1) := by decide +kernel
theorem dX3_findRing_0 : decode cX3_findRing 0 = .ok (.iload_n 1, 1) := by decide +kernel
theorem dX3_findRing_1 : decode cX3_findRing 1 = .ok (.ifCond .lt 20, 3) := by decide +kernel
theorem dX3_findRing_4 : decode cX3_findRing 4 = .ok (.iload_n 1, 1) := by decide +kernel
theorem dX3_findRing_5 : decode cX3_findRing 5 = .ok (.aload_n 0, 1) := by decide +kernel
theorem dX3_findRing_6 : decode cX3_findRing 6 = .ok (.getfield 38, 3) := by decide +kernel
theorem dX3_findRing_9 : decode cX3_findRing 9 = .ok (.if_icmp .ge 12, 3) := by decide +kernel
theorem dX3_findRing_12 : decode cX3_findRing 12 = .ok (.iload_n 1, 1) := by decide +kernel
theorem dX3_findRing_13 : decode cX3_findRing 13 = .ok (.aload_n 0, 1) := by decide +kernel
theorem dX3_findRing_14 : decode cX3_findRing 14 = .ok (.getfield 22, 3) := by decide +kernel
theorem dX3_findRing_17 : decode cX3_findRing 17 = .ok (.arraylength, 1) := by decide +kernel
theorem dX3_findRing_18 : decode cX3_findRing 18 = .ok (.if_icmp .lt 7, 3) := by decide +kernel
theorem dX3_findRing_21 : decode cX3_findRing 21 = .ok (.aconst_null, 1) := by decide +kernel
theorem dX3_findRing_22 : decode cX3_findRing 22 = .ok (.goto 9, 3) := by decide +kernel
theorem dX3_findRing_25 : decode cX3_findRing 25 = .ok (.aload_n 0, 1) := by decide +kernel
theorem dX3_findRing_26 : decode cX3_findRing 26 = .ok (.getfield 22, 3) := by decide +kernel
theorem dX3_findRing_29 : decode cX3_findRing 29 = .ok (.iload_n 1, 1) := by decide +kernel
theorem dX3_findRing_30 : decode cX3_findRing 30 = .ok (.aaload, 1) := by decide +kernel
theorem dX3_findRing_31 : decode cX3_findRing 31 = .ok (.areturn, 1) := by decide +kernel
theorem dX3_refusalOfMarble_0 : decode cX3_refusalOfMarble 0 = .ok (.iload_n 1, 1) := by decide +kernel
theorem dX3_refusalOfMarble_1 : decode cX3_refusalOfMarble 1 = .ok (.iload_n 2, 1) := by decide +kernel
theorem dX3_refusalOfMarble_2 : decode cX3_refusalOfMarble 2 = .ok (.invokestatic 69, 3) := by decide +kernel
theorem dX3_refusalOfMarble_5 : decode cX3_refusalOfMarble 5 = .ok (.ifCond .eq 11, 3) := by decide +kernel
theorem dX3_refusalOfMarble_8 : decode cX3_refusalOfMarble 8 = .ok (.iload 4, 2) := by decide +kernel
theorem dX3_refusalOfMarble_10 : decode cX3_refusalOfMarble 10 = .ok (.invokestatic 73, 3) := by decide +kernel
theorem dX3_refusalOfMarble_13 : decode cX3_refusalOfMarble 13 = .ok (.ifCond .ne 7, 3) := by decide +kernel
theorem dX3_refusalOfMarble_16 : decode cX3_refusalOfMarble 16 = .ok (.sipush (-1001), 3) := by decide +kernel
theorem dX3_refusalOfMarble_19 : decode cX3_refusalOfMarble 19 = .ok (.ireturn, 1) := by decide +kernel
theorem dX3_refusalOfMarble_20 : decode cX3_refusalOfMarble 20 = .ok (.iload_n 3, 1) := by decide +kernel
theorem dX3_refusalOfMarble_21 : decode cX3_refusalOfMarble 21 = .ok (.iconst 1, 1) := by decide +kernel
theorem dX3_refusalOfMarble_22 : decode cX3_refusalOfMarble 22 = .ok (.if_icmp .lt 8, 3) := by decide +kernel
theorem dX3_refusalOfMarble_25 : decode cX3_refusalOfMarble 25 = .ok (.iload_n 3, 1) := by decide +kernel
theorem dX3_refusalOfMarble_26 : decode cX3_refusalOfMarble 26 = .ok (.iconst 3, 1) := by decide +kernel
theorem dX3_refusalOfMarble_27 : decode cX3_refusalOfMarble 27 = .ok (.if_icmp .le 7, 3) := by decide +kernel
theorem dX3_refusalOfMarble_30 : decode cX3_refusalOfMarble 30 = .ok (.sipush (-1002), 3) := by decide +kernel
theorem dX3_refusalOfMarble_33 : decode cX3_refusalOfMarble 33 = .ok (.ireturn, 1) := by decide +kernel
theorem dX3_refusalOfMarble_34 : decode cX3_refusalOfMarble 34 = .ok (.aload_n 0, 1) := by decide +kernel
theorem dX3_refusalOfMarble_35 : decode cX3_refusalOfMarble 35 = .ok (.iload_n 1, 1) := by decide +kernel
theorem dX3_refusalOfMarble_36 : decode cX3_refusalOfMarble 36 = .ok (.iload_n 2, 1) := by decide +kernel
theorem dX3_refusalOfMarble_37 : decode cX3_refusalOfMarble 37 = .ok (.invokevirtual 77, 3) := by decide +kernel
theorem dX3_refusalOfMarble_40 : decode cX3_refusalOfMarble 40 = .ok (.ifnull 7, 3) := by decide +kernel
theorem dX3_refusalOfMarble_43 : decode cX3_refusalOfMarble 43 = .ok (.sipush (-1003), 3) := by decide +kernel
theorem dX3_refusalOfMarble_46 : decode cX3_refusalOfMarble 46 = .ok (.ireturn, 1) := by decide +kernel
theorem dX3_refusalOfMarble_47 : decode cX3_refusalOfMarble 47 = .ok (.aload_n 0, 1) := by decide +kernel
theorem dX3_refusalOfMarble_48 : decode cX3_refusalOfMarble 48 = .ok (.getfield 34, 3) := by decide +kernel
theorem dX3_refusalOfMarble_51 : decode cX3_refusalOfMarble 51 = .ok (.bipush 12, 2) := by decide +kernel
theorem dX3_refusalOfMarble_53 : decode cX3_refusalOfMarble 53 = .ok (.if_icmp .lt 9, 3) := by decide +kernel
theorem dX3_refusalOfMarble_56 : decode cX3_refusalOfMarble 56 = .ok (.sipush (-1004), 3) := by decide +kernel
theorem dX3_refusalOfMarble_59 : decode cX3_refusalOfMarble 59 = .ok (.goto 4, 3) := by decide +kernel
theorem dX3_refusalOfMarble_62 : decode cX3_refusalOfMarble 62 = .ok (.iconst 0, 1) := by decide +kernel
theorem dX3_refusalOfMarble_63 : decode cX3_refusalOfMarble 63 = .ok (.ireturn, 1) := by decide +kernel
theorem dX3_addMarble_0 : decode cX3_addMarble 0 = .ok (.aload_n 0, 1) := by decide +kernel
theorem dX3_addMarble_1 : decode cX3_addMarble 1 = .ok (.getfield 34, 3) := by decide +kernel
theorem dX3_addMarble_4 : decode cX3_addMarble 4 = .ok (.ifCond .lt 15, 3) := by decide +kernel
theorem dX3_addMarble_7 : decode cX3_addMarble 7 = .ok (.aload_n 0, 1) := by decide +kernel
theorem dX3_addMarble_8 : decode cX3_addMarble 8 = .ok (.getfield 34, 3) := by decide +kernel
theorem dX3_addMarble_11 : decode cX3_addMarble 11 = .ok (.aload_n 0, 1) := by decide +kernel
theorem dX3_addMarble_12 : decode cX3_addMarble 12 = .ok (.getfield 11, 3) := by decide +kernel
theorem dX3_addMarble_15 : decode cX3_addMarble 15 = .ok (.arraylength, 1) := by decide +kernel
theorem dX3_addMarble_16 : decode cX3_addMarble 16 = .ok (.if_icmp .lt 7, 3) := by decide +kernel
theorem dX3_addMarble_19 : decode cX3_addMarble 19 = .ok (.sipush (-1004), 3) := by decide +kernel
theorem dX3_addMarble_22 : decode cX3_addMarble 22 = .ok (.ireturn, 1) := by decide +kernel
theorem dX3_addMarble_23 : decode cX3_addMarble 23 = .ok (.aload_n 0, 1) := by decide +kernel
theorem dX3_addMarble_24 : decode cX3_addMarble 24 = .ok (.getfield 11, 3) := by decide +kernel
theorem dX3_addMarble_27 : decode cX3_addMarble 27 = .ok (.aload_n 0, 1) := by decide +kernel
theorem dX3_addMarble_28 : decode cX3_addMarble 28 = .ok (.getfield 34, 3) := by decide +kernel
theorem dX3_addMarble_31 : decode cX3_addMarble 31 = .ok (.aaload, 1) := by decide +kernel
theorem dX3_addMarble_32 : decode cX3_addMarble 32 = .ok (.astore 5, 2) := by decide +kernel
theorem dX3_addMarble_34 : decode cX3_addMarble 34 = .ok (.aload 5, 2) := by decide +kernel
theorem dX3_addMarble_36 : decode cX3_addMarble 36 = .ok (.ifnonnull 7, 3) := by decide +kernel
theorem dX3_addMarble_39 : decode cX3_addMarble 39 = .ok (.sipush (-1004), 3) := by decide +kernel
theorem dX3_addMarble_42 : decode cX3_addMarble 42 = .ok (.ireturn, 1) := by decide +kernel
theorem dX3_addMarble_43 : decode cX3_addMarble 43 = .ok (.aload 5, 2) := by decide +kernel
theorem dX3_addMarble_45 : decode cX3_addMarble 45 = .ok (.iload_n 1, 1) := by decide +kernel
theorem dX3_addMarble_46 : decode cX3_addMarble 46 = .ok (.putfield 81, 3) := by decide +kernel
theorem dX3_addMarble_49 : decode cX3_addMarble 49 = .ok (.aload 5, 2) := by decide +kernel
theorem dX3_addMarble_51 : decode cX3_addMarble 51 = .ok (.iload_n 2, 1) := by decide +kernel
theorem dX3_addMarble_52 : decode cX3_addMarble 52 = .ok (.putfield 84, 3) := by decide +kernel
theorem dX3_addMarble_55 : decode cX3_addMarble 55 = .ok (.aload 5, 2) := by decide +kernel
theorem dX3_addMarble_57 : decode cX3_addMarble 57 = .ok (.iload_n 3, 1) := by decide +kernel
theorem dX3_addMarble_58 : decode cX3_addMarble 58 = .ok (.putfield 87, 3) := by decide +kernel
theorem dX3_addMarble_61 : decode cX3_addMarble 61 = .ok (.aload 5, 2) := by decide +kernel
theorem dX3_addMarble_63 : decode cX3_addMarble 63 = .ok (.iload 4, 2) := by decide +kernel
theorem dX3_addMarble_65 : decode cX3_addMarble 65 = .ok (.putfield 90, 3) := by decide +kernel
theorem dX3_addMarble_68 : decode cX3_addMarble 68 = .ok (.aload 5, 2) := by decide +kernel
theorem dX3_addMarble_70 : decode cX3_addMarble 70 = .ok (.iconst (-1), 1) := by decide +kernel
theorem dX3_addMarble_71 : decode cX3_addMarble 71 = .ok (.putfield 63, 3) := by decide +kernel
theorem dX3_addMarble_74 : decode cX3_addMarble 74 = .ok (.aload 5, 2) := by decide +kernel
theorem dX3_addMarble_76 : decode cX3_addMarble 76 = .ok (.iconst 1, 1) := by decide +kernel
theorem dX3_addMarble_77 : decode cX3_addMarble 77 = .ok (.putfield 59, 3) := by decide +kernel
theorem dX3_addMarble_80 : decode cX3_addMarble 80 = .ok (.aload_n 0, 1) := by decide +kernel
theorem dX3_addMarble_81 : decode cX3_addMarble 81 = .ok (.dup, 1) := by decide +kernel
theorem dX3_addMarble_82 : decode cX3_addMarble 82 = .ok (.getfield 34, 3) := by decide +kernel
theorem dX3_addMarble_85 : decode cX3_addMarble 85 = .ok (.iconst 1, 1) := by decide +kernel
theorem dX3_addMarble_86 : decode cX3_addMarble 86 = .ok (.iadd, 1) := by decide +kernel
theorem dX3_addMarble_87 : decode cX3_addMarble 87 = .ok (.putfield 34, 3) := by decide +kernel
theorem dX3_addMarble_90 : decode cX3_addMarble 90 = .ok (.aload 5, 2) := by decide +kernel
theorem dX3_addMarble_92 : decode cX3_addMarble 92 = .ok (.getfield 93, 3) := by decide +kernel
theorem dX3_addMarble_95 : decode cX3_addMarble 95 = .ok (.ireturn, 1) := by decide +kernel
theorem dX3_refusalOfRing_0 : decode cX3_refusalOfRing 0 = .ok (.iload_n 1, 1) := by decide +kernel
theorem dX3_refusalOfRing_1 : decode cX3_refusalOfRing 1 = .ok (.iload_n 2, 1) := by decide +kernel
theorem dX3_refusalOfRing_2 : decode cX3_refusalOfRing 2 = .ok (.invokestatic 69, 3) := by decide +kernel
theorem dX3_refusalOfRing_5 : decode cX3_refusalOfRing 5 = .ok (.ifCond .ne 7, 3) := by decide +kernel
theorem dX3_refusalOfRing_8 : decode cX3_refusalOfRing 8 = .ok (.sipush (-1001), 3) := by decide +kernel
theorem dX3_refusalOfRing_11 : decode cX3_refusalOfRing 11 = .ok (.ireturn, 1) := by decide +kernel
theorem dX3_refusalOfRing_12 : decode cX3_refusalOfRing 12 = .ok (.iload_n 3, 1) := by decide +kernel
theorem dX3_refusalOfRing_13 : decode cX3_refusalOfRing 13 = .ok (.iconst 1, 1) := by decide +kernel
theorem dX3_refusalOfRing_14 : decode cX3_refusalOfRing 14 = .ok (.if_icmp .lt 9, 3) := by decide +kernel
theorem dX3_refusalOfRing_17 : decode cX3_refusalOfRing 17 = .ok (.iload_n 3, 1) := by decide +kernel
theorem dX3_refusalOfRing_18 : decode cX3_refusalOfRing 18 = .ok (.bipush 15, 2) := by decide +kernel
theorem dX3_refusalOfRing_20 : decode cX3_refusalOfRing 20 = .ok (.if_icmp .le 7, 3) := by decide +kernel
theorem dX3_refusalOfRing_23 : decode cX3_refusalOfRing 23 = .ok (.sipush (-1002), 3) := by decide +kernel
theorem dX3_refusalOfRing_26 : decode cX3_refusalOfRing 26 = .ok (.ireturn, 1) := by decide +kernel
theorem dX3_refusalOfRing_27 : decode cX3_refusalOfRing 27 = .ok (.aload_n 0, 1) := by decide +kernel
theorem dX3_refusalOfRing_28 : decode cX3_refusalOfRing 28 = .ok (.getfield 38, 3) := by decide +kernel
theorem dX3_refusalOfRing_31 : decode cX3_refusalOfRing 31 = .ok (.iconst 4, 1) := by decide +kernel
theorem dX3_refusalOfRing_32 : decode cX3_refusalOfRing 32 = .ok (.if_icmp .lt 9, 3) := by decide +kernel
theorem dX3_refusalOfRing_35 : decode cX3_refusalOfRing 35 = .ok (.sipush (-1004), 3) := by decide +kernel
theorem dX3_refusalOfRing_38 : decode cX3_refusalOfRing 38 = .ok (.goto 4, 3) := by decide +kernel
theorem dX3_refusalOfRing_41 : decode cX3_refusalOfRing 41 = .ok (.iconst 0, 1) := by decide +kernel
theorem dX3_refusalOfRing_42 : decode cX3_refusalOfRing 42 = .ok (.ireturn, 1) := by decide +kernel
theorem dX3_addRing_0 : decode cX3_addRing 0 = .ok (.aload_n 0, 1) := by decide +kernel
theorem dX3_addRing_1 : decode cX3_addRing 1 = .ok (.getfield 38, 3) := by decide +kernel
theorem dX3_addRing_4 : decode cX3_addRing 4 = .ok (.ifCond .lt 15, 3) := by decide +kernel
theorem dX3_addRing_7 : decode cX3_addRing 7 = .ok (.aload_n 0, 1) := by decide +kernel
theorem dX3_addRing_8 : decode cX3_addRing 8 = .ok (.getfield 38, 3) := by decide +kernel
theorem dX3_addRing_11 : decode cX3_addRing 11 = .ok (.aload_n 0, 1) := by decide +kernel
theorem dX3_addRing_12 : decode cX3_addRing 12 = .ok (.getfield 22, 3) := by decide +kernel
theorem dX3_addRing_15 : decode cX3_addRing 15 = .ok (.arraylength, 1) := by decide +kernel
theorem dX3_addRing_16 : decode cX3_addRing 16 = .ok (.if_icmp .lt 7, 3) := by decide +kernel
theorem dX3_addRing_19 : decode cX3_addRing 19 = .ok (.sipush (-1004), 3) := by decide +kernel
theorem dX3_addRing_22 : decode cX3_addRing 22 = .ok (.ireturn, 1) := by decide +kernel
theorem dX3_addRing_23 : decode cX3_addRing 23 = .ok (.aload_n 0, 1) := by decide +kernel
theorem dX3_addRing_24 : decode cX3_addRing 24 = .ok (.getfield 22, 3) := by decide +kernel
theorem dX3_addRing_27 : decode cX3_addRing 27 = .ok (.aload_n 0, 1) := by decide +kernel
theorem dX3_addRing_28 : decode cX3_addRing 28 = .ok (.getfield 38, 3) := by decide +kernel
theorem dX3_addRing_31 : decode cX3_addRing 31 = .ok (.aaload, 1) := by decide +kernel
theorem dX3_addRing_32 : decode cX3_addRing 32 = .ok (.astore 4, 2) := by decide +kernel
theorem dX3_addRing_34 : decode cX3_addRing 34 = .ok (.aload 4, 2) := by decide +kernel
theorem dX3_addRing_36 : decode cX3_addRing 36 = .ok (.ifnonnull 7, 3) := by decide +kernel
theorem dX3_addRing_39 : decode cX3_addRing 39 = .ok (.sipush (-1004), 3) := by decide +kernel
theorem dX3_addRing_42 : decode cX3_addRing 42 = .ok (.ireturn, 1) := by decide +kernel
theorem dX3_addRing_43 : decode cX3_addRing 43 = .ok (.aload 4, 2) := by decide +kernel
theorem dX3_addRing_45 : decode cX3_addRing 45 = .ok (.iload_n 1, 1) := by decide +kernel
theorem dX3_addRing_46 : decode cX3_addRing 46 = .ok (.putfield 96, 3) := by decide +kernel
theorem dX3_addRing_49 : decode cX3_addRing 49 = .ok (.aload 4, 2) := by decide +kernel
theorem dX3_addRing_51 : decode cX3_addRing 51 = .ok (.iload_n 2, 1) := by decide +kernel
theorem dX3_addRing_52 : decode cX3_addRing 52 = .ok (.putfield 97, 3) := by decide +kernel
theorem dX3_addRing_55 : decode cX3_addRing 55 = .ok (.aload 4, 2) := by decide +kernel
theorem dX3_addRing_57 : decode cX3_addRing 57 = .ok (.iload_n 3, 1) := by decide +kernel
theorem dX3_addRing_58 : decode cX3_addRing 58 = .ok (.putfield 66, 3) := by decide +kernel
theorem dX3_addRing_61 : decode cX3_addRing 61 = .ok (.aload_n 0, 1) := by decide +kernel
theorem dX3_addRing_62 : decode cX3_addRing 62 = .ok (.dup, 1) := by decide +kernel
theorem dX3_addRing_63 : decode cX3_addRing 63 = .ok (.getfield 38, 3) := by decide +kernel
theorem dX3_addRing_66 : decode cX3_addRing 66 = .ok (.iconst 1, 1) := by decide +kernel
theorem dX3_addRing_67 : decode cX3_addRing 67 = .ok (.iadd, 1) := by decide +kernel
theorem dX3_addRing_68 : decode cX3_addRing 68 = .ok (.putfield 38, 3) := by decide +kernel
theorem dX3_addRing_71 : decode cX3_addRing 71 = .ok (.aload_n 0, 1) := by decide +kernel
theorem dX3_addRing_72 : decode cX3_addRing 72 = .ok (.getfield 38, 3) := by decide +kernel
theorem dX3_addRing_75 : decode cX3_addRing 75 = .ok (.iconst 1, 1) := by decide +kernel
theorem dX3_addRing_76 : decode cX3_addRing 76 = .ok (.isub, 1) := by decide +kernel
theorem dX3_addRing_77 : decode cX3_addRing 77 = .ok (.ireturn, 1) := by decide +kernel
theorem dX3_nextPlayer_0 : decode cX3_nextPlayer 0 = .ok (.aload_n 0, 1) := by decide +kernel
theorem dX3_nextPlayer_1 : decode cX3_nextPlayer 1 = .ok (.aload_n 0, 1) := by decide +kernel
theorem dX3_nextPlayer_2 : decode cX3_nextPlayer 2 = .ok (.getfield 41, 3) := by decide +kernel
theorem dX3_nextPlayer_5 : decode cX3_nextPlayer 5 = .ok (.iconst 2, 1) := by decide +kernel
theorem dX3_nextPlayer_6 : decode cX3_nextPlayer 6 = .ok (.if_icmp .ge 12, 3) := by decide +kernel
theorem dX3_nextPlayer_9 : decode cX3_nextPlayer 9 = .ok (.aload_n 0, 1) := by decide +kernel
theorem dX3_nextPlayer_10 : decode cX3_nextPlayer 10 = .ok (.getfield 41, 3) := by decide +kernel
theorem dX3_nextPlayer_13 : decode cX3_nextPlayer 13 = .ok (.iconst 1, 1) := by decide +kernel
theorem dX3_nextPlayer_14 : decode cX3_nextPlayer 14 = .ok (.iadd, 1) := by decide +kernel
theorem dX3_nextPlayer_15 : decode cX3_nextPlayer 15 = .ok (.goto 4, 3) := by decide +kernel
theorem dX3_nextPlayer_18 : decode cX3_nextPlayer 18 = .ok (.iconst 0, 1) := by decide +kernel
theorem dX3_nextPlayer_19 : decode cX3_nextPlayer 19 = .ok (.putfield 41, 3) := by decide +kernel
theorem dX3_nextPlayer_22 : decode cX3_nextPlayer 22 = .ok (.return_, 1) := by decide +kernel
theorem dX3_marbleOn_0 : decode cX3_marbleOn 0 = .ok (.aload_n 0, 1) := by decide +kernel
theorem dX3_marbleOn_1 : decode cX3_marbleOn 1 = .ok (.getfield 11, 3) := by decide +kernel
theorem dX3_marbleOn_4 : decode cX3_marbleOn 4 = .ok (.astore_n 3, 1) := by decide +kernel
theorem dX3_marbleOn_5 : decode cX3_marbleOn 5 = .ok (.aload_n 3, 1) := by decide +kernel
theorem dX3_marbleOn_6 : decode cX3_marbleOn 6 = .ok (.arraylength, 1) := by decide +kernel
theorem dX3_marbleOn_7 : decode cX3_marbleOn 7 = .ok (.istore 4, 2) := by decide +kernel
theorem dX3_marbleOn_9 : decode cX3_marbleOn 9 = .ok (.iconst 0, 1) := by decide +kernel
theorem dX3_marbleOn_10 : decode cX3_marbleOn 10 = .ok (.istore 5, 2) := by decide +kernel
theorem dX3_marbleOn_12 : decode cX3_marbleOn 12 = .ok (.iload 5, 2) := by decide +kernel
theorem dX3_marbleOn_14 : decode cX3_marbleOn 14 = .ok (.iload 4, 2) := by decide +kernel
theorem dX3_marbleOn_16 : decode cX3_marbleOn 16 = .ok (.if_icmp .ge 49, 3) := by decide +kernel
theorem dX3_marbleOn_19 : decode cX3_marbleOn 19 = .ok (.aload_n 3, 1) := by decide +kernel
theorem dX3_marbleOn_20 : decode cX3_marbleOn 20 = .ok (.iload 5, 2) := by decide +kernel
theorem dX3_marbleOn_22 : decode cX3_marbleOn 22 = .ok (.aaload, 1) := by decide +kernel
theorem dX3_marbleOn_23 : decode cX3_marbleOn 23 = .ok (.astore 6, 2) := by decide +kernel
theorem dX3_marbleOn_25 : decode cX3_marbleOn 25 = .ok (.aload 6, 2) := by decide +kernel
theorem dX3_marbleOn_27 : decode cX3_marbleOn 27 = .ok (.ifnull 32, 3) := by decide +kernel
theorem dX3_marbleOn_30 : decode cX3_marbleOn 30 = .ok (.aload 6, 2) := by decide +kernel
theorem dX3_marbleOn_32 : decode cX3_marbleOn 32 = .ok (.getfield 59, 3) := by decide +kernel
theorem dX3_marbleOn_35 : decode cX3_marbleOn 35 = .ok (.ifCond .eq 24, 3) := by decide +kernel
theorem dX3_marbleOn_38 : decode cX3_marbleOn 38 = .ok (.aload 6, 2) := by decide +kernel
theorem dX3_marbleOn_40 : decode cX3_marbleOn 40 = .ok (.getfield 81, 3) := by decide +kernel
theorem dX3_marbleOn_43 : decode cX3_marbleOn 43 = .ok (.iload_n 1, 1) := by decide +kernel
theorem dX3_marbleOn_44 : decode cX3_marbleOn 44 = .ok (.if_icmp .ne 15, 3) := by decide +kernel
theorem dX3_marbleOn_47 : decode cX3_marbleOn 47 = .ok (.aload 6, 2) := by decide +kernel
theorem dX3_marbleOn_49 : decode cX3_marbleOn 49 = .ok (.getfield 84, 3) := by decide +kernel
theorem dX3_marbleOn_52 : decode cX3_marbleOn 52 = .ok (.iload_n 2, 1) := by decide +kernel
theorem dX3_marbleOn_53 : decode cX3_marbleOn 53 = .ok (.if_icmp .ne 6, 3) := by decide +kernel
theorem dX3_marbleOn_56 : decode cX3_marbleOn 56 = .ok (.aload 6, 2) := by decide +kernel
theorem dX3_marbleOn_58 : decode cX3_marbleOn 58 = .ok (.areturn, 1) := by decide +kernel
theorem dX3_marbleOn_59 : decode cX3_marbleOn 59 = .ok (.iinc 5 1, 3) := by decide +kernel
theorem dX3_marbleOn_62 : decode cX3_marbleOn 62 = .ok (.goto (-50), 3) := by decide +kernel
theorem dX3_marbleOn_65 : decode cX3_marbleOn 65 = .ok (.aconst_null, 1) := by decide +kernel
theorem dX3_marbleOn_66 : decode cX3_marbleOn 66 = .ok (.areturn, 1) := by decide +kernel
theorem dX3_ringsAround_0 : decode cX3_ringsAround 0 = .ok (.iconst 0, 1) := by decide +kernel
theorem dX3_ringsAround_1 : decode cX3_ringsAround 1 = .ok (.istore_n 3, 1) := by decide +kernel
theorem dX3_ringsAround_2 : decode cX3_ringsAround 2 = .ok (.iconst 0, 1) := by decide +kernel
theorem dX3_ringsAround_3 : decode cX3_ringsAround 3 = .ok (.istore 4, 2) := by decide +kernel
theorem dX3_ringsAround_5 : decode cX3_ringsAround 5 = .ok (.iload 4, 2) := by decide +kernel
theorem dX3_ringsAround_7 : decode cX3_ringsAround 7 = .ok (.aload_n 0, 1) := by decide +kernel
theorem dX3_ringsAround_8 : decode cX3_ringsAround 8 = .ok (.getfield 22, 3) := by decide +kernel
theorem dX3_ringsAround_11 : decode cX3_ringsAround 11 = .ok (.arraylength, 1) := by decide +kernel
theorem dX3_ringsAround_12 : decode cX3_ringsAround 12 = .ok (.if_icmp .ge 40, 3) := by decide +kernel
theorem dX3_ringsAround_15 : decode cX3_ringsAround 15 = .ok (.aload_n 0, 1) := by decide +kernel
theorem dX3_ringsAround_16 : decode cX3_ringsAround 16 = .ok (.getfield 22, 3) := by decide +kernel
theorem dX3_ringsAround_19 : decode cX3_ringsAround 19 = .ok (.iload 4, 2) := by decide +kernel
theorem dX3_ringsAround_21 : decode cX3_ringsAround 21 = .ok (.aaload, 1) := by decide +kernel
theorem dX3_ringsAround_22 : decode cX3_ringsAround 22 = .ok (.astore 5, 2) := by decide +kernel
theorem dX3_ringsAround_24 : decode cX3_ringsAround 24 = .ok (.aload 5, 2) := by decide +kernel
theorem dX3_ringsAround_26 : decode cX3_ringsAround 26 = .ok (.ifnull 20, 3) := by decide +kernel
theorem dX3_ringsAround_29 : decode cX3_ringsAround 29 = .ok (.aload 5, 2) := by decide +kernel
theorem dX3_ringsAround_31 : decode cX3_ringsAround 31 = .ok (.iload_n 1, 1) := by decide +kernel
theorem dX3_ringsAround_32 : decode cX3_ringsAround 32 = .ok (.iload_n 2, 1) := by decide +kernel
theorem dX3_ringsAround_33 : decode cX3_ringsAround 33 = .ok (.invokevirtual 98, 3) := by decide +kernel
theorem dX3_ringsAround_36 : decode cX3_ringsAround 36 = .ok (.ifCond .eq 10, 3) := by decide +kernel
theorem dX3_ringsAround_39 : decode cX3_ringsAround 39 = .ok (.iload_n 3, 1) := by decide +kernel
theorem dX3_ringsAround_40 : decode cX3_ringsAround 40 = .ok (.iconst 1, 1) := by decide +kernel
theorem dX3_ringsAround_41 : decode cX3_ringsAround 41 = .ok (.iload 4, 2) := by decide +kernel
theorem dX3_ringsAround_43 : decode cX3_ringsAround 43 = .ok (.ishl, 1) := by decide +kernel
theorem dX3_ringsAround_44 : decode cX3_ringsAround 44 = .ok (.ior, 1) := by decide +kernel
theorem dX3_ringsAround_45 : decode cX3_ringsAround 45 = .ok (.istore_n 3, 1) := by decide +kernel
theorem dX3_ringsAround_46 : decode cX3_ringsAround 46 = .ok (.iinc 4 1, 3) := by decide +kernel
theorem dX3_ringsAround_49 : decode cX3_ringsAround 49 = .ok (.goto (-44), 3) := by decide +kernel
theorem dX3_ringsAround_52 : decode cX3_ringsAround 52 = .ok (.iload_n 3, 1) := by decide +kernel
theorem dX3_ringsAround_53 : decode cX3_ringsAround 53 = .ok (.ireturn, 1) := by decide +kernel
theorem dX3_marblesIn_0 : decode cX3_marblesIn 0 = .ok (.iconst 0, 1) := by decide +kernel
theorem dX3_marblesIn_1 : decode cX3_marblesIn 1 = .ok (.istore_n 2, 1) := by decide +kernel
theorem dX3_marblesIn_2 : decode cX3_marblesIn 2 = .ok (.aload_n 0, 1) := by decide +kernel
theorem dX3_marblesIn_3 : decode cX3_marblesIn 3 = .ok (.getfield 11, 3) := by decide +kernel
theorem dX3_marblesIn_6 : decode cX3_marblesIn 6 = .ok (.astore_n 3, 1) := by decide +kernel
theorem dX3_marblesIn_7 : decode cX3_marblesIn 7 = .ok (.aload_n 3, 1) := by decide +kernel
theorem dX3_marblesIn_8 : decode cX3_marblesIn 8 = .ok (.arraylength, 1) := by decide +kernel
theorem dX3_marblesIn_9 : decode cX3_marblesIn 9 = .ok (.istore 4, 2) := by decide +kernel
theorem dX3_marblesIn_11 : decode cX3_marblesIn 11 = .ok (.iconst 0, 1) := by decide +kernel
theorem dX3_marblesIn_12 : decode cX3_marblesIn 12 = .ok (.istore 5, 2) := by decide +kernel
theorem dX3_marblesIn_14 : decode cX3_marblesIn 14 = .ok (.iload 5, 2) := by decide +kernel
theorem dX3_marblesIn_16 : decode cX3_marblesIn 16 = .ok (.iload 4, 2) := by decide +kernel
theorem dX3_marblesIn_18 : decode cX3_marblesIn 18 = .ok (.if_icmp .ge 55, 3) := by decide +kernel
theorem dX3_marblesIn_21 : decode cX3_marblesIn 21 = .ok (.aload_n 3, 1) := by decide +kernel
theorem dX3_marblesIn_22 : decode cX3_marblesIn 22 = .ok (.iload 5, 2) := by decide +kernel
theorem dX3_marblesIn_24 : decode cX3_marblesIn 24 = .ok (.aaload, 1) := by decide +kernel
theorem dX3_marblesIn_25 : decode cX3_marblesIn 25 = .ok (.astore 6, 2) := by decide +kernel
theorem dX3_marblesIn_27 : decode cX3_marblesIn 27 = .ok (.aload 6, 2) := by decide +kernel
theorem dX3_marblesIn_29 : decode cX3_marblesIn 29 = .ok (.ifnull 38, 3) := by decide +kernel
theorem dX3_marblesIn_32 : decode cX3_marblesIn 32 = .ok (.aload 6, 2) := by decide +kernel
theorem dX3_marblesIn_34 : decode cX3_marblesIn 34 = .ok (.getfield 59, 3) := by decide +kernel
theorem dX3_marblesIn_37 : decode cX3_marblesIn 37 = .ok (.ifCond .eq 30, 3) := by decide +kernel
theorem dX3_marblesIn_40 : decode cX3_marblesIn 40 = .ok (.aload_n 1, 1) := by decide +kernel
theorem dX3_marblesIn_41 : decode cX3_marblesIn 41 = .ok (.aload 6, 2) := by decide +kernel
theorem dX3_marblesIn_43 : decode cX3_marblesIn 43 = .ok (.getfield 81, 3) := by decide +kernel
theorem dX3_marblesIn_46 : decode cX3_marblesIn 46 = .ok (.aload 6, 2) := by decide +kernel
theorem dX3_marblesIn_48 : decode cX3_marblesIn 48 = .ok (.getfield 84, 3) := by decide +kernel
theorem dX3_marblesIn_51 : decode cX3_marblesIn 51 = .ok (.invokevirtual 98, 3) := by decide +kernel
theorem dX3_marblesIn_54 : decode cX3_marblesIn 54 = .ok (.ifCond .eq 13, 3) := by decide +kernel
theorem dX3_marblesIn_57 : decode cX3_marblesIn 57 = .ok (.iload_n 2, 1) := by decide +kernel
theorem dX3_marblesIn_58 : decode cX3_marblesIn 58 = .ok (.iconst 1, 1) := by decide +kernel
theorem dX3_marblesIn_59 : decode cX3_marblesIn 59 = .ok (.aload 6, 2) := by decide +kernel
theorem dX3_marblesIn_61 : decode cX3_marblesIn 61 = .ok (.getfield 93, 3) := by decide +kernel
theorem dX3_marblesIn_64 : decode cX3_marblesIn 64 = .ok (.ishl, 1) := by decide +kernel
theorem dX3_marblesIn_65 : decode cX3_marblesIn 65 = .ok (.ior, 1) := by decide +kernel
theorem dX3_marblesIn_66 : decode cX3_marblesIn 66 = .ok (.istore_n 2, 1) := by decide +kernel
theorem dX3_marblesIn_67 : decode cX3_marblesIn 67 = .ok (.iinc 5 1, 3) := by decide +kernel
theorem dX3_marblesIn_70 : decode cX3_marblesIn 70 = .ok (.goto (-56), 3) := by decide +kernel
theorem dX3_marblesIn_73 : decode cX3_marblesIn 73 = .ok (.iload_n 2, 1) := by decide +kernel
theorem dX3_marblesIn_74 : decode cX3_marblesIn 74 = .ok (.ireturn, 1) := by decide +kernel
theorem dX3_pointsOf_0 : decode cX3_pointsOf 0 = .ok (.iconst 0, 1) := by decide +kernel
theorem dX3_pointsOf_1 : decode cX3_pointsOf 1 = .ok (.istore_n 2, 1) := by decide +kernel
theorem dX3_pointsOf_2 : decode cX3_pointsOf 2 = .ok (.aload_n 0, 1) := by decide +kernel
theorem dX3_pointsOf_3 : decode cX3_pointsOf 3 = .ok (.getfield 11, 3) := by decide +kernel
theorem dX3_pointsOf_6 : decode cX3_pointsOf 6 = .ok (.astore_n 3, 1) := by decide +kernel
theorem dX3_pointsOf_7 : decode cX3_pointsOf 7 = .ok (.aload_n 3, 1) := by decide +kernel
theorem dX3_pointsOf_8 : decode cX3_pointsOf 8 = .ok (.arraylength, 1) := by decide +kernel
theorem dX3_pointsOf_9 : decode cX3_pointsOf 9 = .ok (.istore 4, 2) := by decide +kernel
theorem dX3_pointsOf_11 : decode cX3_pointsOf 11 = .ok (.iconst 0, 1) := by decide +kernel
theorem dX3_pointsOf_12 : decode cX3_pointsOf 12 = .ok (.istore 5, 2) := by decide +kernel
theorem dX3_pointsOf_14 : decode cX3_pointsOf 14 = .ok (.iload 5, 2) := by decide +kernel
theorem dX3_pointsOf_16 : decode cX3_pointsOf 16 = .ok (.iload 4, 2) := by decide +kernel
theorem dX3_pointsOf_18 : decode cX3_pointsOf 18 = .ok (.if_icmp .ge 69, 3) := by decide +kernel
theorem dX3_pointsOf_21 : decode cX3_pointsOf 21 = .ok (.aload_n 3, 1) := by decide +kernel
theorem dX3_pointsOf_22 : decode cX3_pointsOf 22 = .ok (.iload 5, 2) := by decide +kernel
theorem dX3_pointsOf_24 : decode cX3_pointsOf 24 = .ok (.aaload, 1) := by decide +kernel
theorem dX3_pointsOf_25 : decode cX3_pointsOf 25 = .ok (.astore 6, 2) := by decide +kernel
theorem dX3_pointsOf_27 : decode cX3_pointsOf 27 = .ok (.aload 6, 2) := by decide +kernel
theorem dX3_pointsOf_29 : decode cX3_pointsOf 29 = .ok (.ifnull 52, 3) := by decide +kernel
theorem dX3_pointsOf_32 : decode cX3_pointsOf 32 = .ok (.aload 6, 2) := by decide +kernel
theorem dX3_pointsOf_34 : decode cX3_pointsOf 34 = .ok (.getfield 63, 3) := by decide +kernel
theorem dX3_pointsOf_37 : decode cX3_pointsOf 37 = .ok (.iconst (-1), 1) := by decide +kernel
theorem dX3_pointsOf_38 : decode cX3_pointsOf 38 = .ok (.if_icmp .ne 6, 3) := by decide +kernel
theorem dX3_pointsOf_41 : decode cX3_pointsOf 41 = .ok (.goto 40, 3) := by decide +kernel
theorem dX3_pointsOf_44 : decode cX3_pointsOf 44 = .ok (.aload 6, 2) := by decide +kernel
theorem dX3_pointsOf_46 : decode cX3_pointsOf 46 = .ok (.getfield 63, 3) := by decide +kernel
theorem dX3_pointsOf_49 : decode cX3_pointsOf 49 = .ok (.iload_n 1, 1) := by decide +kernel
theorem dX3_pointsOf_50 : decode cX3_pointsOf 50 = .ok (.if_icmp .ne 14, 3) := by decide +kernel
theorem dX3_pointsOf_53 : decode cX3_pointsOf 53 = .ok (.iload_n 2, 1) := by decide +kernel
theorem dX3_pointsOf_54 : decode cX3_pointsOf 54 = .ok (.aload 6, 2) := by decide +kernel
theorem dX3_pointsOf_56 : decode cX3_pointsOf 56 = .ok (.getfield 87, 3) := by decide +kernel
theorem dX3_pointsOf_59 : decode cX3_pointsOf 59 = .ok (.iadd, 1) := by decide +kernel
theorem dX3_pointsOf_60 : decode cX3_pointsOf 60 = .ok (.istore_n 2, 1) := by decide +kernel
theorem dX3_pointsOf_61 : decode cX3_pointsOf 61 = .ok (.goto 20, 3) := by decide +kernel
theorem dX3_pointsOf_64 : decode cX3_pointsOf 64 = .ok (.aload 6, 2) := by decide +kernel
theorem dX3_pointsOf_66 : decode cX3_pointsOf 66 = .ok (.getfield 90, 3) := by decide +kernel
theorem dX3_pointsOf_69 : decode cX3_pointsOf 69 = .ok (.iload_n 1, 1) := by decide +kernel
theorem dX3_pointsOf_70 : decode cX3_pointsOf 70 = .ok (.if_icmp .ne 11, 3) := by decide +kernel
theorem dX3_pointsOf_73 : decode cX3_pointsOf 73 = .ok (.iload_n 2, 1) := by decide +kernel
theorem dX3_pointsOf_74 : decode cX3_pointsOf 74 = .ok (.aload 6, 2) := by decide +kernel
theorem dX3_pointsOf_76 : decode cX3_pointsOf 76 = .ok (.getfield 87, 3) := by decide +kernel
theorem dX3_pointsOf_79 : decode cX3_pointsOf 79 = .ok (.isub, 1) := by decide +kernel
theorem dX3_pointsOf_80 : decode cX3_pointsOf 80 = .ok (.istore_n 2, 1) := by decide +kernel
theorem dX3_pointsOf_81 : decode cX3_pointsOf 81 = .ok (.iinc 5 1, 3) := by decide +kernel
theorem dX3_pointsOf_84 : decode cX3_pointsOf 84 = .ok (.goto (-70), 3) := by decide +kernel
theorem dX3_pointsOf_87 : decode cX3_pointsOf 87 = .ok (.iload_n 2, 1) := by decide +kernel
theorem dX3_pointsOf_88 : decode cX3_pointsOf 88 = .ok (.ireturn, 1) := by decide +kernel
theorem dX3_isOutAfter_0 : decode cX3_isOutAfter 0 = .ok (.iconst 0, 1) := by decide +kernel
theorem dX3_isOutAfter_1 : decode cX3_isOutAfter 1 = .ok (.istore_n 3, 1) := by decide +kernel
theorem dX3_isOutAfter_2 : decode cX3_isOutAfter 2 = .ok (.iload_n 3, 1) := by decide +kernel
theorem dX3_isOutAfter_3 : decode cX3_isOutAfter 3 = .ok (.getstatic 101, 3) := by decide +kernel
theorem dX3_isOutAfter_6 : decode cX3_isOutAfter 6 = .ok (.arraylength, 1) := by decide +kernel
theorem dX3_isOutAfter_7 : decode cX3_isOutAfter 7 = .ok (.if_icmp .ge 58, 3) := by decide +kernel
theorem dX3_isOutAfter_10 : decode cX3_isOutAfter 10 = .ok (.aload_n 1, 1) := by decide +kernel
theorem dX3_isOutAfter_11 : decode cX3_isOutAfter 11 = .ok (.getfield 81, 3) := by decide +kernel
theorem dX3_isOutAfter_14 : decode cX3_isOutAfter 14 = .ok (.iload_n 2, 1) := by decide +kernel
theorem dX3_isOutAfter_15 : decode cX3_isOutAfter 15 = .ok (.iload_n 3, 1) := by decide +kernel
theorem dX3_isOutAfter_16 : decode cX3_isOutAfter 16 = .ok (.invokestatic 105, 3) := by decide +kernel
theorem dX3_isOutAfter_19 : decode cX3_isOutAfter 19 = .ok (.imul, 1) := by decide +kernel
theorem dX3_isOutAfter_20 : decode cX3_isOutAfter 20 = .ok (.iadd, 1) := by decide +kernel
theorem dX3_isOutAfter_21 : decode cX3_isOutAfter 21 = .ok (.istore 4, 2) := by decide +kernel
theorem dX3_isOutAfter_23 : decode cX3_isOutAfter 23 = .ok (.aload_n 1, 1) := by decide +kernel
theorem dX3_isOutAfter_24 : decode cX3_isOutAfter 24 = .ok (.getfield 84, 3) := by decide +kernel
theorem dX3_isOutAfter_27 : decode cX3_isOutAfter 27 = .ok (.iload_n 2, 1) := by decide +kernel
theorem dX3_isOutAfter_28 : decode cX3_isOutAfter 28 = .ok (.iload_n 3, 1) := by decide +kernel
theorem dX3_isOutAfter_29 : decode cX3_isOutAfter 29 = .ok (.invokestatic 109, 3) := by decide +kernel
theorem dX3_isOutAfter_32 : decode cX3_isOutAfter 32 = .ok (.imul, 1) := by decide +kernel
theorem dX3_isOutAfter_33 : decode cX3_isOutAfter 33 = .ok (.iadd, 1) := by decide +kernel
theorem dX3_isOutAfter_34 : decode cX3_isOutAfter 34 = .ok (.istore 5, 2) := by decide +kernel
theorem dX3_isOutAfter_36 : decode cX3_isOutAfter 36 = .ok (.iload 4, 2) := by decide +kernel
theorem dX3_isOutAfter_38 : decode cX3_isOutAfter 38 = .ok (.iload 5, 2) := by decide +kernel
theorem dX3_isOutAfter_40 : decode cX3_isOutAfter 40 = .ok (.invokestatic 69, 3) := by decide +kernel
theorem dX3_isOutAfter_43 : decode cX3_isOutAfter 43 = .ok (.ifCond .eq 16, 3) := by decide +kernel
theorem dX3_isOutAfter_46 : decode cX3_isOutAfter 46 = .ok (.aload_n 0, 1) := by decide +kernel
theorem dX3_isOutAfter_47 : decode cX3_isOutAfter 47 = .ok (.iload 4, 2) := by decide +kernel
theorem dX3_isOutAfter_49 : decode cX3_isOutAfter 49 = .ok (.iload 5, 2) := by decide +kernel
theorem dX3_isOutAfter_51 : decode cX3_isOutAfter 51 = .ok (.invokevirtual 112, 3) := by decide +kernel
theorem dX3_isOutAfter_54 : decode cX3_isOutAfter 54 = .ok (.ifCond .ne 5, 3) := by decide +kernel
theorem dX3_isOutAfter_57 : decode cX3_isOutAfter 57 = .ok (.iconst 1, 1) := by decide +kernel
theorem dX3_isOutAfter_58 : decode cX3_isOutAfter 58 = .ok (.ireturn, 1) := by decide +kernel
theorem dX3_isOutAfter_59 : decode cX3_isOutAfter 59 = .ok (.iinc 3 1, 3) := by decide +kernel
theorem dX3_isOutAfter_62 : decode cX3_isOutAfter 62 = .ok (.goto (-60), 3) := by decide +kernel
theorem dX3_isOutAfter_65 : decode cX3_isOutAfter 65 = .ok (.iconst 0, 1) := by decide +kernel
theorem dX3_isOutAfter_66 : decode cX3_isOutAfter 66 = .ok (.ireturn, 1) := by decide +kernel
theorem dX3_markAhead_0 : decode cX3_markAhead 0 = .ok (.aload_n 0, 1) := by decide +kernel
theorem dX3_markAhead_1 : decode cX3_markAhead 1 = .ok (.getfield 11, 3) := by decide +kernel
theorem dX3_markAhead_4 : decode cX3_markAhead 4 = .ok (.astore_n 1, 1) := by decide +kernel
theorem dX3_markAhead_5 : decode cX3_markAhead 5 = .ok (.aload_n 1, 1) := by decide +kernel
theorem dX3_markAhead_6 : decode cX3_markAhead 6 = .ok (.arraylength, 1) := by decide +kernel
theorem dX3_markAhead_7 : decode cX3_markAhead 7 = .ok (.istore_n 2, 1) := by decide +kernel
theorem dX3_markAhead_8 : decode cX3_markAhead 8 = .ok (.iconst 0, 1) := by decide +kernel
theorem dX3_markAhead_9 : decode cX3_markAhead 9 = .ok (.istore_n 3, 1) := by decide +kernel
theorem dX3_markAhead_10 : decode cX3_markAhead 10 = .ok (.iload_n 3, 1) := by decide +kernel
theorem dX3_markAhead_11 : decode cX3_markAhead 11 = .ok (.iload_n 2, 1) := by decide +kernel
theorem dX3_markAhead_12 : decode cX3_markAhead 12 = .ok (.if_icmp .ge 56, 3) := by decide +kernel
theorem dX3_markAhead_15 : decode cX3_markAhead 15 = .ok (.aload_n 1, 1) := by decide +kernel
theorem dX3_markAhead_16 : decode cX3_markAhead 16 = .ok (.iload_n 3, 1) := by decide +kernel
theorem dX3_markAhead_17 : decode cX3_markAhead 17 = .ok (.aaload, 1) := by decide +kernel
theorem dX3_markAhead_18 : decode cX3_markAhead 18 = .ok (.astore 4, 2) := by decide +kernel
theorem dX3_markAhead_20 : decode cX3_markAhead 20 = .ok (.aload 4, 2) := by decide +kernel
theorem dX3_markAhead_22 : decode cX3_markAhead 22 = .ok (.ifnull 40, 3) := by decide +kernel
theorem dX3_markAhead_25 : decode cX3_markAhead 25 = .ok (.aload 4, 2) := by decide +kernel
theorem dX3_markAhead_27 : decode cX3_markAhead 27 = .ok (.aload 4, 2) := by decide +kernel
theorem dX3_markAhead_29 : decode cX3_markAhead 29 = .ok (.getfield 59, 3) := by decide +kernel
theorem dX3_markAhead_32 : decode cX3_markAhead 32 = .ok (.ifCond .eq 20, 3) := by decide +kernel
theorem dX3_markAhead_35 : decode cX3_markAhead 35 = .ok (.aload_n 0, 1) := by decide +kernel
theorem dX3_markAhead_36 : decode cX3_markAhead 36 = .ok (.aload 4, 2) := by decide +kernel
theorem dX3_markAhead_38 : decode cX3_markAhead 38 = .ok (.getfield 81, 3) := by decide +kernel
theorem dX3_markAhead_41 : decode cX3_markAhead 41 = .ok (.aload 4, 2) := by decide +kernel
theorem dX3_markAhead_43 : decode cX3_markAhead 43 = .ok (.getfield 84, 3) := by decide +kernel
theorem dX3_markAhead_46 : decode cX3_markAhead 46 = .ok (.invokevirtual 112, 3) := by decide +kernel
theorem dX3_markAhead_49 : decode cX3_markAhead 49 = .ok (.goto 4, 3) := by decide +kernel
theorem dX3_markAhead_52 : decode cX3_markAhead 52 = .ok (.iconst 0, 1) := by decide +kernel
theorem dX3_markAhead_53 : decode cX3_markAhead 53 = .ok (.putfield 116, 3) := by decide +kernel
theorem dX3_markAhead_56 : decode cX3_markAhead 56 = .ok (.aload 4, 2) := by decide +kernel
theorem dX3_markAhead_58 : decode cX3_markAhead 58 = .ok (.iconst 0, 1) := by decide +kernel
theorem dX3_markAhead_59 : decode cX3_markAhead 59 = .ok (.putfield 119, 3) := by decide +kernel
theorem dX3_markAhead_62 : decode cX3_markAhead 62 = .ok (.iinc 3 1, 3) := by decide +kernel
theorem dX3_markAhead_65 : decode cX3_markAhead 65 = .ok (.goto (-55), 3) := by decide +kernel
theorem dX3_markAhead_68 : decode cX3_markAhead 68 = .ok (.return_, 1) := by decide +kernel
theorem dX3_isWonBy_0 : decode cX3_isWonBy 0 = .ok (.aload_n 1, 1) := by decide +kernel
theorem dX3_isWonBy_1 : decode cX3_isWonBy 1 = .ok (.getfield 59, 3) := by decide +kernel
theorem dX3_isWonBy_4 : decode cX3_isWonBy 4 = .ok (.ifCond .eq 44, 3) := by decide +kernel
theorem dX3_isWonBy_7 : decode cX3_isWonBy 7 = .ok (.aload_n 1, 1) := by decide +kernel
theorem dX3_isWonBy_8 : decode cX3_isWonBy 8 = .ok (.getfield 119, 3) := by decide +kernel
theorem dX3_isWonBy_11 : decode cX3_isWonBy 11 = .ok (.ifCond .eq 37, 3) := by decide +kernel
theorem dX3_isWonBy_14 : decode cX3_isWonBy 14 = .ok (.aload_n 1, 1) := by decide +kernel
theorem dX3_isWonBy_15 : decode cX3_isWonBy 15 = .ok (.getfield 90, 3) := by decide +kernel
theorem dX3_isWonBy_18 : decode cX3_isWonBy 18 = .ok (.iload_n 2, 1) := by decide +kernel
theorem dX3_isWonBy_19 : decode cX3_isWonBy 19 = .ok (.if_icmp .eq 29, 3) := by decide +kernel
theorem dX3_isWonBy_22 : decode cX3_isWonBy 22 = .ok (.aload_n 1, 1) := by decide +kernel
theorem dX3_isWonBy_23 : decode cX3_isWonBy 23 = .ok (.getfield 116, 3) := by decide +kernel
theorem dX3_isWonBy_26 : decode cX3_isWonBy 26 = .ok (.ifCond .eq 22, 3) := by decide +kernel
theorem dX3_isWonBy_29 : decode cX3_isWonBy 29 = .ok (.aload_n 0, 1) := by decide +kernel
theorem dX3_isWonBy_30 : decode cX3_isWonBy 30 = .ok (.aload_n 1, 1) := by decide +kernel
theorem dX3_isWonBy_31 : decode cX3_isWonBy 31 = .ok (.getfield 81, 3) := by decide +kernel
theorem dX3_isWonBy_34 : decode cX3_isWonBy 34 = .ok (.aload_n 1, 1) := by decide +kernel
theorem dX3_isWonBy_35 : decode cX3_isWonBy 35 = .ok (.getfield 84, 3) := by decide +kernel
theorem dX3_isWonBy_38 : decode cX3_isWonBy 38 = .ok (.invokevirtual 112, 3) := by decide +kernel
theorem dX3_isWonBy_41 : decode cX3_isWonBy 41 = .ok (.ifCond .ne 7, 3) := by decide +kernel
theorem dX3_isWonBy_44 : decode cX3_isWonBy 44 = .ok (.iconst 1, 1) := by decide +kernel
theorem dX3_isWonBy_45 : decode cX3_isWonBy 45 = .ok (.goto 4, 3) := by decide +kernel
theorem dX3_isWonBy_48 : decode cX3_isWonBy 48 = .ok (.iconst 0, 1) := by decide +kernel
theorem dX3_isWonBy_49 : decode cX3_isWonBy 49 = .ok (.ireturn, 1) := by decide +kernel
theorem dX3_growRings_0 : decode cX3_growRings 0 = .ok (.iconst 0, 1) := by decide +kernel
theorem dX3_growRings_1 : decode cX3_growRings 1 = .ok (.istore_n 2, 1) := by decide +kernel
theorem dX3_growRings_2 : decode cX3_growRings 2 = .ok (.iload_n 2, 1) := by decide +kernel
theorem dX3_growRings_3 : decode cX3_growRings 3 = .ok (.aload_n 0, 1) := by decide +kernel
theorem dX3_growRings_4 : decode cX3_growRings 4 = .ok (.getfield 22, 3) := by decide +kernel
theorem dX3_growRings_7 : decode cX3_growRings 7 = .ok (.arraylength, 1) := by decide +kernel
theorem dX3_growRings_8 : decode cX3_growRings 8 = .ok (.if_icmp .ge 58, 3) := by decide +kernel
theorem dX3_growRings_11 : decode cX3_growRings 11 = .ok (.aload_n 0, 1) := by decide +kernel
theorem dX3_growRings_12 : decode cX3_growRings 12 = .ok (.getfield 22, 3) := by decide +kernel
theorem dX3_growRings_15 : decode cX3_growRings 15 = .ok (.iload_n 2, 1) := by decide +kernel
theorem dX3_growRings_16 : decode cX3_growRings 16 = .ok (.aaload, 1) := by decide +kernel
theorem dX3_growRings_17 : decode cX3_growRings 17 = .ok (.astore_n 3, 1) := by decide +kernel
theorem dX3_growRings_18 : decode cX3_growRings 18 = .ok (.aload_n 3, 1) := by decide +kernel
theorem dX3_growRings_19 : decode cX3_growRings 19 = .ok (.ifnull 41, 3) := by decide +kernel
theorem dX3_growRings_22 : decode cX3_growRings 22 = .ok (.iload_n 1, 1) := by decide +kernel
theorem dX3_growRings_23 : decode cX3_growRings 23 = .ok (.iload_n 2, 1) := by decide +kernel
theorem dX3_growRings_24 : decode cX3_growRings 24 = .ok (.ishr, 1) := by decide +kernel
theorem dX3_growRings_25 : decode cX3_growRings 25 = .ok (.iconst 1, 1) := by decide +kernel
theorem dX3_growRings_26 : decode cX3_growRings 26 = .ok (.iand, 1) := by decide +kernel
theorem dX3_growRings_27 : decode cX3_growRings 27 = .ok (.iconst 1, 1) := by decide +kernel
theorem dX3_growRings_28 : decode cX3_growRings 28 = .ok (.if_icmp .ne 32, 3) := by decide +kernel
theorem dX3_growRings_31 : decode cX3_growRings 31 = .ok (.aload_n 3, 1) := by decide +kernel
theorem dX3_growRings_32 : decode cX3_growRings 32 = .ok (.getfield 66, 3) := by decide +kernel
theorem dX3_growRings_35 : decode cX3_growRings 35 = .ok (.bipush 15, 2) := by decide +kernel
theorem dX3_growRings_37 : decode cX3_growRings 37 = .ok (.if_icmp .ge 23, 3) := by decide +kernel
theorem dX3_growRings_40 : decode cX3_growRings 40 = .ok (.aload_n 3, 1) := by decide +kernel
theorem dX3_growRings_41 : decode cX3_growRings 41 = .ok (.dup, 1) := by decide +kernel
theorem dX3_growRings_42 : decode cX3_growRings 42 = .ok (.getfield 66, 3) := by decide +kernel
theorem dX3_growRings_45 : decode cX3_growRings 45 = .ok (.iconst 1, 1) := by decide +kernel
theorem dX3_growRings_46 : decode cX3_growRings 46 = .ok (.iadd, 1) := by decide +kernel
theorem dX3_growRings_47 : decode cX3_growRings 47 = .ok (.putfield 66, 3) := by decide +kernel
theorem dX3_growRings_50 : decode cX3_growRings 50 = .ok (.aload_n 0, 1) := by decide +kernel
theorem dX3_growRings_51 : decode cX3_growRings 51 = .ok (.dup, 1) := by decide +kernel
theorem dX3_growRings_52 : decode cX3_growRings 52 = .ok (.getfield 53, 3) := by decide +kernel
theorem dX3_growRings_55 : decode cX3_growRings 55 = .ok (.iconst 1, 1) := by decide +kernel
theorem dX3_growRings_56 : decode cX3_growRings 56 = .ok (.iadd, 1) := by decide +kernel
theorem dX3_growRings_57 : decode cX3_growRings 57 = .ok (.putfield 53, 3) := by decide +kernel
theorem dX3_growRings_60 : decode cX3_growRings 60 = .ok (.iinc 2 1, 3) := by decide +kernel
theorem dX3_growRings_63 : decode cX3_growRings 63 = .ok (.goto (-61), 3) := by decide +kernel
theorem dX3_growRings_66 : decode cX3_growRings 66 = .ok (.return_, 1) := by decide +kernel
theorem dX4_init_0 : decode cX4_init 0 = .ok (.aload_n 0, 1) := by decide +kernel
theorem dX4_init_1 : decode cX4_init 1 = .ok (.invokespecial 3, 3) := by decide +kernel
theorem dX4_init_4 : decode cX4_init 4 = .ok (.return_, 1) := by decide +kernel
theorem dX4_copyFrom_0 : decode cX4_copyFrom 0 = .ok (.aload_n 0, 1) := by decide +kernel
theorem dX4_copyFrom_1 : decode cX4_copyFrom 1 = .ok (.aload_n 1, 1) := by decide +kernel
theorem dX4_copyFrom_2 : decode cX4_copyFrom 2 = .ok (.getfield 9, 3) := by decide +kernel
theorem dX4_copyFrom_5 : decode cX4_copyFrom 5 = .ok (.putfield 9, 3) := by decide +kernel
theorem dX4_copyFrom_8 : decode cX4_copyFrom 8 = .ok (.aload_n 0, 1) := by decide +kernel
theorem dX4_copyFrom_9 : decode cX4_copyFrom 9 = .ok (.aload_n 1, 1) := by decide +kernel
theorem dX4_copyFrom_10 : decode cX4_copyFrom 10 = .ok (.getfield 15, 3) := by decide +kernel
theorem dX4_copyFrom_13 : decode cX4_copyFrom 13 = .ok (.putfield 15, 3) := by decide +kernel
theorem dX4_copyFrom_16 : decode cX4_copyFrom 16 = .ok (.aload_n 0, 1) := by decide +kernel
theorem dX4_copyFrom_17 : decode cX4_copyFrom 17 = .ok (.aload_n 1, 1) := by decide +kernel
theorem dX4_copyFrom_18 : decode cX4_copyFrom 18 = .ok (.getfield 18, 3) := by decide +kernel
theorem dX4_copyFrom_21 : decode cX4_copyFrom 21 = .ok (.putfield 18, 3) := by decide +kernel
theorem dX4_copyFrom_24 : decode cX4_copyFrom 24 = .ok (.return_, 1) := by decide +kernel
theorem dX4_holds_0 : decode cX4_holds 0 = .ok (.iload_n 1, 1) := by decide +kernel
theorem dX4_holds_1 : decode cX4_holds 1 = .ok (.aload_n 0, 1) := by decide +kernel
theorem dX4_holds_2 : decode cX4_holds 2 = .ok (.getfield 9, 3) := by decide +kernel
theorem dX4_holds_5 : decode cX4_holds 5 = .ok (.isub, 1) := by decide +kernel
theorem dX4_holds_6 : decode cX4_holds 6 = .ok (.istore_n 3, 1) := by decide +kernel
theorem dX4_holds_7 : decode cX4_holds 7 = .ok (.iload_n 2, 1) := by decide +kernel
theorem dX4_holds_8 : decode cX4_holds 8 = .ok (.aload_n 0, 1) := by decide +kernel
theorem dX4_holds_9 : decode cX4_holds 9 = .ok (.getfield 15, 3) := by decide +kernel
theorem dX4_holds_12 : decode cX4_holds 12 = .ok (.isub, 1) := by decide +kernel
theorem dX4_holds_13 : decode cX4_holds 13 = .ok (.istore 4, 2) := by decide +kernel
theorem dX4_holds_15 : decode cX4_holds 15 = .ok (.aload_n 0, 1) := by decide +kernel
theorem dX4_holds_16 : decode cX4_holds 16 = .ok (.getfield 18, 3) := by decide +kernel
theorem dX4_holds_19 : decode cX4_holds 19 = .ok (.ifCond .le 28, 3) := by decide +kernel
theorem dX4_holds_22 : decode cX4_holds 22 = .ok (.iload_n 3, 1) := by decide +kernel
theorem dX4_holds_23 : decode cX4_holds 23 = .ok (.iload_n 3, 1) := by decide +kernel
theorem dX4_holds_24 : decode cX4_holds 24 = .ok (.imul, 1) := by decide +kernel
theorem dX4_holds_25 : decode cX4_holds 25 = .ok (.iload 4, 2) := by decide +kernel
theorem dX4_holds_27 : decode cX4_holds 27 = .ok (.iload 4, 2) := by decide +kernel
theorem dX4_holds_29 : decode cX4_holds 29 = .ok (.imul, 1) := by decide +kernel
theorem dX4_holds_30 : decode cX4_holds 30 = .ok (.iadd, 1) := by decide +kernel
theorem dX4_holds_31 : decode cX4_holds 31 = .ok (.aload_n 0, 1) := by decide +kernel
theorem dX4_holds_32 : decode cX4_holds 32 = .ok (.getfield 18, 3) := by decide +kernel
theorem dX4_holds_35 : decode cX4_holds 35 = .ok (.aload_n 0, 1) := by decide +kernel
theorem dX4_holds_36 : decode cX4_holds 36 = .ok (.getfield 18, 3) := by decide +kernel
theorem dX4_holds_39 : decode cX4_holds 39 = .ok (.imul, 1) := by decide +kernel
theorem dX4_holds_40 : decode cX4_holds 40 = .ok (.if_icmp .gt 7, 3) := by decide +kernel
theorem dX4_holds_43 : decode cX4_holds 43 = .ok (.iconst 1, 1) := by decide +kernel
theorem dX4_holds_44 : decode cX4_holds 44 = .ok (.goto 4, 3) := by decide +kernel
theorem dX4_holds_47 : decode cX4_holds 47 = .ok (.iconst 0, 1) := by decide +kernel
theorem dX4_holds_48 : decode cX4_holds 48 = .ok (.ireturn, 1) := by decide +kernel
theorem dX4_pointsInside_0 : decode cX4_pointsInside 0 = .ok (.iconst 0, 1) := by decide +kernel
theorem dX4_pointsInside_1 : decode cX4_pointsInside 1 = .ok (.istore_n 1, 1) := by decide +kernel
theorem dX4_pointsInside_2 : decode cX4_pointsInside 2 = .ok (.iconst 0, 1) := by decide +kernel
theorem dX4_pointsInside_3 : decode cX4_pointsInside 3 = .ok (.istore_n 2, 1) := by decide +kernel
theorem dX4_pointsInside_4 : decode cX4_pointsInside 4 = .ok (.iload_n 2, 1) := by decide +kernel
theorem dX4_pointsInside_5 : decode cX4_pointsInside 5 = .ok (.bipush 30, 2) := by decide +kernel
theorem dX4_pointsInside_7 : decode cX4_pointsInside 7 = .ok (.if_icmp .gt 35, 3) := by decide +kernel
theorem dX4_pointsInside_10 : decode cX4_pointsInside 10 = .ok (.iconst 0, 1) := by decide +kernel
theorem dX4_pointsInside_11 : decode cX4_pointsInside 11 = .ok (.istore_n 3, 1) := by decide +kernel
theorem dX4_pointsInside_12 : decode cX4_pointsInside 12 = .ok (.iload_n 3, 1) := by decide +kernel
theorem dX4_pointsInside_13 : decode cX4_pointsInside 13 = .ok (.bipush 30, 2) := by decide +kernel
theorem dX4_pointsInside_15 : decode cX4_pointsInside 15 = .ok (.if_icmp .gt 21, 3) := by decide +kernel
theorem dX4_pointsInside_18 : decode cX4_pointsInside 18 = .ok (.aload_n 0, 1) := by decide +kernel
theorem dX4_pointsInside_19 : decode cX4_pointsInside 19 = .ok (.iload_n 2, 1) := by decide +kernel
theorem dX4_pointsInside_20 : decode cX4_pointsInside 20 = .ok (.iload_n 3, 1) := by decide +kernel
theorem dX4_pointsInside_21 : decode cX4_pointsInside 21 = .ok (.invokevirtual 21, 3) := by decide +kernel
theorem dX4_pointsInside_24 : decode cX4_pointsInside 24 = .ok (.ifCond .eq 6, 3) := by decide +kernel
theorem dX4_pointsInside_27 : decode cX4_pointsInside 27 = .ok (.iinc 1 1, 3) := by decide +kernel
theorem dX4_pointsInside_30 : decode cX4_pointsInside 30 = .ok (.iinc 3 1, 3) := by decide +kernel
theorem dX4_pointsInside_33 : decode cX4_pointsInside 33 = .ok (.goto (-21), 3) := by decide +kernel
theorem dX4_pointsInside_36 : decode cX4_pointsInside 36 = .ok (.iinc 2 1, 3) := by decide +kernel
theorem dX4_pointsInside_39 : decode cX4_pointsInside 39 = .ok (.goto (-35), 3) := by decide +kernel
theorem dX4_pointsInside_42 : decode cX4_pointsInside 42 = .ok (.iload_n 1, 1) := by decide +kernel
theorem dX4_pointsInside_43 : decode cX4_pointsInside 43 = .ok (.ireturn, 1) := by decide +kernel
theorem dX5_init_0 : decode cX5_init 0 = .ok (.aload_n 0, 1) := by decide +kernel
theorem dX5_init_1 : decode cX5_init 1 = .ok (.invokespecial 3, 3) := by decide +kernel
theorem dX5_init_4 : decode cX5_init 4 = .ok (.return_, 1) := by decide +kernel
theorem dX5_play_0 : decode cX5_play 0 = .ok (.aload_n 0, 1) := by decide +kernel
theorem dX5_play_1 : decode cX5_play 1 = .ok (.iconst 0, 1) := by decide +kernel
theorem dX5_play_2 : decode cX5_play 2 = .ok (.putfield 9, 3) := by decide +kernel
theorem dX5_play_5 : decode cX5_play 5 = .ok (.aload_n 0, 1) := by decide +kernel
theorem dX5_play_6 : decode cX5_play 6 = .ok (.iconst 0, 1) := by decide +kernel
theorem dX5_play_7 : decode cX5_play 7 = .ok (.putfield 15, 3) := by decide +kernel
theorem dX5_play_10 : decode cX5_play 10 = .ok (.aload_n 0, 1) := by decide +kernel
theorem dX5_play_11 : decode cX5_play 11 = .ok (.iconst 0, 1) := by decide +kernel
theorem dX5_play_12 : decode cX5_play 12 = .ok (.putfield 18, 3) := by decide +kernel
theorem dX5_play_15 : decode cX5_play 15 = .ok (.aload_n 0, 1) := by decide +kernel
theorem dX5_play_16 : decode cX5_play 16 = .ok (.iconst 0, 1) := by decide +kernel
theorem dX5_play_17 : decode cX5_play 17 = .ok (.putfield 21, 3) := by decide +kernel
theorem dX5_play_20 : decode cX5_play 20 = .ok (.aload_n 0, 1) := by decide +kernel
theorem dX5_play_21 : decode cX5_play 21 = .ok (.iload 4, 2) := by decide +kernel
theorem dX5_play_23 : decode cX5_play 23 = .ok (.putfield 24, 3) := by decide +kernel
theorem dX5_play_26 : decode cX5_play 26 = .ok (.aload_n 0, 1) := by decide +kernel
theorem dX5_play_27 : decode cX5_play 27 = .ok (.iload_n 3, 1) := by decide +kernel
theorem dX5_play_28 : decode cX5_play 28 = .ok (.invokestatic 27, 3) := by decide +kernel
theorem dX5_play_31 : decode cX5_play 31 = .ok (.putfield 31, 3) := by decide +kernel
theorem dX5_play_34 : decode cX5_play 34 = .ok (.aload_n 0, 1) := by decide +kernel
theorem dX5_play_35 : decode cX5_play 35 = .ok (.iload_n 3, 1) := by decide +kernel
theorem dX5_play_36 : decode cX5_play 36 = .ok (.invokestatic 34, 3) := by decide +kernel
theorem dX5_play_39 : decode cX5_play 39 = .ok (.putfield 37, 3) := by decide +kernel
theorem dX5_play_42 : decode cX5_play 42 = .ok (.aload_n 1, 1) := by decide +kernel
theorem dX5_play_43 : decode cX5_play 43 = .ok (.iload_n 2, 1) := by decide +kernel
theorem dX5_play_44 : decode cX5_play 44 = .ok (.invokevirtual 40, 3) := by decide +kernel
theorem dX5_play_47 : decode cX5_play 47 = .ok (.astore 5, 2) := by decide +kernel
theorem dX5_play_49 : decode cX5_play 49 = .ok (.aload 5, 2) := by decide +kernel
theorem dX5_play_51 : decode cX5_play 51 = .ok (.ifnonnull 4, 3) := by decide +kernel
theorem dX5_play_54 : decode cX5_play 54 = .ok (.return_, 1) := by decide +kernel
theorem dX5_play_55 : decode cX5_play 55 = .ok (.aload_n 1, 1) := by decide +kernel
theorem dX5_play_56 : decode cX5_play 56 = .ok (.invokevirtual 46, 3) := by decide +kernel
theorem dX5_play_59 : decode cX5_play 59 = .ok (.aload_n 0, 1) := by decide +kernel
theorem dX5_play_60 : decode cX5_play 60 = .ok (.aload_n 1, 1) := by decide +kernel
theorem dX5_play_61 : decode cX5_play 61 = .ok (.aload 5, 2) := by decide +kernel
theorem dX5_play_63 : decode cX5_play 63 = .ok (.invokevirtual 49, 3) := by decide +kernel
theorem dX5_play_66 : decode cX5_play 66 = .ok (.aload_n 0, 1) := by decide +kernel
theorem dX5_play_67 : decode cX5_play 67 = .ok (.aload_n 1, 1) := by decide +kernel
theorem dX5_play_68 : decode cX5_play 68 = .ok (.aload 5, 2) := by decide +kernel
theorem dX5_play_70 : decode cX5_play 70 = .ok (.getfield 53, 3) := by decide +kernel
theorem dX5_play_73 : decode cX5_play 73 = .ok (.invokevirtual 58, 3) := by decide +kernel
theorem dX5_play_76 : decode cX5_play 76 = .ok (.aload_n 1, 1) := by decide +kernel
theorem dX5_play_77 : decode cX5_play 77 = .ok (.dup, 1) := by decide +kernel
theorem dX5_play_78 : decode cX5_play 78 = .ok (.getfield 62, 3) := by decide +kernel
theorem dX5_play_81 : decode cX5_play 81 = .ok (.iconst 1, 1) := by decide +kernel
theorem dX5_play_82 : decode cX5_play 82 = .ok (.iadd, 1) := by decide +kernel
theorem dX5_play_83 : decode cX5_play 83 = .ok (.putfield 62, 3) := by decide +kernel
theorem dX5_play_86 : decode cX5_play 86 = .ok (.aload_n 1, 1) := by decide +kernel
theorem dX5_play_87 : decode cX5_play 87 = .ok (.dup, 1) := by decide +kernel
theorem dX5_play_88 : decode cX5_play 88 = .ok (.getfield 65, 3) := by decide +kernel
theorem dX5_play_91 : decode cX5_play 91 = .ok (.aload_n 0, 1) := by decide +kernel
theorem dX5_play_92 : decode cX5_play 92 = .ok (.getfield 18, 3) := by decide +kernel
theorem dX5_play_95 : decode cX5_play 95 = .ok (.iadd, 1) := by decide +kernel
theorem dX5_play_96 : decode cX5_play 96 = .ok (.putfield 65, 3) := by decide +kernel
theorem dX5_play_99 : decode cX5_play 99 = .ok (.aload_n 1, 1) := by decide +kernel
theorem dX5_play_100 : decode cX5_play 100 = .ok (.dup, 1) := by decide +kernel
theorem dX5_play_101 : decode cX5_play 101 = .ok (.getfield 66, 3) := by decide +kernel
theorem dX5_play_104 : decode cX5_play 104 = .ok (.aload_n 0, 1) := by decide +kernel
theorem dX5_play_105 : decode cX5_play 105 = .ok (.getfield 21, 3) := by decide +kernel
theorem dX5_play_108 : decode cX5_play 108 = .ok (.iadd, 1) := by decide +kernel
theorem dX5_play_109 : decode cX5_play 109 = .ok (.putfield 66, 3) := by decide +kernel
theorem dX5_play_112 : decode cX5_play 112 = .ok (.aload_n 1, 1) := by decide +kernel
theorem dX5_play_113 : decode cX5_play 113 = .ok (.dup, 1) := by decide +kernel
theorem dX5_play_114 : decode cX5_play 114 = .ok (.getfield 67, 3) := by decide +kernel
theorem dX5_play_117 : decode cX5_play 117 = .ok (.aload_n 0, 1) := by decide +kernel
theorem dX5_play_118 : decode cX5_play 118 = .ok (.getfield 9, 3) := by decide +kernel
theorem dX5_play_121 : decode cX5_play 121 = .ok (.iadd, 1) := by decide +kernel
theorem dX5_play_122 : decode cX5_play 122 = .ok (.putfield 67, 3) := by decide +kernel
theorem dX5_play_125 : decode cX5_play 125 = .ok (.aload_n 0, 1) := by decide +kernel
theorem dX5_play_126 : decode cX5_play 126 = .ok (.getfield 9, 3) := by decide +kernel
theorem dX5_play_129 : decode cX5_play 129 = .ok (.ifCond .ne 7, 3) := by decide +kernel
theorem dX5_play_132 : decode cX5_play 132 = .ok (.aload_n 1, 1) := by decide +kernel
theorem dX5_play_133 : decode cX5_play 133 = .ok (.invokevirtual 68, 3) := by decide +kernel
theorem dX5_play_136 : decode cX5_play 136 = .ok (.return_, 1) := by decide +kernel
theorem dX5_rollAll_0 : decode cX5_rollAll 0 = .ok (.aload_n 2, 1) := by decide +kernel
theorem dX5_rollAll_1 : decode cX5_rollAll 1 = .ok (.astore_n 3, 1) := by decide +kernel
theorem dX5_rollAll_2 : decode cX5_rollAll 2 = .ok (.iconst 0, 1) := by decide +kernel
theorem dX5_rollAll_3 : decode cX5_rollAll 3 = .ok (.istore 4, 2) := by decide +kernel
theorem dX5_rollAll_5 : decode cX5_rollAll 5 = .ok (.iload 4, 2) := by decide +kernel
theorem dX5_rollAll_7 : decode cX5_rollAll 7 = .ok (.bipush 60, 2) := by decide +kernel
theorem dX5_rollAll_9 : decode cX5_rollAll 9 = .ok (.if_icmp .ge 61, 3) := by decide +kernel
theorem dX5_rollAll_12 : decode cX5_rollAll 12 = .ok (.aload_n 0, 1) := by decide +kernel
theorem dX5_rollAll_13 : decode cX5_rollAll 13 = .ok (.aload_n 1, 1) := by decide +kernel
theorem dX5_rollAll_14 : decode cX5_rollAll 14 = .ok (.aload_n 3, 1) := by decide +kernel
theorem dX5_rollAll_15 : decode cX5_rollAll 15 = .ok (.invokevirtual 71, 3) := by decide +kernel
theorem dX5_rollAll_18 : decode cX5_rollAll 18 = .ok (.astore 5, 2) := by decide +kernel
theorem dX5_rollAll_20 : decode cX5_rollAll 20 = .ok (.aload 5, 2) := by decide +kernel
theorem dX5_rollAll_22 : decode cX5_rollAll 22 = .ok (.ifnonnull 6, 3) := by decide +kernel
theorem dX5_rollAll_25 : decode cX5_rollAll 25 = .ok (.goto 45, 3) := by decide +kernel
theorem dX5_rollAll_28 : decode cX5_rollAll 28 = .ok (.aload_n 0, 1) := by decide +kernel
theorem dX5_rollAll_29 : decode cX5_rollAll 29 = .ok (.dup, 1) := by decide +kernel
theorem dX5_rollAll_30 : decode cX5_rollAll 30 = .ok (.getfield 18, 3) := by decide +kernel
theorem dX5_rollAll_33 : decode cX5_rollAll 33 = .ok (.iconst 1, 1) := by decide +kernel
theorem dX5_rollAll_34 : decode cX5_rollAll 34 = .ok (.iadd, 1) := by decide +kernel
theorem dX5_rollAll_35 : decode cX5_rollAll 35 = .ok (.putfield 18, 3) := by decide +kernel
theorem dX5_rollAll_38 : decode cX5_rollAll 38 = .ok (.aload 5, 2) := by decide +kernel
theorem dX5_rollAll_40 : decode cX5_rollAll 40 = .ok (.iconst 1, 1) := by decide +kernel
theorem dX5_rollAll_41 : decode cX5_rollAll 41 = .ok (.putfield 75, 3) := by decide +kernel
theorem dX5_rollAll_44 : decode cX5_rollAll 44 = .ok (.aload_n 0, 1) := by decide +kernel
theorem dX5_rollAll_45 : decode cX5_rollAll 45 = .ok (.aload_n 0, 1) := by decide +kernel
theorem dX5_rollAll_46 : decode cX5_rollAll 46 = .ok (.aload_n 3, 1) := by decide +kernel
theorem dX5_rollAll_47 : decode cX5_rollAll 47 = .ok (.getfield 79, 3) := by decide +kernel
theorem dX5_rollAll_50 : decode cX5_rollAll 50 = .ok (.aload 5, 2) := by decide +kernel
theorem dX5_rollAll_52 : decode cX5_rollAll 52 = .ok (.getfield 79, 3) := by decide +kernel
theorem dX5_rollAll_55 : decode cX5_rollAll 55 = .ok (.invokevirtual 82, 3) := by decide +kernel
theorem dX5_rollAll_58 : decode cX5_rollAll 58 = .ok (.putfield 24, 3) := by decide +kernel
theorem dX5_rollAll_61 : decode cX5_rollAll 61 = .ok (.aload 5, 2) := by decide +kernel
theorem dX5_rollAll_63 : decode cX5_rollAll 63 = .ok (.astore_n 3, 1) := by decide +kernel
theorem dX5_rollAll_64 : decode cX5_rollAll 64 = .ok (.iinc 4 1, 3) := by decide +kernel
theorem dX5_rollAll_67 : decode cX5_rollAll 67 = .ok (.goto (-62), 3) := by decide +kernel
theorem dX5_rollAll_70 : decode cX5_rollAll 70 = .ok (.aload_n 0, 1) := by decide +kernel
theorem dX5_rollAll_71 : decode cX5_rollAll 71 = .ok (.aload_n 3, 1) := by decide +kernel
theorem dX5_rollAll_72 : decode cX5_rollAll 72 = .ok (.getfield 86, 3) := by decide +kernel
theorem dX5_rollAll_75 : decode cX5_rollAll 75 = .ok (.putfield 89, 3) := by decide +kernel
theorem dX5_rollAll_78 : decode cX5_rollAll 78 = .ok (.aload_n 0, 1) := by decide +kernel
theorem dX5_rollAll_79 : decode cX5_rollAll 79 = .ok (.aload_n 3, 1) := by decide +kernel
theorem dX5_rollAll_80 : decode cX5_rollAll 80 = .ok (.getfield 92, 3) := by decide +kernel
theorem dX5_rollAll_83 : decode cX5_rollAll 83 = .ok (.putfield 95, 3) := by decide +kernel
theorem dX5_rollAll_86 : decode cX5_rollAll 86 = .ok (.aload_n 0, 1) := by decide +kernel
theorem dX5_rollAll_87 : decode cX5_rollAll 87 = .ok (.aload_n 3, 1) := by decide +kernel
theorem dX5_rollAll_88 : decode cX5_rollAll 88 = .ok (.getfield 98, 3) := by decide +kernel
theorem dX5_rollAll_91 : decode cX5_rollAll 91 = .ok (.putfield 101, 3) := by decide +kernel
theorem dX5_rollAll_94 : decode cX5_rollAll 94 = .ok (.return_, 1) := by decide +kernel
theorem dX5_rollToHit_0 : decode cX5_rollToHit 0 = .ok (.aload_n 1, 1) := by decide +kernel
theorem dX5_rollToHit_1 : decode cX5_rollToHit 1 = .ok (.aload_n 2, 1) := by decide +kernel
theorem dX5_rollToHit_2 : decode cX5_rollToHit 2 = .ok (.getfield 92, 3) := by decide +kernel
theorem dX5_rollToHit_5 : decode cX5_rollToHit 5 = .ok (.aload_n 2, 1) := by decide +kernel
theorem dX5_rollToHit_6 : decode cX5_rollToHit 6 = .ok (.getfield 98, 3) := by decide +kernel
theorem dX5_rollToHit_9 : decode cX5_rollToHit 9 = .ok (.invokevirtual 104, 3) := by decide +kernel
theorem dX5_rollToHit_12 : decode cX5_rollToHit 12 = .ok (.istore_n 3, 1) := by decide +kernel
theorem dX5_rollToHit_13 : decode cX5_rollToHit 13 = .ok (.iconst 0, 1) := by decide +kernel
theorem dX5_rollToHit_14 : decode cX5_rollToHit 14 = .ok (.istore 4, 2) := by decide +kernel
theorem dX5_rollToHit_16 : decode cX5_rollToHit 16 = .ok (.iload 4, 2) := by decide +kernel
theorem dX5_rollToHit_18 : decode cX5_rollToHit 18 = .ok (.bipush 40, 2) := by decide +kernel
theorem dX5_rollToHit_20 : decode cX5_rollToHit 20 = .ok (.if_icmp .ge 109, 3) := by decide +kernel
theorem dX5_rollToHit_23 : decode cX5_rollToHit 23 = .ok (.aload_n 0, 1) := by decide +kernel
theorem dX5_rollToHit_24 : decode cX5_rollToHit 24 = .ok (.getfield 24, 3) := by decide +kernel
theorem dX5_rollToHit_27 : decode cX5_rollToHit 27 = .ok (.iconst 1, 1) := by decide +kernel
theorem dX5_rollToHit_28 : decode cX5_rollToHit 28 = .ok (.if_icmp .lt 101, 3) := by decide +kernel
theorem dX5_rollToHit_31 : decode cX5_rollToHit 31 = .ok (.aload_n 0, 1) := by decide +kernel
theorem dX5_rollToHit_32 : decode cX5_rollToHit 32 = .ok (.aload_n 2, 1) := by decide +kernel
theorem dX5_rollToHit_33 : decode cX5_rollToHit 33 = .ok (.invokevirtual 107, 3) := by decide +kernel
theorem dX5_rollToHit_36 : decode cX5_rollToHit 36 = .ok (.aload_n 2, 1) := by decide +kernel
theorem dX5_rollToHit_37 : decode cX5_rollToHit 37 = .ok (.getfield 92, 3) := by decide +kernel
theorem dX5_rollToHit_40 : decode cX5_rollToHit 40 = .ok (.aload_n 0, 1) := by decide +kernel
theorem dX5_rollToHit_41 : decode cX5_rollToHit 41 = .ok (.getfield 31, 3) := by decide +kernel
theorem dX5_rollToHit_44 : decode cX5_rollToHit 44 = .ok (.iadd, 1) := by decide +kernel
theorem dX5_rollToHit_45 : decode cX5_rollToHit 45 = .ok (.istore 5, 2) := by decide +kernel
theorem dX5_rollToHit_47 : decode cX5_rollToHit 47 = .ok (.aload_n 2, 1) := by decide +kernel
theorem dX5_rollToHit_48 : decode cX5_rollToHit 48 = .ok (.getfield 98, 3) := by decide +kernel
theorem dX5_rollToHit_51 : decode cX5_rollToHit 51 = .ok (.aload_n 0, 1) := by decide +kernel
theorem dX5_rollToHit_52 : decode cX5_rollToHit 52 = .ok (.getfield 37, 3) := by decide +kernel
theorem dX5_rollToHit_55 : decode cX5_rollToHit 55 = .ok (.iadd, 1) := by decide +kernel
theorem dX5_rollToHit_56 : decode cX5_rollToHit 56 = .ok (.istore 6, 2) := by decide +kernel
theorem dX5_rollToHit_58 : decode cX5_rollToHit 58 = .ok (.aload_n 1, 1) := by decide +kernel
theorem dX5_rollToHit_59 : decode cX5_rollToHit 59 = .ok (.iload 5, 2) := by decide +kernel
theorem dX5_rollToHit_61 : decode cX5_rollToHit 61 = .ok (.iload 6, 2) := by decide +kernel
theorem dX5_rollToHit_63 : decode cX5_rollToHit 63 = .ok (.invokevirtual 111, 3) := by decide +kernel
theorem dX5_rollToHit_66 : decode cX5_rollToHit 66 = .ok (.astore 7, 2) := by decide +kernel
theorem dX5_rollToHit_68 : decode cX5_rollToHit 68 = .ok (.aload 7, 2) := by decide +kernel
theorem dX5_rollToHit_70 : decode cX5_rollToHit 70 = .ok (.ifnull 6, 3) := by decide +kernel
theorem dX5_rollToHit_73 : decode cX5_rollToHit 73 = .ok (.aload 7, 2) := by decide +kernel
theorem dX5_rollToHit_75 : decode cX5_rollToHit 75 = .ok (.areturn, 1) := by decide +kernel
theorem dX5_rollToHit_76 : decode cX5_rollToHit 76 = .ok (.aload_n 1, 1) := by decide +kernel
theorem dX5_rollToHit_77 : decode cX5_rollToHit 77 = .ok (.iload 5, 2) := by decide +kernel
theorem dX5_rollToHit_79 : decode cX5_rollToHit 79 = .ok (.iload 6, 2) := by decide +kernel
theorem dX5_rollToHit_81 : decode cX5_rollToHit 81 = .ok (.invokevirtual 104, 3) := by decide +kernel
theorem dX5_rollToHit_84 : decode cX5_rollToHit 84 = .ok (.istore 8, 2) := by decide +kernel
theorem dX5_rollToHit_86 : decode cX5_rollToHit 86 = .ok (.aload_n 0, 1) := by decide +kernel
theorem dX5_rollToHit_87 : decode cX5_rollToHit 87 = .ok (.iconst 0, 1) := by decide +kernel
theorem dX5_rollToHit_88 : decode cX5_rollToHit 88 = .ok (.aload_n 0, 1) := by decide +kernel
theorem dX5_rollToHit_89 : decode cX5_rollToHit 89 = .ok (.getfield 24, 3) := by decide +kernel
theorem dX5_rollToHit_92 : decode cX5_rollToHit 92 = .ok (.iconst 1, 1) := by decide +kernel
theorem dX5_rollToHit_93 : decode cX5_rollToHit 93 = .ok (.isub, 1) := by decide +kernel
theorem dX5_rollToHit_94 : decode cX5_rollToHit 94 = .ok (.iload_n 3, 1) := by decide +kernel
theorem dX5_rollToHit_95 : decode cX5_rollToHit 95 = .ok (.iload 8, 2) := by decide +kernel
theorem dX5_rollToHit_97 : decode cX5_rollToHit 97 = .ok (.ixor, 1) := by decide +kernel
theorem dX5_rollToHit_98 : decode cX5_rollToHit 98 = .ok (.invokestatic 115, 3) := by decide +kernel
theorem dX5_rollToHit_101 : decode cX5_rollToHit 101 = .ok (.isub, 1) := by decide +kernel
theorem dX5_rollToHit_102 : decode cX5_rollToHit 102 = .ok (.invokestatic 120, 3) := by decide +kernel
theorem dX5_rollToHit_105 : decode cX5_rollToHit 105 = .ok (.putfield 24, 3) := by decide +kernel
theorem dX5_rollToHit_108 : decode cX5_rollToHit 108 = .ok (.iload 8, 2) := by decide +kernel
theorem dX5_rollToHit_110 : decode cX5_rollToHit 110 = .ok (.istore_n 3, 1) := by decide +kernel
theorem dX5_rollToHit_111 : decode cX5_rollToHit 111 = .ok (.aload_n 2, 1) := by decide +kernel
theorem dX5_rollToHit_112 : decode cX5_rollToHit 112 = .ok (.iload 5, 2) := by decide +kernel
theorem dX5_rollToHit_114 : decode cX5_rollToHit 114 = .ok (.putfield 92, 3) := by decide +kernel
theorem dX5_rollToHit_117 : decode cX5_rollToHit 117 = .ok (.aload_n 2, 1) := by decide +kernel
theorem dX5_rollToHit_118 : decode cX5_rollToHit 118 = .ok (.iload 6, 2) := by decide +kernel
theorem dX5_rollToHit_120 : decode cX5_rollToHit 120 = .ok (.putfield 98, 3) := by decide +kernel
theorem dX5_rollToHit_123 : decode cX5_rollToHit 123 = .ok (.iinc 4 1, 3) := by decide +kernel
theorem dX5_rollToHit_126 : decode cX5_rollToHit 126 = .ok (.goto (-110), 3) := by decide +kernel
theorem dX5_rollToHit_129 : decode cX5_rollToHit 129 = .ok (.aconst_null, 1) := by decide +kernel
theorem dX5_rollToHit_130 : decode cX5_rollToHit 130 = .ok (.areturn, 1) := by decide +kernel
theorem dX5_turnAtWalls_0 : decode cX5_turnAtWalls 0 = .ok (.aload_n 1, 1) := by decide +kernel
theorem dX5_turnAtWalls_1 : decode cX5_turnAtWalls 1 = .ok (.getfield 92, 3) := by decide +kernel
theorem dX5_turnAtWalls_4 : decode cX5_turnAtWalls 4 = .ok (.aload_n 0, 1) := by decide +kernel
theorem dX5_turnAtWalls_5 : decode cX5_turnAtWalls 5 = .ok (.getfield 31, 3) := by decide +kernel
theorem dX5_turnAtWalls_8 : decode cX5_turnAtWalls 8 = .ok (.iadd, 1) := by decide +kernel
theorem dX5_turnAtWalls_9 : decode cX5_turnAtWalls 9 = .ok (.ifCond .lt 17, 3) := by decide +kernel
theorem dX5_turnAtWalls_12 : decode cX5_turnAtWalls 12 = .ok (.aload_n 1, 1) := by decide +kernel
theorem dX5_turnAtWalls_13 : decode cX5_turnAtWalls 13 = .ok (.getfield 92, 3) := by decide +kernel
theorem dX5_turnAtWalls_16 : decode cX5_turnAtWalls 16 = .ok (.aload_n 0, 1) := by decide +kernel
theorem dX5_turnAtWalls_17 : decode cX5_turnAtWalls 17 = .ok (.getfield 31, 3) := by decide +kernel
theorem dX5_turnAtWalls_20 : decode cX5_turnAtWalls 20 = .ok (.iadd, 1) := by decide +kernel
theorem dX5_turnAtWalls_21 : decode cX5_turnAtWalls 21 = .ok (.bipush 30, 2) := by decide +kernel
theorem dX5_turnAtWalls_23 : decode cX5_turnAtWalls 23 = .ok (.if_icmp .le 22, 3) := by decide +kernel
theorem dX5_turnAtWalls_26 : decode cX5_turnAtWalls 26 = .ok (.aload_n 0, 1) := by decide +kernel
theorem dX5_turnAtWalls_27 : decode cX5_turnAtWalls 27 = .ok (.aload_n 0, 1) := by decide +kernel
theorem dX5_turnAtWalls_28 : decode cX5_turnAtWalls 28 = .ok (.getfield 31, 3) := by decide +kernel
theorem dX5_turnAtWalls_31 : decode cX5_turnAtWalls 31 = .ok (.ineg, 1) := by decide +kernel
theorem dX5_turnAtWalls_32 : decode cX5_turnAtWalls 32 = .ok (.putfield 31, 3) := by decide +kernel
theorem dX5_turnAtWalls_35 : decode cX5_turnAtWalls 35 = .ok (.aload_n 0, 1) := by decide +kernel
theorem dX5_turnAtWalls_36 : decode cX5_turnAtWalls 36 = .ok (.dup, 1) := by decide +kernel
theorem dX5_turnAtWalls_37 : decode cX5_turnAtWalls 37 = .ok (.getfield 21, 3) := by decide +kernel
theorem dX5_turnAtWalls_40 : decode cX5_turnAtWalls 40 = .ok (.iconst 1, 1) := by decide +kernel
theorem dX5_turnAtWalls_41 : decode cX5_turnAtWalls 41 = .ok (.iadd, 1) := by decide +kernel
theorem dX5_turnAtWalls_42 : decode cX5_turnAtWalls 42 = .ok (.putfield 21, 3) := by decide +kernel
theorem dX5_turnAtWalls_45 : decode cX5_turnAtWalls 45 = .ok (.aload_n 1, 1) := by decide +kernel
theorem dX5_turnAtWalls_46 : decode cX5_turnAtWalls 46 = .ok (.getfield 98, 3) := by decide +kernel
theorem dX5_turnAtWalls_49 : decode cX5_turnAtWalls 49 = .ok (.aload_n 0, 1) := by decide +kernel
theorem dX5_turnAtWalls_50 : decode cX5_turnAtWalls 50 = .ok (.getfield 37, 3) := by decide +kernel
theorem dX5_turnAtWalls_53 : decode cX5_turnAtWalls 53 = .ok (.iadd, 1) := by decide +kernel
theorem dX5_turnAtWalls_54 : decode cX5_turnAtWalls 54 = .ok (.ifCond .lt 17, 3) := by decide +kernel
theorem dX5_turnAtWalls_57 : decode cX5_turnAtWalls 57 = .ok (.aload_n 1, 1) := by decide +kernel
theorem dX5_turnAtWalls_58 : decode cX5_turnAtWalls 58 = .ok (.getfield 98, 3) := by decide +kernel
theorem dX5_turnAtWalls_61 : decode cX5_turnAtWalls 61 = .ok (.aload_n 0, 1) := by decide +kernel
theorem dX5_turnAtWalls_62 : decode cX5_turnAtWalls 62 = .ok (.getfield 37, 3) := by decide +kernel
theorem dX5_turnAtWalls_65 : decode cX5_turnAtWalls 65 = .ok (.iadd, 1) := by decide +kernel
theorem dX5_turnAtWalls_66 : decode cX5_turnAtWalls 66 = .ok (.bipush 30, 2) := by decide +kernel
theorem dX5_turnAtWalls_68 : decode cX5_turnAtWalls 68 = .ok (.if_icmp .le 22, 3) := by decide +kernel
theorem dX5_turnAtWalls_71 : decode cX5_turnAtWalls 71 = .ok (.aload_n 0, 1) := by decide +kernel
theorem dX5_turnAtWalls_72 : decode cX5_turnAtWalls 72 = .ok (.aload_n 0, 1) := by decide +kernel
theorem dX5_turnAtWalls_73 : decode cX5_turnAtWalls 73 = .ok (.getfield 37, 3) := by decide +kernel
theorem dX5_turnAtWalls_76 : decode cX5_turnAtWalls 76 = .ok (.ineg, 1) := by decide +kernel
theorem dX5_turnAtWalls_77 : decode cX5_turnAtWalls 77 = .ok (.putfield 37, 3) := by decide +kernel
theorem dX5_turnAtWalls_80 : decode cX5_turnAtWalls 80 = .ok (.aload_n 0, 1) := by decide +kernel
theorem dX5_turnAtWalls_81 : decode cX5_turnAtWalls 81 = .ok (.dup, 1) := by decide +kernel
theorem dX5_turnAtWalls_82 : decode cX5_turnAtWalls 82 = .ok (.getfield 21, 3) := by decide +kernel
theorem dX5_turnAtWalls_85 : decode cX5_turnAtWalls 85 = .ok (.iconst 1, 1) := by decide +kernel
theorem dX5_turnAtWalls_86 : decode cX5_turnAtWalls 86 = .ok (.iadd, 1) := by decide +kernel
theorem dX5_turnAtWalls_87 : decode cX5_turnAtWalls 87 = .ok (.putfield 21, 3) := by decide +kernel
theorem dX5_turnAtWalls_90 : decode cX5_turnAtWalls 90 = .ok (.return_, 1) := by decide +kernel
theorem dX5_passedOn_0 : decode cX5_passedOn 0 = .ok (.iload_n 2, 1) := by decide +kernel
theorem dX5_passedOn_1 : decode cX5_passedOn 1 = .ok (.iconst 1, 1) := by decide +kernel
theorem dX5_passedOn_2 : decode cX5_passedOn 2 = .ok (.if_icmp .ge 7, 3) := by decide +kernel
theorem dX5_passedOn_5 : decode cX5_passedOn 5 = .ok (.iconst 0, 1) := by decide +kernel
theorem dX5_passedOn_6 : decode cX5_passedOn 6 = .ok (.goto 16, 3) := by decide +kernel
theorem dX5_passedOn_9 : decode cX5_passedOn 9 = .ok (.bipush 40, 2) := by decide +kernel
theorem dX5_passedOn_11 : decode cX5_passedOn 11 = .ok (.aload_n 0, 1) := by decide +kernel
theorem dX5_passedOn_12 : decode cX5_passedOn 12 = .ok (.getfield 24, 3) := by decide +kernel
theorem dX5_passedOn_15 : decode cX5_passedOn 15 = .ok (.iload_n 1, 1) := by decide +kernel
theorem dX5_passedOn_16 : decode cX5_passedOn 16 = .ok (.imul, 1) := by decide +kernel
theorem dX5_passedOn_17 : decode cX5_passedOn 17 = .ok (.iload_n 2, 1) := by decide +kernel
theorem dX5_passedOn_18 : decode cX5_passedOn 18 = .ok (.idiv, 1) := by decide +kernel
theorem dX5_passedOn_19 : decode cX5_passedOn 19 = .ok (.invokestatic 125, 3) := by decide +kernel
theorem dX5_passedOn_22 : decode cX5_passedOn 22 = .ok (.ireturn, 1) := by decide +kernel
theorem dX5_takeWinnings_0 : decode cX5_takeWinnings 0 = .ok (.iconst 0, 1) := by decide +kernel
theorem dX5_takeWinnings_1 : decode cX5_takeWinnings 1 = .ok (.istore_n 3, 1) := by decide +kernel
theorem dX5_takeWinnings_2 : decode cX5_takeWinnings 2 = .ok (.iconst 0, 1) := by decide +kernel
theorem dX5_takeWinnings_3 : decode cX5_takeWinnings 3 = .ok (.istore 4, 2) := by decide +kernel
theorem dX5_takeWinnings_5 : decode cX5_takeWinnings 5 = .ok (.iload 4, 2) := by decide +kernel
theorem dX5_takeWinnings_7 : decode cX5_takeWinnings 7 = .ok (.aload_n 1, 1) := by decide +kernel
theorem dX5_takeWinnings_8 : decode cX5_takeWinnings 8 = .ok (.getfield 128, 3) := by decide +kernel
theorem dX5_takeWinnings_11 : decode cX5_takeWinnings 11 = .ok (.if_icmp .ge 76, 3) := by decide +kernel
theorem dX5_takeWinnings_14 : decode cX5_takeWinnings 14 = .ok (.aload_n 1, 1) := by decide +kernel
theorem dX5_takeWinnings_15 : decode cX5_takeWinnings 15 = .ok (.iload 4, 2) := by decide +kernel
theorem dX5_takeWinnings_17 : decode cX5_takeWinnings 17 = .ok (.invokevirtual 40, 3) := by decide +kernel
theorem dX5_takeWinnings_20 : decode cX5_takeWinnings 20 = .ok (.astore 5, 2) := by decide +kernel
theorem dX5_takeWinnings_22 : decode cX5_takeWinnings 22 = .ok (.aload 5, 2) := by decide +kernel
theorem dX5_takeWinnings_24 : decode cX5_takeWinnings 24 = .ok (.ifnull 57, 3) := by decide +kernel
theorem dX5_takeWinnings_27 : decode cX5_takeWinnings 27 = .ok (.aload_n 1, 1) := by decide +kernel
theorem dX5_takeWinnings_28 : decode cX5_takeWinnings 28 = .ok (.aload 5, 2) := by decide +kernel
theorem dX5_takeWinnings_30 : decode cX5_takeWinnings 30 = .ok (.iload_n 2, 1) := by decide +kernel
theorem dX5_takeWinnings_31 : decode cX5_takeWinnings 31 = .ok (.invokevirtual 131, 3) := by decide +kernel
theorem dX5_takeWinnings_34 : decode cX5_takeWinnings 34 = .ok (.ifCond .eq 47, 3) := by decide +kernel
theorem dX5_takeWinnings_37 : decode cX5_takeWinnings 37 = .ok (.aload 5, 2) := by decide +kernel
theorem dX5_takeWinnings_39 : decode cX5_takeWinnings 39 = .ok (.iconst 0, 1) := by decide +kernel
theorem dX5_takeWinnings_40 : decode cX5_takeWinnings 40 = .ok (.putfield 135, 3) := by decide +kernel
theorem dX5_takeWinnings_43 : decode cX5_takeWinnings 43 = .ok (.aload 5, 2) := by decide +kernel
theorem dX5_takeWinnings_45 : decode cX5_takeWinnings 45 = .ok (.iload_n 2, 1) := by decide +kernel
theorem dX5_takeWinnings_46 : decode cX5_takeWinnings 46 = .ok (.putfield 138, 3) := by decide +kernel
theorem dX5_takeWinnings_49 : decode cX5_takeWinnings 49 = .ok (.aload_n 0, 1) := by decide +kernel
theorem dX5_takeWinnings_50 : decode cX5_takeWinnings 50 = .ok (.dup, 1) := by decide +kernel
theorem dX5_takeWinnings_51 : decode cX5_takeWinnings 51 = .ok (.getfield 9, 3) := by decide +kernel
theorem dX5_takeWinnings_54 : decode cX5_takeWinnings 54 = .ok (.iconst 1, 1) := by decide +kernel
theorem dX5_takeWinnings_55 : decode cX5_takeWinnings 55 = .ok (.iadd, 1) := by decide +kernel
theorem dX5_takeWinnings_56 : decode cX5_takeWinnings 56 = .ok (.putfield 9, 3) := by decide +kernel
theorem dX5_takeWinnings_59 : decode cX5_takeWinnings 59 = .ok (.aload_n 0, 1) := by decide +kernel
theorem dX5_takeWinnings_60 : decode cX5_takeWinnings 60 = .ok (.dup, 1) := by decide +kernel
theorem dX5_takeWinnings_61 : decode cX5_takeWinnings 61 = .ok (.getfield 15, 3) := by decide +kernel
theorem dX5_takeWinnings_64 : decode cX5_takeWinnings 64 = .ok (.aload 5, 2) := by decide +kernel
theorem dX5_takeWinnings_66 : decode cX5_takeWinnings 66 = .ok (.getfield 79, 3) := by decide +kernel
theorem dX5_takeWinnings_69 : decode cX5_takeWinnings 69 = .ok (.iadd, 1) := by decide +kernel
theorem dX5_takeWinnings_70 : decode cX5_takeWinnings 70 = .ok (.putfield 15, 3) := by decide +kernel
theorem dX5_takeWinnings_73 : decode cX5_takeWinnings 73 = .ok (.iload_n 3, 1) := by decide +kernel
theorem dX5_takeWinnings_74 : decode cX5_takeWinnings 74 = .ok (.aload 5, 2) := by decide +kernel
theorem dX5_takeWinnings_76 : decode cX5_takeWinnings 76 = .ok (.getfield 141, 3) := by decide +kernel
theorem dX5_takeWinnings_79 : decode cX5_takeWinnings 79 = .ok (.ior, 1) := by decide +kernel
theorem dX5_takeWinnings_80 : decode cX5_takeWinnings 80 = .ok (.istore_n 3, 1) := by decide +kernel
theorem dX5_takeWinnings_81 : decode cX5_takeWinnings 81 = .ok (.iinc 4 1, 3) := by decide +kernel
theorem dX5_takeWinnings_84 : decode cX5_takeWinnings 84 = .ok (.goto (-79), 3) := by decide +kernel
theorem dX5_takeWinnings_87 : decode cX5_takeWinnings 87 = .ok (.aload_n 1, 1) := by decide +kernel
theorem dX5_takeWinnings_88 : decode cX5_takeWinnings 88 = .ok (.iload_n 3, 1) := by decide +kernel
theorem dX5_takeWinnings_89 : decode cX5_takeWinnings 89 = .ok (.invokevirtual 144, 3) := by decide +kernel
theorem dX5_takeWinnings_92 : decode cX5_takeWinnings 92 = .ok (.return_, 1) := by decide +kernel
theorem dX6_init_0 : decode cX6_init 0 = .ok (.aload_n 0, 1) := by decide +kernel
theorem dX6_init_1 : decode cX6_init 1 = .ok (.invokespecial 3, 3) := by decide +kernel
theorem dX6_init_4 : decode cX6_init 4 = .ok (.aload_n 0, 1) := by decide +kernel
theorem dX6_init_5 : decode cX6_init 5 = .ok (.bipush 80, 2) := by decide +kernel
theorem dX6_init_7 : decode cX6_init 7 = .ok (.newarray .char, 2) := by decide +kernel
theorem dX6_init_9 : decode cX6_init 9 = .ok (.putfield 9, 3) := by decide +kernel
theorem dX6_init_12 : decode cX6_init 12 = .ok (.return_, 1) := by decide +kernel
theorem dX6_append_0 : decode cX6_append 0 = .ok (.aload_n 0, 1) := by decide +kernel
theorem dX6_append_1 : decode cX6_append 1 = .ok (.getfield 15, 3) := by decide +kernel
theorem dX6_append_4 : decode cX6_append 4 = .ok (.ifCond .lt 15, 3) := by decide +kernel
theorem dX6_append_7 : decode cX6_append 7 = .ok (.aload_n 0, 1) := by decide +kernel
theorem dX6_append_8 : decode cX6_append 8 = .ok (.getfield 15, 3) := by decide +kernel
theorem dX6_append_11 : decode cX6_append 11 = .ok (.aload_n 0, 1) := by decide +kernel
theorem dX6_append_12 : decode cX6_append 12 = .ok (.getfield 9, 3) := by decide +kernel
theorem dX6_append_15 : decode cX6_append 15 = .ok (.arraylength, 1) := by decide +kernel
theorem dX6_append_16 : decode cX6_append 16 = .ok (.if_icmp .lt 5, 3) := by decide +kernel
theorem dX6_append_19 : decode cX6_append 19 = .ok (.iconst 0, 1) := by decide +kernel
theorem dX6_append_20 : decode cX6_append 20 = .ok (.ireturn, 1) := by decide +kernel
theorem dX6_append_21 : decode cX6_append 21 = .ok (.aload_n 0, 1) := by decide +kernel
theorem dX6_append_22 : decode cX6_append 22 = .ok (.getfield 9, 3) := by decide +kernel
theorem dX6_append_25 : decode cX6_append 25 = .ok (.aload_n 0, 1) := by decide +kernel
theorem dX6_append_26 : decode cX6_append 26 = .ok (.getfield 15, 3) := by decide +kernel
theorem dX6_append_29 : decode cX6_append 29 = .ok (.iload_n 1, 1) := by decide +kernel
theorem dX6_append_30 : decode cX6_append 30 = .ok (.castore, 1) := by decide +kernel
theorem dX6_append_31 : decode cX6_append 31 = .ok (.aload_n 0, 1) := by decide +kernel
theorem dX6_append_32 : decode cX6_append 32 = .ok (.dup, 1) := by decide +kernel
theorem dX6_append_33 : decode cX6_append 33 = .ok (.getfield 15, 3) := by decide +kernel
theorem dX6_append_36 : decode cX6_append 36 = .ok (.iconst 1, 1) := by decide +kernel
theorem dX6_append_37 : decode cX6_append 37 = .ok (.iadd, 1) := by decide +kernel
theorem dX6_append_38 : decode cX6_append 38 = .ok (.putfield 15, 3) := by decide +kernel
theorem dX6_append_41 : decode cX6_append 41 = .ok (.iconst 1, 1) := by decide +kernel
theorem dX6_append_42 : decode cX6_append 42 = .ok (.ireturn, 1) := by decide +kernel
theorem dX6_signAt_0 : decode cX6_signAt 0 = .ok (.iload_n 1, 1) := by decide +kernel
theorem dX6_signAt_1 : decode cX6_signAt 1 = .ok (.ifCond .lt 20, 3) := by decide +kernel
theorem dX6_signAt_4 : decode cX6_signAt 4 = .ok (.iload_n 1, 1) := by decide +kernel
theorem dX6_signAt_5 : decode cX6_signAt 5 = .ok (.aload_n 0, 1) := by decide +kernel
theorem dX6_signAt_6 : decode cX6_signAt 6 = .ok (.getfield 15, 3) := by decide +kernel
theorem dX6_signAt_9 : decode cX6_signAt 9 = .ok (.if_icmp .ge 12, 3) := by decide +kernel
theorem dX6_signAt_12 : decode cX6_signAt 12 = .ok (.iload_n 1, 1) := by decide +kernel
theorem dX6_signAt_13 : decode cX6_signAt 13 = .ok (.aload_n 0, 1) := by decide +kernel
theorem dX6_signAt_14 : decode cX6_signAt 14 = .ok (.getfield 9, 3) := by decide +kernel
theorem dX6_signAt_17 : decode cX6_signAt 17 = .ok (.arraylength, 1) := by decide +kernel
theorem dX6_signAt_18 : decode cX6_signAt 18 = .ok (.if_icmp .lt 7, 3) := by decide +kernel
theorem dX6_signAt_21 : decode cX6_signAt 21 = .ok (.iconst (-1), 1) := by decide +kernel
theorem dX6_signAt_22 : decode cX6_signAt 22 = .ok (.goto 9, 3) := by decide +kernel
theorem dX6_signAt_25 : decode cX6_signAt 25 = .ok (.aload_n 0, 1) := by decide +kernel
theorem dX6_signAt_26 : decode cX6_signAt 26 = .ok (.getfield 9, 3) := by decide +kernel
theorem dX6_signAt_29 : decode cX6_signAt 29 = .ok (.iload_n 1, 1) := by decide +kernel
theorem dX6_signAt_30 : decode cX6_signAt 30 = .ok (.caload, 1) := by decide +kernel
theorem dX6_signAt_31 : decode cX6_signAt 31 = .ok (.ireturn, 1) := by decide +kernel
theorem dX7_init_0 : decode cX7_init 0 = .ok (.aload_n 0, 1) := by decide +kernel
theorem dX7_init_1 : decode cX7_init 1 = .ok (.invokespecial 1, 3) := by decide +kernel
theorem dX7_init_4 : decode cX7_init 4 = .ok (.aload_n 0, 1) := by decide +kernel
theorem dX7_init_5 : decode cX7_init 5 = .ok (.new 7, 3) := by decide +kernel
theorem dX7_init_8 : decode cX7_init 8 = .ok (.dup, 1) := by decide +kernel
theorem dX7_init_9 : decode cX7_init 9 = .ok (.invokespecial 9, 3) := by decide +kernel
theorem dX7_init_12 : decode cX7_init 12 = .ok (.putfield 10, 3) := by decide +kernel
theorem dX7_init_15 : decode cX7_init 15 = .ok (.aload_n 0, 1) := by decide +kernel
theorem dX7_init_16 : decode cX7_init 16 = .ok (.new 7, 3) := by decide +kernel
theorem dX7_init_19 : decode cX7_init 19 = .ok (.dup, 1) := by decide +kernel
theorem dX7_init_20 : decode cX7_init 20 = .ok (.invokespecial 9, 3) := by decide +kernel
theorem dX7_init_23 : decode cX7_init 23 = .ok (.putfield 16, 3) := by decide +kernel
theorem dX7_init_26 : decode cX7_init 26 = .ok (.aload_n 0, 1) := by decide +kernel
theorem dX7_init_27 : decode cX7_init 27 = .ok (.new 19, 3) := by decide +kernel
theorem dX7_init_30 : decode cX7_init 30 = .ok (.dup, 1) := by decide +kernel
theorem dX7_init_31 : decode cX7_init 31 = .ok (.invokespecial 21, 3) := by decide +kernel
theorem dX7_init_34 : decode cX7_init 34 = .ok (.putfield 22, 3) := by decide +kernel
theorem dX7_init_37 : decode cX7_init 37 = .ok (.aload_n 0, 1) := by decide +kernel
theorem dX7_init_38 : decode cX7_init 38 = .ok (.new 26, 3) := by decide +kernel
theorem dX7_init_41 : decode cX7_init 41 = .ok (.dup, 1) := by decide +kernel
theorem dX7_init_42 : decode cX7_init 42 = .ok (.invokespecial 28, 3) := by decide +kernel
theorem dX7_init_45 : decode cX7_init 45 = .ok (.putfield 29, 3) := by decide +kernel
theorem dX7_init_48 : decode cX7_init 48 = .ok (.aload_n 0, 1) := by decide +kernel
theorem dX7_init_49 : decode cX7_init 49 = .ok (.new 33, 3) := by decide +kernel
theorem dX7_init_52 : decode cX7_init 52 = .ok (.dup, 1) := by decide +kernel
theorem dX7_init_53 : decode cX7_init 53 = .ok (.invokespecial 35, 3) := by decide +kernel
theorem dX7_init_56 : decode cX7_init 56 = .ok (.putfield 36, 3) := by decide +kernel
theorem dX7_init_59 : decode cX7_init 59 = .ok (.return_, 1) := by decide +kernel
theorem dX7_putMarble_0 : decode cX7_putMarble 0 = .ok (.aload_n 0, 1) := by decide +kernel
theorem dX7_putMarble_1 : decode cX7_putMarble 1 = .ok (.getfield 10, 3) := by decide +kernel
theorem dX7_putMarble_4 : decode cX7_putMarble 4 = .ok (.iload_n 1, 1) := by decide +kernel
theorem dX7_putMarble_5 : decode cX7_putMarble 5 = .ok (.iload_n 2, 1) := by decide +kernel
theorem dX7_putMarble_6 : decode cX7_putMarble 6 = .ok (.iload_n 3, 1) := by decide +kernel
theorem dX7_putMarble_7 : decode cX7_putMarble 7 = .ok (.iload 4, 2) := by decide +kernel
theorem dX7_putMarble_9 : decode cX7_putMarble 9 = .ok (.invokevirtual 40, 3) := by decide +kernel
theorem dX7_putMarble_12 : decode cX7_putMarble 12 = .ok (.istore 5, 2) := by decide +kernel
theorem dX7_putMarble_14 : decode cX7_putMarble 14 = .ok (.iload 5, 2) := by decide +kernel
theorem dX7_putMarble_16 : decode cX7_putMarble 16 = .ok (.ifCond .eq 6, 3) := by decide +kernel
theorem dX7_putMarble_19 : decode cX7_putMarble 19 = .ok (.iload 5, 2) := by decide +kernel
theorem dX7_putMarble_21 : decode cX7_putMarble 21 = .ok (.ireturn, 1) := by decide +kernel
theorem dX7_putMarble_22 : decode cX7_putMarble 22 = .ok (.aload_n 0, 1) := by decide +kernel
theorem dX7_putMarble_23 : decode cX7_putMarble 23 = .ok (.getfield 29, 3) := by decide +kernel
theorem dX7_putMarble_26 : decode cX7_putMarble 26 = .ok (.aload_n 0, 1) := by decide +kernel
theorem dX7_putMarble_27 : decode cX7_putMarble 27 = .ok (.getfield 10, 3) := by decide +kernel
theorem dX7_putMarble_30 : decode cX7_putMarble 30 = .ok (.invokevirtual 44, 3) := by decide +kernel
theorem dX7_putMarble_33 : decode cX7_putMarble 33 = .ok (.aload_n 0, 1) := by decide +kernel
theorem dX7_putMarble_34 : decode cX7_putMarble 34 = .ok (.getfield 10, 3) := by decide +kernel
theorem dX7_putMarble_37 : decode cX7_putMarble 37 = .ok (.iload_n 1, 1) := by decide +kernel
theorem dX7_putMarble_38 : decode cX7_putMarble 38 = .ok (.iload_n 2, 1) := by decide +kernel
theorem dX7_putMarble_39 : decode cX7_putMarble 39 = .ok (.iload_n 3, 1) := by decide +kernel
theorem dX7_putMarble_40 : decode cX7_putMarble 40 = .ok (.iload 4, 2) := by decide +kernel
theorem dX7_putMarble_42 : decode cX7_putMarble 42 = .ok (.invokevirtual 48, 3) := by decide +kernel
theorem dX7_putMarble_45 : decode cX7_putMarble 45 = .ok (.ireturn, 1) := by decide +kernel
theorem dX7_drawRing_0 : decode cX7_drawRing 0 = .ok (.aload_n 0, 1) := by decide +kernel
theorem dX7_drawRing_1 : decode cX7_drawRing 1 = .ok (.getfield 10, 3) := by decide +kernel
theorem dX7_drawRing_4 : decode cX7_drawRing 4 = .ok (.iload_n 1, 1) := by decide +kernel
theorem dX7_drawRing_5 : decode cX7_drawRing 5 = .ok (.iload_n 2, 1) := by decide +kernel
theorem dX7_drawRing_6 : decode cX7_drawRing 6 = .ok (.iload_n 3, 1) := by decide +kernel
theorem dX7_drawRing_7 : decode cX7_drawRing 7 = .ok (.invokevirtual 51, 3) := by decide +kernel
theorem dX7_drawRing_10 : decode cX7_drawRing 10 = .ok (.istore 4, 2) := by decide +kernel
theorem dX7_drawRing_12 : decode cX7_drawRing 12 = .ok (.iload 4, 2) := by decide +kernel
theorem dX7_drawRing_14 : decode cX7_drawRing 14 = .ok (.ifCond .eq 6, 3) := by decide +kernel
theorem dX7_drawRing_17 : decode cX7_drawRing 17 = .ok (.iload 4, 2) := by decide +kernel
theorem dX7_drawRing_19 : decode cX7_drawRing 19 = .ok (.ireturn, 1) := by decide +kernel
theorem dX7_drawRing_20 : decode cX7_drawRing 20 = .ok (.aload_n 0, 1) := by decide +kernel
theorem dX7_drawRing_21 : decode cX7_drawRing 21 = .ok (.getfield 29, 3) := by decide +kernel
theorem dX7_drawRing_24 : decode cX7_drawRing 24 = .ok (.aload_n 0, 1) := by decide +kernel
theorem dX7_drawRing_25 : decode cX7_drawRing 25 = .ok (.getfield 10, 3) := by decide +kernel
theorem dX7_drawRing_28 : decode cX7_drawRing 28 = .ok (.invokevirtual 44, 3) := by decide +kernel
theorem dX7_drawRing_31 : decode cX7_drawRing 31 = .ok (.aload_n 0, 1) := by decide +kernel
theorem dX7_drawRing_32 : decode cX7_drawRing 32 = .ok (.getfield 10, 3) := by decide +kernel
theorem dX7_drawRing_35 : decode cX7_drawRing 35 = .ok (.iload_n 1, 1) := by decide +kernel
theorem dX7_drawRing_36 : decode cX7_drawRing 36 = .ok (.iload_n 2, 1) := by decide +kernel
theorem dX7_drawRing_37 : decode cX7_drawRing 37 = .ok (.iload_n 3, 1) := by decide +kernel
theorem dX7_drawRing_38 : decode cX7_drawRing 38 = .ok (.invokevirtual 55, 3) := by decide +kernel
theorem dX7_drawRing_41 : decode cX7_drawRing 41 = .ok (.ireturn, 1) := by decide +kernel
theorem dX7_move_0 : decode cX7_move 0 = .ok (.aload_n 0, 1) := by decide +kernel
theorem dX7_move_1 : decode cX7_move 1 = .ok (.getfield 10, 3) := by decide +kernel
theorem dX7_move_4 : decode cX7_move 4 = .ok (.iload_n 1, 1) := by decide +kernel
theorem dX7_move_5 : decode cX7_move 5 = .ok (.invokevirtual 58, 3) := by decide +kernel
theorem dX7_move_8 : decode cX7_move 8 = .ok (.astore 4, 2) := by decide +kernel
theorem dX7_move_10 : decode cX7_move 10 = .ok (.aload 4, 2) := by decide +kernel
theorem dX7_move_12 : decode cX7_move 12 = .ok (.ifnull 11, 3) := by decide +kernel
theorem dX7_move_15 : decode cX7_move 15 = .ok (.iload_n 2, 1) := by decide +kernel
theorem dX7_move_16 : decode cX7_move 16 = .ok (.iload_n 3, 1) := by decide +kernel
theorem dX7_move_17 : decode cX7_move 17 = .ok (.invokestatic 62, 3) := by decide +kernel
theorem dX7_move_20 : decode cX7_move 20 = .ok (.ifCond .ne 7, 3) := by decide +kernel
theorem dX7_move_23 : decode cX7_move 23 = .ok (.sipush (-1001), 3) := by decide +kernel
theorem dX7_move_26 : decode cX7_move 26 = .ok (.ireturn, 1) := by decide +kernel
theorem dX7_move_27 : decode cX7_move 27 = .ok (.aload 4, 2) := by decide +kernel
theorem dX7_move_29 : decode cX7_move 29 = .ok (.getfield 66, 3) := by decide +kernel
theorem dX7_move_32 : decode cX7_move 32 = .ok (.ifCond .eq 15, 3) := by decide +kernel
theorem dX7_move_35 : decode cX7_move 35 = .ok (.aload_n 0, 1) := by decide +kernel
theorem dX7_move_36 : decode cX7_move 36 = .ok (.getfield 10, 3) := by decide +kernel
theorem dX7_move_39 : decode cX7_move 39 = .ok (.iload_n 2, 1) := by decide +kernel
theorem dX7_move_40 : decode cX7_move 40 = .ok (.iload_n 3, 1) := by decide +kernel
theorem dX7_move_41 : decode cX7_move 41 = .ok (.invokevirtual 72, 3) := by decide +kernel
theorem dX7_move_44 : decode cX7_move 44 = .ok (.ifnull 7, 3) := by decide +kernel
theorem dX7_move_47 : decode cX7_move 47 = .ok (.sipush (-1003), 3) := by decide +kernel
theorem dX7_move_50 : decode cX7_move 50 = .ok (.ireturn, 1) := by decide +kernel
theorem dX7_move_51 : decode cX7_move 51 = .ok (.aload_n 0, 1) := by decide +kernel
theorem dX7_move_52 : decode cX7_move 52 = .ok (.getfield 29, 3) := by decide +kernel
theorem dX7_move_55 : decode cX7_move 55 = .ok (.aload_n 0, 1) := by decide +kernel
theorem dX7_move_56 : decode cX7_move 56 = .ok (.getfield 10, 3) := by decide +kernel
theorem dX7_move_59 : decode cX7_move 59 = .ok (.invokevirtual 44, 3) := by decide +kernel
theorem dX7_move_62 : decode cX7_move 62 = .ok (.aload 4, 2) := by decide +kernel
theorem dX7_move_64 : decode cX7_move 64 = .ok (.iload_n 2, 1) := by decide +kernel
theorem dX7_move_65 : decode cX7_move 65 = .ok (.putfield 76, 3) := by decide +kernel
theorem dX7_move_68 : decode cX7_move 68 = .ok (.aload 4, 2) := by decide +kernel
theorem dX7_move_70 : decode cX7_move 70 = .ok (.iload_n 3, 1) := by decide +kernel
theorem dX7_move_71 : decode cX7_move 71 = .ok (.putfield 80, 3) := by decide +kernel
theorem dX7_move_74 : decode cX7_move 74 = .ok (.aload_n 0, 1) := by decide +kernel
theorem dX7_move_75 : decode cX7_move 75 = .ok (.getfield 10, 3) := by decide +kernel
theorem dX7_move_78 : decode cX7_move 78 = .ok (.iload_n 2, 1) := by decide +kernel
theorem dX7_move_79 : decode cX7_move 79 = .ok (.iload_n 3, 1) := by decide +kernel
theorem dX7_move_80 : decode cX7_move 80 = .ok (.invokevirtual 83, 3) := by decide +kernel
theorem dX7_move_83 : decode cX7_move 83 = .ok (.invokestatic 87, 3) := by decide +kernel
theorem dX7_move_86 : decode cX7_move 86 = .ok (.ireturn, 1) := by decide +kernel
theorem dX7_clear_0 : decode cX7_clear 0 = .ok (.aload_n 0, 1) := by decide +kernel
theorem dX7_clear_1 : decode cX7_clear 1 = .ok (.getfield 10, 3) := by decide +kernel
theorem dX7_clear_4 : decode cX7_clear 4 = .ok (.getfield 93, 3) := by decide +kernel
theorem dX7_clear_7 : decode cX7_clear 7 = .ok (.istore_n 1, 1) := by decide +kernel
theorem dX7_clear_8 : decode cX7_clear 8 = .ok (.aload_n 0, 1) := by decide +kernel
theorem dX7_clear_9 : decode cX7_clear 9 = .ok (.getfield 29, 3) := by decide +kernel
theorem dX7_clear_12 : decode cX7_clear 12 = .ok (.aload_n 0, 1) := by decide +kernel
theorem dX7_clear_13 : decode cX7_clear 13 = .ok (.getfield 10, 3) := by decide +kernel
theorem dX7_clear_16 : decode cX7_clear 16 = .ok (.invokevirtual 44, 3) := by decide +kernel
theorem dX7_clear_19 : decode cX7_clear 19 = .ok (.aload_n 0, 1) := by decide +kernel
theorem dX7_clear_20 : decode cX7_clear 20 = .ok (.getfield 10, 3) := by decide +kernel
theorem dX7_clear_23 : decode cX7_clear 23 = .ok (.invokevirtual 96, 3) := by decide +kernel
theorem dX7_clear_26 : decode cX7_clear 26 = .ok (.iload_n 1, 1) := by decide +kernel
theorem dX7_clear_27 : decode cX7_clear 27 = .ok (.ireturn, 1) := by decide +kernel
theorem dX7_flick_0 : decode cX7_flick 0 = .ok (.aload_n 0, 1) := by decide +kernel
theorem dX7_flick_1 : decode cX7_flick 1 = .ok (.getfield 10, 3) := by decide +kernel
theorem dX7_flick_4 : decode cX7_flick 4 = .ok (.iload_n 1, 1) := by decide +kernel
theorem dX7_flick_5 : decode cX7_flick 5 = .ok (.invokevirtual 58, 3) := by decide +kernel
theorem dX7_flick_8 : decode cX7_flick 8 = .ok (.astore 4, 2) := by decide +kernel
theorem dX7_flick_10 : decode cX7_flick 10 = .ok (.aload 4, 2) := by decide +kernel
theorem dX7_flick_12 : decode cX7_flick 12 = .ok (.ifnonnull 7, 3) := by decide +kernel
theorem dX7_flick_15 : decode cX7_flick 15 = .ok (.sipush (-1001), 3) := by decide +kernel
theorem dX7_flick_18 : decode cX7_flick 18 = .ok (.ireturn, 1) := by decide +kernel
theorem dX7_flick_19 : decode cX7_flick 19 = .ok (.iload_n 2, 1) := by decide +kernel
theorem dX7_flick_20 : decode cX7_flick 20 = .ok (.invokestatic 99, 3) := by decide +kernel
theorem dX7_flick_23 : decode cX7_flick 23 = .ok (.ifCond .eq 10, 3) := by decide +kernel
theorem dX7_flick_26 : decode cX7_flick 26 = .ok (.iload_n 3, 1) := by decide +kernel
theorem dX7_flick_27 : decode cX7_flick 27 = .ok (.invokestatic 103, 3) := by decide +kernel
theorem dX7_flick_30 : decode cX7_flick 30 = .ok (.ifCond .ne 7, 3) := by decide +kernel
theorem dX7_flick_33 : decode cX7_flick 33 = .ok (.sipush (-1002), 3) := by decide +kernel
theorem dX7_flick_36 : decode cX7_flick 36 = .ok (.ireturn, 1) := by decide +kernel
theorem dX7_flick_37 : decode cX7_flick 37 = .ok (.aload 4, 2) := by decide +kernel
theorem dX7_flick_39 : decode cX7_flick 39 = .ok (.getfield 66, 3) := by decide +kernel
theorem dX7_flick_42 : decode cX7_flick 42 = .ok (.ifCond .eq 18, 3) := by decide +kernel
theorem dX7_flick_45 : decode cX7_flick 45 = .ok (.aload 4, 2) := by decide +kernel
theorem dX7_flick_47 : decode cX7_flick 47 = .ok (.getfield 106, 3) := by decide +kernel
theorem dX7_flick_50 : decode cX7_flick 50 = .ok (.aload_n 0, 1) := by decide +kernel
theorem dX7_flick_51 : decode cX7_flick 51 = .ok (.getfield 10, 3) := by decide +kernel
theorem dX7_flick_54 : decode cX7_flick 54 = .ok (.getfield 109, 3) := by decide +kernel
theorem dX7_flick_57 : decode cX7_flick 57 = .ok (.if_icmp .eq 7, 3) := by decide +kernel
theorem dX7_flick_60 : decode cX7_flick 60 = .ok (.sipush (-1003), 3) := by decide +kernel
theorem dX7_flick_63 : decode cX7_flick 63 = .ok (.ireturn, 1) := by decide +kernel
theorem dX7_flick_64 : decode cX7_flick 64 = .ok (.aload_n 0, 1) := by decide +kernel
theorem dX7_flick_65 : decode cX7_flick 65 = .ok (.getfield 29, 3) := by decide +kernel
theorem dX7_flick_68 : decode cX7_flick 68 = .ok (.aload_n 0, 1) := by decide +kernel
theorem dX7_flick_69 : decode cX7_flick 69 = .ok (.getfield 10, 3) := by decide +kernel
theorem dX7_flick_72 : decode cX7_flick 72 = .ok (.invokevirtual 44, 3) := by decide +kernel
theorem dX7_flick_75 : decode cX7_flick 75 = .ok (.aload_n 0, 1) := by decide +kernel
theorem dX7_flick_76 : decode cX7_flick 76 = .ok (.getfield 22, 3) := by decide +kernel
theorem dX7_flick_79 : decode cX7_flick 79 = .ok (.aload_n 0, 1) := by decide +kernel
theorem dX7_flick_80 : decode cX7_flick 80 = .ok (.getfield 10, 3) := by decide +kernel
theorem dX7_flick_83 : decode cX7_flick 83 = .ok (.iload_n 1, 1) := by decide +kernel
theorem dX7_flick_84 : decode cX7_flick 84 = .ok (.iload_n 2, 1) := by decide +kernel
theorem dX7_flick_85 : decode cX7_flick 85 = .ok (.iload_n 3, 1) := by decide +kernel
theorem dX7_flick_86 : decode cX7_flick 86 = .ok (.invokevirtual 112, 3) := by decide +kernel
theorem dX7_flick_89 : decode cX7_flick 89 = .ok (.aload_n 0, 1) := by decide +kernel
theorem dX7_flick_90 : decode cX7_flick 90 = .ok (.getfield 22, 3) := by decide +kernel
theorem dX7_flick_93 : decode cX7_flick 93 = .ok (.getfield 116, 3) := by decide +kernel
theorem dX7_flick_96 : decode cX7_flick 96 = .ok (.ireturn, 1) := by decide +kernel
theorem dX7_pass_0 : decode cX7_pass 0 = .ok (.aload_n 0, 1) := by decide +kernel
theorem dX7_pass_1 : decode cX7_pass 1 = .ok (.getfield 29, 3) := by decide +kernel
theorem dX7_pass_4 : decode cX7_pass 4 = .ok (.aload_n 0, 1) := by decide +kernel
theorem dX7_pass_5 : decode cX7_pass 5 = .ok (.getfield 10, 3) := by decide +kernel
theorem dX7_pass_8 : decode cX7_pass 8 = .ok (.invokevirtual 44, 3) := by decide +kernel
theorem dX7_pass_11 : decode cX7_pass 11 = .ok (.aload_n 0, 1) := by decide +kernel
theorem dX7_pass_12 : decode cX7_pass 12 = .ok (.getfield 10, 3) := by decide +kernel
theorem dX7_pass_15 : decode cX7_pass 15 = .ok (.invokevirtual 119, 3) := by decide +kernel
theorem dX7_pass_18 : decode cX7_pass 18 = .ok (.aload_n 0, 1) := by decide +kernel
theorem dX7_pass_19 : decode cX7_pass 19 = .ok (.getfield 10, 3) := by decide +kernel
theorem dX7_pass_22 : decode cX7_pass 22 = .ok (.getfield 109, 3) := by decide +kernel
theorem dX7_pass_25 : decode cX7_pass 25 = .ok (.ireturn, 1) := by decide +kernel
theorem dX7_count_0 : decode cX7_count 0 = .ok (.iload_n 1, 1) := by decide +kernel
theorem dX7_count_1 : decode cX7_count 1 = .ok (.tableswitch 111 0 7 #[47, 55, 63, 71, 79, 87, 95, 103], 47) := by decide +kernel
theorem dX7_count_48 : decode cX7_count 48 = .ok (.aload_n 0, 1) := by decide +kernel
theorem dX7_count_49 : decode cX7_count 49 = .ok (.getfield 10, 3) := by decide +kernel
theorem dX7_count_52 : decode cX7_count 52 = .ok (.getfield 93, 3) := by decide +kernel
theorem dX7_count_55 : decode cX7_count 55 = .ok (.ireturn, 1) := by decide +kernel
theorem dX7_count_56 : decode cX7_count 56 = .ok (.aload_n 0, 1) := by decide +kernel
theorem dX7_count_57 : decode cX7_count 57 = .ok (.getfield 10, 3) := by decide +kernel
theorem dX7_count_60 : decode cX7_count 60 = .ok (.getfield 122, 3) := by decide +kernel
theorem dX7_count_63 : decode cX7_count 63 = .ok (.ireturn, 1) := by decide +kernel
theorem dX7_count_64 : decode cX7_count 64 = .ok (.aload_n 0, 1) := by decide +kernel
theorem dX7_count_65 : decode cX7_count 65 = .ok (.getfield 10, 3) := by decide +kernel
theorem dX7_count_68 : decode cX7_count 68 = .ok (.getfield 109, 3) := by decide +kernel
theorem dX7_count_71 : decode cX7_count 71 = .ok (.ireturn, 1) := by decide +kernel
theorem dX7_count_72 : decode cX7_count 72 = .ok (.aload_n 0, 1) := by decide +kernel
theorem dX7_count_73 : decode cX7_count 73 = .ok (.getfield 10, 3) := by decide +kernel
theorem dX7_count_76 : decode cX7_count 76 = .ok (.getfield 125, 3) := by decide +kernel
theorem dX7_count_79 : decode cX7_count 79 = .ok (.ireturn, 1) := by decide +kernel
theorem dX7_count_80 : decode cX7_count 80 = .ok (.aload_n 0, 1) := by decide +kernel
theorem dX7_count_81 : decode cX7_count 81 = .ok (.getfield 10, 3) := by decide +kernel
theorem dX7_count_84 : decode cX7_count 84 = .ok (.getfield 128, 3) := by decide +kernel
theorem dX7_count_87 : decode cX7_count 87 = .ok (.ireturn, 1) := by decide +kernel
theorem dX7_count_88 : decode cX7_count 88 = .ok (.aload_n 0, 1) := by decide +kernel
theorem dX7_count_89 : decode cX7_count 89 = .ok (.getfield 10, 3) := by decide +kernel
theorem dX7_count_92 : decode cX7_count 92 = .ok (.getfield 131, 3) := by decide +kernel
theorem dX7_count_95 : decode cX7_count 95 = .ok (.ireturn, 1) := by decide +kernel
theorem dX7_count_96 : decode cX7_count 96 = .ok (.aload_n 0, 1) := by decide +kernel
theorem dX7_count_97 : decode cX7_count 97 = .ok (.getfield 10, 3) := by decide +kernel
theorem dX7_count_100 : decode cX7_count 100 = .ok (.getfield 132, 3) := by decide +kernel
theorem dX7_count_103 : decode cX7_count 103 = .ok (.ireturn, 1) := by decide +kernel
theorem dX7_count_104 : decode cX7_count 104 = .ok (.aload_n 0, 1) := by decide +kernel
theorem dX7_count_105 : decode cX7_count 105 = .ok (.getfield 10, 3) := by decide +kernel
theorem dX7_count_108 : decode cX7_count 108 = .ok (.getfield 135, 3) := by decide +kernel
theorem dX7_count_111 : decode cX7_count 111 = .ok (.ireturn, 1) := by decide +kernel
theorem dX7_count_112 : decode cX7_count 112 = .ok (.sipush (-1002), 3) := by decide +kernel
theorem dX7_count_115 : decode cX7_count 115 = .ok (.ireturn, 1) := by decide +kernel
theorem dX7_marble_0 : decode cX7_marble 0 = .ok (.aload_n 0, 1) := by decide +kernel
theorem dX7_marble_1 : decode cX7_marble 1 = .ok (.getfield 10, 3) := by decide +kernel
theorem dX7_marble_4 : decode cX7_marble 4 = .ok (.iload_n 1, 1) := by decide +kernel
theorem dX7_marble_5 : decode cX7_marble 5 = .ok (.invokevirtual 58, 3) := by decide +kernel
theorem dX7_marble_8 : decode cX7_marble 8 = .ok (.astore_n 3, 1) := by decide +kernel
theorem dX7_marble_9 : decode cX7_marble 9 = .ok (.aload_n 3, 1) := by decide +kernel
theorem dX7_marble_10 : decode cX7_marble 10 = .ok (.ifnonnull 7, 3) := by decide +kernel
theorem dX7_marble_13 : decode cX7_marble 13 = .ok (.sipush (-1001), 3) := by decide +kernel
theorem dX7_marble_16 : decode cX7_marble 16 = .ok (.ireturn, 1) := by decide +kernel
theorem dX7_marble_17 : decode cX7_marble 17 = .ok (.iload_n 2, 1) := by decide +kernel
theorem dX7_marble_18 : decode cX7_marble 18 = .ok (.tableswitch 131 0 5 #[38, 56, 74, 79, 84, 102], 38) := by decide +kernel
theorem dX7_marble_56 : decode cX7_marble 56 = .ok (.aload_n 3, 1) := by decide +kernel
theorem dX7_marble_57 : decode cX7_marble 57 = .ok (.getfield 66, 3) := by decide +kernel
theorem dX7_marble_60 : decode cX7_marble 60 = .ok (.ifCond .eq 10, 3) := by decide +kernel
theorem dX7_marble_63 : decode cX7_marble 63 = .ok (.aload_n 3, 1) := by decide +kernel
theorem dX7_marble_64 : decode cX7_marble 64 = .ok (.getfield 76, 3) := by decide +kernel
theorem dX7_marble_67 : decode cX7_marble 67 = .ok (.goto 6, 3) := by decide +kernel
theorem dX7_marble_70 : decode cX7_marble 70 = .ok (.sipush (-1006), 3) := by decide +kernel
theorem dX7_marble_73 : decode cX7_marble 73 = .ok (.ireturn, 1) := by decide +kernel
theorem dX7_marble_74 : decode cX7_marble 74 = .ok (.aload_n 3, 1) := by decide +kernel
theorem dX7_marble_75 : decode cX7_marble 75 = .ok (.getfield 66, 3) := by decide +kernel
theorem dX7_marble_78 : decode cX7_marble 78 = .ok (.ifCond .eq 10, 3) := by decide +kernel
theorem dX7_marble_81 : decode cX7_marble 81 = .ok (.aload_n 3, 1) := by decide +kernel
theorem dX7_marble_82 : decode cX7_marble 82 = .ok (.getfield 80, 3) := by decide +kernel
theorem dX7_marble_85 : decode cX7_marble 85 = .ok (.goto 6, 3) := by decide +kernel
theorem dX7_marble_88 : decode cX7_marble 88 = .ok (.sipush (-1006), 3) := by decide +kernel
theorem dX7_marble_91 : decode cX7_marble 91 = .ok (.ireturn, 1) := by decide +kernel
theorem dX7_marble_92 : decode cX7_marble 92 = .ok (.aload_n 3, 1) := by decide +kernel
theorem dX7_marble_93 : decode cX7_marble 93 = .ok (.getfield 138, 3) := by decide +kernel
theorem dX7_marble_96 : decode cX7_marble 96 = .ok (.ireturn, 1) := by decide +kernel
theorem dX7_marble_97 : decode cX7_marble 97 = .ok (.aload_n 3, 1) := by decide +kernel
theorem dX7_marble_98 : decode cX7_marble 98 = .ok (.getfield 106, 3) := by decide +kernel
theorem dX7_marble_101 : decode cX7_marble 101 = .ok (.ireturn, 1) := by decide +kernel
theorem dX7_marble_102 : decode cX7_marble 102 = .ok (.aload_n 3, 1) := by decide +kernel
theorem dX7_marble_103 : decode cX7_marble 103 = .ok (.getfield 66, 3) := by decide +kernel
theorem dX7_marble_106 : decode cX7_marble 106 = .ok (.ifCond .eq 9, 3) := by decide +kernel
theorem dX7_marble_109 : decode cX7_marble 109 = .ok (.sipush (-1006), 3) := by decide +kernel
theorem dX7_marble_112 : decode cX7_marble 112 = .ok (.goto 7, 3) := by decide +kernel
theorem dX7_marble_115 : decode cX7_marble 115 = .ok (.aload_n 3, 1) := by decide +kernel
theorem dX7_marble_116 : decode cX7_marble 116 = .ok (.getfield 141, 3) := by decide +kernel
theorem dX7_marble_119 : decode cX7_marble 119 = .ok (.ireturn, 1) := by decide +kernel
theorem dX7_marble_120 : decode cX7_marble 120 = .ok (.aload_n 3, 1) := by decide +kernel
theorem dX7_marble_121 : decode cX7_marble 121 = .ok (.getfield 66, 3) := by decide +kernel
theorem dX7_marble_124 : decode cX7_marble 124 = .ok (.ifCond .eq 21, 3) := by decide +kernel
theorem dX7_marble_127 : decode cX7_marble 127 = .ok (.aload_n 0, 1) := by decide +kernel
theorem dX7_marble_128 : decode cX7_marble 128 = .ok (.getfield 10, 3) := by decide +kernel
theorem dX7_marble_131 : decode cX7_marble 131 = .ok (.aload_n 3, 1) := by decide +kernel
theorem dX7_marble_132 : decode cX7_marble 132 = .ok (.getfield 76, 3) := by decide +kernel
theorem dX7_marble_135 : decode cX7_marble 135 = .ok (.aload_n 3, 1) := by decide +kernel
theorem dX7_marble_136 : decode cX7_marble 136 = .ok (.getfield 80, 3) := by decide +kernel
theorem dX7_marble_139 : decode cX7_marble 139 = .ok (.invokevirtual 83, 3) := by decide +kernel
theorem dX7_marble_142 : decode cX7_marble 142 = .ok (.goto 6, 3) := by decide +kernel
theorem dX7_marble_145 : decode cX7_marble 145 = .ok (.sipush (-1006), 3) := by decide +kernel
theorem dX7_marble_148 : decode cX7_marble 148 = .ok (.ireturn, 1) := by decide +kernel
theorem dX7_marble_149 : decode cX7_marble 149 = .ok (.sipush (-1002), 3) := by decide +kernel
theorem dX7_marble_152 : decode cX7_marble 152 = .ok (.ireturn, 1) := by decide +kernel
theorem dX7_ring_0 : decode cX7_ring 0 = .ok (.aload_n 0, 1) := by decide +kernel
theorem dX7_ring_1 : decode cX7_ring 1 = .ok (.getfield 10, 3) := by decide +kernel
theorem dX7_ring_4 : decode cX7_ring 4 = .ok (.iload_n 1, 1) := by decide +kernel
theorem dX7_ring_5 : decode cX7_ring 5 = .ok (.invokevirtual 144, 3) := by decide +kernel
theorem dX7_ring_8 : decode cX7_ring 8 = .ok (.astore_n 3, 1) := by decide +kernel
theorem dX7_ring_9 : decode cX7_ring 9 = .ok (.aload_n 3, 1) := by decide +kernel
theorem dX7_ring_10 : decode cX7_ring 10 = .ok (.ifnonnull 7, 3) := by decide +kernel
theorem dX7_ring_13 : decode cX7_ring 13 = .ok (.sipush (-1001), 3) := by decide +kernel
theorem dX7_ring_16 : decode cX7_ring 16 = .ok (.ireturn, 1) := by decide +kernel
theorem dX7_ring_17 : decode cX7_ring 17 = .ok (.iload_n 2, 1) := by decide +kernel
theorem dX7_ring_18 : decode cX7_ring 18 = .ok (.tableswitch 63 0 4 #[34, 39, 44, 49, 58], 34) := by decide +kernel
theorem dX7_ring_52 : decode cX7_ring 52 = .ok (.aload_n 3, 1) := by decide +kernel
theorem dX7_ring_53 : decode cX7_ring 53 = .ok (.getfield 148, 3) := by decide +kernel
theorem dX7_ring_56 : decode cX7_ring 56 = .ok (.ireturn, 1) := by decide +kernel
theorem dX7_ring_57 : decode cX7_ring 57 = .ok (.aload_n 3, 1) := by decide +kernel
theorem dX7_ring_58 : decode cX7_ring 58 = .ok (.getfield 151, 3) := by decide +kernel
theorem dX7_ring_61 : decode cX7_ring 61 = .ok (.ireturn, 1) := by decide +kernel
theorem dX7_ring_62 : decode cX7_ring 62 = .ok (.aload_n 3, 1) := by decide +kernel
theorem dX7_ring_63 : decode cX7_ring 63 = .ok (.getfield 152, 3) := by decide +kernel
theorem dX7_ring_66 : decode cX7_ring 66 = .ok (.ireturn, 1) := by decide +kernel
theorem dX7_ring_67 : decode cX7_ring 67 = .ok (.aload_n 0, 1) := by decide +kernel
theorem dX7_ring_68 : decode cX7_ring 68 = .ok (.getfield 10, 3) := by decide +kernel
theorem dX7_ring_71 : decode cX7_ring 71 = .ok (.aload_n 3, 1) := by decide +kernel
theorem dX7_ring_72 : decode cX7_ring 72 = .ok (.invokevirtual 155, 3) := by decide +kernel
theorem dX7_ring_75 : decode cX7_ring 75 = .ok (.ireturn, 1) := by decide +kernel
theorem dX7_ring_76 : decode cX7_ring 76 = .ok (.aload_n 3, 1) := by decide +kernel
theorem dX7_ring_77 : decode cX7_ring 77 = .ok (.invokevirtual 159, 3) := by decide +kernel
theorem dX7_ring_80 : decode cX7_ring 80 = .ok (.ireturn, 1) := by decide +kernel
theorem dX7_ring_81 : decode cX7_ring 81 = .ok (.sipush (-1002), 3) := by decide +kernel
theorem dX7_ring_84 : decode cX7_ring 84 = .ok (.ireturn, 1) := by decide +kernel
theorem dX7_at_0 : decode cX7_at 0 = .ok (.iload_n 1, 1) := by decide +kernel
theorem dX7_at_1 : decode cX7_at 1 = .ok (.iload_n 2, 1) := by decide +kernel
theorem dX7_at_2 : decode cX7_at 2 = .ok (.invokestatic 62, 3) := by decide +kernel
theorem dX7_at_5 : decode cX7_at 5 = .ok (.ifCond .ne 7, 3) := by decide +kernel
theorem dX7_at_8 : decode cX7_at 8 = .ok (.sipush (-1001), 3) := by decide +kernel
theorem dX7_at_11 : decode cX7_at 11 = .ok (.ireturn, 1) := by decide +kernel
theorem dX7_at_12 : decode cX7_at 12 = .ok (.aload_n 0, 1) := by decide +kernel
theorem dX7_at_13 : decode cX7_at 13 = .ok (.getfield 10, 3) := by decide +kernel
theorem dX7_at_16 : decode cX7_at 16 = .ok (.iload_n 1, 1) := by decide +kernel
theorem dX7_at_17 : decode cX7_at 17 = .ok (.iload_n 2, 1) := by decide +kernel
theorem dX7_at_18 : decode cX7_at 18 = .ok (.invokevirtual 72, 3) := by decide +kernel
theorem dX7_at_21 : decode cX7_at 21 = .ok (.astore_n 3, 1) := by decide +kernel
theorem dX7_at_22 : decode cX7_at 22 = .ok (.aload_n 3, 1) := by decide +kernel
theorem dX7_at_23 : decode cX7_at 23 = .ok (.ifnonnull 9, 3) := by decide +kernel
theorem dX7_at_26 : decode cX7_at 26 = .ok (.sipush (-1006), 3) := by decide +kernel
theorem dX7_at_29 : decode cX7_at 29 = .ok (.goto 7, 3) := by decide +kernel
theorem dX7_at_32 : decode cX7_at 32 = .ok (.aload_n 3, 1) := by decide +kernel
theorem dX7_at_33 : decode cX7_at 33 = .ok (.getfield 163, 3) := by decide +kernel
theorem dX7_at_36 : decode cX7_at 36 = .ok (.ireturn, 1) := by decide +kernel
theorem dX7_score_0 : decode cX7_score 0 = .ok (.iload_n 1, 1) := by decide +kernel
theorem dX7_score_1 : decode cX7_score 1 = .ok (.invokestatic 166, 3) := by decide +kernel
theorem dX7_score_4 : decode cX7_score 4 = .ok (.ifCond .eq 14, 3) := by decide +kernel
theorem dX7_score_7 : decode cX7_score 7 = .ok (.aload_n 0, 1) := by decide +kernel
theorem dX7_score_8 : decode cX7_score 8 = .ok (.getfield 10, 3) := by decide +kernel
theorem dX7_score_11 : decode cX7_score 11 = .ok (.iload_n 1, 1) := by decide +kernel
theorem dX7_score_12 : decode cX7_score 12 = .ok (.invokevirtual 169, 3) := by decide +kernel
theorem dX7_score_15 : decode cX7_score 15 = .ok (.goto 6, 3) := by decide +kernel
theorem dX7_score_18 : decode cX7_score 18 = .ok (.sipush (-1001), 3) := by decide +kernel
theorem dX7_score_21 : decode cX7_score 21 = .ok (.ireturn, 1) := by decide +kernel
theorem dX7_leader_0 : decode cX7_leader 0 = .ok (.iconst 0, 1) := by decide +kernel
theorem dX7_leader_1 : decode cX7_leader 1 = .ok (.istore_n 1, 1) := by decide +kernel
theorem dX7_leader_2 : decode cX7_leader 2 = .ok (.iconst 1, 1) := by decide +kernel
theorem dX7_leader_3 : decode cX7_leader 3 = .ok (.istore_n 2, 1) := by decide +kernel
theorem dX7_leader_4 : decode cX7_leader 4 = .ok (.iload_n 2, 1) := by decide +kernel
theorem dX7_leader_5 : decode cX7_leader 5 = .ok (.iconst 3, 1) := by decide +kernel
theorem dX7_leader_6 : decode cX7_leader 6 = .ok (.if_icmp .ge 30, 3) := by decide +kernel
theorem dX7_leader_9 : decode cX7_leader 9 = .ok (.aload_n 0, 1) := by decide +kernel
theorem dX7_leader_10 : decode cX7_leader 10 = .ok (.getfield 10, 3) := by decide +kernel
theorem dX7_leader_13 : decode cX7_leader 13 = .ok (.iload_n 2, 1) := by decide +kernel
theorem dX7_leader_14 : decode cX7_leader 14 = .ok (.invokevirtual 169, 3) := by decide +kernel
theorem dX7_leader_17 : decode cX7_leader 17 = .ok (.aload_n 0, 1) := by decide +kernel
theorem dX7_leader_18 : decode cX7_leader 18 = .ok (.getfield 10, 3) := by decide +kernel
theorem dX7_leader_21 : decode cX7_leader 21 = .ok (.iload_n 1, 1) := by decide +kernel
theorem dX7_leader_22 : decode cX7_leader 22 = .ok (.invokevirtual 169, 3) := by decide +kernel
theorem dX7_leader_25 : decode cX7_leader 25 = .ok (.if_icmp .le 5, 3) := by decide +kernel
theorem dX7_leader_28 : decode cX7_leader 28 = .ok (.iload_n 2, 1) := by decide +kernel
theorem dX7_leader_29 : decode cX7_leader 29 = .ok (.istore_n 1, 1) := by decide +kernel
theorem dX7_leader_30 : decode cX7_leader 30 = .ok (.iinc 2 1, 3) := by decide +kernel
theorem dX7_leader_33 : decode cX7_leader 33 = .ok (.goto (-29), 3) := by decide +kernel
theorem dX7_leader_36 : decode cX7_leader 36 = .ok (.iload_n 1, 1) := by decide +kernel
theorem dX7_leader_37 : decode cX7_leader 37 = .ok (.ireturn, 1) := by decide +kernel
theorem dX7_ifFlicked_0 : decode cX7_ifFlicked 0 = .ok (.aload_n 0, 1) := by decide +kernel
theorem dX7_ifFlicked_1 : decode cX7_ifFlicked 1 = .ok (.getfield 10, 3) := by decide +kernel
theorem dX7_ifFlicked_4 : decode cX7_ifFlicked 4 = .ok (.iload_n 1, 1) := by decide +kernel
theorem dX7_ifFlicked_5 : decode cX7_ifFlicked 5 = .ok (.invokevirtual 58, 3) := by decide +kernel
theorem dX7_ifFlicked_8 : decode cX7_ifFlicked 8 = .ok (.astore 5, 2) := by decide +kernel
theorem dX7_ifFlicked_10 : decode cX7_ifFlicked 10 = .ok (.aload 5, 2) := by decide +kernel
theorem dX7_ifFlicked_12 : decode cX7_ifFlicked 12 = .ok (.ifnonnull 7, 3) := by decide +kernel
theorem dX7_ifFlicked_15 : decode cX7_ifFlicked 15 = .ok (.sipush (-1001), 3) := by decide +kernel
theorem dX7_ifFlicked_18 : decode cX7_ifFlicked 18 = .ok (.ireturn, 1) := by decide +kernel
theorem dX7_ifFlicked_19 : decode cX7_ifFlicked 19 = .ok (.iload_n 2, 1) := by decide +kernel
theorem dX7_ifFlicked_20 : decode cX7_ifFlicked 20 = .ok (.invokestatic 99, 3) := by decide +kernel
theorem dX7_ifFlicked_23 : decode cX7_ifFlicked 23 = .ok (.ifCond .eq 21, 3) := by decide +kernel
theorem dX7_ifFlicked_26 : decode cX7_ifFlicked 26 = .ok (.iload_n 3, 1) := by decide +kernel
theorem dX7_ifFlicked_27 : decode cX7_ifFlicked 27 = .ok (.invokestatic 103, 3) := by decide +kernel
theorem dX7_ifFlicked_30 : decode cX7_ifFlicked 30 = .ok (.ifCond .eq 14, 3) := by decide +kernel
theorem dX7_ifFlicked_33 : decode cX7_ifFlicked 33 = .ok (.iload 4, 2) := by decide +kernel
theorem dX7_ifFlicked_35 : decode cX7_ifFlicked 35 = .ok (.ifCond .lt 9, 3) := by decide +kernel
theorem dX7_ifFlicked_38 : decode cX7_ifFlicked 38 = .ok (.iload 4, 2) := by decide +kernel
theorem dX7_ifFlicked_40 : decode cX7_ifFlicked 40 = .ok (.iconst 5, 1) := by decide +kernel
theorem dX7_ifFlicked_41 : decode cX7_ifFlicked 41 = .ok (.if_icmp .lt 7, 3) := by decide +kernel
theorem dX7_ifFlicked_44 : decode cX7_ifFlicked 44 = .ok (.sipush (-1002), 3) := by decide +kernel
theorem dX7_ifFlicked_47 : decode cX7_ifFlicked 47 = .ok (.ireturn, 1) := by decide +kernel
theorem dX7_ifFlicked_48 : decode cX7_ifFlicked 48 = .ok (.aload 5, 2) := by decide +kernel
theorem dX7_ifFlicked_50 : decode cX7_ifFlicked 50 = .ok (.getfield 66, 3) := by decide +kernel
theorem dX7_ifFlicked_53 : decode cX7_ifFlicked 53 = .ok (.ifCond .ne 7, 3) := by decide +kernel
theorem dX7_ifFlicked_56 : decode cX7_ifFlicked 56 = .ok (.sipush (-1003), 3) := by decide +kernel
theorem dX7_ifFlicked_59 : decode cX7_ifFlicked 59 = .ok (.ireturn, 1) := by decide +kernel
theorem dX7_ifFlicked_60 : decode cX7_ifFlicked 60 = .ok (.aload_n 0, 1) := by decide +kernel
theorem dX7_ifFlicked_61 : decode cX7_ifFlicked 61 = .ok (.iload_n 1, 1) := by decide +kernel
theorem dX7_ifFlicked_62 : decode cX7_ifFlicked 62 = .ok (.iload_n 2, 1) := by decide +kernel
theorem dX7_ifFlicked_63 : decode cX7_ifFlicked 63 = .ok (.iload_n 3, 1) := by decide +kernel
theorem dX7_ifFlicked_64 : decode cX7_ifFlicked 64 = .ok (.invokevirtual 172, 3) := by decide +kernel
theorem dX7_ifFlicked_67 : decode cX7_ifFlicked 67 = .ok (.iload 4, 2) := by decide +kernel
theorem dX7_ifFlicked_69 : decode cX7_ifFlicked 69 = .ok (.tableswitch 63 0 3 #[31, 39, 47, 55], 31) := by decide +kernel
theorem dX7_ifFlicked_100 : decode cX7_ifFlicked 100 = .ok (.aload_n 0, 1) := by decide +kernel
theorem dX7_ifFlicked_101 : decode cX7_ifFlicked 101 = .ok (.getfield 22, 3) := by decide +kernel
theorem dX7_ifFlicked_104 : decode cX7_ifFlicked 104 = .ok (.getfield 116, 3) := by decide +kernel
theorem dX7_ifFlicked_107 : decode cX7_ifFlicked 107 = .ok (.ireturn, 1) := by decide +kernel
theorem dX7_ifFlicked_108 : decode cX7_ifFlicked 108 = .ok (.aload_n 0, 1) := by decide +kernel
theorem dX7_ifFlicked_109 : decode cX7_ifFlicked 109 = .ok (.getfield 22, 3) := by decide +kernel
theorem dX7_ifFlicked_112 : decode cX7_ifFlicked 112 = .ok (.getfield 176, 3) := by decide +kernel
theorem dX7_ifFlicked_115 : decode cX7_ifFlicked 115 = .ok (.ireturn, 1) := by decide +kernel
theorem dX7_ifFlicked_116 : decode cX7_ifFlicked 116 = .ok (.aload_n 0, 1) := by decide +kernel
theorem dX7_ifFlicked_117 : decode cX7_ifFlicked 117 = .ok (.getfield 22, 3) := by decide +kernel
theorem dX7_ifFlicked_120 : decode cX7_ifFlicked 120 = .ok (.getfield 179, 3) := by decide +kernel
theorem dX7_ifFlicked_123 : decode cX7_ifFlicked 123 = .ok (.ireturn, 1) := by decide +kernel
theorem dX7_ifFlicked_124 : decode cX7_ifFlicked 124 = .ok (.aload_n 0, 1) := by decide +kernel
theorem dX7_ifFlicked_125 : decode cX7_ifFlicked 125 = .ok (.getfield 22, 3) := by decide +kernel
theorem dX7_ifFlicked_128 : decode cX7_ifFlicked 128 = .ok (.getfield 180, 3) := by decide +kernel
theorem dX7_ifFlicked_131 : decode cX7_ifFlicked 131 = .ok (.ireturn, 1) := by decide +kernel
theorem dX7_ifFlicked_132 : decode cX7_ifFlicked 132 = .ok (.bipush 100, 2) := by decide +kernel
theorem dX7_ifFlicked_134 : decode cX7_ifFlicked 134 = .ok (.aload_n 0, 1) := by decide +kernel
theorem dX7_ifFlicked_135 : decode cX7_ifFlicked 135 = .ok (.getfield 22, 3) := by decide +kernel
theorem dX7_ifFlicked_138 : decode cX7_ifFlicked 138 = .ok (.getfield 183, 3) := by decide +kernel
theorem dX7_ifFlicked_141 : decode cX7_ifFlicked 141 = .ok (.imul, 1) := by decide +kernel
theorem dX7_ifFlicked_142 : decode cX7_ifFlicked 142 = .ok (.aload_n 0, 1) := by decide +kernel
theorem dX7_ifFlicked_143 : decode cX7_ifFlicked 143 = .ok (.getfield 22, 3) := by decide +kernel
theorem dX7_ifFlicked_146 : decode cX7_ifFlicked 146 = .ok (.getfield 186, 3) := by decide +kernel
theorem dX7_ifFlicked_149 : decode cX7_ifFlicked 149 = .ok (.iadd, 1) := by decide +kernel
theorem dX7_ifFlicked_150 : decode cX7_ifFlicked 150 = .ok (.ireturn, 1) := by decide +kernel
theorem dX7_bestFlick_0 : decode cX7_bestFlick 0 = .ok (.aload_n 0, 1) := by decide +kernel
theorem dX7_bestFlick_1 : decode cX7_bestFlick 1 = .ok (.getfield 10, 3) := by decide +kernel
theorem dX7_bestFlick_4 : decode cX7_bestFlick 4 = .ok (.iload_n 1, 1) := by decide +kernel
theorem dX7_bestFlick_5 : decode cX7_bestFlick 5 = .ok (.invokevirtual 58, 3) := by decide +kernel
theorem dX7_bestFlick_8 : decode cX7_bestFlick 8 = .ok (.astore_n 2, 1) := by decide +kernel
theorem dX7_bestFlick_9 : decode cX7_bestFlick 9 = .ok (.aload_n 2, 1) := by decide +kernel
theorem dX7_bestFlick_10 : decode cX7_bestFlick 10 = .ok (.ifnonnull 7, 3) := by decide +kernel
theorem dX7_bestFlick_13 : decode cX7_bestFlick 13 = .ok (.sipush (-1001), 3) := by decide +kernel
theorem dX7_bestFlick_16 : decode cX7_bestFlick 16 = .ok (.ireturn, 1) := by decide +kernel
theorem dX7_bestFlick_17 : decode cX7_bestFlick 17 = .ok (.aload_n 2, 1) := by decide +kernel
theorem dX7_bestFlick_18 : decode cX7_bestFlick 18 = .ok (.getfield 66, 3) := by decide +kernel
theorem dX7_bestFlick_21 : decode cX7_bestFlick 21 = .ok (.ifCond .ne 7, 3) := by decide +kernel
theorem dX7_bestFlick_24 : decode cX7_bestFlick 24 = .ok (.sipush (-1003), 3) := by decide +kernel
theorem dX7_bestFlick_27 : decode cX7_bestFlick 27 = .ok (.ireturn, 1) := by decide +kernel
theorem dX7_bestFlick_28 : decode cX7_bestFlick 28 = .ok (.iconst 0, 1) := by decide +kernel
theorem dX7_bestFlick_29 : decode cX7_bestFlick 29 = .ok (.istore_n 3, 1) := by decide +kernel
theorem dX7_bestFlick_30 : decode cX7_bestFlick 30 = .ok (.sipush (-1006), 3) := by decide +kernel
theorem dX7_bestFlick_33 : decode cX7_bestFlick 33 = .ok (.istore 4, 2) := by decide +kernel
theorem dX7_bestFlick_35 : decode cX7_bestFlick 35 = .ok (.iconst 1, 1) := by decide +kernel
theorem dX7_bestFlick_36 : decode cX7_bestFlick 36 = .ok (.istore 5, 2) := by decide +kernel
theorem dX7_bestFlick_38 : decode cX7_bestFlick 38 = .ok (.iload 5, 2) := by decide +kernel
theorem dX7_bestFlick_40 : decode cX7_bestFlick 40 = .ok (.bipush 40, 2) := by decide +kernel
theorem dX7_bestFlick_42 : decode cX7_bestFlick 42 = .ok (.if_icmp .gt 65, 3) := by decide +kernel
theorem dX7_bestFlick_45 : decode cX7_bestFlick 45 = .ok (.iconst 0, 1) := by decide +kernel
theorem dX7_bestFlick_46 : decode cX7_bestFlick 46 = .ok (.istore 6, 2) := by decide +kernel
theorem dX7_bestFlick_48 : decode cX7_bestFlick 48 = .ok (.iload 6, 2) := by decide +kernel
theorem dX7_bestFlick_50 : decode cX7_bestFlick 50 = .ok (.getstatic 189, 3) := by decide +kernel
theorem dX7_bestFlick_53 : decode cX7_bestFlick 53 = .ok (.arraylength, 1) := by decide +kernel
theorem dX7_bestFlick_54 : decode cX7_bestFlick 54 = .ok (.if_icmp .ge 47, 3) := by decide +kernel
theorem dX7_bestFlick_57 : decode cX7_bestFlick 57 = .ok (.aload_n 0, 1) := by decide +kernel
theorem dX7_bestFlick_58 : decode cX7_bestFlick 58 = .ok (.iload_n 1, 1) := by decide +kernel
theorem dX7_bestFlick_59 : decode cX7_bestFlick 59 = .ok (.iload 6, 2) := by decide +kernel
theorem dX7_bestFlick_61 : decode cX7_bestFlick 61 = .ok (.iload 5, 2) := by decide +kernel
theorem dX7_bestFlick_63 : decode cX7_bestFlick 63 = .ok (.invokevirtual 172, 3) := by decide +kernel
theorem dX7_bestFlick_66 : decode cX7_bestFlick 66 = .ok (.aload_n 0, 1) := by decide +kernel
theorem dX7_bestFlick_67 : decode cX7_bestFlick 67 = .ok (.getfield 22, 3) := by decide +kernel
theorem dX7_bestFlick_70 : decode cX7_bestFlick 70 = .ok (.getfield 176, 3) := by decide +kernel
theorem dX7_bestFlick_73 : decode cX7_bestFlick 73 = .ok (.iload_n 3, 1) := by decide +kernel
theorem dX7_bestFlick_74 : decode cX7_bestFlick 74 = .ok (.if_icmp .le 21, 3) := by decide +kernel
theorem dX7_bestFlick_77 : decode cX7_bestFlick 77 = .ok (.aload_n 0, 1) := by decide +kernel
theorem dX7_bestFlick_78 : decode cX7_bestFlick 78 = .ok (.getfield 22, 3) := by decide +kernel
theorem dX7_bestFlick_81 : decode cX7_bestFlick 81 = .ok (.getfield 176, 3) := by decide +kernel
theorem dX7_bestFlick_84 : decode cX7_bestFlick 84 = .ok (.istore_n 3, 1) := by decide +kernel
theorem dX7_bestFlick_85 : decode cX7_bestFlick 85 = .ok (.bipush 100, 2) := by decide +kernel
theorem dX7_bestFlick_87 : decode cX7_bestFlick 87 = .ok (.iload 6, 2) := by decide +kernel
theorem dX7_bestFlick_89 : decode cX7_bestFlick 89 = .ok (.imul, 1) := by decide +kernel
theorem dX7_bestFlick_90 : decode cX7_bestFlick 90 = .ok (.iload 5, 2) := by decide +kernel
theorem dX7_bestFlick_92 : decode cX7_bestFlick 92 = .ok (.iadd, 1) := by decide +kernel
theorem dX7_bestFlick_93 : decode cX7_bestFlick 93 = .ok (.istore 4, 2) := by decide +kernel
theorem dX7_bestFlick_95 : decode cX7_bestFlick 95 = .ok (.iinc 6 1, 3) := by decide +kernel
theorem dX7_bestFlick_98 : decode cX7_bestFlick 98 = .ok (.goto (-50), 3) := by decide +kernel
theorem dX7_bestFlick_101 : decode cX7_bestFlick 101 = .ok (.iinc 5 1, 3) := by decide +kernel
theorem dX7_bestFlick_104 : decode cX7_bestFlick 104 = .ok (.goto (-66), 3) := by decide +kernel
theorem dX7_bestFlick_107 : decode cX7_bestFlick 107 = .ok (.iload 4, 2) := by decide +kernel
theorem dX7_bestFlick_109 : decode cX7_bestFlick 109 = .ok (.ireturn, 1) := by decide +kernel
theorem dX7_wayOut_0 : decode cX7_wayOut 0 = .ok (.aload_n 0, 1) := by decide +kernel
theorem dX7_wayOut_1 : decode cX7_wayOut 1 = .ok (.getfield 10, 3) := by decide +kernel
theorem dX7_wayOut_4 : decode cX7_wayOut 4 = .ok (.iload_n 1, 1) := by decide +kernel
theorem dX7_wayOut_5 : decode cX7_wayOut 5 = .ok (.invokevirtual 58, 3) := by decide +kernel
theorem dX7_wayOut_8 : decode cX7_wayOut 8 = .ok (.astore_n 2, 1) := by decide +kernel
theorem dX7_wayOut_9 : decode cX7_wayOut 9 = .ok (.aload_n 2, 1) := by decide +kernel
theorem dX7_wayOut_10 : decode cX7_wayOut 10 = .ok (.ifnonnull 7, 3) := by decide +kernel
theorem dX7_wayOut_13 : decode cX7_wayOut 13 = .ok (.sipush (-1001), 3) := by decide +kernel
theorem dX7_wayOut_16 : decode cX7_wayOut 16 = .ok (.ireturn, 1) := by decide +kernel
theorem dX7_wayOut_17 : decode cX7_wayOut 17 = .ok (.aload_n 2, 1) := by decide +kernel
theorem dX7_wayOut_18 : decode cX7_wayOut 18 = .ok (.getfield 66, 3) := by decide +kernel
theorem dX7_wayOut_21 : decode cX7_wayOut 21 = .ok (.ifCond .ne 7, 3) := by decide +kernel
theorem dX7_wayOut_24 : decode cX7_wayOut 24 = .ok (.sipush (-1003), 3) := by decide +kernel
theorem dX7_wayOut_27 : decode cX7_wayOut 27 = .ok (.ireturn, 1) := by decide +kernel
theorem dX7_wayOut_28 : decode cX7_wayOut 28 = .ok (.iconst 0, 1) := by decide +kernel
theorem dX7_wayOut_29 : decode cX7_wayOut 29 = .ok (.istore_n 3, 1) := by decide +kernel
theorem dX7_wayOut_30 : decode cX7_wayOut 30 = .ok (.iload_n 3, 1) := by decide +kernel
theorem dX7_wayOut_31 : decode cX7_wayOut 31 = .ok (.bipush 30, 2) := by decide +kernel
theorem dX7_wayOut_33 : decode cX7_wayOut 33 = .ok (.if_icmp .gt 23, 3) := by decide +kernel
theorem dX7_wayOut_36 : decode cX7_wayOut 36 = .ok (.aload_n 0, 1) := by decide +kernel
theorem dX7_wayOut_37 : decode cX7_wayOut 37 = .ok (.getfield 10, 3) := by decide +kernel
theorem dX7_wayOut_40 : decode cX7_wayOut 40 = .ok (.aload_n 2, 1) := by decide +kernel
theorem dX7_wayOut_41 : decode cX7_wayOut 41 = .ok (.iload_n 3, 1) := by decide +kernel
theorem dX7_wayOut_42 : decode cX7_wayOut 42 = .ok (.invokevirtual 193, 3) := by decide +kernel
theorem dX7_wayOut_45 : decode cX7_wayOut 45 = .ok (.ifCond .eq 5, 3) := by decide +kernel
theorem dX7_wayOut_48 : decode cX7_wayOut 48 = .ok (.iload_n 3, 1) := by decide +kernel
theorem dX7_wayOut_49 : decode cX7_wayOut 49 = .ok (.ireturn, 1) := by decide +kernel
theorem dX7_wayOut_50 : decode cX7_wayOut 50 = .ok (.iinc 3 1, 3) := by decide +kernel
theorem dX7_wayOut_53 : decode cX7_wayOut 53 = .ok (.goto (-23), 3) := by decide +kernel
theorem dX7_wayOut_56 : decode cX7_wayOut 56 = .ok (.sipush (-1006), 3) := by decide +kernel
theorem dX7_wayOut_59 : decode cX7_wayOut 59 = .ok (.ireturn, 1) := by decide +kernel
theorem dX7_type_0 : decode cX7_type 0 = .ok (.iload_n 1, 1) := by decide +kernel
theorem dX7_type_1 : decode cX7_type 1 = .ok (.bipush 33, 2) := by decide +kernel
theorem dX7_type_3 : decode cX7_type 3 = .ok (.if_icmp .lt 9, 3) := by decide +kernel
theorem dX7_type_6 : decode cX7_type 6 = .ok (.iload_n 1, 1) := by decide +kernel
theorem dX7_type_7 : decode cX7_type 7 = .ok (.bipush 126, 2) := by decide +kernel
theorem dX7_type_9 : decode cX7_type 9 = .ok (.if_icmp .le 7, 3) := by decide +kernel
theorem dX7_type_12 : decode cX7_type 12 = .ok (.sipush (-1002), 3) := by decide +kernel
theorem dX7_type_15 : decode cX7_type 15 = .ok (.ireturn, 1) := by decide +kernel
theorem dX7_type_16 : decode cX7_type 16 = .ok (.aload_n 0, 1) := by decide +kernel
theorem dX7_type_17 : decode cX7_type 17 = .ok (.getfield 36, 3) := by decide +kernel
theorem dX7_type_20 : decode cX7_type 20 = .ok (.getfield 197, 3) := by decide +kernel
theorem dX7_type_23 : decode cX7_type 23 = .ok (.iload_n 1, 1) := by decide +kernel
theorem dX7_type_24 : decode cX7_type 24 = .ok (.i2c, 1) := by decide +kernel
theorem dX7_type_25 : decode cX7_type 25 = .ok (.invokevirtual 201, 3) := by decide +kernel
theorem dX7_type_28 : decode cX7_type 28 = .ok (.ifCond .eq 16, 3) := by decide +kernel
theorem dX7_type_31 : decode cX7_type 31 = .ok (.aload_n 0, 1) := by decide +kernel
theorem dX7_type_32 : decode cX7_type 32 = .ok (.getfield 36, 3) := by decide +kernel
theorem dX7_type_35 : decode cX7_type 35 = .ok (.getfield 197, 3) := by decide +kernel
theorem dX7_type_38 : decode cX7_type 38 = .ok (.getfield 207, 3) := by decide +kernel
theorem dX7_type_41 : decode cX7_type 41 = .ok (.goto 6, 3) := by decide +kernel
theorem dX7_type_44 : decode cX7_type 44 = .ok (.sipush (-1004), 3) := by decide +kernel
theorem dX7_type_47 : decode cX7_type 47 = .ok (.ireturn, 1) := by decide +kernel
theorem dX7_clearText_0 : decode cX7_clearText 0 = .ok (.aload_n 0, 1) := by decide +kernel
theorem dX7_clearText_1 : decode cX7_clearText 1 = .ok (.getfield 36, 3) := by decide +kernel
theorem dX7_clearText_4 : decode cX7_clearText 4 = .ok (.getfield 197, 3) := by decide +kernel
theorem dX7_clearText_7 : decode cX7_clearText 7 = .ok (.getfield 207, 3) := by decide +kernel
theorem dX7_clearText_10 : decode cX7_clearText 10 = .ok (.istore_n 1, 1) := by decide +kernel
theorem dX7_clearText_11 : decode cX7_clearText 11 = .ok (.aload_n 0, 1) := by decide +kernel
theorem dX7_clearText_12 : decode cX7_clearText 12 = .ok (.getfield 36, 3) := by decide +kernel
theorem dX7_clearText_15 : decode cX7_clearText 15 = .ok (.getfield 197, 3) := by decide +kernel
theorem dX7_clearText_18 : decode cX7_clearText 18 = .ok (.iconst 0, 1) := by decide +kernel
theorem dX7_clearText_19 : decode cX7_clearText 19 = .ok (.putfield 207, 3) := by decide +kernel
theorem dX7_clearText_22 : decode cX7_clearText 22 = .ok (.iload_n 1, 1) := by decide +kernel
theorem dX7_clearText_23 : decode cX7_clearText 23 = .ok (.ireturn, 1) := by decide +kernel
theorem dX7_syntaxError_0 : decode cX7_syntaxError 0 = .ok (.aload_n 0, 1) := by decide +kernel
theorem dX7_syntaxError_1 : decode cX7_syntaxError 1 = .ok (.getfield 36, 3) := by decide +kernel
theorem dX7_syntaxError_4 : decode cX7_syntaxError 4 = .ok (.invokevirtual 210, 3) := by decide +kernel
theorem dX7_syntaxError_7 : decode cX7_syntaxError 7 = .ok (.aload_n 0, 1) := by decide +kernel
theorem dX7_syntaxError_8 : decode cX7_syntaxError 8 = .ok (.getfield 36, 3) := by decide +kernel
theorem dX7_syntaxError_11 : decode cX7_syntaxError 11 = .ok (.invokevirtual 213, 3) := by decide +kernel
theorem dX7_syntaxError_14 : decode cX7_syntaxError 14 = .ok (.iconst 1, 1) := by decide +kernel
theorem dX7_syntaxError_15 : decode cX7_syntaxError 15 = .ok (.istore_n 1, 1) := by decide +kernel
theorem dX7_syntaxError_16 : decode cX7_syntaxError 16 = .ok (.iload_n 1, 1) := by decide +kernel
theorem dX7_syntaxError_17 : decode cX7_syntaxError 17 = .ok (.bipush 80, 2) := by decide +kernel
theorem dX7_syntaxError_19 : decode cX7_syntaxError 19 = .ok (.if_icmp .ge 26, 3) := by decide +kernel
theorem dX7_syntaxError_22 : decode cX7_syntaxError 22 = .ok (.aload_n 0, 1) := by decide +kernel
theorem dX7_syntaxError_23 : decode cX7_syntaxError 23 = .ok (.getfield 36, 3) := by decide +kernel
theorem dX7_syntaxError_26 : decode cX7_syntaxError 26 = .ok (.invokevirtual 216, 3) := by decide +kernel
theorem dX7_syntaxError_29 : decode cX7_syntaxError 29 = .ok (.ifCond .eq 16, 3) := by decide +kernel
theorem dX7_syntaxError_32 : decode cX7_syntaxError 32 = .ok (.aload_n 0, 1) := by decide +kernel
theorem dX7_syntaxError_33 : decode cX7_syntaxError 33 = .ok (.getfield 36, 3) := by decide +kernel
theorem dX7_syntaxError_36 : decode cX7_syntaxError 36 = .ok (.invokevirtual 213, 3) := by decide +kernel
theorem dX7_syntaxError_39 : decode cX7_syntaxError 39 = .ok (.iinc 1 1, 3) := by decide +kernel
theorem dX7_syntaxError_42 : decode cX7_syntaxError 42 = .ok (.goto (-26), 3) := by decide +kernel
theorem dX7_syntaxError_45 : decode cX7_syntaxError 45 = .ok (.aload_n 0, 1) := by decide +kernel
theorem dX7_syntaxError_46 : decode cX7_syntaxError 46 = .ok (.getfield 36, 3) := by decide +kernel
theorem dX7_syntaxError_49 : decode cX7_syntaxError 49 = .ok (.getfield 220, 3) := by decide +kernel
theorem dX7_syntaxError_52 : decode cX7_syntaxError 52 = .ok (.ifCond .eq 13, 3) := by decide +kernel
theorem dX7_syntaxError_55 : decode cX7_syntaxError 55 = .ok (.aload_n 0, 1) := by decide +kernel
theorem dX7_syntaxError_56 : decode cX7_syntaxError 56 = .ok (.getfield 36, 3) := by decide +kernel
theorem dX7_syntaxError_59 : decode cX7_syntaxError 59 = .ok (.getfield 223, 3) := by decide +kernel
theorem dX7_syntaxError_62 : decode cX7_syntaxError 62 = .ok (.goto 6, 3) := by decide +kernel
theorem dX7_syntaxError_65 : decode cX7_syntaxError 65 = .ok (.sipush (-1006), 3) := by decide +kernel
theorem dX7_syntaxError_68 : decode cX7_syntaxError 68 = .ok (.ireturn, 1) := by decide +kernel
theorem dX7_readItems_0 : decode cX7_readItems 0 = .ok (.aload_n 0, 1) := by decide +kernel
theorem dX7_readItems_1 : decode cX7_readItems 1 = .ok (.invokevirtual 226, 3) := by decide +kernel
theorem dX7_readItems_4 : decode cX7_readItems 4 = .ok (.sipush (-1006), 3) := by decide +kernel
theorem dX7_readItems_7 : decode cX7_readItems 7 = .ok (.if_icmp .eq 7, 3) := by decide +kernel
theorem dX7_readItems_10 : decode cX7_readItems 10 = .ok (.sipush (-1005), 3) := by decide +kernel
theorem dX7_readItems_13 : decode cX7_readItems 13 = .ok (.ireturn, 1) := by decide +kernel
theorem dX7_readItems_14 : decode cX7_readItems 14 = .ok (.aload_n 0, 1) := by decide +kernel
theorem dX7_readItems_15 : decode cX7_readItems 15 = .ok (.getfield 29, 3) := by decide +kernel
theorem dX7_readItems_18 : decode cX7_readItems 18 = .ok (.aload_n 0, 1) := by decide +kernel
theorem dX7_readItems_19 : decode cX7_readItems 19 = .ok (.getfield 10, 3) := by decide +kernel
theorem dX7_readItems_22 : decode cX7_readItems 22 = .ok (.invokevirtual 44, 3) := by decide +kernel
theorem dX7_readItems_25 : decode cX7_readItems 25 = .ok (.aload_n 0, 1) := by decide +kernel
theorem dX7_readItems_26 : decode cX7_readItems 26 = .ok (.getfield 36, 3) := by decide +kernel
theorem dX7_readItems_29 : decode cX7_readItems 29 = .ok (.invokevirtual 210, 3) := by decide +kernel
theorem dX7_readItems_32 : decode cX7_readItems 32 = .ok (.iconst 0, 1) := by decide +kernel
theorem dX7_readItems_33 : decode cX7_readItems 33 = .ok (.istore_n 1, 1) := by decide +kernel
theorem dX7_readItems_34 : decode cX7_readItems 34 = .ok (.iload_n 1, 1) := by decide +kernel
theorem dX7_readItems_35 : decode cX7_readItems 35 = .ok (.bipush 80, 2) := by decide +kernel
theorem dX7_readItems_37 : decode cX7_readItems 37 = .ok (.if_icmp .ge 36, 3) := by decide +kernel
theorem dX7_readItems_40 : decode cX7_readItems 40 = .ok (.aload_n 0, 1) := by decide +kernel
theorem dX7_readItems_41 : decode cX7_readItems 41 = .ok (.getfield 36, 3) := by decide +kernel
theorem dX7_readItems_44 : decode cX7_readItems 44 = .ok (.invokevirtual 216, 3) := by decide +kernel
theorem dX7_readItems_47 : decode cX7_readItems 47 = .ok (.ifCond .eq 26, 3) := by decide +kernel
theorem dX7_readItems_50 : decode cX7_readItems 50 = .ok (.aload_n 0, 1) := by decide +kernel
theorem dX7_readItems_51 : decode cX7_readItems 51 = .ok (.getfield 36, 3) := by decide +kernel
theorem dX7_readItems_54 : decode cX7_readItems 54 = .ok (.invokevirtual 213, 3) := by decide +kernel
theorem dX7_readItems_57 : decode cX7_readItems 57 = .ok (.aload_n 0, 1) := by decide +kernel
theorem dX7_readItems_58 : decode cX7_readItems 58 = .ok (.invokevirtual 229, 3) := by decide +kernel
theorem dX7_readItems_61 : decode cX7_readItems 61 = .ok (.ifCond .ne 6, 3) := by decide +kernel
theorem dX7_readItems_64 : decode cX7_readItems 64 = .ok (.goto 9, 3) := by decide +kernel
theorem dX7_readItems_67 : decode cX7_readItems 67 = .ok (.iinc 1 1, 3) := by decide +kernel
theorem dX7_readItems_70 : decode cX7_readItems 70 = .ok (.goto (-36), 3) := by decide +kernel
theorem dX7_readItems_73 : decode cX7_readItems 73 = .ok (.aload_n 0, 1) := by decide +kernel
theorem dX7_readItems_74 : decode cX7_readItems 74 = .ok (.getfield 36, 3) := by decide +kernel
theorem dX7_readItems_77 : decode cX7_readItems 77 = .ok (.getfield 197, 3) := by decide +kernel
theorem dX7_readItems_80 : decode cX7_readItems 80 = .ok (.iconst 0, 1) := by decide +kernel
theorem dX7_readItems_81 : decode cX7_readItems 81 = .ok (.putfield 207, 3) := by decide +kernel
theorem dX7_readItems_84 : decode cX7_readItems 84 = .ok (.iload_n 1, 1) := by decide +kernel
theorem dX7_readItems_85 : decode cX7_readItems 85 = .ok (.ireturn, 1) := by decide +kernel
theorem dX7_undo_0 : decode cX7_undo 0 = .ok (.aload_n 0, 1) := by decide +kernel
theorem dX7_undo_1 : decode cX7_undo 1 = .ok (.getfield 29, 3) := by decide +kernel
theorem dX7_undo_4 : decode cX7_undo 4 = .ok (.getfield 232, 3) := by decide +kernel
theorem dX7_undo_7 : decode cX7_undo 7 = .ok (.ifCond .ne 7, 3) := by decide +kernel
theorem dX7_undo_10 : decode cX7_undo 10 = .ok (.sipush (-1003), 3) := by decide +kernel
theorem dX7_undo_13 : decode cX7_undo 13 = .ok (.ireturn, 1) := by decide +kernel
theorem dX7_undo_14 : decode cX7_undo 14 = .ok (.aload_n 0, 1) := by decide +kernel
theorem dX7_undo_15 : decode cX7_undo 15 = .ok (.getfield 29, 3) := by decide +kernel
theorem dX7_undo_18 : decode cX7_undo 18 = .ok (.aload_n 0, 1) := by decide +kernel
theorem dX7_undo_19 : decode cX7_undo 19 = .ok (.getfield 10, 3) := by decide +kernel
theorem dX7_undo_22 : decode cX7_undo 22 = .ok (.invokevirtual 235, 3) := by decide +kernel
theorem dX7_undo_25 : decode cX7_undo 25 = .ok (.aload_n 0, 1) := by decide +kernel
theorem dX7_undo_26 : decode cX7_undo 26 = .ok (.getfield 29, 3) := by decide +kernel
theorem dX7_undo_29 : decode cX7_undo 29 = .ok (.getfield 232, 3) := by decide +kernel
theorem dX7_undo_32 : decode cX7_undo 32 = .ok (.ireturn, 1) := by decide +kernel
theorem dX7_digest_0 : decode cX7_digest 0 = .ok (.ldc2_w 238, 3) := by decide +kernel
theorem dX7_digest_3 : decode cX7_digest 3 = .ok (.lstore_n 1, 1) := by decide +kernel
theorem dX7_digest_4 : decode cX7_digest 4 = .ok (.iconst 0, 1) := by decide +kernel
theorem dX7_digest_5 : decode cX7_digest 5 = .ok (.istore_n 3, 1) := by decide +kernel
theorem dX7_digest_6 : decode cX7_digest 6 = .ok (.iload_n 3, 1) := by decide +kernel
theorem dX7_digest_7 : decode cX7_digest 7 = .ok (.bipush 8, 2) := by decide +kernel
theorem dX7_digest_9 : decode cX7_digest 9 = .ok (.if_icmp .ge 20, 3) := by decide +kernel
theorem dX7_digest_12 : decode cX7_digest 12 = .ok (.lload_n 1, 1) := by decide +kernel
theorem dX7_digest_13 : decode cX7_digest 13 = .ok (.aload_n 0, 1) := by decide +kernel
theorem dX7_digest_14 : decode cX7_digest 14 = .ok (.iload_n 3, 1) := by decide +kernel
theorem dX7_digest_15 : decode cX7_digest 15 = .ok (.invokevirtual 240, 3) := by decide +kernel
theorem dX7_digest_18 : decode cX7_digest 18 = .ok (.i2l, 1) := by decide +kernel
theorem dX7_digest_19 : decode cX7_digest 19 = .ok (.invokestatic 243, 3) := by decide +kernel
theorem dX7_digest_22 : decode cX7_digest 22 = .ok (.lstore_n 1, 1) := by decide +kernel
theorem dX7_digest_23 : decode cX7_digest 23 = .ok (.iinc 3 1, 3) := by decide +kernel
theorem dX7_digest_26 : decode cX7_digest 26 = .ok (.goto (-20), 3) := by decide +kernel
theorem dX7_digest_29 : decode cX7_digest 29 = .ok (.iconst 0, 1) := by decide +kernel
theorem dX7_digest_30 : decode cX7_digest 30 = .ok (.istore_n 3, 1) := by decide +kernel
theorem dX7_digest_31 : decode cX7_digest 31 = .ok (.iload_n 3, 1) := by decide +kernel
theorem dX7_digest_32 : decode cX7_digest 32 = .ok (.aload_n 0, 1) := by decide +kernel
theorem dX7_digest_33 : decode cX7_digest 33 = .ok (.getfield 10, 3) := by decide +kernel
theorem dX7_digest_36 : decode cX7_digest 36 = .ok (.getfield 93, 3) := by decide +kernel
theorem dX7_digest_39 : decode cX7_digest 39 = .ok (.if_icmp .ge 38, 3) := by decide +kernel
theorem dX7_digest_42 : decode cX7_digest 42 = .ok (.iconst 0, 1) := by decide +kernel
theorem dX7_digest_43 : decode cX7_digest 43 = .ok (.istore 4, 2) := by decide +kernel
theorem dX7_digest_45 : decode cX7_digest 45 = .ok (.iload 4, 2) := by decide +kernel
theorem dX7_digest_47 : decode cX7_digest 47 = .ok (.bipush 6, 2) := by decide +kernel
theorem dX7_digest_49 : decode cX7_digest 49 = .ok (.if_icmp .ge 22, 3) := by decide +kernel
theorem dX7_digest_52 : decode cX7_digest 52 = .ok (.lload_n 1, 1) := by decide +kernel
theorem dX7_digest_53 : decode cX7_digest 53 = .ok (.aload_n 0, 1) := by decide +kernel
theorem dX7_digest_54 : decode cX7_digest 54 = .ok (.iload_n 3, 1) := by decide +kernel
theorem dX7_digest_55 : decode cX7_digest 55 = .ok (.iload 4, 2) := by decide +kernel
theorem dX7_digest_57 : decode cX7_digest 57 = .ok (.invokevirtual 247, 3) := by decide +kernel
theorem dX7_digest_60 : decode cX7_digest 60 = .ok (.i2l, 1) := by decide +kernel
theorem dX7_digest_61 : decode cX7_digest 61 = .ok (.invokestatic 243, 3) := by decide +kernel
theorem dX7_digest_64 : decode cX7_digest 64 = .ok (.lstore_n 1, 1) := by decide +kernel
theorem dX7_digest_65 : decode cX7_digest 65 = .ok (.iinc 4 1, 3) := by decide +kernel
theorem dX7_digest_68 : decode cX7_digest 68 = .ok (.goto (-23), 3) := by decide +kernel
theorem dX7_digest_71 : decode cX7_digest 71 = .ok (.iinc 3 1, 3) := by decide +kernel
theorem dX7_digest_74 : decode cX7_digest 74 = .ok (.goto (-43), 3) := by decide +kernel
theorem dX7_digest_77 : decode cX7_digest 77 = .ok (.iconst 0, 1) := by decide +kernel
theorem dX7_digest_78 : decode cX7_digest 78 = .ok (.istore_n 3, 1) := by decide +kernel
theorem dX7_digest_79 : decode cX7_digest 79 = .ok (.iload_n 3, 1) := by decide +kernel
theorem dX7_digest_80 : decode cX7_digest 80 = .ok (.aload_n 0, 1) := by decide +kernel
theorem dX7_digest_81 : decode cX7_digest 81 = .ok (.getfield 10, 3) := by decide +kernel
theorem dX7_digest_84 : decode cX7_digest 84 = .ok (.getfield 122, 3) := by decide +kernel
theorem dX7_digest_87 : decode cX7_digest 87 = .ok (.if_icmp .ge 37, 3) := by decide +kernel
theorem dX7_digest_90 : decode cX7_digest 90 = .ok (.iconst 0, 1) := by decide +kernel
theorem dX7_digest_91 : decode cX7_digest 91 = .ok (.istore 4, 2) := by decide +kernel
theorem dX7_digest_93 : decode cX7_digest 93 = .ok (.iload 4, 2) := by decide +kernel
theorem dX7_digest_95 : decode cX7_digest 95 = .ok (.iconst 5, 1) := by decide +kernel
theorem dX7_digest_96 : decode cX7_digest 96 = .ok (.if_icmp .ge 22, 3) := by decide +kernel
theorem dX7_digest_99 : decode cX7_digest 99 = .ok (.lload_n 1, 1) := by decide +kernel
theorem dX7_digest_100 : decode cX7_digest 100 = .ok (.aload_n 0, 1) := by decide +kernel
theorem dX7_digest_101 : decode cX7_digest 101 = .ok (.iload_n 3, 1) := by decide +kernel
theorem dX7_digest_102 : decode cX7_digest 102 = .ok (.iload 4, 2) := by decide +kernel
theorem dX7_digest_104 : decode cX7_digest 104 = .ok (.invokevirtual 250, 3) := by decide +kernel
theorem dX7_digest_107 : decode cX7_digest 107 = .ok (.i2l, 1) := by decide +kernel
theorem dX7_digest_108 : decode cX7_digest 108 = .ok (.invokestatic 243, 3) := by decide +kernel
theorem dX7_digest_111 : decode cX7_digest 111 = .ok (.lstore_n 1, 1) := by decide +kernel
theorem dX7_digest_112 : decode cX7_digest 112 = .ok (.iinc 4 1, 3) := by decide +kernel
theorem dX7_digest_115 : decode cX7_digest 115 = .ok (.goto (-22), 3) := by decide +kernel
theorem dX7_digest_118 : decode cX7_digest 118 = .ok (.iinc 3 1, 3) := by decide +kernel
theorem dX7_digest_121 : decode cX7_digest 121 = .ok (.goto (-42), 3) := by decide +kernel
theorem dX7_digest_124 : decode cX7_digest 124 = .ok (.iconst 0, 1) := by decide +kernel
theorem dX7_digest_125 : decode cX7_digest 125 = .ok (.istore_n 3, 1) := by decide +kernel
theorem dX7_digest_126 : decode cX7_digest 126 = .ok (.iload_n 3, 1) := by decide +kernel
theorem dX7_digest_127 : decode cX7_digest 127 = .ok (.iconst 3, 1) := by decide +kernel
theorem dX7_digest_128 : decode cX7_digest 128 = .ok (.if_icmp .ge 20, 3) := by decide +kernel
theorem dX7_digest_131 : decode cX7_digest 131 = .ok (.lload_n 1, 1) := by decide +kernel
theorem dX7_digest_132 : decode cX7_digest 132 = .ok (.aload_n 0, 1) := by decide +kernel
theorem dX7_digest_133 : decode cX7_digest 133 = .ok (.iload_n 3, 1) := by decide +kernel
theorem dX7_digest_134 : decode cX7_digest 134 = .ok (.invokevirtual 253, 3) := by decide +kernel
theorem dX7_digest_137 : decode cX7_digest 137 = .ok (.i2l, 1) := by decide +kernel
theorem dX7_digest_138 : decode cX7_digest 138 = .ok (.invokestatic 243, 3) := by decide +kernel
theorem dX7_digest_141 : decode cX7_digest 141 = .ok (.lstore_n 1, 1) := by decide +kernel
theorem dX7_digest_142 : decode cX7_digest 142 = .ok (.iinc 3 1, 3) := by decide +kernel
theorem dX7_digest_145 : decode cX7_digest 145 = .ok (.goto (-19), 3) := by decide +kernel
theorem dX7_digest_148 : decode cX7_digest 148 = .ok (.lload_n 1, 1) := by decide +kernel
theorem dX7_digest_149 : decode cX7_digest 149 = .ok (.aload_n 0, 1) := by decide +kernel
theorem dX7_digest_150 : decode cX7_digest 150 = .ok (.invokevirtual 256, 3) := by decide +kernel
theorem dX7_digest_153 : decode cX7_digest 153 = .ok (.i2l, 1) := by decide +kernel
theorem dX7_digest_154 : decode cX7_digest 154 = .ok (.invokestatic 243, 3) := by decide +kernel
theorem dX7_digest_157 : decode cX7_digest 157 = .ok (.lstore_n 1, 1) := by decide +kernel
theorem dX7_digest_158 : decode cX7_digest 158 = .ok (.iconst 0, 1) := by decide +kernel
theorem dX7_digest_159 : decode cX7_digest 159 = .ok (.istore_n 3, 1) := by decide +kernel
theorem dX7_digest_160 : decode cX7_digest 160 = .ok (.iload_n 3, 1) := by decide +kernel
theorem dX7_digest_161 : decode cX7_digest 161 = .ok (.aload_n 0, 1) := by decide +kernel
theorem dX7_digest_162 : decode cX7_digest 162 = .ok (.getfield 10, 3) := by decide +kernel
theorem dX7_digest_165 : decode cX7_digest 165 = .ok (.getfield 93, 3) := by decide +kernel
theorem dX7_digest_168 : decode cX7_digest 168 = .ok (.if_icmp .ge 20, 3) := by decide +kernel
theorem dX7_digest_171 : decode cX7_digest 171 = .ok (.lload_n 1, 1) := by decide +kernel
theorem dX7_digest_172 : decode cX7_digest 172 = .ok (.aload_n 0, 1) := by decide +kernel
theorem dX7_digest_173 : decode cX7_digest 173 = .ok (.iload_n 3, 1) := by decide +kernel
theorem dX7_digest_174 : decode cX7_digest 174 = .ok (.invokevirtual 259, 3) := by decide +kernel
theorem dX7_digest_177 : decode cX7_digest 177 = .ok (.i2l, 1) := by decide +kernel
theorem dX7_digest_178 : decode cX7_digest 178 = .ok (.invokestatic 243, 3) := by decide +kernel
theorem dX7_digest_181 : decode cX7_digest 181 = .ok (.lstore_n 1, 1) := by decide +kernel
theorem dX7_digest_182 : decode cX7_digest 182 = .ok (.iinc 3 1, 3) := by decide +kernel
theorem dX7_digest_185 : decode cX7_digest 185 = .ok (.goto (-25), 3) := by decide +kernel
theorem dX7_digest_188 : decode cX7_digest 188 = .ok (.lload_n 1, 1) := by decide +kernel
theorem dX7_digest_189 : decode cX7_digest 189 = .ok (.lreturn, 1) := by decide +kernel
theorem dX7_tryFlick_0 : decode cX7_tryFlick 0 = .ok (.aload_n 0, 1) := by decide +kernel
theorem dX7_tryFlick_1 : decode cX7_tryFlick 1 = .ok (.getfield 16, 3) := by decide +kernel
theorem dX7_tryFlick_4 : decode cX7_tryFlick 4 = .ok (.aload_n 0, 1) := by decide +kernel
theorem dX7_tryFlick_5 : decode cX7_tryFlick 5 = .ok (.getfield 10, 3) := by decide +kernel
theorem dX7_tryFlick_8 : decode cX7_tryFlick 8 = .ok (.invokevirtual 262, 3) := by decide +kernel
theorem dX7_tryFlick_11 : decode cX7_tryFlick 11 = .ok (.aload_n 0, 1) := by decide +kernel
theorem dX7_tryFlick_12 : decode cX7_tryFlick 12 = .ok (.getfield 22, 3) := by decide +kernel
theorem dX7_tryFlick_15 : decode cX7_tryFlick 15 = .ok (.aload_n 0, 1) := by decide +kernel
theorem dX7_tryFlick_16 : decode cX7_tryFlick 16 = .ok (.getfield 16, 3) := by decide +kernel
theorem dX7_tryFlick_19 : decode cX7_tryFlick 19 = .ok (.iload_n 1, 1) := by decide +kernel
theorem dX7_tryFlick_20 : decode cX7_tryFlick 20 = .ok (.iload_n 2, 1) := by decide +kernel
theorem dX7_tryFlick_21 : decode cX7_tryFlick 21 = .ok (.iload_n 3, 1) := by decide +kernel
theorem dX7_tryFlick_22 : decode cX7_tryFlick 22 = .ok (.invokevirtual 112, 3) := by decide +kernel
theorem dX7_tryFlick_25 : decode cX7_tryFlick 25 = .ok (.return_, 1) := by decide +kernel
theorem dX7_addItemRead_0 : decode cX7_addItemRead 0 = .ok (.aload_n 0, 1) := by decide +kernel
theorem dX7_addItemRead_1 : decode cX7_addItemRead 1 = .ok (.getfield 36, 3) := by decide +kernel
theorem dX7_addItemRead_4 : decode cX7_addItemRead 4 = .ok (.getfield 265, 3) := by decide +kernel
theorem dX7_addItemRead_7 : decode cX7_addItemRead 7 = .ok (.ifCond .eq 71, 3) := by decide +kernel
theorem dX7_addItemRead_10 : decode cX7_addItemRead 10 = .ok (.aload_n 0, 1) := by decide +kernel
theorem dX7_addItemRead_11 : decode cX7_addItemRead 11 = .ok (.getfield 10, 3) := by decide +kernel
theorem dX7_addItemRead_14 : decode cX7_addItemRead 14 = .ok (.aload_n 0, 1) := by decide +kernel
theorem dX7_addItemRead_15 : decode cX7_addItemRead 15 = .ok (.getfield 36, 3) := by decide +kernel
theorem dX7_addItemRead_18 : decode cX7_addItemRead 18 = .ok (.getfield 268, 3) := by decide +kernel
theorem dX7_addItemRead_21 : decode cX7_addItemRead 21 = .ok (.aload_n 0, 1) := by decide +kernel
theorem dX7_addItemRead_22 : decode cX7_addItemRead 22 = .ok (.getfield 36, 3) := by decide +kernel
theorem dX7_addItemRead_25 : decode cX7_addItemRead 25 = .ok (.getfield 269, 3) := by decide +kernel
theorem dX7_addItemRead_28 : decode cX7_addItemRead 28 = .ok (.aload_n 0, 1) := by decide +kernel
theorem dX7_addItemRead_29 : decode cX7_addItemRead 29 = .ok (.getfield 36, 3) := by decide +kernel
theorem dX7_addItemRead_32 : decode cX7_addItemRead 32 = .ok (.getfield 270, 3) := by decide +kernel
theorem dX7_addItemRead_35 : decode cX7_addItemRead 35 = .ok (.invokevirtual 51, 3) := by decide +kernel
theorem dX7_addItemRead_38 : decode cX7_addItemRead 38 = .ok (.ifCond .ne 38, 3) := by decide +kernel
theorem dX7_addItemRead_41 : decode cX7_addItemRead 41 = .ok (.aload_n 0, 1) := by decide +kernel
theorem dX7_addItemRead_42 : decode cX7_addItemRead 42 = .ok (.getfield 10, 3) := by decide +kernel
theorem dX7_addItemRead_45 : decode cX7_addItemRead 45 = .ok (.aload_n 0, 1) := by decide +kernel
theorem dX7_addItemRead_46 : decode cX7_addItemRead 46 = .ok (.getfield 36, 3) := by decide +kernel
theorem dX7_addItemRead_49 : decode cX7_addItemRead 49 = .ok (.getfield 268, 3) := by decide +kernel
theorem dX7_addItemRead_52 : decode cX7_addItemRead 52 = .ok (.aload_n 0, 1) := by decide +kernel
theorem dX7_addItemRead_53 : decode cX7_addItemRead 53 = .ok (.getfield 36, 3) := by decide +kernel
theorem dX7_addItemRead_56 : decode cX7_addItemRead 56 = .ok (.getfield 269, 3) := by decide +kernel
theorem dX7_addItemRead_59 : decode cX7_addItemRead 59 = .ok (.aload_n 0, 1) := by decide +kernel
theorem dX7_addItemRead_60 : decode cX7_addItemRead 60 = .ok (.getfield 36, 3) := by decide +kernel
theorem dX7_addItemRead_63 : decode cX7_addItemRead 63 = .ok (.getfield 270, 3) := by decide +kernel
theorem dX7_addItemRead_66 : decode cX7_addItemRead 66 = .ok (.invokevirtual 55, 3) := by decide +kernel
theorem dX7_addItemRead_69 : decode cX7_addItemRead 69 = .ok (.ifCond .lt 7, 3) := by decide +kernel
theorem dX7_addItemRead_72 : decode cX7_addItemRead 72 = .ok (.iconst 1, 1) := by decide +kernel
theorem dX7_addItemRead_73 : decode cX7_addItemRead 73 = .ok (.goto 4, 3) := by decide +kernel
theorem dX7_addItemRead_76 : decode cX7_addItemRead 76 = .ok (.iconst 0, 1) := by decide +kernel
theorem dX7_addItemRead_77 : decode cX7_addItemRead 77 = .ok (.ireturn, 1) := by decide +kernel
theorem dX7_addItemRead_78 : decode cX7_addItemRead 78 = .ok (.aload_n 0, 1) := by decide +kernel
theorem dX7_addItemRead_79 : decode cX7_addItemRead 79 = .ok (.getfield 10, 3) := by decide +kernel
theorem dX7_addItemRead_82 : decode cX7_addItemRead 82 = .ok (.aload_n 0, 1) := by decide +kernel
theorem dX7_addItemRead_83 : decode cX7_addItemRead 83 = .ok (.getfield 36, 3) := by decide +kernel
theorem dX7_addItemRead_86 : decode cX7_addItemRead 86 = .ok (.getfield 268, 3) := by decide +kernel
theorem dX7_addItemRead_89 : decode cX7_addItemRead 89 = .ok (.aload_n 0, 1) := by decide +kernel
theorem dX7_addItemRead_90 : decode cX7_addItemRead 90 = .ok (.getfield 36, 3) := by decide +kernel
theorem dX7_addItemRead_93 : decode cX7_addItemRead 93 = .ok (.getfield 269, 3) := by decide +kernel
theorem dX7_addItemRead_96 : decode cX7_addItemRead 96 = .ok (.aload_n 0, 1) := by decide +kernel
theorem dX7_addItemRead_97 : decode cX7_addItemRead 97 = .ok (.getfield 36, 3) := by decide +kernel
theorem dX7_addItemRead_100 : decode cX7_addItemRead 100 = .ok (.getfield 271, 3) := by decide +kernel
theorem dX7_addItemRead_103 : decode cX7_addItemRead 103 = .ok (.aload_n 0, 1) := by decide +kernel
theorem dX7_addItemRead_104 : decode cX7_addItemRead 104 = .ok (.getfield 36, 3) := by decide +kernel
theorem dX7_addItemRead_107 : decode cX7_addItemRead 107 = .ok (.getfield 272, 3) := by decide +kernel
theorem dX7_addItemRead_110 : decode cX7_addItemRead 110 = .ok (.invokevirtual 40, 3) := by decide +kernel
theorem dX7_addItemRead_113 : decode cX7_addItemRead 113 = .ok (.ifCond .ne 45, 3) := by decide +kernel
theorem dX7_addItemRead_116 : decode cX7_addItemRead 116 = .ok (.aload_n 0, 1) := by decide +kernel
theorem dX7_addItemRead_117 : decode cX7_addItemRead 117 = .ok (.getfield 10, 3) := by decide +kernel
theorem dX7_addItemRead_120 : decode cX7_addItemRead 120 = .ok (.aload_n 0, 1) := by decide +kernel
theorem dX7_addItemRead_121 : decode cX7_addItemRead 121 = .ok (.getfield 36, 3) := by decide +kernel
theorem dX7_addItemRead_124 : decode cX7_addItemRead 124 = .ok (.getfield 268, 3) := by decide +kernel
theorem dX7_addItemRead_127 : decode cX7_addItemRead 127 = .ok (.aload_n 0, 1) := by decide +kernel
theorem dX7_addItemRead_128 : decode cX7_addItemRead 128 = .ok (.getfield 36, 3) := by decide +kernel
theorem dX7_addItemRead_131 : decode cX7_addItemRead 131 = .ok (.getfield 269, 3) := by decide +kernel
theorem dX7_addItemRead_134 : decode cX7_addItemRead 134 = .ok (.aload_n 0, 1) := by decide +kernel
theorem dX7_addItemRead_135 : decode cX7_addItemRead 135 = .ok (.getfield 36, 3) := by decide +kernel
theorem dX7_addItemRead_138 : decode cX7_addItemRead 138 = .ok (.getfield 271, 3) := by decide +kernel
theorem dX7_addItemRead_141 : decode cX7_addItemRead 141 = .ok (.aload_n 0, 1) := by decide +kernel
theorem dX7_addItemRead_142 : decode cX7_addItemRead 142 = .ok (.getfield 36, 3) := by decide +kernel
theorem dX7_addItemRead_145 : decode cX7_addItemRead 145 = .ok (.getfield 272, 3) := by decide +kernel
theorem dX7_addItemRead_148 : decode cX7_addItemRead 148 = .ok (.invokevirtual 48, 3) := by decide +kernel
theorem dX7_addItemRead_151 : decode cX7_addItemRead 151 = .ok (.ifCond .lt 7, 3) := by decide +kernel
theorem dX7_addItemRead_154 : decode cX7_addItemRead 154 = .ok (.iconst 1, 1) := by decide +kernel
theorem dX7_addItemRead_155 : decode cX7_addItemRead 155 = .ok (.goto 4, 3) := by decide +kernel
theorem dX7_addItemRead_158 : decode cX7_addItemRead 158 = .ok (.iconst 0, 1) := by decide +kernel
theorem dX7_addItemRead_159 : decode cX7_addItemRead 159 = .ok (.ireturn, 1) := by decide +kernel
theorem dX7_mix_0 : decode cX7_mix 0 = .ok (.ldc2_w 273, 3) := by decide +kernel
theorem dX7_mix_3 : decode cX7_mix 3 = .ok (.lload_n 0, 1) := by decide +kernel
theorem dX7_mix_4 : decode cX7_mix 4 = .ok (.lmul, 1) := by decide +kernel
theorem dX7_mix_5 : decode cX7_mix 5 = .ok (.lload_n 2, 1) := by decide +kernel
theorem dX7_mix_6 : decode cX7_mix 6 = .ok (.ladd, 1) := by decide +kernel
theorem dX7_mix_7 : decode cX7_mix 7 = .ok (.lreturn, 1) := by decide +kernel
theorem dX7_isPoint_0 : decode cX7_isPoint 0 = .ok (.iload_n 0, 1) := by decide +kernel
theorem dX7_isPoint_1 : decode cX7_isPoint 1 = .ok (.ifCond .lt 23, 3) := by decide +kernel
theorem dX7_isPoint_4 : decode cX7_isPoint 4 = .ok (.iload_n 0, 1) := by decide +kernel
theorem dX7_isPoint_5 : decode cX7_isPoint 5 = .ok (.bipush 30, 2) := by decide +kernel
theorem dX7_isPoint_7 : decode cX7_isPoint 7 = .ok (.if_icmp .gt 17, 3) := by decide +kernel
theorem dX7_isPoint_10 : decode cX7_isPoint 10 = .ok (.iload_n 1, 1) := by decide +kernel
theorem dX7_isPoint_11 : decode cX7_isPoint 11 = .ok (.ifCond .lt 13, 3) := by decide +kernel
theorem dX7_isPoint_14 : decode cX7_isPoint 14 = .ok (.iload_n 1, 1) := by decide +kernel
theorem dX7_isPoint_15 : decode cX7_isPoint 15 = .ok (.bipush 30, 2) := by decide +kernel
theorem dX7_isPoint_17 : decode cX7_isPoint 17 = .ok (.if_icmp .gt 7, 3) := by decide +kernel
theorem dX7_isPoint_20 : decode cX7_isPoint 20 = .ok (.iconst 1, 1) := by decide +kernel
theorem dX7_isPoint_21 : decode cX7_isPoint 21 = .ok (.goto 4, 3) := by decide +kernel
theorem dX7_isPoint_24 : decode cX7_isPoint 24 = .ok (.iconst 0, 1) := by decide +kernel
theorem dX7_isPoint_25 : decode cX7_isPoint 25 = .ok (.ireturn, 1) := by decide +kernel
theorem dX7_isPlayer_0 : decode cX7_isPlayer 0 = .ok (.iload_n 0, 1) := by decide +kernel
theorem dX7_isPlayer_1 : decode cX7_isPlayer 1 = .ok (.ifCond .lt 12, 3) := by decide +kernel
theorem dX7_isPlayer_4 : decode cX7_isPlayer 4 = .ok (.iload_n 0, 1) := by decide +kernel
theorem dX7_isPlayer_5 : decode cX7_isPlayer 5 = .ok (.iconst 3, 1) := by decide +kernel
theorem dX7_isPlayer_6 : decode cX7_isPlayer 6 = .ok (.if_icmp .ge 7, 3) := by decide +kernel
theorem dX7_isPlayer_9 : decode cX7_isPlayer 9 = .ok (.iconst 1, 1) := by decide +kernel
theorem dX7_isPlayer_10 : decode cX7_isPlayer 10 = .ok (.goto 4, 3) := by decide +kernel
theorem dX7_isPlayer_13 : decode cX7_isPlayer 13 = .ok (.iconst 0, 1) := by decide +kernel
theorem dX7_isPlayer_14 : decode cX7_isPlayer 14 = .ok (.ireturn, 1) := by decide +kernel
theorem dX7_isDirection_0 : decode cX7_isDirection 0 = .ok (.iload_n 0, 1) := by decide +kernel
theorem dX7_isDirection_1 : decode cX7_isDirection 1 = .ok (.ifCond .lt 23, 3) := by decide +kernel
theorem dX7_isDirection_4 : decode cX7_isDirection 4 = .ok (.iload_n 0, 1) := by decide +kernel
theorem dX7_isDirection_5 : decode cX7_isDirection 5 = .ok (.getstatic 189, 3) := by decide +kernel
theorem dX7_isDirection_8 : decode cX7_isDirection 8 = .ok (.arraylength, 1) := by decide +kernel
theorem dX7_isDirection_9 : decode cX7_isDirection 9 = .ok (.if_icmp .ge 15, 3) := by decide +kernel
theorem dX7_isDirection_12 : decode cX7_isDirection 12 = .ok (.iload_n 0, 1) := by decide +kernel
theorem dX7_isDirection_13 : decode cX7_isDirection 13 = .ok (.getstatic 275, 3) := by decide +kernel
theorem dX7_isDirection_16 : decode cX7_isDirection 16 = .ok (.arraylength, 1) := by decide +kernel
theorem dX7_isDirection_17 : decode cX7_isDirection 17 = .ok (.if_icmp .ge 7, 3) := by decide +kernel
theorem dX7_isDirection_20 : decode cX7_isDirection 20 = .ok (.iconst 1, 1) := by decide +kernel
theorem dX7_isDirection_21 : decode cX7_isDirection 21 = .ok (.goto 4, 3) := by decide +kernel
theorem dX7_isDirection_24 : decode cX7_isDirection 24 = .ok (.iconst 0, 1) := by decide +kernel
theorem dX7_isDirection_25 : decode cX7_isDirection 25 = .ok (.ireturn, 1) := by decide +kernel
theorem dX7_isStrength_0 : decode cX7_isStrength 0 = .ok (.iload_n 0, 1) := by decide +kernel
theorem dX7_isStrength_1 : decode cX7_isStrength 1 = .ok (.iconst 1, 1) := by decide +kernel
theorem dX7_isStrength_2 : decode cX7_isStrength 2 = .ok (.if_icmp .lt 13, 3) := by decide +kernel
theorem dX7_isStrength_5 : decode cX7_isStrength 5 = .ok (.iload_n 0, 1) := by decide +kernel
theorem dX7_isStrength_6 : decode cX7_isStrength 6 = .ok (.bipush 40, 2) := by decide +kernel
theorem dX7_isStrength_8 : decode cX7_isStrength 8 = .ok (.if_icmp .gt 7, 3) := by decide +kernel
theorem dX7_isStrength_11 : decode cX7_isStrength 11 = .ok (.iconst 1, 1) := by decide +kernel
theorem dX7_isStrength_12 : decode cX7_isStrength 12 = .ok (.goto 4, 3) := by decide +kernel
theorem dX7_isStrength_15 : decode cX7_isStrength 15 = .ok (.iconst 0, 1) := by decide +kernel
theorem dX7_isStrength_16 : decode cX7_isStrength 16 = .ok (.ireturn, 1) := by decide +kernel
theorem dX7_stepX_0 : decode cX7_stepX 0 = .ok (.iload_n 0, 1) := by decide +kernel
theorem dX7_stepX_1 : decode cX7_stepX 1 = .ok (.invokestatic 99, 3) := by decide +kernel
theorem dX7_stepX_4 : decode cX7_stepX 4 = .ok (.ifCond .eq 11, 3) := by decide +kernel
theorem dX7_stepX_7 : decode cX7_stepX 7 = .ok (.getstatic 189, 3) := by decide +kernel
theorem dX7_stepX_10 : decode cX7_stepX 10 = .ok (.iload_n 0, 1) := by decide +kernel
theorem dX7_stepX_11 : decode cX7_stepX 11 = .ok (.iaload, 1) := by decide +kernel
theorem dX7_stepX_12 : decode cX7_stepX 12 = .ok (.goto 4, 3) := by decide +kernel
theorem dX7_stepX_15 : decode cX7_stepX 15 = .ok (.iconst 0, 1) := by decide +kernel
theorem dX7_stepX_16 : decode cX7_stepX 16 = .ok (.ireturn, 1) := by decide +kernel
theorem dX7_stepY_0 : decode cX7_stepY 0 = .ok (.iload_n 0, 1) := by decide +kernel
theorem dX7_stepY_1 : decode cX7_stepY 1 = .ok (.invokestatic 99, 3) := by decide +kernel
theorem dX7_stepY_4 : decode cX7_stepY 4 = .ok (.ifCond .eq 11, 3) := by decide +kernel
theorem dX7_stepY_7 : decode cX7_stepY 7 = .ok (.getstatic 275, 3) := by decide +kernel
theorem dX7_stepY_10 : decode cX7_stepY 10 = .ok (.iload_n 0, 1) := by decide +kernel
theorem dX7_stepY_11 : decode cX7_stepY 11 = .ok (.iaload, 1) := by decide +kernel
theorem dX7_stepY_12 : decode cX7_stepY 12 = .ok (.goto 4, 3) := by decide +kernel
theorem dX7_stepY_15 : decode cX7_stepY 15 = .ok (.iconst 0, 1) := by decide +kernel
theorem dX7_stepY_16 : decode cX7_stepY 16 = .ok (.ireturn, 1) := by decide +kernel
theorem dX8_init_0 : decode cX8_init 0 = .ok (.aload_n 0, 1) := by decide +kernel
theorem dX8_init_1 : decode cX8_init 1 = .ok (.invokespecial 1, 3) := by decide +kernel
theorem dX8_init_4 : decode cX8_init 4 = .ok (.aload_n 0, 1) := by decide +kernel
theorem dX8_init_5 : decode cX8_init 5 = .ok (.bipush 80, 2) := by decide +kernel
theorem dX8_init_7 : decode cX8_init 7 = .ok (.newarray .int, 2) := by decide +kernel
theorem dX8_init_9 : decode cX8_init 9 = .ok (.putfield 7, 3) := by decide +kernel
theorem dX8_init_12 : decode cX8_init 12 = .ok (.aload_n 0, 1) := by decide +kernel
theorem dX8_init_13 : decode cX8_init 13 = .ok (.bipush 80, 2) := by decide +kernel
theorem dX8_init_15 : decode cX8_init 15 = .ok (.newarray .int, 2) := by decide +kernel
theorem dX8_init_17 : decode cX8_init 17 = .ok (.putfield 13, 3) := by decide +kernel
theorem dX8_init_20 : decode cX8_init 20 = .ok (.aload_n 0, 1) := by decide +kernel
theorem dX8_init_21 : decode cX8_init 21 = .ok (.sipush 480, 3) := by decide +kernel
theorem dX8_init_24 : decode cX8_init 24 = .ok (.newarray .int, 2) := by decide +kernel
theorem dX8_init_26 : decode cX8_init 26 = .ok (.putfield 16, 3) := by decide +kernel
theorem dX8_init_29 : decode cX8_init 29 = .ok (.aload_n 0, 1) := by decide +kernel
theorem dX8_init_30 : decode cX8_init 30 = .ok (.bipush 80, 2) := by decide +kernel
theorem dX8_init_32 : decode cX8_init 32 = .ok (.newarray .int, 2) := by decide +kernel
theorem dX8_init_34 : decode cX8_init 34 = .ok (.putfield 19, 3) := by decide +kernel
theorem dX8_init_37 : decode cX8_init 37 = .ok (.aload_n 0, 1) := by decide +kernel
theorem dX8_init_38 : decode cX8_init 38 = .ok (.bipush 8, 2) := by decide +kernel
theorem dX8_init_40 : decode cX8_init 40 = .ok (.newarray .int, 2) := by decide +kernel
theorem dX8_init_42 : decode cX8_init 42 = .ok (.dup, 1) := by decide +kernel
theorem dX8_init_43 : decode cX8_init 43 = .ok (.iconst 0, 1) := by decide +kernel
theorem dX8_init_44 : decode cX8_init 44 = .ok (.iconst 0, 1) := by decide +kernel
theorem dX8_init_45 : decode cX8_init 45 = .ok (.iastore, 1) := by decide +kernel
theorem dX8_init_46 : decode cX8_init 46 = .ok (.dup, 1) := by decide +kernel
theorem dX8_init_47 : decode cX8_init 47 = .ok (.iconst 1, 1) := by decide +kernel
theorem dX8_init_48 : decode cX8_init 48 = .ok (.iconst 1, 1) := by decide +kernel
theorem dX8_init_49 : decode cX8_init 49 = .ok (.iastore, 1) := by decide +kernel
theorem dX8_init_50 : decode cX8_init 50 = .ok (.dup, 1) := by decide +kernel
theorem dX8_init_51 : decode cX8_init 51 = .ok (.iconst 2, 1) := by decide +kernel
theorem dX8_init_52 : decode cX8_init 52 = .ok (.iconst 1, 1) := by decide +kernel
theorem dX8_init_53 : decode cX8_init 53 = .ok (.iastore, 1) := by decide +kernel
theorem dX8_init_54 : decode cX8_init 54 = .ok (.dup, 1) := by decide +kernel
theorem dX8_init_55 : decode cX8_init 55 = .ok (.iconst 3, 1) := by decide +kernel
theorem dX8_init_56 : decode cX8_init 56 = .ok (.iconst 1, 1) := by decide +kernel
theorem dX8_init_57 : decode cX8_init 57 = .ok (.iastore, 1) := by decide +kernel
theorem dX8_init_58 : decode cX8_init 58 = .ok (.dup, 1) := by decide +kernel
theorem dX8_init_59 : decode cX8_init 59 = .ok (.iconst 4, 1) := by decide +kernel
theorem dX8_init_60 : decode cX8_init 60 = .ok (.iconst 0, 1) := by decide +kernel
theorem dX8_init_61 : decode cX8_init 61 = .ok (.iastore, 1) := by decide +kernel
theorem dX8_init_62 : decode cX8_init 62 = .ok (.dup, 1) := by decide +kernel
theorem dX8_init_63 : decode cX8_init 63 = .ok (.iconst 5, 1) := by decide +kernel
theorem dX8_init_64 : decode cX8_init 64 = .ok (.iconst (-1), 1) := by decide +kernel
theorem dX8_init_65 : decode cX8_init 65 = .ok (.iastore, 1) := by decide +kernel
theorem dX8_init_66 : decode cX8_init 66 = .ok (.dup, 1) := by decide +kernel
theorem dX8_init_67 : decode cX8_init 67 = .ok (.bipush 6, 2) := by decide +kernel
theorem dX8_init_69 : decode cX8_init 69 = .ok (.iconst (-1), 1) := by decide +kernel
theorem dX8_init_70 : decode cX8_init 70 = .ok (.iastore, 1) := by decide +kernel
theorem dX8_init_71 : decode cX8_init 71 = .ok (.dup, 1) := by decide +kernel
theorem dX8_init_72 : decode cX8_init 72 = .ok (.bipush 7, 2) := by decide +kernel
theorem dX8_init_74 : decode cX8_init 74 = .ok (.iconst (-1), 1) := by decide +kernel
theorem dX8_init_75 : decode cX8_init 75 = .ok (.iastore, 1) := by decide +kernel
theorem dX8_init_76 : decode cX8_init 76 = .ok (.putfield 22, 3) := by decide +kernel
theorem dX8_init_79 : decode cX8_init 79 = .ok (.aload_n 0, 1) := by decide +kernel
theorem dX8_init_80 : decode cX8_init 80 = .ok (.bipush 8, 2) := by decide +kernel
theorem dX8_init_82 : decode cX8_init 82 = .ok (.newarray .int, 2) := by decide +kernel
theorem dX8_init_84 : decode cX8_init 84 = .ok (.dup, 1) := by decide +kernel
theorem dX8_init_85 : decode cX8_init 85 = .ok (.iconst 0, 1) := by decide +kernel
theorem dX8_init_86 : decode cX8_init 86 = .ok (.iconst (-1), 1) := by decide +kernel
theorem dX8_init_87 : decode cX8_init 87 = .ok (.iastore, 1) := by decide +kernel
theorem dX8_init_88 : decode cX8_init 88 = .ok (.dup, 1) := by decide +kernel
theorem dX8_init_89 : decode cX8_init 89 = .ok (.iconst 1, 1) := by decide +kernel
theorem dX8_init_90 : decode cX8_init 90 = .ok (.iconst (-1), 1) := by decide +kernel
theorem dX8_init_91 : decode cX8_init 91 = .ok (.iastore, 1) := by decide +kernel
theorem dX8_init_92 : decode cX8_init 92 = .ok (.dup, 1) := by decide +kernel
theorem dX8_init_93 : decode cX8_init 93 = .ok (.iconst 2, 1) := by decide +kernel
theorem dX8_init_94 : decode cX8_init 94 = .ok (.iconst 0, 1) := by decide +kernel
theorem dX8_init_95 : decode cX8_init 95 = .ok (.iastore, 1) := by decide +kernel
theorem dX8_init_96 : decode cX8_init 96 = .ok (.dup, 1) := by decide +kernel
theorem dX8_init_97 : decode cX8_init 97 = .ok (.iconst 3, 1) := by decide +kernel
theorem dX8_init_98 : decode cX8_init 98 = .ok (.iconst 1, 1) := by decide +kernel
theorem dX8_init_99 : decode cX8_init 99 = .ok (.iastore, 1) := by decide +kernel
theorem dX8_init_100 : decode cX8_init 100 = .ok (.dup, 1) := by decide +kernel
theorem dX8_init_101 : decode cX8_init 101 = .ok (.iconst 4, 1) := by decide +kernel
theorem dX8_init_102 : decode cX8_init 102 = .ok (.iconst 1, 1) := by decide +kernel
theorem dX8_init_103 : decode cX8_init 103 = .ok (.iastore, 1) := by decide +kernel
theorem dX8_init_104 : decode cX8_init 104 = .ok (.dup, 1) := by decide +kernel
theorem dX8_init_105 : decode cX8_init 105 = .ok (.iconst 5, 1) := by decide +kernel
theorem dX8_init_106 : decode cX8_init 106 = .ok (.iconst 1, 1) := by decide +kernel
theorem dX8_init_107 : decode cX8_init 107 = .ok (.iastore, 1) := by decide +kernel
theorem dX8_init_108 : decode cX8_init 108 = .ok (.dup, 1) := by decide +kernel
theorem dX8_init_109 : decode cX8_init 109 = .ok (.bipush 6, 2) := by decide +kernel
theorem dX8_init_111 : decode cX8_init 111 = .ok (.iconst 0, 1) := by decide +kernel
theorem dX8_init_112 : decode cX8_init 112 = .ok (.iastore, 1) := by decide +kernel
theorem dX8_init_113 : decode cX8_init 113 = .ok (.dup, 1) := by decide +kernel
theorem dX8_init_114 : decode cX8_init 114 = .ok (.bipush 7, 2) := by decide +kernel
theorem dX8_init_116 : decode cX8_init 116 = .ok (.iconst (-1), 1) := by decide +kernel
theorem dX8_init_117 : decode cX8_init 117 = .ok (.iastore, 1) := by decide +kernel
theorem dX8_init_118 : decode cX8_init 118 = .ok (.putfield 25, 3) := by decide +kernel
theorem dX8_init_121 : decode cX8_init 121 = .ok (.aload_n 0, 1) := by decide +kernel
theorem dX8_init_122 : decode cX8_init 122 = .ok (.bipush 12, 2) := by decide +kernel
theorem dX8_init_124 : decode cX8_init 124 = .ok (.newarray .int, 2) := by decide +kernel
theorem dX8_init_126 : decode cX8_init 126 = .ok (.putfield 28, 3) := by decide +kernel
theorem dX8_init_129 : decode cX8_init 129 = .ok (.return_, 1) := by decide +kernel
theorem dX8_within_0 : decode cX8_within 0 = .ok (.iload_n 0, 1) := by decide +kernel
theorem dX8_within_1 : decode cX8_within 1 = .ok (.iload_n 1, 1) := by decide +kernel
theorem dX8_within_2 : decode cX8_within 2 = .ok (.if_icmp .lt 12, 3) := by decide +kernel
theorem dX8_within_5 : decode cX8_within 5 = .ok (.iload_n 0, 1) := by decide +kernel
theorem dX8_within_6 : decode cX8_within 6 = .ok (.iload_n 2, 1) := by decide +kernel
theorem dX8_within_7 : decode cX8_within 7 = .ok (.if_icmp .gt 7, 3) := by decide +kernel
theorem dX8_within_10 : decode cX8_within 10 = .ok (.iconst 1, 1) := by decide +kernel
theorem dX8_within_11 : decode cX8_within 11 = .ok (.goto 4, 3) := by decide +kernel
theorem dX8_within_14 : decode cX8_within 14 = .ok (.iconst 0, 1) := by decide +kernel
theorem dX8_within_15 : decode cX8_within 15 = .ok (.ireturn, 1) := by decide +kernel
theorem dX8_copies_0 : decode cX8_copies 0 = .ok (.iconst 0, 1) := by decide +kernel
theorem dX8_copies_1 : decode cX8_copies 1 = .ok (.istore 4, 2) := by decide +kernel
theorem dX8_copies_3 : decode cX8_copies 3 = .ok (.iload 4, 2) := by decide +kernel
theorem dX8_copies_5 : decode cX8_copies 5 = .ok (.bipush 80, 2) := by decide +kernel
theorem dX8_copies_7 : decode cX8_copies 7 = .ok (.if_icmp .ge 21, 3) := by decide +kernel
theorem dX8_copies_10 : decode cX8_copies 10 = .ok (.aload_n 2, 1) := by decide +kernel
theorem dX8_copies_11 : decode cX8_copies 11 = .ok (.iload_n 3, 1) := by decide +kernel
theorem dX8_copies_12 : decode cX8_copies 12 = .ok (.iload 4, 2) := by decide +kernel
theorem dX8_copies_14 : decode cX8_copies 14 = .ok (.iadd, 1) := by decide +kernel
theorem dX8_copies_15 : decode cX8_copies 15 = .ok (.aload_n 0, 1) := by decide +kernel
theorem dX8_copies_16 : decode cX8_copies 16 = .ok (.iload_n 1, 1) := by decide +kernel
theorem dX8_copies_17 : decode cX8_copies 17 = .ok (.iload 4, 2) := by decide +kernel
theorem dX8_copies_19 : decode cX8_copies 19 = .ok (.iadd, 1) := by decide +kernel
theorem dX8_copies_20 : decode cX8_copies 20 = .ok (.iaload, 1) := by decide +kernel
theorem dX8_copies_21 : decode cX8_copies 21 = .ok (.iastore, 1) := by decide +kernel
theorem dX8_copies_22 : decode cX8_copies 22 = .ok (.iinc 4 1, 3) := by decide +kernel
theorem dX8_copies_25 : decode cX8_copies 25 = .ok (.goto (-22), 3) := by decide +kernel
theorem dX8_copies_28 : decode cX8_copies 28 = .ok (.return_, 1) := by decide +kernel
theorem dX8_record_0 : decode cX8_record 0 = .ok (.aload_n 0, 1) := by decide +kernel
theorem dX8_record_1 : decode cX8_record 1 = .ok (.getfield 31, 3) := by decide +kernel
theorem dX8_record_4 : decode cX8_record 4 = .ok (.bipush 6, 2) := by decide +kernel
theorem dX8_record_6 : decode cX8_record 6 = .ok (.if_icmp .ne 43, 3) := by decide +kernel
theorem dX8_record_9 : decode cX8_record 9 = .ok (.iconst 0, 1) := by decide +kernel
theorem dX8_record_10 : decode cX8_record 10 = .ok (.istore_n 1, 1) := by decide +kernel
theorem dX8_record_11 : decode cX8_record 11 = .ok (.iload_n 1, 1) := by decide +kernel
theorem dX8_record_12 : decode cX8_record 12 = .ok (.sipush 400, 3) := by decide +kernel
theorem dX8_record_15 : decode cX8_record 15 = .ok (.if_icmp .ge 24, 3) := by decide +kernel
theorem dX8_record_18 : decode cX8_record 18 = .ok (.aload_n 0, 1) := by decide +kernel
theorem dX8_record_19 : decode cX8_record 19 = .ok (.getfield 16, 3) := by decide +kernel
theorem dX8_record_22 : decode cX8_record 22 = .ok (.iload_n 1, 1) := by decide +kernel
theorem dX8_record_23 : decode cX8_record 23 = .ok (.aload_n 0, 1) := by decide +kernel
theorem dX8_record_24 : decode cX8_record 24 = .ok (.getfield 16, 3) := by decide +kernel
theorem dX8_record_27 : decode cX8_record 27 = .ok (.iload_n 1, 1) := by decide +kernel
theorem dX8_record_28 : decode cX8_record 28 = .ok (.bipush 80, 2) := by decide +kernel
theorem dX8_record_30 : decode cX8_record 30 = .ok (.iadd, 1) := by decide +kernel
theorem dX8_record_31 : decode cX8_record 31 = .ok (.iaload, 1) := by decide +kernel
theorem dX8_record_32 : decode cX8_record 32 = .ok (.iastore, 1) := by decide +kernel
theorem dX8_record_33 : decode cX8_record 33 = .ok (.iinc 1 1, 3) := by decide +kernel
theorem dX8_record_36 : decode cX8_record 36 = .ok (.goto (-25), 3) := by decide +kernel
theorem dX8_record_39 : decode cX8_record 39 = .ok (.aload_n 0, 1) := by decide +kernel
theorem dX8_record_40 : decode cX8_record 40 = .ok (.dup, 1) := by decide +kernel
theorem dX8_record_41 : decode cX8_record 41 = .ok (.getfield 31, 3) := by decide +kernel
theorem dX8_record_44 : decode cX8_record 44 = .ok (.iconst 1, 1) := by decide +kernel
theorem dX8_record_45 : decode cX8_record 45 = .ok (.isub, 1) := by decide +kernel
theorem dX8_record_46 : decode cX8_record 46 = .ok (.putfield 31, 3) := by decide +kernel
theorem dX8_record_49 : decode cX8_record 49 = .ok (.aload_n 0, 1) := by decide +kernel
theorem dX8_record_50 : decode cX8_record 50 = .ok (.getfield 7, 3) := by decide +kernel
theorem dX8_record_53 : decode cX8_record 53 = .ok (.iconst 0, 1) := by decide +kernel
theorem dX8_record_54 : decode cX8_record 54 = .ok (.aload_n 0, 1) := by decide +kernel
theorem dX8_record_55 : decode cX8_record 55 = .ok (.getfield 16, 3) := by decide +kernel
theorem dX8_record_58 : decode cX8_record 58 = .ok (.aload_n 0, 1) := by decide +kernel
theorem dX8_record_59 : decode cX8_record 59 = .ok (.getfield 31, 3) := by decide +kernel
theorem dX8_record_62 : decode cX8_record 62 = .ok (.bipush 80, 2) := by decide +kernel
theorem dX8_record_64 : decode cX8_record 64 = .ok (.imul, 1) := by decide +kernel
theorem dX8_record_65 : decode cX8_record 65 = .ok (.invokestatic 35, 3) := by decide +kernel
theorem dX8_record_68 : decode cX8_record 68 = .ok (.aload_n 0, 1) := by decide +kernel
theorem dX8_record_69 : decode cX8_record 69 = .ok (.dup, 1) := by decide +kernel
theorem dX8_record_70 : decode cX8_record 70 = .ok (.getfield 31, 3) := by decide +kernel
theorem dX8_record_73 : decode cX8_record 73 = .ok (.iconst 1, 1) := by decide +kernel
theorem dX8_record_74 : decode cX8_record 74 = .ok (.iadd, 1) := by decide +kernel
theorem dX8_record_75 : decode cX8_record 75 = .ok (.putfield 31, 3) := by decide +kernel
theorem dX8_record_78 : decode cX8_record 78 = .ok (.return_, 1) := by decide +kernel
theorem dX8_isPoint_0 : decode cX8_isPoint 0 = .ok (.iload_n 0, 1) := by decide +kernel
theorem dX8_isPoint_1 : decode cX8_isPoint 1 = .ok (.iconst 0, 1) := by decide +kernel
theorem dX8_isPoint_2 : decode cX8_isPoint 2 = .ok (.bipush 30, 2) := by decide +kernel
theorem dX8_isPoint_4 : decode cX8_isPoint 4 = .ok (.invokestatic 39, 3) := by decide +kernel
theorem dX8_isPoint_7 : decode cX8_isPoint 7 = .ok (.ifCond .eq 17, 3) := by decide +kernel
theorem dX8_isPoint_10 : decode cX8_isPoint 10 = .ok (.iload_n 1, 1) := by decide +kernel
theorem dX8_isPoint_11 : decode cX8_isPoint 11 = .ok (.iconst 0, 1) := by decide +kernel
theorem dX8_isPoint_12 : decode cX8_isPoint 12 = .ok (.bipush 30, 2) := by decide +kernel
theorem dX8_isPoint_14 : decode cX8_isPoint 14 = .ok (.invokestatic 39, 3) := by decide +kernel
theorem dX8_isPoint_17 : decode cX8_isPoint 17 = .ok (.ifCond .eq 7, 3) := by decide +kernel
theorem dX8_isPoint_20 : decode cX8_isPoint 20 = .ok (.iconst 1, 1) := by decide +kernel
theorem dX8_isPoint_21 : decode cX8_isPoint 21 = .ok (.goto 4, 3) := by decide +kernel
theorem dX8_isPoint_24 : decode cX8_isPoint 24 = .ok (.iconst 0, 1) := by decide +kernel
theorem dX8_isPoint_25 : decode cX8_isPoint 25 = .ok (.ireturn, 1) := by decide +kernel
theorem dX8_isMarble_0 : decode cX8_isMarble 0 = .ok (.iload_n 1, 1) := by decide +kernel
theorem dX8_isMarble_1 : decode cX8_isMarble 1 = .ok (.iconst 0, 1) := by decide +kernel
theorem dX8_isMarble_2 : decode cX8_isMarble 2 = .ok (.aload_n 0, 1) := by decide +kernel
theorem dX8_isMarble_3 : decode cX8_isMarble 3 = .ok (.getfield 7, 3) := by decide +kernel
theorem dX8_isMarble_6 : decode cX8_isMarble 6 = .ok (.iconst 0, 1) := by decide +kernel
theorem dX8_isMarble_7 : decode cX8_isMarble 7 = .ok (.iaload, 1) := by decide +kernel
theorem dX8_isMarble_8 : decode cX8_isMarble 8 = .ok (.iconst 1, 1) := by decide +kernel
theorem dX8_isMarble_9 : decode cX8_isMarble 9 = .ok (.isub, 1) := by decide +kernel
theorem dX8_isMarble_10 : decode cX8_isMarble 10 = .ok (.invokestatic 39, 3) := by decide +kernel
theorem dX8_isMarble_13 : decode cX8_isMarble 13 = .ok (.ireturn, 1) := by decide +kernel
theorem dX8_part_0 : decode cX8_part 0 = .ok (.aload_n 0, 1) := by decide +kernel
theorem dX8_part_1 : decode cX8_part 1 = .ok (.getfield 7, 3) := by decide +kernel
theorem dX8_part_4 : decode cX8_part 4 = .ok (.bipush 8, 2) := by decide +kernel
theorem dX8_part_6 : decode cX8_part 6 = .ok (.iconst 5, 1) := by decide +kernel
theorem dX8_part_7 : decode cX8_part 7 = .ok (.iload_n 1, 1) := by decide +kernel
theorem dX8_part_8 : decode cX8_part 8 = .ok (.imul, 1) := by decide +kernel
theorem dX8_part_9 : decode cX8_part 9 = .ok (.iadd, 1) := by decide +kernel
theorem dX8_part_10 : decode cX8_part 10 = .ok (.iload_n 2, 1) := by decide +kernel
theorem dX8_part_11 : decode cX8_part 11 = .ok (.iadd, 1) := by decide +kernel
theorem dX8_part_12 : decode cX8_part 12 = .ok (.iaload, 1) := by decide +kernel
theorem dX8_part_13 : decode cX8_part 13 = .ok (.ireturn, 1) := by decide +kernel
theorem dX8_setPart_0 : decode cX8_setPart 0 = .ok (.aload_n 0, 1) := by decide +kernel
theorem dX8_setPart_1 : decode cX8_setPart 1 = .ok (.getfield 7, 3) := by decide +kernel
theorem dX8_setPart_4 : decode cX8_setPart 4 = .ok (.bipush 8, 2) := by decide +kernel
theorem dX8_setPart_6 : decode cX8_setPart 6 = .ok (.iconst 5, 1) := by decide +kernel
theorem dX8_setPart_7 : decode cX8_setPart 7 = .ok (.iload_n 1, 1) := by decide +kernel
theorem dX8_setPart_8 : decode cX8_setPart 8 = .ok (.imul, 1) := by decide +kernel
theorem dX8_setPart_9 : decode cX8_setPart 9 = .ok (.iadd, 1) := by decide +kernel
theorem dX8_setPart_10 : decode cX8_setPart 10 = .ok (.iload_n 2, 1) := by decide +kernel
theorem dX8_setPart_11 : decode cX8_setPart 11 = .ok (.iadd, 1) := by decide +kernel
theorem dX8_setPart_12 : decode cX8_setPart 12 = .ok (.iload_n 3, 1) := by decide +kernel
theorem dX8_setPart_13 : decode cX8_setPart 13 = .ok (.iastore, 1) := by decide +kernel
theorem dX8_setPart_14 : decode cX8_setPart 14 = .ok (.return_, 1) := by decide +kernel
theorem dX8_isThere_0 : decode cX8_isThere 0 = .ok (.aload_n 0, 1) := by decide +kernel
theorem dX8_isThere_1 : decode cX8_isThere 1 = .ok (.iload_n 1, 1) := by decide +kernel
theorem dX8_isThere_2 : decode cX8_isThere 2 = .ok (.iconst 4, 1) := by decide +kernel
theorem dX8_isThere_3 : decode cX8_isThere 3 = .ok (.invokevirtual 43, 3) := by decide +kernel
theorem dX8_isThere_6 : decode cX8_isThere 6 = .ok (.sipush (-1006), 3) := by decide +kernel
theorem dX8_isThere_9 : decode cX8_isThere 9 = .ok (.if_icmp .ne 7, 3) := by decide +kernel
theorem dX8_isThere_12 : decode cX8_isThere 12 = .ok (.iconst 1, 1) := by decide +kernel
theorem dX8_isThere_13 : decode cX8_isThere 13 = .ok (.goto 4, 3) := by decide +kernel
theorem dX8_isThere_16 : decode cX8_isThere 16 = .ok (.iconst 0, 1) := by decide +kernel
theorem dX8_isThere_17 : decode cX8_isThere 17 = .ok (.ireturn, 1) := by decide +kernel
theorem dX8_ringPart_0 : decode cX8_ringPart 0 = .ok (.aload_n 0, 1) := by decide +kernel
theorem dX8_ringPart_1 : decode cX8_ringPart 1 = .ok (.getfield 7, 3) := by decide +kernel
theorem dX8_ringPart_4 : decode cX8_ringPart 4 = .ok (.bipush 68, 2) := by decide +kernel
theorem dX8_ringPart_6 : decode cX8_ringPart 6 = .ok (.iconst 3, 1) := by decide +kernel
theorem dX8_ringPart_7 : decode cX8_ringPart 7 = .ok (.iload_n 1, 1) := by decide +kernel
theorem dX8_ringPart_8 : decode cX8_ringPart 8 = .ok (.imul, 1) := by decide +kernel
theorem dX8_ringPart_9 : decode cX8_ringPart 9 = .ok (.iadd, 1) := by decide +kernel
theorem dX8_ringPart_10 : decode cX8_ringPart 10 = .ok (.iload_n 2, 1) := by decide +kernel
theorem dX8_ringPart_11 : decode cX8_ringPart 11 = .ok (.iadd, 1) := by decide +kernel
theorem dX8_ringPart_12 : decode cX8_ringPart 12 = .ok (.iaload, 1) := by decide +kernel
theorem dX8_ringPart_13 : decode cX8_ringPart 13 = .ok (.ireturn, 1) := by decide +kernel
theorem dX8_isIn_0 : decode cX8_isIn 0 = .ok (.iload_n 2, 1) := by decide +kernel
theorem dX8_isIn_1 : decode cX8_isIn 1 = .ok (.aload_n 0, 1) := by decide +kernel
theorem dX8_isIn_2 : decode cX8_isIn 2 = .ok (.iload_n 1, 1) := by decide +kernel
theorem dX8_isIn_3 : decode cX8_isIn 3 = .ok (.iconst 0, 1) := by decide +kernel
theorem dX8_isIn_4 : decode cX8_isIn 4 = .ok (.invokevirtual 47, 3) := by decide +kernel
theorem dX8_isIn_7 : decode cX8_isIn 7 = .ok (.isub, 1) := by decide +kernel
theorem dX8_isIn_8 : decode cX8_isIn 8 = .ok (.istore 4, 2) := by decide +kernel
theorem dX8_isIn_10 : decode cX8_isIn 10 = .ok (.iload_n 3, 1) := by decide +kernel
theorem dX8_isIn_11 : decode cX8_isIn 11 = .ok (.aload_n 0, 1) := by decide +kernel
theorem dX8_isIn_12 : decode cX8_isIn 12 = .ok (.iload_n 1, 1) := by decide +kernel
theorem dX8_isIn_13 : decode cX8_isIn 13 = .ok (.iconst 1, 1) := by decide +kernel
theorem dX8_isIn_14 : decode cX8_isIn 14 = .ok (.invokevirtual 47, 3) := by decide +kernel
theorem dX8_isIn_17 : decode cX8_isIn 17 = .ok (.isub, 1) := by decide +kernel
theorem dX8_isIn_18 : decode cX8_isIn 18 = .ok (.istore 5, 2) := by decide +kernel
theorem dX8_isIn_20 : decode cX8_isIn 20 = .ok (.iload 4, 2) := by decide +kernel
theorem dX8_isIn_22 : decode cX8_isIn 22 = .ok (.iload 4, 2) := by decide +kernel
theorem dX8_isIn_24 : decode cX8_isIn 24 = .ok (.imul, 1) := by decide +kernel
theorem dX8_isIn_25 : decode cX8_isIn 25 = .ok (.iload 5, 2) := by decide +kernel
theorem dX8_isIn_27 : decode cX8_isIn 27 = .ok (.iload 5, 2) := by decide +kernel
theorem dX8_isIn_29 : decode cX8_isIn 29 = .ok (.imul, 1) := by decide +kernel
theorem dX8_isIn_30 : decode cX8_isIn 30 = .ok (.iadd, 1) := by decide +kernel
theorem dX8_isIn_31 : decode cX8_isIn 31 = .ok (.aload_n 0, 1) := by decide +kernel
theorem dX8_isIn_32 : decode cX8_isIn 32 = .ok (.iload_n 1, 1) := by decide +kernel
theorem dX8_isIn_33 : decode cX8_isIn 33 = .ok (.iconst 2, 1) := by decide +kernel
theorem dX8_isIn_34 : decode cX8_isIn 34 = .ok (.invokevirtual 47, 3) := by decide +kernel
theorem dX8_isIn_37 : decode cX8_isIn 37 = .ok (.aload_n 0, 1) := by decide +kernel
theorem dX8_isIn_38 : decode cX8_isIn 38 = .ok (.iload_n 1, 1) := by decide +kernel
theorem dX8_isIn_39 : decode cX8_isIn 39 = .ok (.iconst 2, 1) := by decide +kernel
theorem dX8_isIn_40 : decode cX8_isIn 40 = .ok (.invokevirtual 47, 3) := by decide +kernel
theorem dX8_isIn_43 : decode cX8_isIn 43 = .ok (.imul, 1) := by decide +kernel
theorem dX8_isIn_44 : decode cX8_isIn 44 = .ok (.if_icmp .gt 7, 3) := by decide +kernel
theorem dX8_isIn_47 : decode cX8_isIn 47 = .ok (.iconst 1, 1) := by decide +kernel
theorem dX8_isIn_48 : decode cX8_isIn 48 = .ok (.goto 4, 3) := by decide +kernel
theorem dX8_isIn_51 : decode cX8_isIn 51 = .ok (.iconst 0, 1) := by decide +kernel
theorem dX8_isIn_52 : decode cX8_isIn 52 = .ok (.ireturn, 1) := by decide +kernel
theorem dX8_ringsOf_0 : decode cX8_ringsOf 0 = .ok (.iconst 0, 1) := by decide +kernel
theorem dX8_ringsOf_1 : decode cX8_ringsOf 1 = .ok (.istore_n 3, 1) := by decide +kernel
theorem dX8_ringsOf_2 : decode cX8_ringsOf 2 = .ok (.iconst 0, 1) := by decide +kernel
theorem dX8_ringsOf_3 : decode cX8_ringsOf 3 = .ok (.istore 4, 2) := by decide +kernel
theorem dX8_ringsOf_5 : decode cX8_ringsOf 5 = .ok (.iload 4, 2) := by decide +kernel
theorem dX8_ringsOf_7 : decode cX8_ringsOf 7 = .ok (.aload_n 0, 1) := by decide +kernel
theorem dX8_ringsOf_8 : decode cX8_ringsOf 8 = .ok (.getfield 7, 3) := by decide +kernel
theorem dX8_ringsOf_11 : decode cX8_ringsOf 11 = .ok (.iconst 1, 1) := by decide +kernel
theorem dX8_ringsOf_12 : decode cX8_ringsOf 12 = .ok (.iaload, 1) := by decide +kernel
theorem dX8_ringsOf_13 : decode cX8_ringsOf 13 = .ok (.if_icmp .ge 31, 3) := by decide +kernel
theorem dX8_ringsOf_16 : decode cX8_ringsOf 16 = .ok (.iload_n 3, 1) := by decide +kernel
theorem dX8_ringsOf_17 : decode cX8_ringsOf 17 = .ok (.aload_n 0, 1) := by decide +kernel
theorem dX8_ringsOf_18 : decode cX8_ringsOf 18 = .ok (.iload 4, 2) := by decide +kernel
theorem dX8_ringsOf_20 : decode cX8_ringsOf 20 = .ok (.iload_n 1, 1) := by decide +kernel
theorem dX8_ringsOf_21 : decode cX8_ringsOf 21 = .ok (.iload_n 2, 1) := by decide +kernel
theorem dX8_ringsOf_22 : decode cX8_ringsOf 22 = .ok (.invokevirtual 50, 3) := by decide +kernel
theorem dX8_ringsOf_25 : decode cX8_ringsOf 25 = .ok (.ifCond .eq 10, 3) := by decide +kernel
theorem dX8_ringsOf_28 : decode cX8_ringsOf 28 = .ok (.iconst 1, 1) := by decide +kernel
theorem dX8_ringsOf_29 : decode cX8_ringsOf 29 = .ok (.iload 4, 2) := by decide +kernel
theorem dX8_ringsOf_31 : decode cX8_ringsOf 31 = .ok (.ishl, 1) := by decide +kernel
theorem dX8_ringsOf_32 : decode cX8_ringsOf 32 = .ok (.goto 4, 3) := by decide +kernel
theorem dX8_ringsOf_35 : decode cX8_ringsOf 35 = .ok (.iconst 0, 1) := by decide +kernel
theorem dX8_ringsOf_36 : decode cX8_ringsOf 36 = .ok (.ior, 1) := by decide +kernel
theorem dX8_ringsOf_37 : decode cX8_ringsOf 37 = .ok (.istore_n 3, 1) := by decide +kernel
theorem dX8_ringsOf_38 : decode cX8_ringsOf 38 = .ok (.iinc 4 1, 3) := by decide +kernel
theorem dX8_ringsOf_41 : decode cX8_ringsOf 41 = .ok (.goto (-36), 3) := by decide +kernel
theorem dX8_ringsOf_44 : decode cX8_ringsOf 44 = .ok (.iload_n 3, 1) := by decide +kernel
theorem dX8_ringsOf_45 : decode cX8_ringsOf 45 = .ok (.ireturn, 1) := by decide +kernel
theorem dX8_ringsOfMarble_0 : decode cX8_ringsOfMarble 0 = .ok (.aload_n 0, 1) := by decide +kernel
theorem dX8_ringsOfMarble_1 : decode cX8_ringsOfMarble 1 = .ok (.aload_n 0, 1) := by decide +kernel
theorem dX8_ringsOfMarble_2 : decode cX8_ringsOfMarble 2 = .ok (.iload_n 1, 1) := by decide +kernel
theorem dX8_ringsOfMarble_3 : decode cX8_ringsOfMarble 3 = .ok (.iconst 0, 1) := by decide +kernel
theorem dX8_ringsOfMarble_4 : decode cX8_ringsOfMarble 4 = .ok (.invokevirtual 43, 3) := by decide +kernel
theorem dX8_ringsOfMarble_7 : decode cX8_ringsOfMarble 7 = .ok (.aload_n 0, 1) := by decide +kernel
theorem dX8_ringsOfMarble_8 : decode cX8_ringsOfMarble 8 = .ok (.iload_n 1, 1) := by decide +kernel
theorem dX8_ringsOfMarble_9 : decode cX8_ringsOfMarble 9 = .ok (.iconst 1, 1) := by decide +kernel
theorem dX8_ringsOfMarble_10 : decode cX8_ringsOfMarble 10 = .ok (.invokevirtual 43, 3) := by decide +kernel
theorem dX8_ringsOfMarble_13 : decode cX8_ringsOfMarble 13 = .ok (.invokevirtual 53, 3) := by decide +kernel
theorem dX8_ringsOfMarble_16 : decode cX8_ringsOfMarble 16 = .ok (.ireturn, 1) := by decide +kernel
theorem dX8_ones_0 : decode cX8_ones 0 = .ok (.iconst 0, 1) := by decide +kernel
theorem dX8_ones_1 : decode cX8_ones 1 = .ok (.istore_n 1, 1) := by decide +kernel
theorem dX8_ones_2 : decode cX8_ones 2 = .ok (.iconst 0, 1) := by decide +kernel
theorem dX8_ones_3 : decode cX8_ones 3 = .ok (.istore_n 2, 1) := by decide +kernel
theorem dX8_ones_4 : decode cX8_ones 4 = .ok (.iload_n 2, 1) := by decide +kernel
theorem dX8_ones_5 : decode cX8_ones 5 = .ok (.iconst 4, 1) := by decide +kernel
theorem dX8_ones_6 : decode cX8_ones 6 = .ok (.if_icmp .ge 17, 3) := by decide +kernel
theorem dX8_ones_9 : decode cX8_ones 9 = .ok (.iload_n 1, 1) := by decide +kernel
theorem dX8_ones_10 : decode cX8_ones 10 = .ok (.iload_n 0, 1) := by decide +kernel
theorem dX8_ones_11 : decode cX8_ones 11 = .ok (.iload_n 2, 1) := by decide +kernel
theorem dX8_ones_12 : decode cX8_ones 12 = .ok (.ishr, 1) := by decide +kernel
theorem dX8_ones_13 : decode cX8_ones 13 = .ok (.iconst 1, 1) := by decide +kernel
theorem dX8_ones_14 : decode cX8_ones 14 = .ok (.iand, 1) := by decide +kernel
theorem dX8_ones_15 : decode cX8_ones 15 = .ok (.iadd, 1) := by decide +kernel
theorem dX8_ones_16 : decode cX8_ones 16 = .ok (.istore_n 1, 1) := by decide +kernel
theorem dX8_ones_17 : decode cX8_ones 17 = .ok (.iinc 2 1, 3) := by decide +kernel
theorem dX8_ones_20 : decode cX8_ones 20 = .ok (.goto (-16), 3) := by decide +kernel
theorem dX8_ones_23 : decode cX8_ones 23 = .ok (.iload_n 1, 1) := by decide +kernel
theorem dX8_ones_24 : decode cX8_ones 24 = .ok (.ireturn, 1) := by decide +kernel
theorem dX8_marbleAt_0 : decode cX8_marbleAt 0 = .ok (.sipush (-1006), 3) := by decide +kernel
theorem dX8_marbleAt_3 : decode cX8_marbleAt 3 = .ok (.istore_n 3, 1) := by decide +kernel
theorem dX8_marbleAt_4 : decode cX8_marbleAt 4 = .ok (.iconst 0, 1) := by decide +kernel
theorem dX8_marbleAt_5 : decode cX8_marbleAt 5 = .ok (.istore 4, 2) := by decide +kernel
theorem dX8_marbleAt_7 : decode cX8_marbleAt 7 = .ok (.iload 4, 2) := by decide +kernel
theorem dX8_marbleAt_9 : decode cX8_marbleAt 9 = .ok (.aload_n 0, 1) := by decide +kernel
theorem dX8_marbleAt_10 : decode cX8_marbleAt 10 = .ok (.getfield 7, 3) := by decide +kernel
theorem dX8_marbleAt_13 : decode cX8_marbleAt 13 = .ok (.iconst 0, 1) := by decide +kernel
theorem dX8_marbleAt_14 : decode cX8_marbleAt 14 = .ok (.iaload, 1) := by decide +kernel
theorem dX8_marbleAt_15 : decode cX8_marbleAt 15 = .ok (.if_icmp .ge 47, 3) := by decide +kernel
theorem dX8_marbleAt_18 : decode cX8_marbleAt 18 = .ok (.aload_n 0, 1) := by decide +kernel
theorem dX8_marbleAt_19 : decode cX8_marbleAt 19 = .ok (.iload 4, 2) := by decide +kernel
theorem dX8_marbleAt_21 : decode cX8_marbleAt 21 = .ok (.invokevirtual 56, 3) := by decide +kernel
theorem dX8_marbleAt_24 : decode cX8_marbleAt 24 = .ok (.ifCond .eq 30, 3) := by decide +kernel
theorem dX8_marbleAt_27 : decode cX8_marbleAt 27 = .ok (.aload_n 0, 1) := by decide +kernel
theorem dX8_marbleAt_28 : decode cX8_marbleAt 28 = .ok (.iload 4, 2) := by decide +kernel
theorem dX8_marbleAt_30 : decode cX8_marbleAt 30 = .ok (.iconst 0, 1) := by decide +kernel
theorem dX8_marbleAt_31 : decode cX8_marbleAt 31 = .ok (.invokevirtual 43, 3) := by decide +kernel
theorem dX8_marbleAt_34 : decode cX8_marbleAt 34 = .ok (.iload_n 1, 1) := by decide +kernel
theorem dX8_marbleAt_35 : decode cX8_marbleAt 35 = .ok (.if_icmp .ne 19, 3) := by decide +kernel
theorem dX8_marbleAt_38 : decode cX8_marbleAt 38 = .ok (.aload_n 0, 1) := by decide +kernel
theorem dX8_marbleAt_39 : decode cX8_marbleAt 39 = .ok (.iload 4, 2) := by decide +kernel
theorem dX8_marbleAt_41 : decode cX8_marbleAt 41 = .ok (.iconst 1, 1) := by decide +kernel
theorem dX8_marbleAt_42 : decode cX8_marbleAt 42 = .ok (.invokevirtual 43, 3) := by decide +kernel
theorem dX8_marbleAt_45 : decode cX8_marbleAt 45 = .ok (.iload_n 2, 1) := by decide +kernel
theorem dX8_marbleAt_46 : decode cX8_marbleAt 46 = .ok (.if_icmp .ne 8, 3) := by decide +kernel
theorem dX8_marbleAt_49 : decode cX8_marbleAt 49 = .ok (.iload 4, 2) := by decide +kernel
theorem dX8_marbleAt_51 : decode cX8_marbleAt 51 = .ok (.goto 4, 3) := by decide +kernel
theorem dX8_marbleAt_54 : decode cX8_marbleAt 54 = .ok (.iload_n 3, 1) := by decide +kernel
theorem dX8_marbleAt_55 : decode cX8_marbleAt 55 = .ok (.istore_n 3, 1) := by decide +kernel
theorem dX8_marbleAt_56 : decode cX8_marbleAt 56 = .ok (.iinc 4 1, 3) := by decide +kernel
theorem dX8_marbleAt_59 : decode cX8_marbleAt 59 = .ok (.goto (-52), 3) := by decide +kernel
theorem dX8_marbleAt_62 : decode cX8_marbleAt 62 = .ok (.iload_n 3, 1) := by decide +kernel
theorem dX8_marbleAt_63 : decode cX8_marbleAt 63 = .ok (.ireturn, 1) := by decide +kernel
theorem dX8_rolls_0 : decode cX8_rolls 0 = .ok (.iload_n 1, 1) := by decide +kernel
theorem dX8_rolls_1 : decode cX8_rolls 1 = .ok (.istore 4, 2) := by decide +kernel
theorem dX8_rolls_3 : decode cX8_rolls 3 = .ok (.aload_n 0, 1) := by decide +kernel
theorem dX8_rolls_4 : decode cX8_rolls 4 = .ok (.getfield 22, 3) := by decide +kernel
theorem dX8_rolls_7 : decode cX8_rolls 7 = .ok (.iload_n 2, 1) := by decide +kernel
theorem dX8_rolls_8 : decode cX8_rolls 8 = .ok (.iaload, 1) := by decide +kernel
theorem dX8_rolls_9 : decode cX8_rolls 9 = .ok (.istore 5, 2) := by decide +kernel
theorem dX8_rolls_11 : decode cX8_rolls 11 = .ok (.aload_n 0, 1) := by decide +kernel
theorem dX8_rolls_12 : decode cX8_rolls 12 = .ok (.getfield 25, 3) := by decide +kernel
theorem dX8_rolls_15 : decode cX8_rolls 15 = .ok (.iload_n 2, 1) := by decide +kernel
theorem dX8_rolls_16 : decode cX8_rolls 16 = .ok (.iaload, 1) := by decide +kernel
theorem dX8_rolls_17 : decode cX8_rolls 17 = .ok (.istore 6, 2) := by decide +kernel
theorem dX8_rolls_19 : decode cX8_rolls 19 = .ok (.iload_n 3, 1) := by decide +kernel
theorem dX8_rolls_20 : decode cX8_rolls 20 = .ok (.istore 7, 2) := by decide +kernel
theorem dX8_rolls_22 : decode cX8_rolls 22 = .ok (.iconst 0, 1) := by decide +kernel
theorem dX8_rolls_23 : decode cX8_rolls 23 = .ok (.istore 8, 2) := by decide +kernel
theorem dX8_rolls_25 : decode cX8_rolls 25 = .ok (.aload_n 0, 1) := by decide +kernel
theorem dX8_rolls_26 : decode cX8_rolls 26 = .ok (.iconst 0, 1) := by decide +kernel
theorem dX8_rolls_27 : decode cX8_rolls 27 = .ok (.putfield 60, 3) := by decide +kernel
theorem dX8_rolls_30 : decode cX8_rolls 30 = .ok (.iload 7, 2) := by decide +kernel
theorem dX8_rolls_32 : decode cX8_rolls 32 = .ok (.ifCond .le 245, 3) := by decide +kernel
theorem dX8_rolls_35 : decode cX8_rolls 35 = .ok (.aload_n 0, 1) := by decide +kernel
theorem dX8_rolls_36 : decode cX8_rolls 36 = .ok (.iload 4, 2) := by decide +kernel
theorem dX8_rolls_38 : decode cX8_rolls 38 = .ok (.iconst 0, 1) := by decide +kernel
theorem dX8_rolls_39 : decode cX8_rolls 39 = .ok (.invokevirtual 43, 3) := by decide +kernel
theorem dX8_rolls_42 : decode cX8_rolls 42 = .ok (.iload 5, 2) := by decide +kernel
theorem dX8_rolls_44 : decode cX8_rolls 44 = .ok (.iadd, 1) := by decide +kernel
theorem dX8_rolls_45 : decode cX8_rolls 45 = .ok (.iconst 0, 1) := by decide +kernel
theorem dX8_rolls_46 : decode cX8_rolls 46 = .ok (.bipush 30, 2) := by decide +kernel
theorem dX8_rolls_48 : decode cX8_rolls 48 = .ok (.invokestatic 39, 3) := by decide +kernel
theorem dX8_rolls_51 : decode cX8_rolls 51 = .ok (.ifCond .ne 19, 3) := by decide +kernel
theorem dX8_rolls_54 : decode cX8_rolls 54 = .ok (.iload 5, 2) := by decide +kernel
theorem dX8_rolls_56 : decode cX8_rolls 56 = .ok (.ineg, 1) := by decide +kernel
theorem dX8_rolls_57 : decode cX8_rolls 57 = .ok (.istore 5, 2) := by decide +kernel
theorem dX8_rolls_59 : decode cX8_rolls 59 = .ok (.aload_n 0, 1) := by decide +kernel
theorem dX8_rolls_60 : decode cX8_rolls 60 = .ok (.getfield 7, 3) := by decide +kernel
theorem dX8_rolls_63 : decode cX8_rolls 63 = .ok (.bipush 7, 2) := by decide +kernel
theorem dX8_rolls_65 : decode cX8_rolls 65 = .ok (.dup2, 1) := by decide +kernel
theorem dX8_rolls_66 : decode cX8_rolls 66 = .ok (.iaload, 1) := by decide +kernel
theorem dX8_rolls_67 : decode cX8_rolls 67 = .ok (.iconst 1, 1) := by decide +kernel
theorem dX8_rolls_68 : decode cX8_rolls 68 = .ok (.iadd, 1) := by decide +kernel
theorem dX8_rolls_69 : decode cX8_rolls 69 = .ok (.iastore, 1) := by decide +kernel
theorem dX8_rolls_70 : decode cX8_rolls 70 = .ok (.aload_n 0, 1) := by decide +kernel
theorem dX8_rolls_71 : decode cX8_rolls 71 = .ok (.iload 4, 2) := by decide +kernel
theorem dX8_rolls_73 : decode cX8_rolls 73 = .ok (.iconst 1, 1) := by decide +kernel
theorem dX8_rolls_74 : decode cX8_rolls 74 = .ok (.invokevirtual 43, 3) := by decide +kernel
theorem dX8_rolls_77 : decode cX8_rolls 77 = .ok (.iload 6, 2) := by decide +kernel
theorem dX8_rolls_79 : decode cX8_rolls 79 = .ok (.iadd, 1) := by decide +kernel
theorem dX8_rolls_80 : decode cX8_rolls 80 = .ok (.iconst 0, 1) := by decide +kernel
theorem dX8_rolls_81 : decode cX8_rolls 81 = .ok (.bipush 30, 2) := by decide +kernel
theorem dX8_rolls_83 : decode cX8_rolls 83 = .ok (.invokestatic 39, 3) := by decide +kernel
theorem dX8_rolls_86 : decode cX8_rolls 86 = .ok (.ifCond .ne 19, 3) := by decide +kernel
theorem dX8_rolls_89 : decode cX8_rolls 89 = .ok (.iload 6, 2) := by decide +kernel
theorem dX8_rolls_91 : decode cX8_rolls 91 = .ok (.ineg, 1) := by decide +kernel
theorem dX8_rolls_92 : decode cX8_rolls 92 = .ok (.istore 6, 2) := by decide +kernel
theorem dX8_rolls_94 : decode cX8_rolls 94 = .ok (.aload_n 0, 1) := by decide +kernel
theorem dX8_rolls_95 : decode cX8_rolls 95 = .ok (.getfield 7, 3) := by decide +kernel
theorem dX8_rolls_98 : decode cX8_rolls 98 = .ok (.bipush 7, 2) := by decide +kernel
theorem dX8_rolls_100 : decode cX8_rolls 100 = .ok (.dup2, 1) := by decide +kernel
theorem dX8_rolls_101 : decode cX8_rolls 101 = .ok (.iaload, 1) := by decide +kernel
theorem dX8_rolls_102 : decode cX8_rolls 102 = .ok (.iconst 1, 1) := by decide +kernel
theorem dX8_rolls_103 : decode cX8_rolls 103 = .ok (.iadd, 1) := by decide +kernel
theorem dX8_rolls_104 : decode cX8_rolls 104 = .ok (.iastore, 1) := by decide +kernel
theorem dX8_rolls_105 : decode cX8_rolls 105 = .ok (.aload_n 0, 1) := by decide +kernel
theorem dX8_rolls_106 : decode cX8_rolls 106 = .ok (.iload 4, 2) := by decide +kernel
theorem dX8_rolls_108 : decode cX8_rolls 108 = .ok (.iconst 0, 1) := by decide +kernel
theorem dX8_rolls_109 : decode cX8_rolls 109 = .ok (.invokevirtual 43, 3) := by decide +kernel
theorem dX8_rolls_112 : decode cX8_rolls 112 = .ok (.iload 5, 2) := by decide +kernel
theorem dX8_rolls_114 : decode cX8_rolls 114 = .ok (.iadd, 1) := by decide +kernel
theorem dX8_rolls_115 : decode cX8_rolls 115 = .ok (.istore 9, 2) := by decide +kernel
theorem dX8_rolls_117 : decode cX8_rolls 117 = .ok (.aload_n 0, 1) := by decide +kernel
theorem dX8_rolls_118 : decode cX8_rolls 118 = .ok (.iload 4, 2) := by decide +kernel
theorem dX8_rolls_120 : decode cX8_rolls 120 = .ok (.iconst 1, 1) := by decide +kernel
theorem dX8_rolls_121 : decode cX8_rolls 121 = .ok (.invokevirtual 43, 3) := by decide +kernel
theorem dX8_rolls_124 : decode cX8_rolls 124 = .ok (.iload 6, 2) := by decide +kernel
theorem dX8_rolls_126 : decode cX8_rolls 126 = .ok (.iadd, 1) := by decide +kernel
theorem dX8_rolls_127 : decode cX8_rolls 127 = .ok (.istore 10, 2) := by decide +kernel
theorem dX8_rolls_129 : decode cX8_rolls 129 = .ok (.aload_n 0, 1) := by decide +kernel
theorem dX8_rolls_130 : decode cX8_rolls 130 = .ok (.iload 9, 2) := by decide +kernel
theorem dX8_rolls_132 : decode cX8_rolls 132 = .ok (.iload 10, 2) := by decide +kernel
theorem dX8_rolls_134 : decode cX8_rolls 134 = .ok (.invokevirtual 63, 3) := by decide +kernel
theorem dX8_rolls_137 : decode cX8_rolls 137 = .ok (.istore 11, 2) := by decide +kernel
theorem dX8_rolls_139 : decode cX8_rolls 139 = .ok (.iload 11, 2) := by decide +kernel
theorem dX8_rolls_141 : decode cX8_rolls 141 = .ok (.sipush (-1006), 3) := by decide +kernel
theorem dX8_rolls_144 : decode cX8_rolls 144 = .ok (.if_icmp .ne 49, 3) := by decide +kernel
theorem dX8_rolls_147 : decode cX8_rolls 147 = .ok (.iload 7, 2) := by decide +kernel
theorem dX8_rolls_149 : decode cX8_rolls 149 = .ok (.iconst 1, 1) := by decide +kernel
theorem dX8_rolls_150 : decode cX8_rolls 150 = .ok (.aload_n 0, 1) := by decide +kernel
theorem dX8_rolls_151 : decode cX8_rolls 151 = .ok (.iload 4, 2) := by decide +kernel
theorem dX8_rolls_153 : decode cX8_rolls 153 = .ok (.invokevirtual 66, 3) := by decide +kernel
theorem dX8_rolls_156 : decode cX8_rolls 156 = .ok (.aload_n 0, 1) := by decide +kernel
theorem dX8_rolls_157 : decode cX8_rolls 157 = .ok (.iload 9, 2) := by decide +kernel
theorem dX8_rolls_159 : decode cX8_rolls 159 = .ok (.iload 10, 2) := by decide +kernel
theorem dX8_rolls_161 : decode cX8_rolls 161 = .ok (.invokevirtual 53, 3) := by decide +kernel
theorem dX8_rolls_164 : decode cX8_rolls 164 = .ok (.ixor, 1) := by decide +kernel
theorem dX8_rolls_165 : decode cX8_rolls 165 = .ok (.invokestatic 70, 3) := by decide +kernel
theorem dX8_rolls_168 : decode cX8_rolls 168 = .ok (.iadd, 1) := by decide +kernel
theorem dX8_rolls_169 : decode cX8_rolls 169 = .ok (.isub, 1) := by decide +kernel
theorem dX8_rolls_170 : decode cX8_rolls 170 = .ok (.istore 7, 2) := by decide +kernel
theorem dX8_rolls_172 : decode cX8_rolls 172 = .ok (.aload_n 0, 1) := by decide +kernel
theorem dX8_rolls_173 : decode cX8_rolls 173 = .ok (.iload 4, 2) := by decide +kernel
theorem dX8_rolls_175 : decode cX8_rolls 175 = .ok (.iconst 0, 1) := by decide +kernel
theorem dX8_rolls_176 : decode cX8_rolls 176 = .ok (.iload 9, 2) := by decide +kernel
theorem dX8_rolls_178 : decode cX8_rolls 178 = .ok (.invokevirtual 73, 3) := by decide +kernel
theorem dX8_rolls_181 : decode cX8_rolls 181 = .ok (.aload_n 0, 1) := by decide +kernel
theorem dX8_rolls_182 : decode cX8_rolls 182 = .ok (.iload 4, 2) := by decide +kernel
theorem dX8_rolls_184 : decode cX8_rolls 184 = .ok (.iconst 1, 1) := by decide +kernel
theorem dX8_rolls_185 : decode cX8_rolls 185 = .ok (.iload 10, 2) := by decide +kernel
theorem dX8_rolls_187 : decode cX8_rolls 187 = .ok (.invokevirtual 73, 3) := by decide +kernel
theorem dX8_rolls_190 : decode cX8_rolls 190 = .ok (.goto 84, 3) := by decide +kernel
theorem dX8_rolls_193 : decode cX8_rolls 193 = .ok (.iload 7, 2) := by decide +kernel
theorem dX8_rolls_195 : decode cX8_rolls 195 = .ok (.aload_n 0, 1) := by decide +kernel
theorem dX8_rolls_196 : decode cX8_rolls 196 = .ok (.iload 4, 2) := by decide +kernel
theorem dX8_rolls_198 : decode cX8_rolls 198 = .ok (.iconst 2, 1) := by decide +kernel
theorem dX8_rolls_199 : decode cX8_rolls 199 = .ok (.invokevirtual 43, 3) := by decide +kernel
theorem dX8_rolls_202 : decode cX8_rolls 202 = .ok (.imul, 1) := by decide +kernel
theorem dX8_rolls_203 : decode cX8_rolls 203 = .ok (.aload_n 0, 1) := by decide +kernel
theorem dX8_rolls_204 : decode cX8_rolls 204 = .ok (.iload 11, 2) := by decide +kernel
theorem dX8_rolls_206 : decode cX8_rolls 206 = .ok (.iconst 2, 1) := by decide +kernel
theorem dX8_rolls_207 : decode cX8_rolls 207 = .ok (.invokevirtual 43, 3) := by decide +kernel
theorem dX8_rolls_210 : decode cX8_rolls 210 = .ok (.idiv, 1) := by decide +kernel
theorem dX8_rolls_211 : decode cX8_rolls 211 = .ok (.istore 7, 2) := by decide +kernel
theorem dX8_rolls_213 : decode cX8_rolls 213 = .ok (.iload 7, 2) := by decide +kernel
theorem dX8_rolls_215 : decode cX8_rolls 215 = .ok (.bipush 40, 2) := by decide +kernel
theorem dX8_rolls_217 : decode cX8_rolls 217 = .ok (.if_icmp .le 8, 3) := by decide +kernel
theorem dX8_rolls_220 : decode cX8_rolls 220 = .ok (.bipush 40, 2) := by decide +kernel
theorem dX8_rolls_222 : decode cX8_rolls 222 = .ok (.goto 5, 3) := by decide +kernel
theorem dX8_rolls_225 : decode cX8_rolls 225 = .ok (.iload 7, 2) := by decide +kernel
theorem dX8_rolls_227 : decode cX8_rolls 227 = .ok (.istore 7, 2) := by decide +kernel
theorem dX8_rolls_229 : decode cX8_rolls 229 = .ok (.iload 11, 2) := by decide +kernel
theorem dX8_rolls_231 : decode cX8_rolls 231 = .ok (.istore 4, 2) := by decide +kernel
theorem dX8_rolls_233 : decode cX8_rolls 233 = .ok (.aload_n 0, 1) := by decide +kernel
theorem dX8_rolls_234 : decode cX8_rolls 234 = .ok (.dup, 1) := by decide +kernel
theorem dX8_rolls_235 : decode cX8_rolls 235 = .ok (.getfield 60, 3) := by decide +kernel
theorem dX8_rolls_238 : decode cX8_rolls 238 = .ok (.iconst 1, 1) := by decide +kernel
theorem dX8_rolls_239 : decode cX8_rolls 239 = .ok (.iload 4, 2) := by decide +kernel
theorem dX8_rolls_241 : decode cX8_rolls 241 = .ok (.ishl, 1) := by decide +kernel
theorem dX8_rolls_242 : decode cX8_rolls 242 = .ok (.ior, 1) := by decide +kernel
theorem dX8_rolls_243 : decode cX8_rolls 243 = .ok (.putfield 60, 3) := by decide +kernel
theorem dX8_rolls_246 : decode cX8_rolls 246 = .ok (.iinc 8 1, 3) := by decide +kernel
theorem dX8_rolls_249 : decode cX8_rolls 249 = .ok (.aload_n 0, 1) := by decide +kernel
theorem dX8_rolls_250 : decode cX8_rolls 250 = .ok (.getfield 7, 3) := by decide +kernel
theorem dX8_rolls_253 : decode cX8_rolls 253 = .ok (.iconst 4, 1) := by decide +kernel
theorem dX8_rolls_254 : decode cX8_rolls 254 = .ok (.dup2, 1) := by decide +kernel
theorem dX8_rolls_255 : decode cX8_rolls 255 = .ok (.iaload, 1) := by decide +kernel
theorem dX8_rolls_256 : decode cX8_rolls 256 = .ok (.iconst 1, 1) := by decide +kernel
theorem dX8_rolls_257 : decode cX8_rolls 257 = .ok (.iadd, 1) := by decide +kernel
theorem dX8_rolls_258 : decode cX8_rolls 258 = .ok (.iastore, 1) := by decide +kernel
theorem dX8_rolls_259 : decode cX8_rolls 259 = .ok (.iload 8, 2) := by decide +kernel
theorem dX8_rolls_261 : decode cX8_rolls 261 = .ok (.bipush 60, 2) := by decide +kernel
theorem dX8_rolls_263 : decode cX8_rolls 263 = .ok (.if_icmp .ne 7, 3) := by decide +kernel
theorem dX8_rolls_266 : decode cX8_rolls 266 = .ok (.iconst 0, 1) := by decide +kernel
theorem dX8_rolls_267 : decode cX8_rolls 267 = .ok (.goto 5, 3) := by decide +kernel
theorem dX8_rolls_270 : decode cX8_rolls 270 = .ok (.iload 7, 2) := by decide +kernel
theorem dX8_rolls_272 : decode cX8_rolls 272 = .ok (.istore 7, 2) := by decide +kernel
theorem dX8_rolls_274 : decode cX8_rolls 274 = .ok (.goto (-244), 3) := by decide +kernel
theorem dX8_rolls_277 : decode cX8_rolls 277 = .ok (.aload_n 0, 1) := by decide +kernel
theorem dX8_rolls_278 : decode cX8_rolls 278 = .ok (.iload 4, 2) := by decide +kernel
theorem dX8_rolls_280 : decode cX8_rolls 280 = .ok (.putfield 77, 3) := by decide +kernel
theorem dX8_rolls_283 : decode cX8_rolls 283 = .ok (.aload_n 0, 1) := by decide +kernel
theorem dX8_rolls_284 : decode cX8_rolls 284 = .ok (.aload_n 0, 1) := by decide +kernel
theorem dX8_rolls_285 : decode cX8_rolls 285 = .ok (.iload 4, 2) := by decide +kernel
theorem dX8_rolls_287 : decode cX8_rolls 287 = .ok (.iconst 0, 1) := by decide +kernel
theorem dX8_rolls_288 : decode cX8_rolls 288 = .ok (.invokevirtual 43, 3) := by decide +kernel
theorem dX8_rolls_291 : decode cX8_rolls 291 = .ok (.putfield 80, 3) := by decide +kernel
theorem dX8_rolls_294 : decode cX8_rolls 294 = .ok (.aload_n 0, 1) := by decide +kernel
theorem dX8_rolls_295 : decode cX8_rolls 295 = .ok (.aload_n 0, 1) := by decide +kernel
theorem dX8_rolls_296 : decode cX8_rolls 296 = .ok (.iload 4, 2) := by decide +kernel
theorem dX8_rolls_298 : decode cX8_rolls 298 = .ok (.iconst 1, 1) := by decide +kernel
theorem dX8_rolls_299 : decode cX8_rolls 299 = .ok (.invokevirtual 43, 3) := by decide +kernel
theorem dX8_rolls_302 : decode cX8_rolls 302 = .ok (.putfield 83, 3) := by decide +kernel
theorem dX8_rolls_305 : decode cX8_rolls 305 = .ok (.return_, 1) := by decide +kernel
theorem dX8_flicks_0 : decode cX8_flicks 0 = .ok (.iconst 0, 1) := by decide +kernel
theorem dX8_flicks_1 : decode cX8_flicks 1 = .ok (.istore 5, 2) := by decide +kernel
theorem dX8_flicks_3 : decode cX8_flicks 3 = .ok (.iload 5, 2) := by decide +kernel
theorem dX8_flicks_5 : decode cX8_flicks 5 = .ok (.aload_n 0, 1) := by decide +kernel
theorem dX8_flicks_6 : decode cX8_flicks 6 = .ok (.getfield 7, 3) := by decide +kernel
theorem dX8_flicks_9 : decode cX8_flicks 9 = .ok (.iconst 0, 1) := by decide +kernel
theorem dX8_flicks_10 : decode cX8_flicks 10 = .ok (.iaload, 1) := by decide +kernel
theorem dX8_flicks_11 : decode cX8_flicks 11 = .ok (.if_icmp .ge 35, 3) := by decide +kernel
theorem dX8_flicks_14 : decode cX8_flicks 14 = .ok (.aload_n 0, 1) := by decide +kernel
theorem dX8_flicks_15 : decode cX8_flicks 15 = .ok (.getfield 28, 3) := by decide +kernel
theorem dX8_flicks_18 : decode cX8_flicks 18 = .ok (.iload 5, 2) := by decide +kernel
theorem dX8_flicks_20 : decode cX8_flicks 20 = .ok (.aload_n 0, 1) := by decide +kernel
theorem dX8_flicks_21 : decode cX8_flicks 21 = .ok (.iload 5, 2) := by decide +kernel
theorem dX8_flicks_23 : decode cX8_flicks 23 = .ok (.invokevirtual 56, 3) := by decide +kernel
theorem dX8_flicks_26 : decode cX8_flicks 26 = .ok (.ifCond .eq 12, 3) := by decide +kernel
theorem dX8_flicks_29 : decode cX8_flicks 29 = .ok (.aload_n 0, 1) := by decide +kernel
theorem dX8_flicks_30 : decode cX8_flicks 30 = .ok (.iload 5, 2) := by decide +kernel
theorem dX8_flicks_32 : decode cX8_flicks 32 = .ok (.invokevirtual 66, 3) := by decide +kernel
theorem dX8_flicks_35 : decode cX8_flicks 35 = .ok (.goto 4, 3) := by decide +kernel
theorem dX8_flicks_38 : decode cX8_flicks 38 = .ok (.iconst 0, 1) := by decide +kernel
theorem dX8_flicks_39 : decode cX8_flicks 39 = .ok (.iastore, 1) := by decide +kernel
theorem dX8_flicks_40 : decode cX8_flicks 40 = .ok (.iinc 5 1, 3) := by decide +kernel
theorem dX8_flicks_43 : decode cX8_flicks 43 = .ok (.goto (-40), 3) := by decide +kernel
theorem dX8_flicks_46 : decode cX8_flicks 46 = .ok (.aload_n 0, 1) := by decide +kernel
theorem dX8_flicks_47 : decode cX8_flicks 47 = .ok (.iload_n 2, 1) := by decide +kernel
theorem dX8_flicks_48 : decode cX8_flicks 48 = .ok (.iload_n 3, 1) := by decide +kernel
theorem dX8_flicks_49 : decode cX8_flicks 49 = .ok (.iload 4, 2) := by decide +kernel
theorem dX8_flicks_51 : decode cX8_flicks 51 = .ok (.invokevirtual 86, 3) := by decide +kernel
theorem dX8_flicks_54 : decode cX8_flicks 54 = .ok (.aload_n 0, 1) := by decide +kernel
theorem dX8_flicks_55 : decode cX8_flicks 55 = .ok (.getfield 7, 3) := by decide +kernel
theorem dX8_flicks_58 : decode cX8_flicks 58 = .ok (.iconst 3, 1) := by decide +kernel
theorem dX8_flicks_59 : decode cX8_flicks 59 = .ok (.dup2, 1) := by decide +kernel
theorem dX8_flicks_60 : decode cX8_flicks 60 = .ok (.iaload, 1) := by decide +kernel
theorem dX8_flicks_61 : decode cX8_flicks 61 = .ok (.iconst 1, 1) := by decide +kernel
theorem dX8_flicks_62 : decode cX8_flicks 62 = .ok (.iadd, 1) := by decide +kernel
theorem dX8_flicks_63 : decode cX8_flicks 63 = .ok (.iastore, 1) := by decide +kernel
theorem dX8_flicks_64 : decode cX8_flicks 64 = .ok (.aload_n 0, 1) := by decide +kernel
theorem dX8_flicks_65 : decode cX8_flicks 65 = .ok (.iconst 0, 1) := by decide +kernel
theorem dX8_flicks_66 : decode cX8_flicks 66 = .ok (.putfield 89, 3) := by decide +kernel
theorem dX8_flicks_69 : decode cX8_flicks 69 = .ok (.aload_n 0, 1) := by decide +kernel
theorem dX8_flicks_70 : decode cX8_flicks 70 = .ok (.iconst 0, 1) := by decide +kernel
theorem dX8_flicks_71 : decode cX8_flicks 71 = .ok (.putfield 92, 3) := by decide +kernel
theorem dX8_flicks_74 : decode cX8_flicks 74 = .ok (.iconst 0, 1) := by decide +kernel
theorem dX8_flicks_75 : decode cX8_flicks 75 = .ok (.istore 5, 2) := by decide +kernel
theorem dX8_flicks_77 : decode cX8_flicks 77 = .ok (.iconst 0, 1) := by decide +kernel
theorem dX8_flicks_78 : decode cX8_flicks 78 = .ok (.istore 6, 2) := by decide +kernel
theorem dX8_flicks_80 : decode cX8_flicks 80 = .ok (.iload 6, 2) := by decide +kernel
theorem dX8_flicks_82 : decode cX8_flicks 82 = .ok (.aload_n 0, 1) := by decide +kernel
theorem dX8_flicks_83 : decode cX8_flicks 83 = .ok (.getfield 7, 3) := by decide +kernel
theorem dX8_flicks_86 : decode cX8_flicks 86 = .ok (.iconst 0, 1) := by decide +kernel
theorem dX8_flicks_87 : decode cX8_flicks 87 = .ok (.iaload, 1) := by decide +kernel
theorem dX8_flicks_88 : decode cX8_flicks 88 = .ok (.if_icmp .ge 110, 3) := by decide +kernel
theorem dX8_flicks_91 : decode cX8_flicks 91 = .ok (.aload_n 0, 1) := by decide +kernel
theorem dX8_flicks_92 : decode cX8_flicks 92 = .ok (.getfield 60, 3) := by decide +kernel
theorem dX8_flicks_95 : decode cX8_flicks 95 = .ok (.iload 6, 2) := by decide +kernel
theorem dX8_flicks_97 : decode cX8_flicks 97 = .ok (.ishr, 1) := by decide +kernel
theorem dX8_flicks_98 : decode cX8_flicks 98 = .ok (.iconst 1, 1) := by decide +kernel
theorem dX8_flicks_99 : decode cX8_flicks 99 = .ok (.iand, 1) := by decide +kernel
theorem dX8_flicks_100 : decode cX8_flicks 100 = .ok (.iconst 1, 1) := by decide +kernel
theorem dX8_flicks_101 : decode cX8_flicks 101 = .ok (.if_icmp .ne 37, 3) := by decide +kernel
theorem dX8_flicks_104 : decode cX8_flicks 104 = .ok (.aload_n 0, 1) := by decide +kernel
theorem dX8_flicks_105 : decode cX8_flicks 105 = .ok (.iload 6, 2) := by decide +kernel
theorem dX8_flicks_107 : decode cX8_flicks 107 = .ok (.iconst 3, 1) := by decide +kernel
theorem dX8_flicks_108 : decode cX8_flicks 108 = .ok (.invokevirtual 43, 3) := by decide +kernel
theorem dX8_flicks_111 : decode cX8_flicks 111 = .ok (.iload_n 1, 1) := by decide +kernel
theorem dX8_flicks_112 : decode cX8_flicks 112 = .ok (.if_icmp .eq 26, 3) := by decide +kernel
theorem dX8_flicks_115 : decode cX8_flicks 115 = .ok (.aload_n 0, 1) := by decide +kernel
theorem dX8_flicks_116 : decode cX8_flicks 116 = .ok (.getfield 28, 3) := by decide +kernel
theorem dX8_flicks_119 : decode cX8_flicks 119 = .ok (.iload 6, 2) := by decide +kernel
theorem dX8_flicks_121 : decode cX8_flicks 121 = .ok (.iaload, 1) := by decide +kernel
theorem dX8_flicks_122 : decode cX8_flicks 122 = .ok (.ifCond .eq 16, 3) := by decide +kernel
theorem dX8_flicks_125 : decode cX8_flicks 125 = .ok (.aload_n 0, 1) := by decide +kernel
theorem dX8_flicks_126 : decode cX8_flicks 126 = .ok (.iload 6, 2) := by decide +kernel
theorem dX8_flicks_128 : decode cX8_flicks 128 = .ok (.invokevirtual 66, 3) := by decide +kernel
theorem dX8_flicks_131 : decode cX8_flicks 131 = .ok (.ifCond .ne 7, 3) := by decide +kernel
theorem dX8_flicks_134 : decode cX8_flicks 134 = .ok (.iconst 1, 1) := by decide +kernel
theorem dX8_flicks_135 : decode cX8_flicks 135 = .ok (.goto 4, 3) := by decide +kernel
theorem dX8_flicks_138 : decode cX8_flicks 138 = .ok (.iconst 0, 1) := by decide +kernel
theorem dX8_flicks_139 : decode cX8_flicks 139 = .ok (.istore 7, 2) := by decide +kernel
theorem dX8_flicks_141 : decode cX8_flicks 141 = .ok (.iload 7, 2) := by decide +kernel
theorem dX8_flicks_143 : decode cX8_flicks 143 = .ok (.ifCond .eq 49, 3) := by decide +kernel
theorem dX8_flicks_146 : decode cX8_flicks 146 = .ok (.aload_n 0, 1) := by decide +kernel
theorem dX8_flicks_147 : decode cX8_flicks 147 = .ok (.iload 6, 2) := by decide +kernel
theorem dX8_flicks_149 : decode cX8_flicks 149 = .ok (.iconst 4, 1) := by decide +kernel
theorem dX8_flicks_150 : decode cX8_flicks 150 = .ok (.iload_n 1, 1) := by decide +kernel
theorem dX8_flicks_151 : decode cX8_flicks 151 = .ok (.invokevirtual 73, 3) := by decide +kernel
theorem dX8_flicks_154 : decode cX8_flicks 154 = .ok (.aload_n 0, 1) := by decide +kernel
theorem dX8_flicks_155 : decode cX8_flicks 155 = .ok (.dup, 1) := by decide +kernel
theorem dX8_flicks_156 : decode cX8_flicks 156 = .ok (.getfield 89, 3) := by decide +kernel
theorem dX8_flicks_159 : decode cX8_flicks 159 = .ok (.iconst 1, 1) := by decide +kernel
theorem dX8_flicks_160 : decode cX8_flicks 160 = .ok (.iadd, 1) := by decide +kernel
theorem dX8_flicks_161 : decode cX8_flicks 161 = .ok (.putfield 89, 3) := by decide +kernel
theorem dX8_flicks_164 : decode cX8_flicks 164 = .ok (.aload_n 0, 1) := by decide +kernel
theorem dX8_flicks_165 : decode cX8_flicks 165 = .ok (.dup, 1) := by decide +kernel
theorem dX8_flicks_166 : decode cX8_flicks 166 = .ok (.getfield 92, 3) := by decide +kernel
theorem dX8_flicks_169 : decode cX8_flicks 169 = .ok (.aload_n 0, 1) := by decide +kernel
theorem dX8_flicks_170 : decode cX8_flicks 170 = .ok (.iload 6, 2) := by decide +kernel
theorem dX8_flicks_172 : decode cX8_flicks 172 = .ok (.iconst 2, 1) := by decide +kernel
theorem dX8_flicks_173 : decode cX8_flicks 173 = .ok (.invokevirtual 43, 3) := by decide +kernel
theorem dX8_flicks_176 : decode cX8_flicks 176 = .ok (.iadd, 1) := by decide +kernel
theorem dX8_flicks_177 : decode cX8_flicks 177 = .ok (.putfield 92, 3) := by decide +kernel
theorem dX8_flicks_180 : decode cX8_flicks 180 = .ok (.iload 5, 2) := by decide +kernel
theorem dX8_flicks_182 : decode cX8_flicks 182 = .ok (.aload_n 0, 1) := by decide +kernel
theorem dX8_flicks_183 : decode cX8_flicks 183 = .ok (.getfield 28, 3) := by decide +kernel
theorem dX8_flicks_186 : decode cX8_flicks 186 = .ok (.iload 6, 2) := by decide +kernel
theorem dX8_flicks_188 : decode cX8_flicks 188 = .ok (.iaload, 1) := by decide +kernel
theorem dX8_flicks_189 : decode cX8_flicks 189 = .ok (.ior, 1) := by decide +kernel
theorem dX8_flicks_190 : decode cX8_flicks 190 = .ok (.istore 5, 2) := by decide +kernel
theorem dX8_flicks_192 : decode cX8_flicks 192 = .ok (.iinc 6 1, 3) := by decide +kernel
theorem dX8_flicks_195 : decode cX8_flicks 195 = .ok (.goto (-115), 3) := by decide +kernel
theorem dX8_flicks_198 : decode cX8_flicks 198 = .ok (.aload_n 0, 1) := by decide +kernel
theorem dX8_flicks_199 : decode cX8_flicks 199 = .ok (.getfield 7, 3) := by decide +kernel
theorem dX8_flicks_202 : decode cX8_flicks 202 = .ok (.iconst 5, 1) := by decide +kernel
theorem dX8_flicks_203 : decode cX8_flicks 203 = .ok (.dup2, 1) := by decide +kernel
theorem dX8_flicks_204 : decode cX8_flicks 204 = .ok (.iaload, 1) := by decide +kernel
theorem dX8_flicks_205 : decode cX8_flicks 205 = .ok (.aload_n 0, 1) := by decide +kernel
theorem dX8_flicks_206 : decode cX8_flicks 206 = .ok (.getfield 89, 3) := by decide +kernel
theorem dX8_flicks_209 : decode cX8_flicks 209 = .ok (.iadd, 1) := by decide +kernel
theorem dX8_flicks_210 : decode cX8_flicks 210 = .ok (.iastore, 1) := by decide +kernel
theorem dX8_flicks_211 : decode cX8_flicks 211 = .ok (.iconst 0, 1) := by decide +kernel
theorem dX8_flicks_212 : decode cX8_flicks 212 = .ok (.istore 6, 2) := by decide +kernel
theorem dX8_flicks_214 : decode cX8_flicks 214 = .ok (.iload 6, 2) := by decide +kernel
theorem dX8_flicks_216 : decode cX8_flicks 216 = .ok (.aload_n 0, 1) := by decide +kernel
theorem dX8_flicks_217 : decode cX8_flicks 217 = .ok (.getfield 7, 3) := by decide +kernel
theorem dX8_flicks_220 : decode cX8_flicks 220 = .ok (.iconst 1, 1) := by decide +kernel
theorem dX8_flicks_221 : decode cX8_flicks 221 = .ok (.iaload, 1) := by decide +kernel
theorem dX8_flicks_222 : decode cX8_flicks 222 = .ok (.if_icmp .ge 61, 3) := by decide +kernel
theorem dX8_flicks_225 : decode cX8_flicks 225 = .ok (.iload 5, 2) := by decide +kernel
theorem dX8_flicks_227 : decode cX8_flicks 227 = .ok (.iload 6, 2) := by decide +kernel
theorem dX8_flicks_229 : decode cX8_flicks 229 = .ok (.ishr, 1) := by decide +kernel
theorem dX8_flicks_230 : decode cX8_flicks 230 = .ok (.iconst 1, 1) := by decide +kernel
theorem dX8_flicks_231 : decode cX8_flicks 231 = .ok (.iand, 1) := by decide +kernel
theorem dX8_flicks_232 : decode cX8_flicks 232 = .ok (.iconst 1, 1) := by decide +kernel
theorem dX8_flicks_233 : decode cX8_flicks 233 = .ok (.if_icmp .ne 44, 3) := by decide +kernel
theorem dX8_flicks_236 : decode cX8_flicks 236 = .ok (.aload_n 0, 1) := by decide +kernel
theorem dX8_flicks_237 : decode cX8_flicks 237 = .ok (.iload 6, 2) := by decide +kernel
theorem dX8_flicks_239 : decode cX8_flicks 239 = .ok (.iconst 2, 1) := by decide +kernel
theorem dX8_flicks_240 : decode cX8_flicks 240 = .ok (.invokevirtual 47, 3) := by decide +kernel
theorem dX8_flicks_243 : decode cX8_flicks 243 = .ok (.bipush 15, 2) := by decide +kernel
theorem dX8_flicks_245 : decode cX8_flicks 245 = .ok (.if_icmp .ge 32, 3) := by decide +kernel
theorem dX8_flicks_248 : decode cX8_flicks 248 = .ok (.aload_n 0, 1) := by decide +kernel
theorem dX8_flicks_249 : decode cX8_flicks 249 = .ok (.getfield 7, 3) := by decide +kernel
theorem dX8_flicks_252 : decode cX8_flicks 252 = .ok (.bipush 68, 2) := by decide +kernel
theorem dX8_flicks_254 : decode cX8_flicks 254 = .ok (.iconst 3, 1) := by decide +kernel
theorem dX8_flicks_255 : decode cX8_flicks 255 = .ok (.iload 6, 2) := by decide +kernel
theorem dX8_flicks_257 : decode cX8_flicks 257 = .ok (.imul, 1) := by decide +kernel
theorem dX8_flicks_258 : decode cX8_flicks 258 = .ok (.iadd, 1) := by decide +kernel
theorem dX8_flicks_259 : decode cX8_flicks 259 = .ok (.iconst 2, 1) := by decide +kernel
theorem dX8_flicks_260 : decode cX8_flicks 260 = .ok (.iadd, 1) := by decide +kernel
theorem dX8_flicks_261 : decode cX8_flicks 261 = .ok (.dup2, 1) := by decide +kernel
theorem dX8_flicks_262 : decode cX8_flicks 262 = .ok (.iaload, 1) := by decide +kernel
theorem dX8_flicks_263 : decode cX8_flicks 263 = .ok (.iconst 1, 1) := by decide +kernel
theorem dX8_flicks_264 : decode cX8_flicks 264 = .ok (.iadd, 1) := by decide +kernel
theorem dX8_flicks_265 : decode cX8_flicks 265 = .ok (.iastore, 1) := by decide +kernel
theorem dX8_flicks_266 : decode cX8_flicks 266 = .ok (.aload_n 0, 1) := by decide +kernel
theorem dX8_flicks_267 : decode cX8_flicks 267 = .ok (.getfield 7, 3) := by decide +kernel
theorem dX8_flicks_270 : decode cX8_flicks 270 = .ok (.bipush 6, 2) := by decide +kernel
theorem dX8_flicks_272 : decode cX8_flicks 272 = .ok (.dup2, 1) := by decide +kernel
theorem dX8_flicks_273 : decode cX8_flicks 273 = .ok (.iaload, 1) := by decide +kernel
theorem dX8_flicks_274 : decode cX8_flicks 274 = .ok (.iconst 1, 1) := by decide +kernel
theorem dX8_flicks_275 : decode cX8_flicks 275 = .ok (.iadd, 1) := by decide +kernel
theorem dX8_flicks_276 : decode cX8_flicks 276 = .ok (.iastore, 1) := by decide +kernel
theorem dX8_flicks_277 : decode cX8_flicks 277 = .ok (.iinc 6 1, 3) := by decide +kernel
theorem dX8_flicks_280 : decode cX8_flicks 280 = .ok (.goto (-66), 3) := by decide +kernel
theorem dX8_flicks_283 : decode cX8_flicks 283 = .ok (.return_, 1) := by decide +kernel
theorem dX8_isFlick_0 : decode cX8_isFlick 0 = .ok (.iload_n 0, 1) := by decide +kernel
theorem dX8_isFlick_1 : decode cX8_isFlick 1 = .ok (.iconst 0, 1) := by decide +kernel
theorem dX8_isFlick_2 : decode cX8_isFlick 2 = .ok (.bipush 7, 2) := by decide +kernel
theorem dX8_isFlick_4 : decode cX8_isFlick 4 = .ok (.invokestatic 39, 3) := by decide +kernel
theorem dX8_isFlick_7 : decode cX8_isFlick 7 = .ok (.ifCond .eq 17, 3) := by decide +kernel
theorem dX8_isFlick_10 : decode cX8_isFlick 10 = .ok (.iload_n 1, 1) := by decide +kernel
theorem dX8_isFlick_11 : decode cX8_isFlick 11 = .ok (.iconst 1, 1) := by decide +kernel
theorem dX8_isFlick_12 : decode cX8_isFlick 12 = .ok (.bipush 40, 2) := by decide +kernel
theorem dX8_isFlick_14 : decode cX8_isFlick 14 = .ok (.invokestatic 39, 3) := by decide +kernel
theorem dX8_isFlick_17 : decode cX8_isFlick 17 = .ok (.ifCond .eq 7, 3) := by decide +kernel
theorem dX8_isFlick_20 : decode cX8_isFlick 20 = .ok (.iconst 1, 1) := by decide +kernel
theorem dX8_isFlick_21 : decode cX8_isFlick 21 = .ok (.goto 4, 3) := by decide +kernel
theorem dX8_isFlick_24 : decode cX8_isFlick 24 = .ok (.iconst 0, 1) := by decide +kernel
theorem dX8_isFlick_25 : decode cX8_isFlick 25 = .ok (.ireturn, 1) := by decide +kernel
theorem dX8_goesOn_0 : decode cX8_goesOn 0 = .ok (.aload_n 0, 1) := by decide +kernel
theorem dX8_goesOn_1 : decode cX8_goesOn 1 = .ok (.getfield 7, 3) := by decide +kernel
theorem dX8_goesOn_4 : decode cX8_goesOn 4 = .ok (.iconst 2, 1) := by decide +kernel
theorem dX8_goesOn_5 : decode cX8_goesOn 5 = .ok (.aload_n 0, 1) := by decide +kernel
theorem dX8_goesOn_6 : decode cX8_goesOn 6 = .ok (.getfield 7, 3) := by decide +kernel
theorem dX8_goesOn_9 : decode cX8_goesOn 9 = .ok (.iconst 2, 1) := by decide +kernel
theorem dX8_goesOn_10 : decode cX8_goesOn 10 = .ok (.iaload, 1) := by decide +kernel
theorem dX8_goesOn_11 : decode cX8_goesOn 11 = .ok (.iconst 1, 1) := by decide +kernel
theorem dX8_goesOn_12 : decode cX8_goesOn 12 = .ok (.iadd, 1) := by decide +kernel
theorem dX8_goesOn_13 : decode cX8_goesOn 13 = .ok (.iconst 3, 1) := by decide +kernel
theorem dX8_goesOn_14 : decode cX8_goesOn 14 = .ok (.irem, 1) := by decide +kernel
theorem dX8_goesOn_15 : decode cX8_goesOn 15 = .ok (.iastore, 1) := by decide +kernel
theorem dX8_goesOn_16 : decode cX8_goesOn 16 = .ok (.return_, 1) := by decide +kernel
theorem dX8_flick_0 : decode cX8_flick 0 = .ok (.aload_n 0, 1) := by decide +kernel
theorem dX8_flick_1 : decode cX8_flick 1 = .ok (.iload_n 1, 1) := by decide +kernel
theorem dX8_flick_2 : decode cX8_flick 2 = .ok (.invokevirtual 95, 3) := by decide +kernel
theorem dX8_flick_5 : decode cX8_flick 5 = .ok (.ifCond .ne 7, 3) := by decide +kernel
theorem dX8_flick_8 : decode cX8_flick 8 = .ok (.sipush (-1001), 3) := by decide +kernel
theorem dX8_flick_11 : decode cX8_flick 11 = .ok (.ireturn, 1) := by decide +kernel
theorem dX8_flick_12 : decode cX8_flick 12 = .ok (.iload_n 2, 1) := by decide +kernel
theorem dX8_flick_13 : decode cX8_flick 13 = .ok (.iload_n 3, 1) := by decide +kernel
theorem dX8_flick_14 : decode cX8_flick 14 = .ok (.invokestatic 98, 3) := by decide +kernel
theorem dX8_flick_17 : decode cX8_flick 17 = .ok (.ifCond .ne 7, 3) := by decide +kernel
theorem dX8_flick_20 : decode cX8_flick 20 = .ok (.sipush (-1002), 3) := by decide +kernel
theorem dX8_flick_23 : decode cX8_flick 23 = .ok (.ireturn, 1) := by decide +kernel
theorem dX8_flick_24 : decode cX8_flick 24 = .ok (.aload_n 0, 1) := by decide +kernel
theorem dX8_flick_25 : decode cX8_flick 25 = .ok (.iload_n 1, 1) := by decide +kernel
theorem dX8_flick_26 : decode cX8_flick 26 = .ok (.invokevirtual 56, 3) := by decide +kernel
theorem dX8_flick_29 : decode cX8_flick 29 = .ok (.ifCond .eq 18, 3) := by decide +kernel
theorem dX8_flick_32 : decode cX8_flick 32 = .ok (.aload_n 0, 1) := by decide +kernel
theorem dX8_flick_33 : decode cX8_flick 33 = .ok (.iload_n 1, 1) := by decide +kernel
theorem dX8_flick_34 : decode cX8_flick 34 = .ok (.iconst 3, 1) := by decide +kernel
theorem dX8_flick_35 : decode cX8_flick 35 = .ok (.invokevirtual 43, 3) := by decide +kernel
theorem dX8_flick_38 : decode cX8_flick 38 = .ok (.aload_n 0, 1) := by decide +kernel
theorem dX8_flick_39 : decode cX8_flick 39 = .ok (.getfield 7, 3) := by decide +kernel
theorem dX8_flick_42 : decode cX8_flick 42 = .ok (.iconst 2, 1) := by decide +kernel
theorem dX8_flick_43 : decode cX8_flick 43 = .ok (.iaload, 1) := by decide +kernel
theorem dX8_flick_44 : decode cX8_flick 44 = .ok (.if_icmp .eq 7, 3) := by decide +kernel
theorem dX8_flick_47 : decode cX8_flick 47 = .ok (.sipush (-1003), 3) := by decide +kernel
theorem dX8_flick_50 : decode cX8_flick 50 = .ok (.ireturn, 1) := by decide +kernel
theorem dX8_flick_51 : decode cX8_flick 51 = .ok (.aload_n 0, 1) := by decide +kernel
theorem dX8_flick_52 : decode cX8_flick 52 = .ok (.invokevirtual 102, 3) := by decide +kernel
theorem dX8_flick_55 : decode cX8_flick 55 = .ok (.aload_n 0, 1) := by decide +kernel
theorem dX8_flick_56 : decode cX8_flick 56 = .ok (.aload_n 0, 1) := by decide +kernel
theorem dX8_flick_57 : decode cX8_flick 57 = .ok (.getfield 7, 3) := by decide +kernel
theorem dX8_flick_60 : decode cX8_flick 60 = .ok (.iconst 2, 1) := by decide +kernel
theorem dX8_flick_61 : decode cX8_flick 61 = .ok (.iaload, 1) := by decide +kernel
theorem dX8_flick_62 : decode cX8_flick 62 = .ok (.iload_n 1, 1) := by decide +kernel
theorem dX8_flick_63 : decode cX8_flick 63 = .ok (.iload_n 2, 1) := by decide +kernel
theorem dX8_flick_64 : decode cX8_flick 64 = .ok (.iload_n 3, 1) := by decide +kernel
theorem dX8_flick_65 : decode cX8_flick 65 = .ok (.invokevirtual 105, 3) := by decide +kernel
theorem dX8_flick_68 : decode cX8_flick 68 = .ok (.aload_n 0, 1) := by decide +kernel
theorem dX8_flick_69 : decode cX8_flick 69 = .ok (.getfield 89, 3) := by decide +kernel
theorem dX8_flick_72 : decode cX8_flick 72 = .ok (.ifCond .ne 7, 3) := by decide +kernel
theorem dX8_flick_75 : decode cX8_flick 75 = .ok (.aload_n 0, 1) := by decide +kernel
theorem dX8_flick_76 : decode cX8_flick 76 = .ok (.invokevirtual 109, 3) := by decide +kernel
theorem dX8_flick_79 : decode cX8_flick 79 = .ok (.aload_n 0, 1) := by decide +kernel
theorem dX8_flick_80 : decode cX8_flick 80 = .ok (.getfield 89, 3) := by decide +kernel
theorem dX8_flick_83 : decode cX8_flick 83 = .ok (.ireturn, 1) := by decide +kernel
theorem dX8_pass_0 : decode cX8_pass 0 = .ok (.aload_n 0, 1) := by decide +kernel
theorem dX8_pass_1 : decode cX8_pass 1 = .ok (.invokevirtual 102, 3) := by decide +kernel
theorem dX8_pass_4 : decode cX8_pass 4 = .ok (.aload_n 0, 1) := by decide +kernel
theorem dX8_pass_5 : decode cX8_pass 5 = .ok (.invokevirtual 109, 3) := by decide +kernel
theorem dX8_pass_8 : decode cX8_pass 8 = .ok (.aload_n 0, 1) := by decide +kernel
theorem dX8_pass_9 : decode cX8_pass 9 = .ok (.getfield 7, 3) := by decide +kernel
theorem dX8_pass_12 : decode cX8_pass 12 = .ok (.iconst 2, 1) := by decide +kernel
theorem dX8_pass_13 : decode cX8_pass 13 = .ok (.iaload, 1) := by decide +kernel
theorem dX8_pass_14 : decode cX8_pass 14 = .ok (.ireturn, 1) := by decide +kernel
theorem dX8_whyNotPut_0 : decode cX8_whyNotPut 0 = .ok (.iload_n 1, 1) := by decide +kernel
theorem dX8_whyNotPut_1 : decode cX8_whyNotPut 1 = .ok (.iload_n 2, 1) := by decide +kernel
theorem dX8_whyNotPut_2 : decode cX8_whyNotPut 2 = .ok (.invokestatic 112, 3) := by decide +kernel
theorem dX8_whyNotPut_5 : decode cX8_whyNotPut 5 = .ok (.ifCond .eq 13, 3) := by decide +kernel
theorem dX8_whyNotPut_8 : decode cX8_whyNotPut 8 = .ok (.iload 4, 2) := by decide +kernel
theorem dX8_whyNotPut_10 : decode cX8_whyNotPut 10 = .ok (.iconst 0, 1) := by decide +kernel
theorem dX8_whyNotPut_11 : decode cX8_whyNotPut 11 = .ok (.iconst 2, 1) := by decide +kernel
theorem dX8_whyNotPut_12 : decode cX8_whyNotPut 12 = .ok (.invokestatic 39, 3) := by decide +kernel
theorem dX8_whyNotPut_15 : decode cX8_whyNotPut 15 = .ok (.ifCond .ne 7, 3) := by decide +kernel
theorem dX8_whyNotPut_18 : decode cX8_whyNotPut 18 = .ok (.sipush (-1001), 3) := by decide +kernel
theorem dX8_whyNotPut_21 : decode cX8_whyNotPut 21 = .ok (.ireturn, 1) := by decide +kernel
theorem dX8_whyNotPut_22 : decode cX8_whyNotPut 22 = .ok (.iload_n 3, 1) := by decide +kernel
theorem dX8_whyNotPut_23 : decode cX8_whyNotPut 23 = .ok (.iconst 1, 1) := by decide +kernel
theorem dX8_whyNotPut_24 : decode cX8_whyNotPut 24 = .ok (.iconst 3, 1) := by decide +kernel
theorem dX8_whyNotPut_25 : decode cX8_whyNotPut 25 = .ok (.invokestatic 39, 3) := by decide +kernel
theorem dX8_whyNotPut_28 : decode cX8_whyNotPut 28 = .ok (.ifCond .ne 7, 3) := by decide +kernel
theorem dX8_whyNotPut_31 : decode cX8_whyNotPut 31 = .ok (.sipush (-1002), 3) := by decide +kernel
theorem dX8_whyNotPut_34 : decode cX8_whyNotPut 34 = .ok (.ireturn, 1) := by decide +kernel
theorem dX8_whyNotPut_35 : decode cX8_whyNotPut 35 = .ok (.aload_n 0, 1) := by decide +kernel
theorem dX8_whyNotPut_36 : decode cX8_whyNotPut 36 = .ok (.iload_n 1, 1) := by decide +kernel
theorem dX8_whyNotPut_37 : decode cX8_whyNotPut 37 = .ok (.iload_n 2, 1) := by decide +kernel
theorem dX8_whyNotPut_38 : decode cX8_whyNotPut 38 = .ok (.invokevirtual 63, 3) := by decide +kernel
theorem dX8_whyNotPut_41 : decode cX8_whyNotPut 41 = .ok (.sipush (-1006), 3) := by decide +kernel
theorem dX8_whyNotPut_44 : decode cX8_whyNotPut 44 = .ok (.if_icmp .eq 9, 3) := by decide +kernel
theorem dX8_whyNotPut_47 : decode cX8_whyNotPut 47 = .ok (.sipush (-1003), 3) := by decide +kernel
theorem dX8_whyNotPut_50 : decode cX8_whyNotPut 50 = .ok (.goto 21, 3) := by decide +kernel
theorem dX8_whyNotPut_53 : decode cX8_whyNotPut 53 = .ok (.aload_n 0, 1) := by decide +kernel
theorem dX8_whyNotPut_54 : decode cX8_whyNotPut 54 = .ok (.getfield 7, 3) := by decide +kernel
theorem dX8_whyNotPut_57 : decode cX8_whyNotPut 57 = .ok (.iconst 0, 1) := by decide +kernel
theorem dX8_whyNotPut_58 : decode cX8_whyNotPut 58 = .ok (.iaload, 1) := by decide +kernel
theorem dX8_whyNotPut_59 : decode cX8_whyNotPut 59 = .ok (.bipush 12, 2) := by decide +kernel
theorem dX8_whyNotPut_61 : decode cX8_whyNotPut 61 = .ok (.if_icmp .ne 9, 3) := by decide +kernel
theorem dX8_whyNotPut_64 : decode cX8_whyNotPut 64 = .ok (.sipush (-1004), 3) := by decide +kernel
theorem dX8_whyNotPut_67 : decode cX8_whyNotPut 67 = .ok (.goto 4, 3) := by decide +kernel
theorem dX8_whyNotPut_70 : decode cX8_whyNotPut 70 = .ok (.iconst 0, 1) := by decide +kernel
theorem dX8_whyNotPut_71 : decode cX8_whyNotPut 71 = .ok (.ireturn, 1) := by decide +kernel
theorem dX8_puts_0 : decode cX8_puts 0 = .ok (.aload_n 0, 1) := by decide +kernel
theorem dX8_puts_1 : decode cX8_puts 1 = .ok (.getfield 7, 3) := by decide +kernel
theorem dX8_puts_4 : decode cX8_puts 4 = .ok (.iconst 0, 1) := by decide +kernel
theorem dX8_puts_5 : decode cX8_puts 5 = .ok (.iaload, 1) := by decide +kernel
theorem dX8_puts_6 : decode cX8_puts 6 = .ok (.istore 5, 2) := by decide +kernel
theorem dX8_puts_8 : decode cX8_puts 8 = .ok (.aload_n 0, 1) := by decide +kernel
theorem dX8_puts_9 : decode cX8_puts 9 = .ok (.getfield 7, 3) := by decide +kernel
theorem dX8_puts_12 : decode cX8_puts 12 = .ok (.iconst 0, 1) := by decide +kernel
theorem dX8_puts_13 : decode cX8_puts 13 = .ok (.dup2, 1) := by decide +kernel
theorem dX8_puts_14 : decode cX8_puts 14 = .ok (.iaload, 1) := by decide +kernel
theorem dX8_puts_15 : decode cX8_puts 15 = .ok (.iconst 1, 1) := by decide +kernel
theorem dX8_puts_16 : decode cX8_puts 16 = .ok (.iadd, 1) := by decide +kernel
theorem dX8_puts_17 : decode cX8_puts 17 = .ok (.iastore, 1) := by decide +kernel
theorem dX8_puts_18 : decode cX8_puts 18 = .ok (.aload_n 0, 1) := by decide +kernel
theorem dX8_puts_19 : decode cX8_puts 19 = .ok (.iload 5, 2) := by decide +kernel
theorem dX8_puts_21 : decode cX8_puts 21 = .ok (.iconst 0, 1) := by decide +kernel
theorem dX8_puts_22 : decode cX8_puts 22 = .ok (.iload_n 1, 1) := by decide +kernel
theorem dX8_puts_23 : decode cX8_puts 23 = .ok (.invokevirtual 73, 3) := by decide +kernel
theorem dX8_puts_26 : decode cX8_puts 26 = .ok (.aload_n 0, 1) := by decide +kernel
theorem dX8_puts_27 : decode cX8_puts 27 = .ok (.iload 5, 2) := by decide +kernel
theorem dX8_puts_29 : decode cX8_puts 29 = .ok (.iconst 1, 1) := by decide +kernel
theorem dX8_puts_30 : decode cX8_puts 30 = .ok (.iload_n 2, 1) := by decide +kernel
theorem dX8_puts_31 : decode cX8_puts 31 = .ok (.invokevirtual 73, 3) := by decide +kernel
theorem dX8_puts_34 : decode cX8_puts 34 = .ok (.aload_n 0, 1) := by decide +kernel
theorem dX8_puts_35 : decode cX8_puts 35 = .ok (.iload 5, 2) := by decide +kernel
theorem dX8_puts_37 : decode cX8_puts 37 = .ok (.iconst 2, 1) := by decide +kernel
theorem dX8_puts_38 : decode cX8_puts 38 = .ok (.iload_n 3, 1) := by decide +kernel
theorem dX8_puts_39 : decode cX8_puts 39 = .ok (.invokevirtual 73, 3) := by decide +kernel
theorem dX8_puts_42 : decode cX8_puts 42 = .ok (.aload_n 0, 1) := by decide +kernel
theorem dX8_puts_43 : decode cX8_puts 43 = .ok (.iload 5, 2) := by decide +kernel
theorem dX8_puts_45 : decode cX8_puts 45 = .ok (.iconst 3, 1) := by decide +kernel
theorem dX8_puts_46 : decode cX8_puts 46 = .ok (.iload 4, 2) := by decide +kernel
theorem dX8_puts_48 : decode cX8_puts 48 = .ok (.invokevirtual 73, 3) := by decide +kernel
theorem dX8_puts_51 : decode cX8_puts 51 = .ok (.aload_n 0, 1) := by decide +kernel
theorem dX8_puts_52 : decode cX8_puts 52 = .ok (.iload 5, 2) := by decide +kernel
theorem dX8_puts_54 : decode cX8_puts 54 = .ok (.iconst 4, 1) := by decide +kernel
theorem dX8_puts_55 : decode cX8_puts 55 = .ok (.sipush (-1006), 3) := by decide +kernel
theorem dX8_puts_58 : decode cX8_puts 58 = .ok (.invokevirtual 73, 3) := by decide +kernel
theorem dX8_puts_61 : decode cX8_puts 61 = .ok (.iload 5, 2) := by decide +kernel
theorem dX8_puts_63 : decode cX8_puts 63 = .ok (.ireturn, 1) := by decide +kernel
theorem dX8_putMarble_0 : decode cX8_putMarble 0 = .ok (.aload_n 0, 1) := by decide +kernel
theorem dX8_putMarble_1 : decode cX8_putMarble 1 = .ok (.iload_n 1, 1) := by decide +kernel
theorem dX8_putMarble_2 : decode cX8_putMarble 2 = .ok (.iload_n 2, 1) := by decide +kernel
theorem dX8_putMarble_3 : decode cX8_putMarble 3 = .ok (.iload_n 3, 1) := by decide +kernel
theorem dX8_putMarble_4 : decode cX8_putMarble 4 = .ok (.iload 4, 2) := by decide +kernel
theorem dX8_putMarble_6 : decode cX8_putMarble 6 = .ok (.invokevirtual 115, 3) := by decide +kernel
theorem dX8_putMarble_9 : decode cX8_putMarble 9 = .ok (.istore 5, 2) := by decide +kernel
theorem dX8_putMarble_11 : decode cX8_putMarble 11 = .ok (.iload 5, 2) := by decide +kernel
theorem dX8_putMarble_13 : decode cX8_putMarble 13 = .ok (.ifCond .ge 6, 3) := by decide +kernel
theorem dX8_putMarble_16 : decode cX8_putMarble 16 = .ok (.iload 5, 2) := by decide +kernel
theorem dX8_putMarble_18 : decode cX8_putMarble 18 = .ok (.ireturn, 1) := by decide +kernel
theorem dX8_putMarble_19 : decode cX8_putMarble 19 = .ok (.aload_n 0, 1) := by decide +kernel
theorem dX8_putMarble_20 : decode cX8_putMarble 20 = .ok (.invokevirtual 102, 3) := by decide +kernel
theorem dX8_putMarble_23 : decode cX8_putMarble 23 = .ok (.aload_n 0, 1) := by decide +kernel
theorem dX8_putMarble_24 : decode cX8_putMarble 24 = .ok (.iload_n 1, 1) := by decide +kernel
theorem dX8_putMarble_25 : decode cX8_putMarble 25 = .ok (.iload_n 2, 1) := by decide +kernel
theorem dX8_putMarble_26 : decode cX8_putMarble 26 = .ok (.iload_n 3, 1) := by decide +kernel
theorem dX8_putMarble_27 : decode cX8_putMarble 27 = .ok (.iload 4, 2) := by decide +kernel
theorem dX8_putMarble_29 : decode cX8_putMarble 29 = .ok (.invokevirtual 119, 3) := by decide +kernel
theorem dX8_putMarble_32 : decode cX8_putMarble 32 = .ok (.ireturn, 1) := by decide +kernel
theorem dX8_whyNotDrawn_0 : decode cX8_whyNotDrawn 0 = .ok (.iload_n 1, 1) := by decide +kernel
theorem dX8_whyNotDrawn_1 : decode cX8_whyNotDrawn 1 = .ok (.iload_n 2, 1) := by decide +kernel
theorem dX8_whyNotDrawn_2 : decode cX8_whyNotDrawn 2 = .ok (.invokestatic 112, 3) := by decide +kernel
theorem dX8_whyNotDrawn_5 : decode cX8_whyNotDrawn 5 = .ok (.ifCond .ne 9, 3) := by decide +kernel
theorem dX8_whyNotDrawn_8 : decode cX8_whyNotDrawn 8 = .ok (.sipush (-1001), 3) := by decide +kernel
theorem dX8_whyNotDrawn_11 : decode cX8_whyNotDrawn 11 = .ok (.goto 36, 3) := by decide +kernel
theorem dX8_whyNotDrawn_14 : decode cX8_whyNotDrawn 14 = .ok (.iload_n 3, 1) := by decide +kernel
theorem dX8_whyNotDrawn_15 : decode cX8_whyNotDrawn 15 = .ok (.iconst 1, 1) := by decide +kernel
theorem dX8_whyNotDrawn_16 : decode cX8_whyNotDrawn 16 = .ok (.bipush 15, 2) := by decide +kernel
theorem dX8_whyNotDrawn_18 : decode cX8_whyNotDrawn 18 = .ok (.invokestatic 39, 3) := by decide +kernel
theorem dX8_whyNotDrawn_21 : decode cX8_whyNotDrawn 21 = .ok (.ifCond .ne 9, 3) := by decide +kernel
theorem dX8_whyNotDrawn_24 : decode cX8_whyNotDrawn 24 = .ok (.sipush (-1002), 3) := by decide +kernel
theorem dX8_whyNotDrawn_27 : decode cX8_whyNotDrawn 27 = .ok (.goto 20, 3) := by decide +kernel
theorem dX8_whyNotDrawn_30 : decode cX8_whyNotDrawn 30 = .ok (.aload_n 0, 1) := by decide +kernel
theorem dX8_whyNotDrawn_31 : decode cX8_whyNotDrawn 31 = .ok (.getfield 7, 3) := by decide +kernel
theorem dX8_whyNotDrawn_34 : decode cX8_whyNotDrawn 34 = .ok (.iconst 1, 1) := by decide +kernel
theorem dX8_whyNotDrawn_35 : decode cX8_whyNotDrawn 35 = .ok (.iaload, 1) := by decide +kernel
theorem dX8_whyNotDrawn_36 : decode cX8_whyNotDrawn 36 = .ok (.iconst 4, 1) := by decide +kernel
theorem dX8_whyNotDrawn_37 : decode cX8_whyNotDrawn 37 = .ok (.if_icmp .ne 9, 3) := by decide +kernel
theorem dX8_whyNotDrawn_40 : decode cX8_whyNotDrawn 40 = .ok (.sipush (-1004), 3) := by decide +kernel
theorem dX8_whyNotDrawn_43 : decode cX8_whyNotDrawn 43 = .ok (.goto 4, 3) := by decide +kernel
theorem dX8_whyNotDrawn_46 : decode cX8_whyNotDrawn 46 = .ok (.iconst 0, 1) := by decide +kernel
theorem dX8_whyNotDrawn_47 : decode cX8_whyNotDrawn 47 = .ok (.ireturn, 1) := by decide +kernel
theorem dX8_draws_0 : decode cX8_draws 0 = .ok (.bipush 68, 2) := by decide +kernel
theorem dX8_draws_2 : decode cX8_draws 2 = .ok (.iconst 3, 1) := by decide +kernel
theorem dX8_draws_3 : decode cX8_draws 3 = .ok (.aload_n 0, 1) := by decide +kernel
theorem dX8_draws_4 : decode cX8_draws 4 = .ok (.getfield 7, 3) := by decide +kernel
theorem dX8_draws_7 : decode cX8_draws 7 = .ok (.iconst 1, 1) := by decide +kernel
theorem dX8_draws_8 : decode cX8_draws 8 = .ok (.iaload, 1) := by decide +kernel
theorem dX8_draws_9 : decode cX8_draws 9 = .ok (.imul, 1) := by decide +kernel
theorem dX8_draws_10 : decode cX8_draws 10 = .ok (.iadd, 1) := by decide +kernel
theorem dX8_draws_11 : decode cX8_draws 11 = .ok (.istore 4, 2) := by decide +kernel
theorem dX8_draws_13 : decode cX8_draws 13 = .ok (.aload_n 0, 1) := by decide +kernel
theorem dX8_draws_14 : decode cX8_draws 14 = .ok (.getfield 7, 3) := by decide +kernel
theorem dX8_draws_17 : decode cX8_draws 17 = .ok (.iload 4, 2) := by decide +kernel
theorem dX8_draws_19 : decode cX8_draws 19 = .ok (.iconst 0, 1) := by decide +kernel
theorem dX8_draws_20 : decode cX8_draws 20 = .ok (.iadd, 1) := by decide +kernel
theorem dX8_draws_21 : decode cX8_draws 21 = .ok (.iload_n 1, 1) := by decide +kernel
theorem dX8_draws_22 : decode cX8_draws 22 = .ok (.iastore, 1) := by decide +kernel
theorem dX8_draws_23 : decode cX8_draws 23 = .ok (.aload_n 0, 1) := by decide +kernel
theorem dX8_draws_24 : decode cX8_draws 24 = .ok (.getfield 7, 3) := by decide +kernel
theorem dX8_draws_27 : decode cX8_draws 27 = .ok (.iload 4, 2) := by decide +kernel
theorem dX8_draws_29 : decode cX8_draws 29 = .ok (.iconst 1, 1) := by decide +kernel
theorem dX8_draws_30 : decode cX8_draws 30 = .ok (.iadd, 1) := by decide +kernel
theorem dX8_draws_31 : decode cX8_draws 31 = .ok (.iload_n 2, 1) := by decide +kernel
theorem dX8_draws_32 : decode cX8_draws 32 = .ok (.iastore, 1) := by decide +kernel
theorem dX8_draws_33 : decode cX8_draws 33 = .ok (.aload_n 0, 1) := by decide +kernel
theorem dX8_draws_34 : decode cX8_draws 34 = .ok (.getfield 7, 3) := by decide +kernel
theorem dX8_draws_37 : decode cX8_draws 37 = .ok (.iload 4, 2) := by decide +kernel
theorem dX8_draws_39 : decode cX8_draws 39 = .ok (.iconst 2, 1) := by decide +kernel
theorem dX8_draws_40 : decode cX8_draws 40 = .ok (.iadd, 1) := by decide +kernel
theorem dX8_draws_41 : decode cX8_draws 41 = .ok (.iload_n 3, 1) := by decide +kernel
theorem dX8_draws_42 : decode cX8_draws 42 = .ok (.iastore, 1) := by decide +kernel
theorem dX8_draws_43 : decode cX8_draws 43 = .ok (.aload_n 0, 1) := by decide +kernel
theorem dX8_draws_44 : decode cX8_draws 44 = .ok (.getfield 7, 3) := by decide +kernel
theorem dX8_draws_47 : decode cX8_draws 47 = .ok (.iconst 1, 1) := by decide +kernel
theorem dX8_draws_48 : decode cX8_draws 48 = .ok (.dup2, 1) := by decide +kernel
theorem dX8_draws_49 : decode cX8_draws 49 = .ok (.iaload, 1) := by decide +kernel
theorem dX8_draws_50 : decode cX8_draws 50 = .ok (.iconst 1, 1) := by decide +kernel
theorem dX8_draws_51 : decode cX8_draws 51 = .ok (.iadd, 1) := by decide +kernel
theorem dX8_draws_52 : decode cX8_draws 52 = .ok (.iastore, 1) := by decide +kernel
theorem dX8_draws_53 : decode cX8_draws 53 = .ok (.aload_n 0, 1) := by decide +kernel
theorem dX8_draws_54 : decode cX8_draws 54 = .ok (.getfield 7, 3) := by decide +kernel
theorem dX8_draws_57 : decode cX8_draws 57 = .ok (.iconst 1, 1) := by decide +kernel
theorem dX8_draws_58 : decode cX8_draws 58 = .ok (.iaload, 1) := by decide +kernel
theorem dX8_draws_59 : decode cX8_draws 59 = .ok (.iconst 1, 1) := by decide +kernel
theorem dX8_draws_60 : decode cX8_draws 60 = .ok (.isub, 1) := by decide +kernel
theorem dX8_draws_61 : decode cX8_draws 61 = .ok (.ireturn, 1) := by decide +kernel
theorem dX8_drawRing_0 : decode cX8_drawRing 0 = .ok (.aload_n 0, 1) := by decide +kernel
theorem dX8_drawRing_1 : decode cX8_drawRing 1 = .ok (.iload_n 1, 1) := by decide +kernel
theorem dX8_drawRing_2 : decode cX8_drawRing 2 = .ok (.iload_n 2, 1) := by decide +kernel
theorem dX8_drawRing_3 : decode cX8_drawRing 3 = .ok (.iload_n 3, 1) := by decide +kernel
theorem dX8_drawRing_4 : decode cX8_drawRing 4 = .ok (.invokevirtual 122, 3) := by decide +kernel
theorem dX8_drawRing_7 : decode cX8_drawRing 7 = .ok (.istore 4, 2) := by decide +kernel
theorem dX8_drawRing_9 : decode cX8_drawRing 9 = .ok (.iload 4, 2) := by decide +kernel
theorem dX8_drawRing_11 : decode cX8_drawRing 11 = .ok (.ifCond .ge 6, 3) := by decide +kernel
theorem dX8_drawRing_14 : decode cX8_drawRing 14 = .ok (.iload 4, 2) := by decide +kernel
theorem dX8_drawRing_16 : decode cX8_drawRing 16 = .ok (.ireturn, 1) := by decide +kernel
theorem dX8_drawRing_17 : decode cX8_drawRing 17 = .ok (.aload_n 0, 1) := by decide +kernel
theorem dX8_drawRing_18 : decode cX8_drawRing 18 = .ok (.invokevirtual 102, 3) := by decide +kernel
theorem dX8_drawRing_21 : decode cX8_drawRing 21 = .ok (.aload_n 0, 1) := by decide +kernel
theorem dX8_drawRing_22 : decode cX8_drawRing 22 = .ok (.iload_n 1, 1) := by decide +kernel
theorem dX8_drawRing_23 : decode cX8_drawRing 23 = .ok (.iload_n 2, 1) := by decide +kernel
theorem dX8_drawRing_24 : decode cX8_drawRing 24 = .ok (.iload_n 3, 1) := by decide +kernel
theorem dX8_drawRing_25 : decode cX8_drawRing 25 = .ok (.invokevirtual 126, 3) := by decide +kernel
theorem dX8_drawRing_28 : decode cX8_drawRing 28 = .ok (.ireturn, 1) := by decide +kernel
theorem dX8_move_0 : decode cX8_move 0 = .ok (.aload_n 0, 1) := by decide +kernel
theorem dX8_move_1 : decode cX8_move 1 = .ok (.iload_n 1, 1) := by decide +kernel
theorem dX8_move_2 : decode cX8_move 2 = .ok (.invokevirtual 95, 3) := by decide +kernel
theorem dX8_move_5 : decode cX8_move 5 = .ok (.ifCond .eq 11, 3) := by decide +kernel
theorem dX8_move_8 : decode cX8_move 8 = .ok (.iload_n 2, 1) := by decide +kernel
theorem dX8_move_9 : decode cX8_move 9 = .ok (.iload_n 3, 1) := by decide +kernel
theorem dX8_move_10 : decode cX8_move 10 = .ok (.invokestatic 112, 3) := by decide +kernel
theorem dX8_move_13 : decode cX8_move 13 = .ok (.ifCond .ne 7, 3) := by decide +kernel
theorem dX8_move_16 : decode cX8_move 16 = .ok (.sipush (-1001), 3) := by decide +kernel
theorem dX8_move_19 : decode cX8_move 19 = .ok (.ireturn, 1) := by decide +kernel
theorem dX8_move_20 : decode cX8_move 20 = .ok (.aload_n 0, 1) := by decide +kernel
theorem dX8_move_21 : decode cX8_move 21 = .ok (.iload_n 1, 1) := by decide +kernel
theorem dX8_move_22 : decode cX8_move 22 = .ok (.invokevirtual 56, 3) := by decide +kernel
theorem dX8_move_25 : decode cX8_move 25 = .ok (.ifCond .eq 15, 3) := by decide +kernel
theorem dX8_move_28 : decode cX8_move 28 = .ok (.aload_n 0, 1) := by decide +kernel
theorem dX8_move_29 : decode cX8_move 29 = .ok (.iload_n 2, 1) := by decide +kernel
theorem dX8_move_30 : decode cX8_move 30 = .ok (.iload_n 3, 1) := by decide +kernel
theorem dX8_move_31 : decode cX8_move 31 = .ok (.invokevirtual 63, 3) := by decide +kernel
theorem dX8_move_34 : decode cX8_move 34 = .ok (.sipush (-1006), 3) := by decide +kernel
theorem dX8_move_37 : decode cX8_move 37 = .ok (.if_icmp .eq 7, 3) := by decide +kernel
theorem dX8_move_40 : decode cX8_move 40 = .ok (.sipush (-1003), 3) := by decide +kernel
theorem dX8_move_43 : decode cX8_move 43 = .ok (.ireturn, 1) := by decide +kernel
theorem dX8_move_44 : decode cX8_move 44 = .ok (.aload_n 0, 1) := by decide +kernel
theorem dX8_move_45 : decode cX8_move 45 = .ok (.invokevirtual 102, 3) := by decide +kernel
theorem dX8_move_48 : decode cX8_move 48 = .ok (.aload_n 0, 1) := by decide +kernel
theorem dX8_move_49 : decode cX8_move 49 = .ok (.iload_n 1, 1) := by decide +kernel
theorem dX8_move_50 : decode cX8_move 50 = .ok (.iconst 0, 1) := by decide +kernel
theorem dX8_move_51 : decode cX8_move 51 = .ok (.iload_n 2, 1) := by decide +kernel
theorem dX8_move_52 : decode cX8_move 52 = .ok (.invokevirtual 73, 3) := by decide +kernel
theorem dX8_move_55 : decode cX8_move 55 = .ok (.aload_n 0, 1) := by decide +kernel
theorem dX8_move_56 : decode cX8_move 56 = .ok (.iload_n 1, 1) := by decide +kernel
theorem dX8_move_57 : decode cX8_move 57 = .ok (.iconst 1, 1) := by decide +kernel
theorem dX8_move_58 : decode cX8_move 58 = .ok (.iload_n 3, 1) := by decide +kernel
theorem dX8_move_59 : decode cX8_move 59 = .ok (.invokevirtual 73, 3) := by decide +kernel
theorem dX8_move_62 : decode cX8_move 62 = .ok (.aload_n 0, 1) := by decide +kernel
theorem dX8_move_63 : decode cX8_move 63 = .ok (.iload_n 2, 1) := by decide +kernel
theorem dX8_move_64 : decode cX8_move 64 = .ok (.iload_n 3, 1) := by decide +kernel
theorem dX8_move_65 : decode cX8_move 65 = .ok (.invokevirtual 53, 3) := by decide +kernel
theorem dX8_move_68 : decode cX8_move 68 = .ok (.invokestatic 70, 3) := by decide +kernel
theorem dX8_move_71 : decode cX8_move 71 = .ok (.ireturn, 1) := by decide +kernel
theorem dX8_clear_0 : decode cX8_clear 0 = .ok (.aload_n 0, 1) := by decide +kernel
theorem dX8_clear_1 : decode cX8_clear 1 = .ok (.invokevirtual 102, 3) := by decide +kernel
theorem dX8_clear_4 : decode cX8_clear 4 = .ok (.aload_n 0, 1) := by decide +kernel
theorem dX8_clear_5 : decode cX8_clear 5 = .ok (.getfield 7, 3) := by decide +kernel
theorem dX8_clear_8 : decode cX8_clear 8 = .ok (.iconst 0, 1) := by decide +kernel
theorem dX8_clear_9 : decode cX8_clear 9 = .ok (.iaload, 1) := by decide +kernel
theorem dX8_clear_10 : decode cX8_clear 10 = .ok (.istore_n 1, 1) := by decide +kernel
theorem dX8_clear_11 : decode cX8_clear 11 = .ok (.iconst 0, 1) := by decide +kernel
theorem dX8_clear_12 : decode cX8_clear 12 = .ok (.istore_n 2, 1) := by decide +kernel
theorem dX8_clear_13 : decode cX8_clear 13 = .ok (.iload_n 2, 1) := by decide +kernel
theorem dX8_clear_14 : decode cX8_clear 14 = .ok (.bipush 80, 2) := by decide +kernel
theorem dX8_clear_16 : decode cX8_clear 16 = .ok (.if_icmp .ge 16, 3) := by decide +kernel
theorem dX8_clear_19 : decode cX8_clear 19 = .ok (.aload_n 0, 1) := by decide +kernel
theorem dX8_clear_20 : decode cX8_clear 20 = .ok (.getfield 7, 3) := by decide +kernel
theorem dX8_clear_23 : decode cX8_clear 23 = .ok (.iload_n 2, 1) := by decide +kernel
theorem dX8_clear_24 : decode cX8_clear 24 = .ok (.iconst 0, 1) := by decide +kernel
theorem dX8_clear_25 : decode cX8_clear 25 = .ok (.iastore, 1) := by decide +kernel
theorem dX8_clear_26 : decode cX8_clear 26 = .ok (.iinc 2 1, 3) := by decide +kernel
theorem dX8_clear_29 : decode cX8_clear 29 = .ok (.goto (-16), 3) := by decide +kernel
theorem dX8_clear_32 : decode cX8_clear 32 = .ok (.iload_n 1, 1) := by decide +kernel
theorem dX8_clear_33 : decode cX8_clear 33 = .ok (.ireturn, 1) := by decide +kernel
theorem dX8_count_0 : decode cX8_count 0 = .ok (.iload_n 1, 1) := by decide +kernel
theorem dX8_count_1 : decode cX8_count 1 = .ok (.iconst 0, 1) := by decide +kernel
theorem dX8_count_2 : decode cX8_count 2 = .ok (.bipush 7, 2) := by decide +kernel
theorem dX8_count_4 : decode cX8_count 4 = .ok (.invokestatic 39, 3) := by decide +kernel
theorem dX8_count_7 : decode cX8_count 7 = .ok (.ifCond .eq 12, 3) := by decide +kernel
theorem dX8_count_10 : decode cX8_count 10 = .ok (.aload_n 0, 1) := by decide +kernel
theorem dX8_count_11 : decode cX8_count 11 = .ok (.getfield 7, 3) := by decide +kernel
theorem dX8_count_14 : decode cX8_count 14 = .ok (.iload_n 1, 1) := by decide +kernel
theorem dX8_count_15 : decode cX8_count 15 = .ok (.iaload, 1) := by decide +kernel
theorem dX8_count_16 : decode cX8_count 16 = .ok (.goto 6, 3) := by decide +kernel
theorem dX8_count_19 : decode cX8_count 19 = .ok (.sipush (-1002), 3) := by decide +kernel
theorem dX8_count_22 : decode cX8_count 22 = .ok (.ireturn, 1) := by decide +kernel
theorem dX8_ofMarble_0 : decode cX8_ofMarble 0 = .ok (.iload_n 2, 1) := by decide +kernel
theorem dX8_ofMarble_1 : decode cX8_ofMarble 1 = .ok (.lookupswitch 76 #[(0, 35), (1, 35), (5, 56)], 35) := by decide +kernel
theorem dX8_ofMarble_36 : decode cX8_ofMarble 36 = .ok (.aload_n 0, 1) := by decide +kernel
theorem dX8_ofMarble_37 : decode cX8_ofMarble 37 = .ok (.iload_n 1, 1) := by decide +kernel
theorem dX8_ofMarble_38 : decode cX8_ofMarble 38 = .ok (.invokevirtual 56, 3) := by decide +kernel
theorem dX8_ofMarble_41 : decode cX8_ofMarble 41 = .ok (.ifCond .eq 12, 3) := by decide +kernel
theorem dX8_ofMarble_44 : decode cX8_ofMarble 44 = .ok (.aload_n 0, 1) := by decide +kernel
theorem dX8_ofMarble_45 : decode cX8_ofMarble 45 = .ok (.iload_n 1, 1) := by decide +kernel
theorem dX8_ofMarble_46 : decode cX8_ofMarble 46 = .ok (.iload_n 2, 1) := by decide +kernel
theorem dX8_ofMarble_47 : decode cX8_ofMarble 47 = .ok (.invokevirtual 43, 3) := by decide +kernel
theorem dX8_ofMarble_50 : decode cX8_ofMarble 50 = .ok (.goto 6, 3) := by decide +kernel
theorem dX8_ofMarble_53 : decode cX8_ofMarble 53 = .ok (.sipush (-1006), 3) := by decide +kernel
theorem dX8_ofMarble_56 : decode cX8_ofMarble 56 = .ok (.ireturn, 1) := by decide +kernel
theorem dX8_ofMarble_57 : decode cX8_ofMarble 57 = .ok (.aload_n 0, 1) := by decide +kernel
theorem dX8_ofMarble_58 : decode cX8_ofMarble 58 = .ok (.iload_n 1, 1) := by decide +kernel
theorem dX8_ofMarble_59 : decode cX8_ofMarble 59 = .ok (.invokevirtual 56, 3) := by decide +kernel
theorem dX8_ofMarble_62 : decode cX8_ofMarble 62 = .ok (.ifCond .eq 11, 3) := by decide +kernel
theorem dX8_ofMarble_65 : decode cX8_ofMarble 65 = .ok (.aload_n 0, 1) := by decide +kernel
theorem dX8_ofMarble_66 : decode cX8_ofMarble 66 = .ok (.iload_n 1, 1) := by decide +kernel
theorem dX8_ofMarble_67 : decode cX8_ofMarble 67 = .ok (.invokevirtual 66, 3) := by decide +kernel
theorem dX8_ofMarble_70 : decode cX8_ofMarble 70 = .ok (.goto 6, 3) := by decide +kernel
theorem dX8_ofMarble_73 : decode cX8_ofMarble 73 = .ok (.sipush (-1006), 3) := by decide +kernel
theorem dX8_ofMarble_76 : decode cX8_ofMarble 76 = .ok (.ireturn, 1) := by decide +kernel
theorem dX8_ofMarble_77 : decode cX8_ofMarble 77 = .ok (.aload_n 0, 1) := by decide +kernel
theorem dX8_ofMarble_78 : decode cX8_ofMarble 78 = .ok (.iload_n 1, 1) := by decide +kernel
theorem dX8_ofMarble_79 : decode cX8_ofMarble 79 = .ok (.iload_n 2, 1) := by decide +kernel
theorem dX8_ofMarble_80 : decode cX8_ofMarble 80 = .ok (.invokevirtual 43, 3) := by decide +kernel
theorem dX8_ofMarble_83 : decode cX8_ofMarble 83 = .ok (.ireturn, 1) := by decide +kernel
theorem dX8_marble_0 : decode cX8_marble 0 = .ok (.aload_n 0, 1) := by decide +kernel
theorem dX8_marble_1 : decode cX8_marble 1 = .ok (.iload_n 1, 1) := by decide +kernel
theorem dX8_marble_2 : decode cX8_marble 2 = .ok (.invokevirtual 95, 3) := by decide +kernel
theorem dX8_marble_5 : decode cX8_marble 5 = .ok (.ifCond .ne 7, 3) := by decide +kernel
theorem dX8_marble_8 : decode cX8_marble 8 = .ok (.sipush (-1001), 3) := by decide +kernel
theorem dX8_marble_11 : decode cX8_marble 11 = .ok (.ireturn, 1) := by decide +kernel
theorem dX8_marble_12 : decode cX8_marble 12 = .ok (.iload_n 2, 1) := by decide +kernel
theorem dX8_marble_13 : decode cX8_marble 13 = .ok (.iconst 0, 1) := by decide +kernel
theorem dX8_marble_14 : decode cX8_marble 14 = .ok (.iconst 5, 1) := by decide +kernel
theorem dX8_marble_15 : decode cX8_marble 15 = .ok (.invokestatic 39, 3) := by decide +kernel
theorem dX8_marble_18 : decode cX8_marble 18 = .ok (.ifCond .eq 12, 3) := by decide +kernel
theorem dX8_marble_21 : decode cX8_marble 21 = .ok (.aload_n 0, 1) := by decide +kernel
theorem dX8_marble_22 : decode cX8_marble 22 = .ok (.iload_n 1, 1) := by decide +kernel
theorem dX8_marble_23 : decode cX8_marble 23 = .ok (.iload_n 2, 1) := by decide +kernel
theorem dX8_marble_24 : decode cX8_marble 24 = .ok (.invokevirtual 129, 3) := by decide +kernel
theorem dX8_marble_27 : decode cX8_marble 27 = .ok (.goto 6, 3) := by decide +kernel
theorem dX8_marble_30 : decode cX8_marble 30 = .ok (.sipush (-1002), 3) := by decide +kernel
theorem dX8_marble_33 : decode cX8_marble 33 = .ok (.ireturn, 1) := by decide +kernel
theorem dX8_marblesIn_0 : decode cX8_marblesIn 0 = .ok (.iconst 0, 1) := by decide +kernel
theorem dX8_marblesIn_1 : decode cX8_marblesIn 1 = .ok (.istore_n 2, 1) := by decide +kernel
theorem dX8_marblesIn_2 : decode cX8_marblesIn 2 = .ok (.iconst 0, 1) := by decide +kernel
theorem dX8_marblesIn_3 : decode cX8_marblesIn 3 = .ok (.istore_n 3, 1) := by decide +kernel
theorem dX8_marblesIn_4 : decode cX8_marblesIn 4 = .ok (.iload_n 3, 1) := by decide +kernel
theorem dX8_marblesIn_5 : decode cX8_marblesIn 5 = .ok (.aload_n 0, 1) := by decide +kernel
theorem dX8_marblesIn_6 : decode cX8_marblesIn 6 = .ok (.getfield 7, 3) := by decide +kernel
theorem dX8_marblesIn_9 : decode cX8_marblesIn 9 = .ok (.iconst 0, 1) := by decide +kernel
theorem dX8_marblesIn_10 : decode cX8_marblesIn 10 = .ok (.iaload, 1) := by decide +kernel
theorem dX8_marblesIn_11 : decode cX8_marblesIn 11 = .ok (.if_icmp .ge 47, 3) := by decide +kernel
theorem dX8_marblesIn_14 : decode cX8_marblesIn 14 = .ok (.iload_n 2, 1) := by decide +kernel
theorem dX8_marblesIn_15 : decode cX8_marblesIn 15 = .ok (.aload_n 0, 1) := by decide +kernel
theorem dX8_marblesIn_16 : decode cX8_marblesIn 16 = .ok (.iload_n 3, 1) := by decide +kernel
theorem dX8_marblesIn_17 : decode cX8_marblesIn 17 = .ok (.invokevirtual 56, 3) := by decide +kernel
theorem dX8_marblesIn_20 : decode cX8_marblesIn 20 = .ok (.ifCond .eq 29, 3) := by decide +kernel
theorem dX8_marblesIn_23 : decode cX8_marblesIn 23 = .ok (.aload_n 0, 1) := by decide +kernel
theorem dX8_marblesIn_24 : decode cX8_marblesIn 24 = .ok (.iload_n 1, 1) := by decide +kernel
theorem dX8_marblesIn_25 : decode cX8_marblesIn 25 = .ok (.aload_n 0, 1) := by decide +kernel
theorem dX8_marblesIn_26 : decode cX8_marblesIn 26 = .ok (.iload_n 3, 1) := by decide +kernel
theorem dX8_marblesIn_27 : decode cX8_marblesIn 27 = .ok (.iconst 0, 1) := by decide +kernel
theorem dX8_marblesIn_28 : decode cX8_marblesIn 28 = .ok (.invokevirtual 43, 3) := by decide +kernel
theorem dX8_marblesIn_31 : decode cX8_marblesIn 31 = .ok (.aload_n 0, 1) := by decide +kernel
theorem dX8_marblesIn_32 : decode cX8_marblesIn 32 = .ok (.iload_n 3, 1) := by decide +kernel
theorem dX8_marblesIn_33 : decode cX8_marblesIn 33 = .ok (.iconst 1, 1) := by decide +kernel
theorem dX8_marblesIn_34 : decode cX8_marblesIn 34 = .ok (.invokevirtual 43, 3) := by decide +kernel
theorem dX8_marblesIn_37 : decode cX8_marblesIn 37 = .ok (.invokevirtual 50, 3) := by decide +kernel
theorem dX8_marblesIn_40 : decode cX8_marblesIn 40 = .ok (.ifCond .eq 9, 3) := by decide +kernel
theorem dX8_marblesIn_43 : decode cX8_marblesIn 43 = .ok (.iconst 1, 1) := by decide +kernel
theorem dX8_marblesIn_44 : decode cX8_marblesIn 44 = .ok (.iload_n 3, 1) := by decide +kernel
theorem dX8_marblesIn_45 : decode cX8_marblesIn 45 = .ok (.ishl, 1) := by decide +kernel
theorem dX8_marblesIn_46 : decode cX8_marblesIn 46 = .ok (.goto 4, 3) := by decide +kernel
theorem dX8_marblesIn_49 : decode cX8_marblesIn 49 = .ok (.iconst 0, 1) := by decide +kernel
theorem dX8_marblesIn_50 : decode cX8_marblesIn 50 = .ok (.ior, 1) := by decide +kernel
theorem dX8_marblesIn_51 : decode cX8_marblesIn 51 = .ok (.istore_n 2, 1) := by decide +kernel
theorem dX8_marblesIn_52 : decode cX8_marblesIn 52 = .ok (.iinc 3 1, 3) := by decide +kernel
theorem dX8_marblesIn_55 : decode cX8_marblesIn 55 = .ok (.goto (-51), 3) := by decide +kernel
theorem dX8_marblesIn_58 : decode cX8_marblesIn 58 = .ok (.iload_n 2, 1) := by decide +kernel
theorem dX8_marblesIn_59 : decode cX8_marblesIn 59 = .ok (.ireturn, 1) := by decide +kernel
theorem dX8_pointsIn_0 : decode cX8_pointsIn 0 = .ok (.iconst 0, 1) := by decide +kernel
theorem dX8_pointsIn_1 : decode cX8_pointsIn 1 = .ok (.istore_n 2, 1) := by decide +kernel
theorem dX8_pointsIn_2 : decode cX8_pointsIn 2 = .ok (.iconst 0, 1) := by decide +kernel
theorem dX8_pointsIn_3 : decode cX8_pointsIn 3 = .ok (.istore_n 3, 1) := by decide +kernel
theorem dX8_pointsIn_4 : decode cX8_pointsIn 4 = .ok (.iload_n 3, 1) := by decide +kernel
theorem dX8_pointsIn_5 : decode cX8_pointsIn 5 = .ok (.bipush 30, 2) := by decide +kernel
theorem dX8_pointsIn_7 : decode cX8_pointsIn 7 = .ok (.if_icmp .gt 44, 3) := by decide +kernel
theorem dX8_pointsIn_10 : decode cX8_pointsIn 10 = .ok (.iconst 0, 1) := by decide +kernel
theorem dX8_pointsIn_11 : decode cX8_pointsIn 11 = .ok (.istore 4, 2) := by decide +kernel
theorem dX8_pointsIn_13 : decode cX8_pointsIn 13 = .ok (.iload 4, 2) := by decide +kernel
theorem dX8_pointsIn_15 : decode cX8_pointsIn 15 = .ok (.bipush 30, 2) := by decide +kernel
theorem dX8_pointsIn_17 : decode cX8_pointsIn 17 = .ok (.if_icmp .gt 28, 3) := by decide +kernel
theorem dX8_pointsIn_20 : decode cX8_pointsIn 20 = .ok (.iload_n 2, 1) := by decide +kernel
theorem dX8_pointsIn_21 : decode cX8_pointsIn 21 = .ok (.aload_n 0, 1) := by decide +kernel
theorem dX8_pointsIn_22 : decode cX8_pointsIn 22 = .ok (.iload_n 1, 1) := by decide +kernel
theorem dX8_pointsIn_23 : decode cX8_pointsIn 23 = .ok (.iload_n 3, 1) := by decide +kernel
theorem dX8_pointsIn_24 : decode cX8_pointsIn 24 = .ok (.iload 4, 2) := by decide +kernel
theorem dX8_pointsIn_26 : decode cX8_pointsIn 26 = .ok (.invokevirtual 50, 3) := by decide +kernel
theorem dX8_pointsIn_29 : decode cX8_pointsIn 29 = .ok (.ifCond .eq 7, 3) := by decide +kernel
theorem dX8_pointsIn_32 : decode cX8_pointsIn 32 = .ok (.iconst 1, 1) := by decide +kernel
theorem dX8_pointsIn_33 : decode cX8_pointsIn 33 = .ok (.goto 4, 3) := by decide +kernel
theorem dX8_pointsIn_36 : decode cX8_pointsIn 36 = .ok (.iconst 0, 1) := by decide +kernel
theorem dX8_pointsIn_37 : decode cX8_pointsIn 37 = .ok (.iadd, 1) := by decide +kernel
theorem dX8_pointsIn_38 : decode cX8_pointsIn 38 = .ok (.istore_n 2, 1) := by decide +kernel
theorem dX8_pointsIn_39 : decode cX8_pointsIn 39 = .ok (.iinc 4 1, 3) := by decide +kernel
theorem dX8_pointsIn_42 : decode cX8_pointsIn 42 = .ok (.goto (-29), 3) := by decide +kernel
theorem dX8_pointsIn_45 : decode cX8_pointsIn 45 = .ok (.iinc 3 1, 3) := by decide +kernel
theorem dX8_pointsIn_48 : decode cX8_pointsIn 48 = .ok (.goto (-44), 3) := by decide +kernel
theorem dX8_pointsIn_51 : decode cX8_pointsIn 51 = .ok (.iload_n 2, 1) := by decide +kernel
theorem dX8_pointsIn_52 : decode cX8_pointsIn 52 = .ok (.ireturn, 1) := by decide +kernel
theorem dX8_ofRing_0 : decode cX8_ofRing 0 = .ok (.iload_n 2, 1) := by decide +kernel
theorem dX8_ofRing_1 : decode cX8_ofRing 1 = .ok (.iconst 3, 1) := by decide +kernel
theorem dX8_ofRing_2 : decode cX8_ofRing 2 = .ok (.if_icmp .ge 12, 3) := by decide +kernel
theorem dX8_ofRing_5 : decode cX8_ofRing 5 = .ok (.aload_n 0, 1) := by decide +kernel
theorem dX8_ofRing_6 : decode cX8_ofRing 6 = .ok (.iload_n 1, 1) := by decide +kernel
theorem dX8_ofRing_7 : decode cX8_ofRing 7 = .ok (.iload_n 2, 1) := by decide +kernel
theorem dX8_ofRing_8 : decode cX8_ofRing 8 = .ok (.invokevirtual 47, 3) := by decide +kernel
theorem dX8_ofRing_11 : decode cX8_ofRing 11 = .ok (.goto 21, 3) := by decide +kernel
theorem dX8_ofRing_14 : decode cX8_ofRing 14 = .ok (.iload_n 2, 1) := by decide +kernel
theorem dX8_ofRing_15 : decode cX8_ofRing 15 = .ok (.iconst 3, 1) := by decide +kernel
theorem dX8_ofRing_16 : decode cX8_ofRing 16 = .ok (.if_icmp .ne 11, 3) := by decide +kernel
theorem dX8_ofRing_19 : decode cX8_ofRing 19 = .ok (.aload_n 0, 1) := by decide +kernel
theorem dX8_ofRing_20 : decode cX8_ofRing 20 = .ok (.iload_n 1, 1) := by decide +kernel
theorem dX8_ofRing_21 : decode cX8_ofRing 21 = .ok (.invokevirtual 132, 3) := by decide +kernel
theorem dX8_ofRing_24 : decode cX8_ofRing 24 = .ok (.goto 8, 3) := by decide +kernel
theorem dX8_ofRing_27 : decode cX8_ofRing 27 = .ok (.aload_n 0, 1) := by decide +kernel
theorem dX8_ofRing_28 : decode cX8_ofRing 28 = .ok (.iload_n 1, 1) := by decide +kernel
theorem dX8_ofRing_29 : decode cX8_ofRing 29 = .ok (.invokevirtual 135, 3) := by decide +kernel
theorem dX8_ofRing_32 : decode cX8_ofRing 32 = .ok (.ireturn, 1) := by decide +kernel
theorem dX8_ring_0 : decode cX8_ring 0 = .ok (.iload_n 1, 1) := by decide +kernel
theorem dX8_ring_1 : decode cX8_ring 1 = .ok (.iconst 0, 1) := by decide +kernel
theorem dX8_ring_2 : decode cX8_ring 2 = .ok (.aload_n 0, 1) := by decide +kernel
theorem dX8_ring_3 : decode cX8_ring 3 = .ok (.getfield 7, 3) := by decide +kernel
theorem dX8_ring_6 : decode cX8_ring 6 = .ok (.iconst 1, 1) := by decide +kernel
theorem dX8_ring_7 : decode cX8_ring 7 = .ok (.iaload, 1) := by decide +kernel
theorem dX8_ring_8 : decode cX8_ring 8 = .ok (.iconst 1, 1) := by decide +kernel
theorem dX8_ring_9 : decode cX8_ring 9 = .ok (.isub, 1) := by decide +kernel
theorem dX8_ring_10 : decode cX8_ring 10 = .ok (.invokestatic 39, 3) := by decide +kernel
theorem dX8_ring_13 : decode cX8_ring 13 = .ok (.ifCond .ne 7, 3) := by decide +kernel
theorem dX8_ring_16 : decode cX8_ring 16 = .ok (.sipush (-1001), 3) := by decide +kernel
theorem dX8_ring_19 : decode cX8_ring 19 = .ok (.ireturn, 1) := by decide +kernel
theorem dX8_ring_20 : decode cX8_ring 20 = .ok (.iload_n 2, 1) := by decide +kernel
theorem dX8_ring_21 : decode cX8_ring 21 = .ok (.iconst 0, 1) := by decide +kernel
theorem dX8_ring_22 : decode cX8_ring 22 = .ok (.iconst 4, 1) := by decide +kernel
theorem dX8_ring_23 : decode cX8_ring 23 = .ok (.invokestatic 39, 3) := by decide +kernel
theorem dX8_ring_26 : decode cX8_ring 26 = .ok (.ifCond .eq 12, 3) := by decide +kernel
theorem dX8_ring_29 : decode cX8_ring 29 = .ok (.aload_n 0, 1) := by decide +kernel
theorem dX8_ring_30 : decode cX8_ring 30 = .ok (.iload_n 1, 1) := by decide +kernel
theorem dX8_ring_31 : decode cX8_ring 31 = .ok (.iload_n 2, 1) := by decide +kernel
theorem dX8_ring_32 : decode cX8_ring 32 = .ok (.invokevirtual 138, 3) := by decide +kernel
theorem dX8_ring_35 : decode cX8_ring 35 = .ok (.goto 6, 3) := by decide +kernel
theorem dX8_ring_38 : decode cX8_ring 38 = .ok (.sipush (-1002), 3) := by decide +kernel
theorem dX8_ring_41 : decode cX8_ring 41 = .ok (.ireturn, 1) := by decide +kernel
theorem dX8_at_0 : decode cX8_at 0 = .ok (.iload_n 1, 1) := by decide +kernel
theorem dX8_at_1 : decode cX8_at 1 = .ok (.iload_n 2, 1) := by decide +kernel
theorem dX8_at_2 : decode cX8_at 2 = .ok (.invokestatic 112, 3) := by decide +kernel
theorem dX8_at_5 : decode cX8_at 5 = .ok (.ifCond .eq 12, 3) := by decide +kernel
theorem dX8_at_8 : decode cX8_at 8 = .ok (.aload_n 0, 1) := by decide +kernel
theorem dX8_at_9 : decode cX8_at 9 = .ok (.iload_n 1, 1) := by decide +kernel
theorem dX8_at_10 : decode cX8_at 10 = .ok (.iload_n 2, 1) := by decide +kernel
theorem dX8_at_11 : decode cX8_at 11 = .ok (.invokevirtual 63, 3) := by decide +kernel
theorem dX8_at_14 : decode cX8_at 14 = .ok (.goto 6, 3) := by decide +kernel
theorem dX8_at_17 : decode cX8_at 17 = .ok (.sipush (-1001), 3) := by decide +kernel
theorem dX8_at_20 : decode cX8_at 20 = .ok (.ireturn, 1) := by decide +kernel
theorem dX8_scoreOf_0 : decode cX8_scoreOf 0 = .ok (.iconst 0, 1) := by decide +kernel
theorem dX8_scoreOf_1 : decode cX8_scoreOf 1 = .ok (.istore_n 2, 1) := by decide +kernel
theorem dX8_scoreOf_2 : decode cX8_scoreOf 2 = .ok (.iconst 0, 1) := by decide +kernel
theorem dX8_scoreOf_3 : decode cX8_scoreOf 3 = .ok (.istore_n 3, 1) := by decide +kernel
theorem dX8_scoreOf_4 : decode cX8_scoreOf 4 = .ok (.iload_n 3, 1) := by decide +kernel
theorem dX8_scoreOf_5 : decode cX8_scoreOf 5 = .ok (.aload_n 0, 1) := by decide +kernel
theorem dX8_scoreOf_6 : decode cX8_scoreOf 6 = .ok (.getfield 7, 3) := by decide +kernel
theorem dX8_scoreOf_9 : decode cX8_scoreOf 9 = .ok (.iconst 0, 1) := by decide +kernel
theorem dX8_scoreOf_10 : decode cX8_scoreOf 10 = .ok (.iaload, 1) := by decide +kernel
theorem dX8_scoreOf_11 : decode cX8_scoreOf 11 = .ok (.if_icmp .ge 60, 3) := by decide +kernel
theorem dX8_scoreOf_14 : decode cX8_scoreOf 14 = .ok (.aload_n 0, 1) := by decide +kernel
theorem dX8_scoreOf_15 : decode cX8_scoreOf 15 = .ok (.iload_n 3, 1) := by decide +kernel
theorem dX8_scoreOf_16 : decode cX8_scoreOf 16 = .ok (.invokevirtual 56, 3) := by decide +kernel
theorem dX8_scoreOf_19 : decode cX8_scoreOf 19 = .ok (.ifCond .ne 46, 3) := by decide +kernel
theorem dX8_scoreOf_22 : decode cX8_scoreOf 22 = .ok (.iload_n 2, 1) := by decide +kernel
theorem dX8_scoreOf_23 : decode cX8_scoreOf 23 = .ok (.aload_n 0, 1) := by decide +kernel
theorem dX8_scoreOf_24 : decode cX8_scoreOf 24 = .ok (.iload_n 3, 1) := by decide +kernel
theorem dX8_scoreOf_25 : decode cX8_scoreOf 25 = .ok (.iconst 4, 1) := by decide +kernel
theorem dX8_scoreOf_26 : decode cX8_scoreOf 26 = .ok (.invokevirtual 43, 3) := by decide +kernel
theorem dX8_scoreOf_29 : decode cX8_scoreOf 29 = .ok (.iload_n 1, 1) := by decide +kernel
theorem dX8_scoreOf_30 : decode cX8_scoreOf 30 = .ok (.if_icmp .ne 12, 3) := by decide +kernel
theorem dX8_scoreOf_33 : decode cX8_scoreOf 33 = .ok (.aload_n 0, 1) := by decide +kernel
theorem dX8_scoreOf_34 : decode cX8_scoreOf 34 = .ok (.iload_n 3, 1) := by decide +kernel
theorem dX8_scoreOf_35 : decode cX8_scoreOf 35 = .ok (.iconst 2, 1) := by decide +kernel
theorem dX8_scoreOf_36 : decode cX8_scoreOf 36 = .ok (.invokevirtual 43, 3) := by decide +kernel
theorem dX8_scoreOf_39 : decode cX8_scoreOf 39 = .ok (.goto 24, 3) := by decide +kernel
theorem dX8_scoreOf_42 : decode cX8_scoreOf 42 = .ok (.aload_n 0, 1) := by decide +kernel
theorem dX8_scoreOf_43 : decode cX8_scoreOf 43 = .ok (.iload_n 3, 1) := by decide +kernel
theorem dX8_scoreOf_44 : decode cX8_scoreOf 44 = .ok (.iconst 3, 1) := by decide +kernel
theorem dX8_scoreOf_45 : decode cX8_scoreOf 45 = .ok (.invokevirtual 43, 3) := by decide +kernel
theorem dX8_scoreOf_48 : decode cX8_scoreOf 48 = .ok (.iload_n 1, 1) := by decide +kernel
theorem dX8_scoreOf_49 : decode cX8_scoreOf 49 = .ok (.if_icmp .ne 13, 3) := by decide +kernel
theorem dX8_scoreOf_52 : decode cX8_scoreOf 52 = .ok (.aload_n 0, 1) := by decide +kernel
theorem dX8_scoreOf_53 : decode cX8_scoreOf 53 = .ok (.iload_n 3, 1) := by decide +kernel
theorem dX8_scoreOf_54 : decode cX8_scoreOf 54 = .ok (.iconst 2, 1) := by decide +kernel
theorem dX8_scoreOf_55 : decode cX8_scoreOf 55 = .ok (.invokevirtual 43, 3) := by decide +kernel
theorem dX8_scoreOf_58 : decode cX8_scoreOf 58 = .ok (.ineg, 1) := by decide +kernel
theorem dX8_scoreOf_59 : decode cX8_scoreOf 59 = .ok (.goto 4, 3) := by decide +kernel
theorem dX8_scoreOf_62 : decode cX8_scoreOf 62 = .ok (.iconst 0, 1) := by decide +kernel
theorem dX8_scoreOf_63 : decode cX8_scoreOf 63 = .ok (.iadd, 1) := by decide +kernel
theorem dX8_scoreOf_64 : decode cX8_scoreOf 64 = .ok (.istore_n 2, 1) := by decide +kernel
theorem dX8_scoreOf_65 : decode cX8_scoreOf 65 = .ok (.iinc 3 1, 3) := by decide +kernel
theorem dX8_scoreOf_68 : decode cX8_scoreOf 68 = .ok (.goto (-64), 3) := by decide +kernel
theorem dX8_scoreOf_71 : decode cX8_scoreOf 71 = .ok (.iload_n 2, 1) := by decide +kernel
theorem dX8_scoreOf_72 : decode cX8_scoreOf 72 = .ok (.ireturn, 1) := by decide +kernel
theorem dX8_score_0 : decode cX8_score 0 = .ok (.iload_n 1, 1) := by decide +kernel
theorem dX8_score_1 : decode cX8_score 1 = .ok (.iconst 0, 1) := by decide +kernel
theorem dX8_score_2 : decode cX8_score 2 = .ok (.iconst 2, 1) := by decide +kernel
theorem dX8_score_3 : decode cX8_score 3 = .ok (.invokestatic 39, 3) := by decide +kernel
theorem dX8_score_6 : decode cX8_score 6 = .ok (.ifCond .eq 11, 3) := by decide +kernel
theorem dX8_score_9 : decode cX8_score 9 = .ok (.aload_n 0, 1) := by decide +kernel
theorem dX8_score_10 : decode cX8_score 10 = .ok (.iload_n 1, 1) := by decide +kernel
theorem dX8_score_11 : decode cX8_score 11 = .ok (.invokevirtual 141, 3) := by decide +kernel
theorem dX8_score_14 : decode cX8_score 14 = .ok (.goto 6, 3) := by decide +kernel
theorem dX8_score_17 : decode cX8_score 17 = .ok (.sipush (-1001), 3) := by decide +kernel
theorem dX8_score_20 : decode cX8_score 20 = .ok (.ireturn, 1) := by decide +kernel
theorem dX8_findLeader_0 : decode cX8_findLeader 0 = .ok (.iconst 0, 1) := by decide +kernel
theorem dX8_findLeader_1 : decode cX8_findLeader 1 = .ok (.istore_n 1, 1) := by decide +kernel
theorem dX8_findLeader_2 : decode cX8_findLeader 2 = .ok (.iconst 1, 1) := by decide +kernel
theorem dX8_findLeader_3 : decode cX8_findLeader 3 = .ok (.istore_n 2, 1) := by decide +kernel
theorem dX8_findLeader_4 : decode cX8_findLeader 4 = .ok (.iload_n 2, 1) := by decide +kernel
theorem dX8_findLeader_5 : decode cX8_findLeader 5 = .ok (.iconst 3, 1) := by decide +kernel
theorem dX8_findLeader_6 : decode cX8_findLeader 6 = .ok (.if_icmp .ge 28, 3) := by decide +kernel
theorem dX8_findLeader_9 : decode cX8_findLeader 9 = .ok (.aload_n 0, 1) := by decide +kernel
theorem dX8_findLeader_10 : decode cX8_findLeader 10 = .ok (.iload_n 2, 1) := by decide +kernel
theorem dX8_findLeader_11 : decode cX8_findLeader 11 = .ok (.invokevirtual 141, 3) := by decide +kernel
theorem dX8_findLeader_14 : decode cX8_findLeader 14 = .ok (.aload_n 0, 1) := by decide +kernel
theorem dX8_findLeader_15 : decode cX8_findLeader 15 = .ok (.iload_n 1, 1) := by decide +kernel
theorem dX8_findLeader_16 : decode cX8_findLeader 16 = .ok (.invokevirtual 141, 3) := by decide +kernel
theorem dX8_findLeader_19 : decode cX8_findLeader 19 = .ok (.if_icmp .le 7, 3) := by decide +kernel
theorem dX8_findLeader_22 : decode cX8_findLeader 22 = .ok (.iload_n 2, 1) := by decide +kernel
theorem dX8_findLeader_23 : decode cX8_findLeader 23 = .ok (.goto 4, 3) := by decide +kernel
theorem dX8_findLeader_26 : decode cX8_findLeader 26 = .ok (.iload_n 1, 1) := by decide +kernel
theorem dX8_findLeader_27 : decode cX8_findLeader 27 = .ok (.istore_n 1, 1) := by decide +kernel
theorem dX8_findLeader_28 : decode cX8_findLeader 28 = .ok (.iinc 2 1, 3) := by decide +kernel
theorem dX8_findLeader_31 : decode cX8_findLeader 31 = .ok (.goto (-27), 3) := by decide +kernel
theorem dX8_findLeader_34 : decode cX8_findLeader 34 = .ok (.iload_n 1, 1) := by decide +kernel
theorem dX8_findLeader_35 : decode cX8_findLeader 35 = .ok (.ireturn, 1) := by decide +kernel
theorem dX8_leader_0 : decode cX8_leader 0 = .ok (.aload_n 0, 1) := by decide +kernel
theorem dX8_leader_1 : decode cX8_leader 1 = .ok (.invokevirtual 144, 3) := by decide +kernel
theorem dX8_leader_4 : decode cX8_leader 4 = .ok (.ireturn, 1) := by decide +kernel
theorem dX8_ifFlicked_0 : decode cX8_ifFlicked 0 = .ok (.aload_n 0, 1) := by decide +kernel
theorem dX8_ifFlicked_1 : decode cX8_ifFlicked 1 = .ok (.iload_n 1, 1) := by decide +kernel
theorem dX8_ifFlicked_2 : decode cX8_ifFlicked 2 = .ok (.invokevirtual 95, 3) := by decide +kernel
theorem dX8_ifFlicked_5 : decode cX8_ifFlicked 5 = .ok (.ifCond .ne 7, 3) := by decide +kernel
theorem dX8_ifFlicked_8 : decode cX8_ifFlicked 8 = .ok (.sipush (-1001), 3) := by decide +kernel
theorem dX8_ifFlicked_11 : decode cX8_ifFlicked 11 = .ok (.ireturn, 1) := by decide +kernel
theorem dX8_ifFlicked_12 : decode cX8_ifFlicked 12 = .ok (.iload_n 2, 1) := by decide +kernel
theorem dX8_ifFlicked_13 : decode cX8_ifFlicked 13 = .ok (.iload_n 3, 1) := by decide +kernel
theorem dX8_ifFlicked_14 : decode cX8_ifFlicked 14 = .ok (.invokestatic 98, 3) := by decide +kernel
theorem dX8_ifFlicked_17 : decode cX8_ifFlicked 17 = .ok (.ifCond .eq 13, 3) := by decide +kernel
theorem dX8_ifFlicked_20 : decode cX8_ifFlicked 20 = .ok (.iload 4, 2) := by decide +kernel
theorem dX8_ifFlicked_22 : decode cX8_ifFlicked 22 = .ok (.iconst 0, 1) := by decide +kernel
theorem dX8_ifFlicked_23 : decode cX8_ifFlicked 23 = .ok (.iconst 4, 1) := by decide +kernel
theorem dX8_ifFlicked_24 : decode cX8_ifFlicked 24 = .ok (.invokestatic 39, 3) := by decide +kernel
theorem dX8_ifFlicked_27 : decode cX8_ifFlicked 27 = .ok (.ifCond .ne 7, 3) := by decide +kernel
theorem dX8_ifFlicked_30 : decode cX8_ifFlicked 30 = .ok (.sipush (-1002), 3) := by decide +kernel
theorem dX8_ifFlicked_33 : decode cX8_ifFlicked 33 = .ok (.ireturn, 1) := by decide +kernel
theorem dX8_ifFlicked_34 : decode cX8_ifFlicked 34 = .ok (.aload_n 0, 1) := by decide +kernel
theorem dX8_ifFlicked_35 : decode cX8_ifFlicked 35 = .ok (.iload_n 1, 1) := by decide +kernel
theorem dX8_ifFlicked_36 : decode cX8_ifFlicked 36 = .ok (.invokevirtual 56, 3) := by decide +kernel
theorem dX8_ifFlicked_39 : decode cX8_ifFlicked 39 = .ok (.ifCond .ne 7, 3) := by decide +kernel
theorem dX8_ifFlicked_42 : decode cX8_ifFlicked 42 = .ok (.sipush (-1003), 3) := by decide +kernel
theorem dX8_ifFlicked_45 : decode cX8_ifFlicked 45 = .ok (.ireturn, 1) := by decide +kernel
theorem dX8_ifFlicked_46 : decode cX8_ifFlicked 46 = .ok (.aload_n 0, 1) := by decide +kernel
theorem dX8_ifFlicked_47 : decode cX8_ifFlicked 47 = .ok (.getfield 7, 3) := by decide +kernel
theorem dX8_ifFlicked_50 : decode cX8_ifFlicked 50 = .ok (.iconst 0, 1) := by decide +kernel
theorem dX8_ifFlicked_51 : decode cX8_ifFlicked 51 = .ok (.aload_n 0, 1) := by decide +kernel
theorem dX8_ifFlicked_52 : decode cX8_ifFlicked 52 = .ok (.getfield 13, 3) := by decide +kernel
theorem dX8_ifFlicked_55 : decode cX8_ifFlicked 55 = .ok (.iconst 0, 1) := by decide +kernel
theorem dX8_ifFlicked_56 : decode cX8_ifFlicked 56 = .ok (.invokestatic 35, 3) := by decide +kernel
theorem dX8_ifFlicked_59 : decode cX8_ifFlicked 59 = .ok (.aload_n 0, 1) := by decide +kernel
theorem dX8_ifFlicked_60 : decode cX8_ifFlicked 60 = .ok (.aload_n 0, 1) := by decide +kernel
theorem dX8_ifFlicked_61 : decode cX8_ifFlicked 61 = .ok (.iload_n 1, 1) := by decide +kernel
theorem dX8_ifFlicked_62 : decode cX8_ifFlicked 62 = .ok (.iconst 3, 1) := by decide +kernel
theorem dX8_ifFlicked_63 : decode cX8_ifFlicked 63 = .ok (.invokevirtual 43, 3) := by decide +kernel
theorem dX8_ifFlicked_66 : decode cX8_ifFlicked 66 = .ok (.iload_n 1, 1) := by decide +kernel
theorem dX8_ifFlicked_67 : decode cX8_ifFlicked 67 = .ok (.iload_n 2, 1) := by decide +kernel
theorem dX8_ifFlicked_68 : decode cX8_ifFlicked 68 = .ok (.iload_n 3, 1) := by decide +kernel
theorem dX8_ifFlicked_69 : decode cX8_ifFlicked 69 = .ok (.invokevirtual 105, 3) := by decide +kernel
theorem dX8_ifFlicked_72 : decode cX8_ifFlicked 72 = .ok (.aload_n 0, 1) := by decide +kernel
theorem dX8_ifFlicked_73 : decode cX8_ifFlicked 73 = .ok (.getfield 7, 3) := by decide +kernel
theorem dX8_ifFlicked_76 : decode cX8_ifFlicked 76 = .ok (.iconst 4, 1) := by decide +kernel
theorem dX8_ifFlicked_77 : decode cX8_ifFlicked 77 = .ok (.iaload, 1) := by decide +kernel
theorem dX8_ifFlicked_78 : decode cX8_ifFlicked 78 = .ok (.aload_n 0, 1) := by decide +kernel
theorem dX8_ifFlicked_79 : decode cX8_ifFlicked 79 = .ok (.getfield 13, 3) := by decide +kernel
theorem dX8_ifFlicked_82 : decode cX8_ifFlicked 82 = .ok (.iconst 4, 1) := by decide +kernel
theorem dX8_ifFlicked_83 : decode cX8_ifFlicked 83 = .ok (.iaload, 1) := by decide +kernel
theorem dX8_ifFlicked_84 : decode cX8_ifFlicked 84 = .ok (.isub, 1) := by decide +kernel
theorem dX8_ifFlicked_85 : decode cX8_ifFlicked 85 = .ok (.istore 5, 2) := by decide +kernel
theorem dX8_ifFlicked_87 : decode cX8_ifFlicked 87 = .ok (.aload_n 0, 1) := by decide +kernel
theorem dX8_ifFlicked_88 : decode cX8_ifFlicked 88 = .ok (.getfield 13, 3) := by decide +kernel
theorem dX8_ifFlicked_91 : decode cX8_ifFlicked 91 = .ok (.iconst 0, 1) := by decide +kernel
theorem dX8_ifFlicked_92 : decode cX8_ifFlicked 92 = .ok (.aload_n 0, 1) := by decide +kernel
theorem dX8_ifFlicked_93 : decode cX8_ifFlicked 93 = .ok (.getfield 7, 3) := by decide +kernel
theorem dX8_ifFlicked_96 : decode cX8_ifFlicked 96 = .ok (.iconst 0, 1) := by decide +kernel
theorem dX8_ifFlicked_97 : decode cX8_ifFlicked 97 = .ok (.invokestatic 35, 3) := by decide +kernel
theorem dX8_ifFlicked_100 : decode cX8_ifFlicked 100 = .ok (.iload 4, 2) := by decide +kernel
theorem dX8_ifFlicked_102 : decode cX8_ifFlicked 102 = .ok (.ifCond .ne 10, 3) := by decide +kernel
theorem dX8_ifFlicked_105 : decode cX8_ifFlicked 105 = .ok (.aload_n 0, 1) := by decide +kernel
theorem dX8_ifFlicked_106 : decode cX8_ifFlicked 106 = .ok (.getfield 89, 3) := by decide +kernel
theorem dX8_ifFlicked_109 : decode cX8_ifFlicked 109 = .ok (.goto 52, 3) := by decide +kernel
theorem dX8_ifFlicked_112 : decode cX8_ifFlicked 112 = .ok (.iload 4, 2) := by decide +kernel
theorem dX8_ifFlicked_114 : decode cX8_ifFlicked 114 = .ok (.iconst 1, 1) := by decide +kernel
theorem dX8_ifFlicked_115 : decode cX8_ifFlicked 115 = .ok (.if_icmp .ne 10, 3) := by decide +kernel
theorem dX8_ifFlicked_118 : decode cX8_ifFlicked 118 = .ok (.aload_n 0, 1) := by decide +kernel
theorem dX8_ifFlicked_119 : decode cX8_ifFlicked 119 = .ok (.getfield 92, 3) := by decide +kernel
theorem dX8_ifFlicked_122 : decode cX8_ifFlicked 122 = .ok (.goto 39, 3) := by decide +kernel
theorem dX8_ifFlicked_125 : decode cX8_ifFlicked 125 = .ok (.iload 4, 2) := by decide +kernel
theorem dX8_ifFlicked_127 : decode cX8_ifFlicked 127 = .ok (.iconst 2, 1) := by decide +kernel
theorem dX8_ifFlicked_128 : decode cX8_ifFlicked 128 = .ok (.if_icmp .ne 8, 3) := by decide +kernel
theorem dX8_ifFlicked_131 : decode cX8_ifFlicked 131 = .ok (.iload 5, 2) := by decide +kernel
theorem dX8_ifFlicked_133 : decode cX8_ifFlicked 133 = .ok (.goto 28, 3) := by decide +kernel
theorem dX8_ifFlicked_136 : decode cX8_ifFlicked 136 = .ok (.iload 4, 2) := by decide +kernel
theorem dX8_ifFlicked_138 : decode cX8_ifFlicked 138 = .ok (.iconst 3, 1) := by decide +kernel
theorem dX8_ifFlicked_139 : decode cX8_ifFlicked 139 = .ok (.if_icmp .ne 10, 3) := by decide +kernel
theorem dX8_ifFlicked_142 : decode cX8_ifFlicked 142 = .ok (.aload_n 0, 1) := by decide +kernel
theorem dX8_ifFlicked_143 : decode cX8_ifFlicked 143 = .ok (.getfield 77, 3) := by decide +kernel
theorem dX8_ifFlicked_146 : decode cX8_ifFlicked 146 = .ok (.goto 15, 3) := by decide +kernel
theorem dX8_ifFlicked_149 : decode cX8_ifFlicked 149 = .ok (.bipush 100, 2) := by decide +kernel
theorem dX8_ifFlicked_151 : decode cX8_ifFlicked 151 = .ok (.aload_n 0, 1) := by decide +kernel
theorem dX8_ifFlicked_152 : decode cX8_ifFlicked 152 = .ok (.getfield 80, 3) := by decide +kernel
theorem dX8_ifFlicked_155 : decode cX8_ifFlicked 155 = .ok (.imul, 1) := by decide +kernel
theorem dX8_ifFlicked_156 : decode cX8_ifFlicked 156 = .ok (.aload_n 0, 1) := by decide +kernel
theorem dX8_ifFlicked_157 : decode cX8_ifFlicked 157 = .ok (.getfield 83, 3) := by decide +kernel
theorem dX8_ifFlicked_160 : decode cX8_ifFlicked 160 = .ok (.iadd, 1) := by decide +kernel
theorem dX8_ifFlicked_161 : decode cX8_ifFlicked 161 = .ok (.ireturn, 1) := by decide +kernel
theorem dX8_bestFlick_0 : decode cX8_bestFlick 0 = .ok (.aload_n 0, 1) := by decide +kernel
theorem dX8_bestFlick_1 : decode cX8_bestFlick 1 = .ok (.iload_n 1, 1) := by decide +kernel
theorem dX8_bestFlick_2 : decode cX8_bestFlick 2 = .ok (.invokevirtual 95, 3) := by decide +kernel
theorem dX8_bestFlick_5 : decode cX8_bestFlick 5 = .ok (.ifCond .ne 7, 3) := by decide +kernel
theorem dX8_bestFlick_8 : decode cX8_bestFlick 8 = .ok (.sipush (-1001), 3) := by decide +kernel
theorem dX8_bestFlick_11 : decode cX8_bestFlick 11 = .ok (.ireturn, 1) := by decide +kernel
theorem dX8_bestFlick_12 : decode cX8_bestFlick 12 = .ok (.aload_n 0, 1) := by decide +kernel
theorem dX8_bestFlick_13 : decode cX8_bestFlick 13 = .ok (.iload_n 1, 1) := by decide +kernel
theorem dX8_bestFlick_14 : decode cX8_bestFlick 14 = .ok (.invokevirtual 56, 3) := by decide +kernel
theorem dX8_bestFlick_17 : decode cX8_bestFlick 17 = .ok (.ifCond .ne 7, 3) := by decide +kernel
theorem dX8_bestFlick_20 : decode cX8_bestFlick 20 = .ok (.sipush (-1003), 3) := by decide +kernel
theorem dX8_bestFlick_23 : decode cX8_bestFlick 23 = .ok (.ireturn, 1) := by decide +kernel
theorem dX8_bestFlick_24 : decode cX8_bestFlick 24 = .ok (.sipush (-1006), 3) := by decide +kernel
theorem dX8_bestFlick_27 : decode cX8_bestFlick 27 = .ok (.istore_n 2, 1) := by decide +kernel
theorem dX8_bestFlick_28 : decode cX8_bestFlick 28 = .ok (.iconst 0, 1) := by decide +kernel
theorem dX8_bestFlick_29 : decode cX8_bestFlick 29 = .ok (.istore_n 3, 1) := by decide +kernel
theorem dX8_bestFlick_30 : decode cX8_bestFlick 30 = .ok (.aload_n 0, 1) := by decide +kernel
theorem dX8_bestFlick_31 : decode cX8_bestFlick 31 = .ok (.getfield 7, 3) := by decide +kernel
theorem dX8_bestFlick_34 : decode cX8_bestFlick 34 = .ok (.iconst 0, 1) := by decide +kernel
theorem dX8_bestFlick_35 : decode cX8_bestFlick 35 = .ok (.aload_n 0, 1) := by decide +kernel
theorem dX8_bestFlick_36 : decode cX8_bestFlick 36 = .ok (.getfield 13, 3) := by decide +kernel
theorem dX8_bestFlick_39 : decode cX8_bestFlick 39 = .ok (.iconst 0, 1) := by decide +kernel
theorem dX8_bestFlick_40 : decode cX8_bestFlick 40 = .ok (.invokestatic 35, 3) := by decide +kernel
theorem dX8_bestFlick_43 : decode cX8_bestFlick 43 = .ok (.iconst 1, 1) := by decide +kernel
theorem dX8_bestFlick_44 : decode cX8_bestFlick 44 = .ok (.istore 4, 2) := by decide +kernel
theorem dX8_bestFlick_46 : decode cX8_bestFlick 46 = .ok (.iload 4, 2) := by decide +kernel
theorem dX8_bestFlick_48 : decode cX8_bestFlick 48 = .ok (.bipush 40, 2) := by decide +kernel
theorem dX8_bestFlick_50 : decode cX8_bestFlick 50 = .ok (.if_icmp .gt 91, 3) := by decide +kernel
theorem dX8_bestFlick_53 : decode cX8_bestFlick 53 = .ok (.iconst 0, 1) := by decide +kernel
theorem dX8_bestFlick_54 : decode cX8_bestFlick 54 = .ok (.istore 5, 2) := by decide +kernel
theorem dX8_bestFlick_56 : decode cX8_bestFlick 56 = .ok (.iload 5, 2) := by decide +kernel
theorem dX8_bestFlick_58 : decode cX8_bestFlick 58 = .ok (.bipush 8, 2) := by decide +kernel
theorem dX8_bestFlick_60 : decode cX8_bestFlick 60 = .ok (.if_icmp .ge 75, 3) := by decide +kernel
theorem dX8_bestFlick_63 : decode cX8_bestFlick 63 = .ok (.aload_n 0, 1) := by decide +kernel
theorem dX8_bestFlick_64 : decode cX8_bestFlick 64 = .ok (.aload_n 0, 1) := by decide +kernel
theorem dX8_bestFlick_65 : decode cX8_bestFlick 65 = .ok (.iload_n 1, 1) := by decide +kernel
theorem dX8_bestFlick_66 : decode cX8_bestFlick 66 = .ok (.iconst 3, 1) := by decide +kernel
theorem dX8_bestFlick_67 : decode cX8_bestFlick 67 = .ok (.invokevirtual 43, 3) := by decide +kernel
theorem dX8_bestFlick_70 : decode cX8_bestFlick 70 = .ok (.iload_n 1, 1) := by decide +kernel
theorem dX8_bestFlick_71 : decode cX8_bestFlick 71 = .ok (.iload 5, 2) := by decide +kernel
theorem dX8_bestFlick_73 : decode cX8_bestFlick 73 = .ok (.iload 4, 2) := by decide +kernel
theorem dX8_bestFlick_75 : decode cX8_bestFlick 75 = .ok (.invokevirtual 105, 3) := by decide +kernel
theorem dX8_bestFlick_78 : decode cX8_bestFlick 78 = .ok (.aload_n 0, 1) := by decide +kernel
theorem dX8_bestFlick_79 : decode cX8_bestFlick 79 = .ok (.getfield 92, 3) := by decide +kernel
theorem dX8_bestFlick_82 : decode cX8_bestFlick 82 = .ok (.iload_n 3, 1) := by decide +kernel
theorem dX8_bestFlick_83 : decode cX8_bestFlick 83 = .ok (.if_icmp .le 14, 3) := by decide +kernel
theorem dX8_bestFlick_86 : decode cX8_bestFlick 86 = .ok (.bipush 100, 2) := by decide +kernel
theorem dX8_bestFlick_88 : decode cX8_bestFlick 88 = .ok (.iload 5, 2) := by decide +kernel
theorem dX8_bestFlick_90 : decode cX8_bestFlick 90 = .ok (.imul, 1) := by decide +kernel
theorem dX8_bestFlick_91 : decode cX8_bestFlick 91 = .ok (.iload 4, 2) := by decide +kernel
theorem dX8_bestFlick_93 : decode cX8_bestFlick 93 = .ok (.iadd, 1) := by decide +kernel
theorem dX8_bestFlick_94 : decode cX8_bestFlick 94 = .ok (.goto 4, 3) := by decide +kernel
theorem dX8_bestFlick_97 : decode cX8_bestFlick 97 = .ok (.iload_n 2, 1) := by decide +kernel
theorem dX8_bestFlick_98 : decode cX8_bestFlick 98 = .ok (.istore_n 2, 1) := by decide +kernel
theorem dX8_bestFlick_99 : decode cX8_bestFlick 99 = .ok (.aload_n 0, 1) := by decide +kernel
theorem dX8_bestFlick_100 : decode cX8_bestFlick 100 = .ok (.getfield 92, 3) := by decide +kernel
theorem dX8_bestFlick_103 : decode cX8_bestFlick 103 = .ok (.iload_n 3, 1) := by decide +kernel
theorem dX8_bestFlick_104 : decode cX8_bestFlick 104 = .ok (.if_icmp .le 10, 3) := by decide +kernel
theorem dX8_bestFlick_107 : decode cX8_bestFlick 107 = .ok (.aload_n 0, 1) := by decide +kernel
theorem dX8_bestFlick_108 : decode cX8_bestFlick 108 = .ok (.getfield 92, 3) := by decide +kernel
theorem dX8_bestFlick_111 : decode cX8_bestFlick 111 = .ok (.goto 4, 3) := by decide +kernel
theorem dX8_bestFlick_114 : decode cX8_bestFlick 114 = .ok (.iload_n 3, 1) := by decide +kernel
theorem dX8_bestFlick_115 : decode cX8_bestFlick 115 = .ok (.istore_n 3, 1) := by decide +kernel
theorem dX8_bestFlick_116 : decode cX8_bestFlick 116 = .ok (.aload_n 0, 1) := by decide +kernel
theorem dX8_bestFlick_117 : decode cX8_bestFlick 117 = .ok (.getfield 13, 3) := by decide +kernel
theorem dX8_bestFlick_120 : decode cX8_bestFlick 120 = .ok (.iconst 0, 1) := by decide +kernel
theorem dX8_bestFlick_121 : decode cX8_bestFlick 121 = .ok (.aload_n 0, 1) := by decide +kernel
theorem dX8_bestFlick_122 : decode cX8_bestFlick 122 = .ok (.getfield 7, 3) := by decide +kernel
theorem dX8_bestFlick_125 : decode cX8_bestFlick 125 = .ok (.iconst 0, 1) := by decide +kernel
theorem dX8_bestFlick_126 : decode cX8_bestFlick 126 = .ok (.invokestatic 35, 3) := by decide +kernel
theorem dX8_bestFlick_129 : decode cX8_bestFlick 129 = .ok (.iinc 5 1, 3) := by decide +kernel
theorem dX8_bestFlick_132 : decode cX8_bestFlick 132 = .ok (.goto (-76), 3) := by decide +kernel
theorem dX8_bestFlick_135 : decode cX8_bestFlick 135 = .ok (.iinc 4 1, 3) := by decide +kernel
theorem dX8_bestFlick_138 : decode cX8_bestFlick 138 = .ok (.goto (-92), 3) := by decide +kernel
theorem dX8_bestFlick_141 : decode cX8_bestFlick 141 = .ok (.iload_n 2, 1) := by decide +kernel
theorem dX8_bestFlick_142 : decode cX8_bestFlick 142 = .ok (.ireturn, 1) := by decide +kernel
theorem dX8_stepsOut_0 : decode cX8_stepsOut 0 = .ok (.aload_n 0, 1) := by decide +kernel
theorem dX8_stepsOut_1 : decode cX8_stepsOut 1 = .ok (.iload_n 1, 1) := by decide +kernel
theorem dX8_stepsOut_2 : decode cX8_stepsOut 2 = .ok (.invokevirtual 66, 3) := by decide +kernel
theorem dX8_stepsOut_5 : decode cX8_stepsOut 5 = .ok (.ifCond .ne 7, 3) := by decide +kernel
theorem dX8_stepsOut_8 : decode cX8_stepsOut 8 = .ok (.iconst 0, 1) := by decide +kernel
theorem dX8_stepsOut_9 : decode cX8_stepsOut 9 = .ok (.goto 6, 3) := by decide +kernel
theorem dX8_stepsOut_12 : decode cX8_stepsOut 12 = .ok (.sipush (-1006), 3) := by decide +kernel
theorem dX8_stepsOut_15 : decode cX8_stepsOut 15 = .ok (.istore_n 2, 1) := by decide +kernel
theorem dX8_stepsOut_16 : decode cX8_stepsOut 16 = .ok (.iconst 1, 1) := by decide +kernel
theorem dX8_stepsOut_17 : decode cX8_stepsOut 17 = .ok (.istore_n 3, 1) := by decide +kernel
theorem dX8_stepsOut_18 : decode cX8_stepsOut 18 = .ok (.iload_n 3, 1) := by decide +kernel
theorem dX8_stepsOut_19 : decode cX8_stepsOut 19 = .ok (.bipush 30, 2) := by decide +kernel
theorem dX8_stepsOut_21 : decode cX8_stepsOut 21 = .ok (.if_icmp .gt 95, 3) := by decide +kernel
theorem dX8_stepsOut_24 : decode cX8_stepsOut 24 = .ok (.iload_n 2, 1) := by decide +kernel
theorem dX8_stepsOut_25 : decode cX8_stepsOut 25 = .ok (.sipush (-1006), 3) := by decide +kernel
theorem dX8_stepsOut_28 : decode cX8_stepsOut 28 = .ok (.if_icmp .ne 88, 3) := by decide +kernel
theorem dX8_stepsOut_31 : decode cX8_stepsOut 31 = .ok (.iconst 0, 1) := by decide +kernel
theorem dX8_stepsOut_32 : decode cX8_stepsOut 32 = .ok (.istore 4, 2) := by decide +kernel
theorem dX8_stepsOut_34 : decode cX8_stepsOut 34 = .ok (.iload 4, 2) := by decide +kernel
theorem dX8_stepsOut_36 : decode cX8_stepsOut 36 = .ok (.bipush 8, 2) := by decide +kernel
theorem dX8_stepsOut_38 : decode cX8_stepsOut 38 = .ok (.if_icmp .ge 72, 3) := by decide +kernel
theorem dX8_stepsOut_41 : decode cX8_stepsOut 41 = .ok (.aload_n 0, 1) := by decide +kernel
theorem dX8_stepsOut_42 : decode cX8_stepsOut 42 = .ok (.iload_n 1, 1) := by decide +kernel
theorem dX8_stepsOut_43 : decode cX8_stepsOut 43 = .ok (.iconst 0, 1) := by decide +kernel
theorem dX8_stepsOut_44 : decode cX8_stepsOut 44 = .ok (.invokevirtual 43, 3) := by decide +kernel
theorem dX8_stepsOut_47 : decode cX8_stepsOut 47 = .ok (.iload_n 3, 1) := by decide +kernel
theorem dX8_stepsOut_48 : decode cX8_stepsOut 48 = .ok (.aload_n 0, 1) := by decide +kernel
theorem dX8_stepsOut_49 : decode cX8_stepsOut 49 = .ok (.getfield 22, 3) := by decide +kernel
theorem dX8_stepsOut_52 : decode cX8_stepsOut 52 = .ok (.iload 4, 2) := by decide +kernel
theorem dX8_stepsOut_54 : decode cX8_stepsOut 54 = .ok (.iaload, 1) := by decide +kernel
theorem dX8_stepsOut_55 : decode cX8_stepsOut 55 = .ok (.imul, 1) := by decide +kernel
theorem dX8_stepsOut_56 : decode cX8_stepsOut 56 = .ok (.iadd, 1) := by decide +kernel
theorem dX8_stepsOut_57 : decode cX8_stepsOut 57 = .ok (.istore 5, 2) := by decide +kernel
theorem dX8_stepsOut_59 : decode cX8_stepsOut 59 = .ok (.aload_n 0, 1) := by decide +kernel
theorem dX8_stepsOut_60 : decode cX8_stepsOut 60 = .ok (.iload_n 1, 1) := by decide +kernel
theorem dX8_stepsOut_61 : decode cX8_stepsOut 61 = .ok (.iconst 1, 1) := by decide +kernel
theorem dX8_stepsOut_62 : decode cX8_stepsOut 62 = .ok (.invokevirtual 43, 3) := by decide +kernel
theorem dX8_stepsOut_65 : decode cX8_stepsOut 65 = .ok (.iload_n 3, 1) := by decide +kernel
theorem dX8_stepsOut_66 : decode cX8_stepsOut 66 = .ok (.aload_n 0, 1) := by decide +kernel
theorem dX8_stepsOut_67 : decode cX8_stepsOut 67 = .ok (.getfield 25, 3) := by decide +kernel
theorem dX8_stepsOut_70 : decode cX8_stepsOut 70 = .ok (.iload 4, 2) := by decide +kernel
theorem dX8_stepsOut_72 : decode cX8_stepsOut 72 = .ok (.iaload, 1) := by decide +kernel
theorem dX8_stepsOut_73 : decode cX8_stepsOut 73 = .ok (.imul, 1) := by decide +kernel
theorem dX8_stepsOut_74 : decode cX8_stepsOut 74 = .ok (.iadd, 1) := by decide +kernel
theorem dX8_stepsOut_75 : decode cX8_stepsOut 75 = .ok (.istore 6, 2) := by decide +kernel
theorem dX8_stepsOut_77 : decode cX8_stepsOut 77 = .ok (.iload 5, 2) := by decide +kernel
theorem dX8_stepsOut_79 : decode cX8_stepsOut 79 = .ok (.iload 6, 2) := by decide +kernel
theorem dX8_stepsOut_81 : decode cX8_stepsOut 81 = .ok (.invokestatic 112, 3) := by decide +kernel
theorem dX8_stepsOut_84 : decode cX8_stepsOut 84 = .ok (.ifCond .eq 18, 3) := by decide +kernel
theorem dX8_stepsOut_87 : decode cX8_stepsOut 87 = .ok (.aload_n 0, 1) := by decide +kernel
theorem dX8_stepsOut_88 : decode cX8_stepsOut 88 = .ok (.iload 5, 2) := by decide +kernel
theorem dX8_stepsOut_90 : decode cX8_stepsOut 90 = .ok (.iload 6, 2) := by decide +kernel
theorem dX8_stepsOut_92 : decode cX8_stepsOut 92 = .ok (.invokevirtual 53, 3) := by decide +kernel
theorem dX8_stepsOut_95 : decode cX8_stepsOut 95 = .ok (.ifCond .ne 7, 3) := by decide +kernel
theorem dX8_stepsOut_98 : decode cX8_stepsOut 98 = .ok (.iload_n 3, 1) := by decide +kernel
theorem dX8_stepsOut_99 : decode cX8_stepsOut 99 = .ok (.goto 4, 3) := by decide +kernel
theorem dX8_stepsOut_102 : decode cX8_stepsOut 102 = .ok (.iload_n 2, 1) := by decide +kernel
theorem dX8_stepsOut_103 : decode cX8_stepsOut 103 = .ok (.istore_n 2, 1) := by decide +kernel
theorem dX8_stepsOut_104 : decode cX8_stepsOut 104 = .ok (.iinc 4 1, 3) := by decide +kernel
theorem dX8_stepsOut_107 : decode cX8_stepsOut 107 = .ok (.goto (-73), 3) := by decide +kernel
theorem dX8_stepsOut_110 : decode cX8_stepsOut 110 = .ok (.iinc 3 1, 3) := by decide +kernel
theorem dX8_stepsOut_113 : decode cX8_stepsOut 113 = .ok (.goto (-95), 3) := by decide +kernel
theorem dX8_stepsOut_116 : decode cX8_stepsOut 116 = .ok (.iload_n 2, 1) := by decide +kernel
theorem dX8_stepsOut_117 : decode cX8_stepsOut 117 = .ok (.ireturn, 1) := by decide +kernel
theorem dX8_wayOut_0 : decode cX8_wayOut 0 = .ok (.aload_n 0, 1) := by decide +kernel
theorem dX8_wayOut_1 : decode cX8_wayOut 1 = .ok (.iload_n 1, 1) := by decide +kernel
theorem dX8_wayOut_2 : decode cX8_wayOut 2 = .ok (.invokevirtual 95, 3) := by decide +kernel
theorem dX8_wayOut_5 : decode cX8_wayOut 5 = .ok (.ifCond .ne 7, 3) := by decide +kernel
theorem dX8_wayOut_8 : decode cX8_wayOut 8 = .ok (.sipush (-1001), 3) := by decide +kernel
theorem dX8_wayOut_11 : decode cX8_wayOut 11 = .ok (.ireturn, 1) := by decide +kernel
theorem dX8_wayOut_12 : decode cX8_wayOut 12 = .ok (.aload_n 0, 1) := by decide +kernel
theorem dX8_wayOut_13 : decode cX8_wayOut 13 = .ok (.iload_n 1, 1) := by decide +kernel
theorem dX8_wayOut_14 : decode cX8_wayOut 14 = .ok (.invokevirtual 56, 3) := by decide +kernel
theorem dX8_wayOut_17 : decode cX8_wayOut 17 = .ok (.ifCond .eq 11, 3) := by decide +kernel
theorem dX8_wayOut_20 : decode cX8_wayOut 20 = .ok (.aload_n 0, 1) := by decide +kernel
theorem dX8_wayOut_21 : decode cX8_wayOut 21 = .ok (.iload_n 1, 1) := by decide +kernel
theorem dX8_wayOut_22 : decode cX8_wayOut 22 = .ok (.invokevirtual 148, 3) := by decide +kernel
theorem dX8_wayOut_25 : decode cX8_wayOut 25 = .ok (.goto 6, 3) := by decide +kernel
theorem dX8_wayOut_28 : decode cX8_wayOut 28 = .ok (.sipush (-1003), 3) := by decide +kernel
theorem dX8_wayOut_31 : decode cX8_wayOut 31 = .ok (.ireturn, 1) := by decide +kernel
theorem dX8_type_0 : decode cX8_type 0 = .ok (.iload_n 1, 1) := by decide +kernel
theorem dX8_type_1 : decode cX8_type 1 = .ok (.bipush 33, 2) := by decide +kernel
theorem dX8_type_3 : decode cX8_type 3 = .ok (.bipush 126, 2) := by decide +kernel
theorem dX8_type_5 : decode cX8_type 5 = .ok (.invokestatic 39, 3) := by decide +kernel
theorem dX8_type_8 : decode cX8_type 8 = .ok (.ifCond .ne 7, 3) := by decide +kernel
theorem dX8_type_11 : decode cX8_type 11 = .ok (.sipush (-1002), 3) := by decide +kernel
theorem dX8_type_14 : decode cX8_type 14 = .ok (.ireturn, 1) := by decide +kernel
theorem dX8_type_15 : decode cX8_type 15 = .ok (.aload_n 0, 1) := by decide +kernel
theorem dX8_type_16 : decode cX8_type 16 = .ok (.getfield 151, 3) := by decide +kernel
theorem dX8_type_19 : decode cX8_type 19 = .ok (.bipush 80, 2) := by decide +kernel
theorem dX8_type_21 : decode cX8_type 21 = .ok (.if_icmp .ne 7, 3) := by decide +kernel
theorem dX8_type_24 : decode cX8_type 24 = .ok (.sipush (-1004), 3) := by decide +kernel
theorem dX8_type_27 : decode cX8_type 27 = .ok (.ireturn, 1) := by decide +kernel
theorem dX8_type_28 : decode cX8_type 28 = .ok (.aload_n 0, 1) := by decide +kernel
theorem dX8_type_29 : decode cX8_type 29 = .ok (.getfield 19, 3) := by decide +kernel
theorem dX8_type_32 : decode cX8_type 32 = .ok (.aload_n 0, 1) := by decide +kernel
theorem dX8_type_33 : decode cX8_type 33 = .ok (.getfield 151, 3) := by decide +kernel
theorem dX8_type_36 : decode cX8_type 36 = .ok (.iload_n 1, 1) := by decide +kernel
theorem dX8_type_37 : decode cX8_type 37 = .ok (.iastore, 1) := by decide +kernel
theorem dX8_type_38 : decode cX8_type 38 = .ok (.aload_n 0, 1) := by decide +kernel
theorem dX8_type_39 : decode cX8_type 39 = .ok (.dup, 1) := by decide +kernel
theorem dX8_type_40 : decode cX8_type 40 = .ok (.getfield 151, 3) := by decide +kernel
theorem dX8_type_43 : decode cX8_type 43 = .ok (.iconst 1, 1) := by decide +kernel
theorem dX8_type_44 : decode cX8_type 44 = .ok (.iadd, 1) := by decide +kernel
theorem dX8_type_45 : decode cX8_type 45 = .ok (.putfield 151, 3) := by decide +kernel
theorem dX8_type_48 : decode cX8_type 48 = .ok (.aload_n 0, 1) := by decide +kernel
theorem dX8_type_49 : decode cX8_type 49 = .ok (.getfield 151, 3) := by decide +kernel
theorem dX8_type_52 : decode cX8_type 52 = .ok (.ireturn, 1) := by decide +kernel
theorem dX8_clearText_0 : decode cX8_clearText 0 = .ok (.aload_n 0, 1) := by decide +kernel
theorem dX8_clearText_1 : decode cX8_clearText 1 = .ok (.getfield 151, 3) := by decide +kernel
theorem dX8_clearText_4 : decode cX8_clearText 4 = .ok (.istore_n 1, 1) := by decide +kernel
theorem dX8_clearText_5 : decode cX8_clearText 5 = .ok (.aload_n 0, 1) := by decide +kernel
theorem dX8_clearText_6 : decode cX8_clearText 6 = .ok (.iconst 0, 1) := by decide +kernel
theorem dX8_clearText_7 : decode cX8_clearText 7 = .ok (.putfield 151, 3) := by decide +kernel
theorem dX8_clearText_10 : decode cX8_clearText 10 = .ok (.iload_n 1, 1) := by decide +kernel
theorem dX8_clearText_11 : decode cX8_clearText 11 = .ok (.ireturn, 1) := by decide +kernel
theorem dX8_character_0 : decode cX8_character 0 = .ok (.iload_n 1, 1) := by decide +kernel
theorem dX8_character_1 : decode cX8_character 1 = .ok (.aload_n 0, 1) := by decide +kernel
theorem dX8_character_2 : decode cX8_character 2 = .ok (.getfield 151, 3) := by decide +kernel
theorem dX8_character_5 : decode cX8_character 5 = .ok (.if_icmp .ge 12, 3) := by decide +kernel
theorem dX8_character_8 : decode cX8_character 8 = .ok (.aload_n 0, 1) := by decide +kernel
theorem dX8_character_9 : decode cX8_character 9 = .ok (.getfield 19, 3) := by decide +kernel
theorem dX8_character_12 : decode cX8_character 12 = .ok (.iload_n 1, 1) := by decide +kernel
theorem dX8_character_13 : decode cX8_character 13 = .ok (.iaload, 1) := by decide +kernel
theorem dX8_character_14 : decode cX8_character 14 = .ok (.goto 4, 3) := by decide +kernel
theorem dX8_character_17 : decode cX8_character 17 = .ok (.iconst (-1), 1) := by decide +kernel
theorem dX8_character_18 : decode cX8_character 18 = .ok (.ireturn, 1) := by decide +kernel
theorem dX8_isNext_0 : decode cX8_isNext 0 = .ok (.aload_n 0, 1) := by decide +kernel
theorem dX8_isNext_1 : decode cX8_isNext 1 = .ok (.aload_n 0, 1) := by decide +kernel
theorem dX8_isNext_2 : decode cX8_isNext 2 = .ok (.getfield 154, 3) := by decide +kernel
theorem dX8_isNext_5 : decode cX8_isNext 5 = .ok (.invokevirtual 157, 3) := by decide +kernel
theorem dX8_isNext_8 : decode cX8_isNext 8 = .ok (.iload_n 1, 1) := by decide +kernel
theorem dX8_isNext_9 : decode cX8_isNext 9 = .ok (.if_icmp .ne 7, 3) := by decide +kernel
theorem dX8_isNext_12 : decode cX8_isNext 12 = .ok (.iconst 1, 1) := by decide +kernel
theorem dX8_isNext_13 : decode cX8_isNext 13 = .ok (.goto 4, 3) := by decide +kernel
theorem dX8_isNext_16 : decode cX8_isNext 16 = .ok (.iconst 0, 1) := by decide +kernel
theorem dX8_isNext_17 : decode cX8_isNext 17 = .ok (.istore_n 2, 1) := by decide +kernel
theorem dX8_isNext_18 : decode cX8_isNext 18 = .ok (.aload_n 0, 1) := by decide +kernel
theorem dX8_isNext_19 : decode cX8_isNext 19 = .ok (.dup, 1) := by decide +kernel
theorem dX8_isNext_20 : decode cX8_isNext 20 = .ok (.getfield 154, 3) := by decide +kernel
theorem dX8_isNext_23 : decode cX8_isNext 23 = .ok (.iload_n 2, 1) := by decide +kernel
theorem dX8_isNext_24 : decode cX8_isNext 24 = .ok (.ifCond .eq 7, 3) := by decide +kernel
theorem dX8_isNext_27 : decode cX8_isNext 27 = .ok (.iconst 1, 1) := by decide +kernel
theorem dX8_isNext_28 : decode cX8_isNext 28 = .ok (.goto 4, 3) := by decide +kernel
theorem dX8_isNext_31 : decode cX8_isNext 31 = .ok (.iconst 0, 1) := by decide +kernel
theorem dX8_isNext_32 : decode cX8_isNext 32 = .ok (.iadd, 1) := by decide +kernel
theorem dX8_isNext_33 : decode cX8_isNext 33 = .ok (.putfield 154, 3) := by decide +kernel
theorem dX8_isNext_36 : decode cX8_isNext 36 = .ok (.iload_n 2, 1) := by decide +kernel
theorem dX8_isNext_37 : decode cX8_isNext 37 = .ok (.ireturn, 1) := by decide +kernel
theorem dX8_readsDigit_0 : decode cX8_readsDigit 0 = .ok (.aload_n 0, 1) := by decide +kernel
theorem dX8_readsDigit_1 : decode cX8_readsDigit 1 = .ok (.aload_n 0, 1) := by decide +kernel
theorem dX8_readsDigit_2 : decode cX8_readsDigit 2 = .ok (.getfield 154, 3) := by decide +kernel
theorem dX8_readsDigit_5 : decode cX8_readsDigit 5 = .ok (.invokevirtual 157, 3) := by decide +kernel
theorem dX8_readsDigit_8 : decode cX8_readsDigit 8 = .ok (.bipush 48, 2) := by decide +kernel
theorem dX8_readsDigit_10 : decode cX8_readsDigit 10 = .ok (.iload_n 1, 1) := by decide +kernel
theorem dX8_readsDigit_11 : decode cX8_readsDigit 11 = .ok (.iadd, 1) := by decide +kernel
theorem dX8_readsDigit_12 : decode cX8_readsDigit 12 = .ok (.bipush 48, 2) := by decide +kernel
theorem dX8_readsDigit_14 : decode cX8_readsDigit 14 = .ok (.iload_n 2, 1) := by decide +kernel
theorem dX8_readsDigit_15 : decode cX8_readsDigit 15 = .ok (.iadd, 1) := by decide +kernel
theorem dX8_readsDigit_16 : decode cX8_readsDigit 16 = .ok (.invokestatic 39, 3) := by decide +kernel
theorem dX8_readsDigit_19 : decode cX8_readsDigit 19 = .ok (.istore_n 3, 1) := by decide +kernel
theorem dX8_readsDigit_20 : decode cX8_readsDigit 20 = .ok (.aload_n 0, 1) := by decide +kernel
theorem dX8_readsDigit_21 : decode cX8_readsDigit 21 = .ok (.aload_n 0, 1) := by decide +kernel
theorem dX8_readsDigit_22 : decode cX8_readsDigit 22 = .ok (.aload_n 0, 1) := by decide +kernel
theorem dX8_readsDigit_23 : decode cX8_readsDigit 23 = .ok (.getfield 154, 3) := by decide +kernel
theorem dX8_readsDigit_26 : decode cX8_readsDigit 26 = .ok (.invokevirtual 157, 3) := by decide +kernel
theorem dX8_readsDigit_29 : decode cX8_readsDigit 29 = .ok (.bipush 48, 2) := by decide +kernel
theorem dX8_readsDigit_31 : decode cX8_readsDigit 31 = .ok (.isub, 1) := by decide +kernel
theorem dX8_readsDigit_32 : decode cX8_readsDigit 32 = .ok (.putfield 160, 3) := by decide +kernel
theorem dX8_readsDigit_35 : decode cX8_readsDigit 35 = .ok (.aload_n 0, 1) := by decide +kernel
theorem dX8_readsDigit_36 : decode cX8_readsDigit 36 = .ok (.dup, 1) := by decide +kernel
theorem dX8_readsDigit_37 : decode cX8_readsDigit 37 = .ok (.getfield 154, 3) := by decide +kernel
theorem dX8_readsDigit_40 : decode cX8_readsDigit 40 = .ok (.iload_n 3, 1) := by decide +kernel
theorem dX8_readsDigit_41 : decode cX8_readsDigit 41 = .ok (.ifCond .eq 7, 3) := by decide +kernel
theorem dX8_readsDigit_44 : decode cX8_readsDigit 44 = .ok (.iconst 1, 1) := by decide +kernel
theorem dX8_readsDigit_45 : decode cX8_readsDigit 45 = .ok (.goto 4, 3) := by decide +kernel
theorem dX8_readsDigit_48 : decode cX8_readsDigit 48 = .ok (.iconst 0, 1) := by decide +kernel
theorem dX8_readsDigit_49 : decode cX8_readsDigit 49 = .ok (.iadd, 1) := by decide +kernel
theorem dX8_readsDigit_50 : decode cX8_readsDigit 50 = .ok (.putfield 154, 3) := by decide +kernel
theorem dX8_readsDigit_53 : decode cX8_readsDigit 53 = .ok (.iload_n 3, 1) := by decide +kernel
theorem dX8_readsDigit_54 : decode cX8_readsDigit 54 = .ok (.ireturn, 1) := by decide +kernel
theorem dX8_readsNumber_0 : decode cX8_readsNumber 0 = .ok (.aload_n 0, 1) := by decide +kernel
theorem dX8_readsNumber_1 : decode cX8_readsNumber 1 = .ok (.iload_n 1, 1) := by decide +kernel
theorem dX8_readsNumber_2 : decode cX8_readsNumber 2 = .ok (.bipush 9, 2) := by decide +kernel
theorem dX8_readsNumber_4 : decode cX8_readsNumber 4 = .ok (.invokevirtual 163, 3) := by decide +kernel
theorem dX8_readsNumber_7 : decode cX8_readsNumber 7 = .ok (.ifCond .ne 5, 3) := by decide +kernel
theorem dX8_readsNumber_10 : decode cX8_readsNumber 10 = .ok (.iconst 0, 1) := by decide +kernel
theorem dX8_readsNumber_11 : decode cX8_readsNumber 11 = .ok (.ireturn, 1) := by decide +kernel
theorem dX8_readsNumber_12 : decode cX8_readsNumber 12 = .ok (.bipush 10, 2) := by decide +kernel
theorem dX8_readsNumber_14 : decode cX8_readsNumber 14 = .ok (.aload_n 0, 1) := by decide +kernel
theorem dX8_readsNumber_15 : decode cX8_readsNumber 15 = .ok (.getfield 160, 3) := by decide +kernel
theorem dX8_readsNumber_18 : decode cX8_readsNumber 18 = .ok (.imul, 1) := by decide +kernel
theorem dX8_readsNumber_19 : decode cX8_readsNumber 19 = .ok (.aload_n 0, 1) := by decide +kernel
theorem dX8_readsNumber_20 : decode cX8_readsNumber 20 = .ok (.aload_n 0, 1) := by decide +kernel
theorem dX8_readsNumber_21 : decode cX8_readsNumber 21 = .ok (.getfield 154, 3) := by decide +kernel
theorem dX8_readsNumber_24 : decode cX8_readsNumber 24 = .ok (.invokevirtual 157, 3) := by decide +kernel
theorem dX8_readsNumber_27 : decode cX8_readsNumber 27 = .ok (.iadd, 1) := by decide +kernel
theorem dX8_readsNumber_28 : decode cX8_readsNumber 28 = .ok (.bipush 48, 2) := by decide +kernel
theorem dX8_readsNumber_30 : decode cX8_readsNumber 30 = .ok (.isub, 1) := by decide +kernel
theorem dX8_readsNumber_31 : decode cX8_readsNumber 31 = .ok (.istore_n 3, 1) := by decide +kernel
theorem dX8_readsNumber_32 : decode cX8_readsNumber 32 = .ok (.aload_n 0, 1) := by decide +kernel
theorem dX8_readsNumber_33 : decode cX8_readsNumber 33 = .ok (.getfield 160, 3) := by decide +kernel
theorem dX8_readsNumber_36 : decode cX8_readsNumber 36 = .ok (.ifCond .le 41, 3) := by decide +kernel
theorem dX8_readsNumber_39 : decode cX8_readsNumber 39 = .ok (.aload_n 0, 1) := by decide +kernel
theorem dX8_readsNumber_40 : decode cX8_readsNumber 40 = .ok (.aload_n 0, 1) := by decide +kernel
theorem dX8_readsNumber_41 : decode cX8_readsNumber 41 = .ok (.getfield 154, 3) := by decide +kernel
theorem dX8_readsNumber_44 : decode cX8_readsNumber 44 = .ok (.invokevirtual 157, 3) := by decide +kernel
theorem dX8_readsNumber_47 : decode cX8_readsNumber 47 = .ok (.bipush 48, 2) := by decide +kernel
theorem dX8_readsNumber_49 : decode cX8_readsNumber 49 = .ok (.bipush 57, 2) := by decide +kernel
theorem dX8_readsNumber_51 : decode cX8_readsNumber 51 = .ok (.invokestatic 39, 3) := by decide +kernel
theorem dX8_readsNumber_54 : decode cX8_readsNumber 54 = .ok (.ifCond .eq 23, 3) := by decide +kernel
theorem dX8_readsNumber_57 : decode cX8_readsNumber 57 = .ok (.iload_n 3, 1) := by decide +kernel
theorem dX8_readsNumber_58 : decode cX8_readsNumber 58 = .ok (.iload_n 2, 1) := by decide +kernel
theorem dX8_readsNumber_59 : decode cX8_readsNumber 59 = .ok (.if_icmp .gt 18, 3) := by decide +kernel
theorem dX8_readsNumber_62 : decode cX8_readsNumber 62 = .ok (.aload_n 0, 1) := by decide +kernel
theorem dX8_readsNumber_63 : decode cX8_readsNumber 63 = .ok (.iload_n 3, 1) := by decide +kernel
theorem dX8_readsNumber_64 : decode cX8_readsNumber 64 = .ok (.putfield 160, 3) := by decide +kernel
theorem dX8_readsNumber_67 : decode cX8_readsNumber 67 = .ok (.aload_n 0, 1) := by decide +kernel
theorem dX8_readsNumber_68 : decode cX8_readsNumber 68 = .ok (.dup, 1) := by decide +kernel
theorem dX8_readsNumber_69 : decode cX8_readsNumber 69 = .ok (.getfield 154, 3) := by decide +kernel
theorem dX8_readsNumber_72 : decode cX8_readsNumber 72 = .ok (.iconst 1, 1) := by decide +kernel
theorem dX8_readsNumber_73 : decode cX8_readsNumber 73 = .ok (.iadd, 1) := by decide +kernel
theorem dX8_readsNumber_74 : decode cX8_readsNumber 74 = .ok (.putfield 154, 3) := by decide +kernel
theorem dX8_readsNumber_77 : decode cX8_readsNumber 77 = .ok (.iconst 1, 1) := by decide +kernel
theorem dX8_readsNumber_78 : decode cX8_readsNumber 78 = .ok (.ireturn, 1) := by decide +kernel
theorem dX8_readsItem_0 : decode cX8_readsItem 0 = .ok (.aload_n 0, 1) := by decide +kernel
theorem dX8_readsItem_1 : decode cX8_readsItem 1 = .ok (.aload_n 0, 1) := by decide +kernel
theorem dX8_readsItem_2 : decode cX8_readsItem 2 = .ok (.aload_n 0, 1) := by decide +kernel
theorem dX8_readsItem_3 : decode cX8_readsItem 3 = .ok (.getfield 154, 3) := by decide +kernel
theorem dX8_readsItem_6 : decode cX8_readsItem 6 = .ok (.invokevirtual 157, 3) := by decide +kernel
theorem dX8_readsItem_9 : decode cX8_readsItem 9 = .ok (.putfield 166, 3) := by decide +kernel
theorem dX8_readsItem_12 : decode cX8_readsItem 12 = .ok (.aload_n 0, 1) := by decide +kernel
theorem dX8_readsItem_13 : decode cX8_readsItem 13 = .ok (.getfield 166, 3) := by decide +kernel
theorem dX8_readsItem_16 : decode cX8_readsItem 16 = .ok (.bipush 109, 2) := by decide +kernel
theorem dX8_readsItem_18 : decode cX8_readsItem 18 = .ok (.if_icmp .eq 14, 3) := by decide +kernel
theorem dX8_readsItem_21 : decode cX8_readsItem 21 = .ok (.aload_n 0, 1) := by decide +kernel
theorem dX8_readsItem_22 : decode cX8_readsItem 22 = .ok (.getfield 166, 3) := by decide +kernel
theorem dX8_readsItem_25 : decode cX8_readsItem 25 = .ok (.bipush 114, 2) := by decide +kernel
theorem dX8_readsItem_27 : decode cX8_readsItem 27 = .ok (.if_icmp .eq 5, 3) := by decide +kernel
theorem dX8_readsItem_30 : decode cX8_readsItem 30 = .ok (.iconst 0, 1) := by decide +kernel
theorem dX8_readsItem_31 : decode cX8_readsItem 31 = .ok (.ireturn, 1) := by decide +kernel
theorem dX8_readsItem_32 : decode cX8_readsItem 32 = .ok (.aload_n 0, 1) := by decide +kernel
theorem dX8_readsItem_33 : decode cX8_readsItem 33 = .ok (.dup, 1) := by decide +kernel
theorem dX8_readsItem_34 : decode cX8_readsItem 34 = .ok (.getfield 154, 3) := by decide +kernel
theorem dX8_readsItem_37 : decode cX8_readsItem 37 = .ok (.iconst 1, 1) := by decide +kernel
theorem dX8_readsItem_38 : decode cX8_readsItem 38 = .ok (.iadd, 1) := by decide +kernel
theorem dX8_readsItem_39 : decode cX8_readsItem 39 = .ok (.putfield 154, 3) := by decide +kernel
theorem dX8_readsItem_42 : decode cX8_readsItem 42 = .ok (.aload_n 0, 1) := by decide +kernel
theorem dX8_readsItem_43 : decode cX8_readsItem 43 = .ok (.iconst 0, 1) := by decide +kernel
theorem dX8_readsItem_44 : decode cX8_readsItem 44 = .ok (.bipush 30, 2) := by decide +kernel
theorem dX8_readsItem_46 : decode cX8_readsItem 46 = .ok (.invokevirtual 169, 3) := by decide +kernel
theorem dX8_readsItem_49 : decode cX8_readsItem 49 = .ok (.istore_n 1, 1) := by decide +kernel
theorem dX8_readsItem_50 : decode cX8_readsItem 50 = .ok (.aload_n 0, 1) := by decide +kernel
theorem dX8_readsItem_51 : decode cX8_readsItem 51 = .ok (.aload_n 0, 1) := by decide +kernel
theorem dX8_readsItem_52 : decode cX8_readsItem 52 = .ok (.getfield 160, 3) := by decide +kernel
theorem dX8_readsItem_55 : decode cX8_readsItem 55 = .ok (.putfield 172, 3) := by decide +kernel
theorem dX8_readsItem_58 : decode cX8_readsItem 58 = .ok (.iload_n 1, 1) := by decide +kernel
theorem dX8_readsItem_59 : decode cX8_readsItem 59 = .ok (.ifCond .eq 26, 3) := by decide +kernel
theorem dX8_readsItem_62 : decode cX8_readsItem 62 = .ok (.aload_n 0, 1) := by decide +kernel
theorem dX8_readsItem_63 : decode cX8_readsItem 63 = .ok (.bipush 44, 2) := by decide +kernel
theorem dX8_readsItem_65 : decode cX8_readsItem 65 = .ok (.invokevirtual 175, 3) := by decide +kernel
theorem dX8_readsItem_68 : decode cX8_readsItem 68 = .ok (.ifCond .eq 17, 3) := by decide +kernel
theorem dX8_readsItem_71 : decode cX8_readsItem 71 = .ok (.aload_n 0, 1) := by decide +kernel
theorem dX8_readsItem_72 : decode cX8_readsItem 72 = .ok (.iconst 0, 1) := by decide +kernel
theorem dX8_readsItem_73 : decode cX8_readsItem 73 = .ok (.bipush 30, 2) := by decide +kernel
theorem dX8_readsItem_75 : decode cX8_readsItem 75 = .ok (.invokevirtual 169, 3) := by decide +kernel
theorem dX8_readsItem_78 : decode cX8_readsItem 78 = .ok (.ifCond .eq 7, 3) := by decide +kernel
theorem dX8_readsItem_81 : decode cX8_readsItem 81 = .ok (.iconst 1, 1) := by decide +kernel
theorem dX8_readsItem_82 : decode cX8_readsItem 82 = .ok (.goto 4, 3) := by decide +kernel
theorem dX8_readsItem_85 : decode cX8_readsItem 85 = .ok (.iconst 0, 1) := by decide +kernel
theorem dX8_readsItem_86 : decode cX8_readsItem 86 = .ok (.istore_n 1, 1) := by decide +kernel
theorem dX8_readsItem_87 : decode cX8_readsItem 87 = .ok (.aload_n 0, 1) := by decide +kernel
theorem dX8_readsItem_88 : decode cX8_readsItem 88 = .ok (.aload_n 0, 1) := by decide +kernel
theorem dX8_readsItem_89 : decode cX8_readsItem 89 = .ok (.getfield 160, 3) := by decide +kernel
theorem dX8_readsItem_92 : decode cX8_readsItem 92 = .ok (.putfield 178, 3) := by decide +kernel
theorem dX8_readsItem_95 : decode cX8_readsItem 95 = .ok (.aload_n 0, 1) := by decide +kernel
theorem dX8_readsItem_96 : decode cX8_readsItem 96 = .ok (.getfield 166, 3) := by decide +kernel
theorem dX8_readsItem_99 : decode cX8_readsItem 99 = .ok (.bipush 114, 2) := by decide +kernel
theorem dX8_readsItem_101 : decode cX8_readsItem 101 = .ok (.if_icmp .ne 42, 3) := by decide +kernel
theorem dX8_readsItem_104 : decode cX8_readsItem 104 = .ok (.iload_n 1, 1) := by decide +kernel
theorem dX8_readsItem_105 : decode cX8_readsItem 105 = .ok (.ifCond .eq 26, 3) := by decide +kernel
theorem dX8_readsItem_108 : decode cX8_readsItem 108 = .ok (.aload_n 0, 1) := by decide +kernel
theorem dX8_readsItem_109 : decode cX8_readsItem 109 = .ok (.bipush 58, 2) := by decide +kernel
theorem dX8_readsItem_111 : decode cX8_readsItem 111 = .ok (.invokevirtual 175, 3) := by decide +kernel
theorem dX8_readsItem_114 : decode cX8_readsItem 114 = .ok (.ifCond .eq 17, 3) := by decide +kernel
theorem dX8_readsItem_117 : decode cX8_readsItem 117 = .ok (.aload_n 0, 1) := by decide +kernel
theorem dX8_readsItem_118 : decode cX8_readsItem 118 = .ok (.iconst 1, 1) := by decide +kernel
theorem dX8_readsItem_119 : decode cX8_readsItem 119 = .ok (.bipush 15, 2) := by decide +kernel
theorem dX8_readsItem_121 : decode cX8_readsItem 121 = .ok (.invokevirtual 169, 3) := by decide +kernel
theorem dX8_readsItem_124 : decode cX8_readsItem 124 = .ok (.ifCond .eq 7, 3) := by decide +kernel
theorem dX8_readsItem_127 : decode cX8_readsItem 127 = .ok (.iconst 1, 1) := by decide +kernel
theorem dX8_readsItem_128 : decode cX8_readsItem 128 = .ok (.goto 4, 3) := by decide +kernel
theorem dX8_readsItem_131 : decode cX8_readsItem 131 = .ok (.iconst 0, 1) := by decide +kernel
theorem dX8_readsItem_132 : decode cX8_readsItem 132 = .ok (.istore_n 1, 1) := by decide +kernel
theorem dX8_readsItem_133 : decode cX8_readsItem 133 = .ok (.aload_n 0, 1) := by decide +kernel
theorem dX8_readsItem_134 : decode cX8_readsItem 134 = .ok (.aload_n 0, 1) := by decide +kernel
theorem dX8_readsItem_135 : decode cX8_readsItem 135 = .ok (.getfield 160, 3) := by decide +kernel
theorem dX8_readsItem_138 : decode cX8_readsItem 138 = .ok (.putfield 181, 3) := by decide +kernel
theorem dX8_readsItem_141 : decode cX8_readsItem 141 = .ok (.iload_n 1, 1) := by decide +kernel
theorem dX8_readsItem_142 : decode cX8_readsItem 142 = .ok (.ireturn, 1) := by decide +kernel
theorem dX8_readsItem_143 : decode cX8_readsItem 143 = .ok (.iload_n 1, 1) := by decide +kernel
theorem dX8_readsItem_144 : decode cX8_readsItem 144 = .ok (.ifCond .eq 25, 3) := by decide +kernel
theorem dX8_readsItem_147 : decode cX8_readsItem 147 = .ok (.aload_n 0, 1) := by decide +kernel
theorem dX8_readsItem_148 : decode cX8_readsItem 148 = .ok (.bipush 115, 2) := by decide +kernel
theorem dX8_readsItem_150 : decode cX8_readsItem 150 = .ok (.invokevirtual 175, 3) := by decide +kernel
theorem dX8_readsItem_153 : decode cX8_readsItem 153 = .ok (.ifCond .eq 16, 3) := by decide +kernel
theorem dX8_readsItem_156 : decode cX8_readsItem 156 = .ok (.aload_n 0, 1) := by decide +kernel
theorem dX8_readsItem_157 : decode cX8_readsItem 157 = .ok (.iconst 1, 1) := by decide +kernel
theorem dX8_readsItem_158 : decode cX8_readsItem 158 = .ok (.iconst 3, 1) := by decide +kernel
theorem dX8_readsItem_159 : decode cX8_readsItem 159 = .ok (.invokevirtual 163, 3) := by decide +kernel
theorem dX8_readsItem_162 : decode cX8_readsItem 162 = .ok (.ifCond .eq 7, 3) := by decide +kernel
theorem dX8_readsItem_165 : decode cX8_readsItem 165 = .ok (.iconst 1, 1) := by decide +kernel
theorem dX8_readsItem_166 : decode cX8_readsItem 166 = .ok (.goto 4, 3) := by decide +kernel
theorem dX8_readsItem_169 : decode cX8_readsItem 169 = .ok (.iconst 0, 1) := by decide +kernel
theorem dX8_readsItem_170 : decode cX8_readsItem 170 = .ok (.istore_n 1, 1) := by decide +kernel
theorem dX8_readsItem_171 : decode cX8_readsItem 171 = .ok (.aload_n 0, 1) := by decide +kernel
theorem dX8_readsItem_172 : decode cX8_readsItem 172 = .ok (.aload_n 0, 1) := by decide +kernel
theorem dX8_readsItem_173 : decode cX8_readsItem 173 = .ok (.getfield 160, 3) := by decide +kernel
theorem dX8_readsItem_176 : decode cX8_readsItem 176 = .ok (.putfield 181, 3) := by decide +kernel
theorem dX8_readsItem_179 : decode cX8_readsItem 179 = .ok (.iload_n 1, 1) := by decide +kernel
theorem dX8_readsItem_180 : decode cX8_readsItem 180 = .ok (.ifCond .eq 25, 3) := by decide +kernel
theorem dX8_readsItem_183 : decode cX8_readsItem 183 = .ok (.aload_n 0, 1) := by decide +kernel
theorem dX8_readsItem_184 : decode cX8_readsItem 184 = .ok (.bipush 112, 2) := by decide +kernel
theorem dX8_readsItem_186 : decode cX8_readsItem 186 = .ok (.invokevirtual 175, 3) := by decide +kernel
theorem dX8_readsItem_189 : decode cX8_readsItem 189 = .ok (.ifCond .eq 16, 3) := by decide +kernel
theorem dX8_readsItem_192 : decode cX8_readsItem 192 = .ok (.aload_n 0, 1) := by decide +kernel
theorem dX8_readsItem_193 : decode cX8_readsItem 193 = .ok (.iconst 0, 1) := by decide +kernel
theorem dX8_readsItem_194 : decode cX8_readsItem 194 = .ok (.iconst 2, 1) := by decide +kernel
theorem dX8_readsItem_195 : decode cX8_readsItem 195 = .ok (.invokevirtual 163, 3) := by decide +kernel
theorem dX8_readsItem_198 : decode cX8_readsItem 198 = .ok (.ifCond .eq 7, 3) := by decide +kernel
theorem dX8_readsItem_201 : decode cX8_readsItem 201 = .ok (.iconst 1, 1) := by decide +kernel
theorem dX8_readsItem_202 : decode cX8_readsItem 202 = .ok (.goto 4, 3) := by decide +kernel
theorem dX8_readsItem_205 : decode cX8_readsItem 205 = .ok (.iconst 0, 1) := by decide +kernel
theorem dX8_readsItem_206 : decode cX8_readsItem 206 = .ok (.istore_n 1, 1) := by decide +kernel
theorem dX8_readsItem_207 : decode cX8_readsItem 207 = .ok (.aload_n 0, 1) := by decide +kernel
theorem dX8_readsItem_208 : decode cX8_readsItem 208 = .ok (.aload_n 0, 1) := by decide +kernel
theorem dX8_readsItem_209 : decode cX8_readsItem 209 = .ok (.getfield 160, 3) := by decide +kernel
theorem dX8_readsItem_212 : decode cX8_readsItem 212 = .ok (.putfield 184, 3) := by decide +kernel
theorem dX8_readsItem_215 : decode cX8_readsItem 215 = .ok (.iload_n 1, 1) := by decide +kernel
theorem dX8_readsItem_216 : decode cX8_readsItem 216 = .ok (.ireturn, 1) := by decide +kernel
theorem dX8_findError_0 : decode cX8_findError 0 = .ok (.aload_n 0, 1) := by decide +kernel
theorem dX8_findError_1 : decode cX8_findError 1 = .ok (.iconst 0, 1) := by decide +kernel
theorem dX8_findError_2 : decode cX8_findError 2 = .ok (.putfield 154, 3) := by decide +kernel
theorem dX8_findError_5 : decode cX8_findError 5 = .ok (.aload_n 0, 1) := by decide +kernel
theorem dX8_findError_6 : decode cX8_findError 6 = .ok (.invokevirtual 187, 3) := by decide +kernel
theorem dX8_findError_9 : decode cX8_findError 9 = .ok (.ifCond .ne 8, 3) := by decide +kernel
theorem dX8_findError_12 : decode cX8_findError 12 = .ok (.aload_n 0, 1) := by decide +kernel
theorem dX8_findError_13 : decode cX8_findError 13 = .ok (.getfield 154, 3) := by decide +kernel
theorem dX8_findError_16 : decode cX8_findError 16 = .ok (.ireturn, 1) := by decide +kernel
theorem dX8_findError_17 : decode cX8_findError 17 = .ok (.aload_n 0, 1) := by decide +kernel
theorem dX8_findError_18 : decode cX8_findError 18 = .ok (.getfield 154, 3) := by decide +kernel
theorem dX8_findError_21 : decode cX8_findError 21 = .ok (.aload_n 0, 1) := by decide +kernel
theorem dX8_findError_22 : decode cX8_findError 22 = .ok (.getfield 151, 3) := by decide +kernel
theorem dX8_findError_25 : decode cX8_findError 25 = .ok (.if_icmp .ne 7, 3) := by decide +kernel
theorem dX8_findError_28 : decode cX8_findError 28 = .ok (.sipush (-1006), 3) := by decide +kernel
theorem dX8_findError_31 : decode cX8_findError 31 = .ok (.ireturn, 1) := by decide +kernel
theorem dX8_findError_32 : decode cX8_findError 32 = .ok (.aload_n 0, 1) := by decide +kernel
theorem dX8_findError_33 : decode cX8_findError 33 = .ok (.bipush 59, 2) := by decide +kernel
theorem dX8_findError_35 : decode cX8_findError 35 = .ok (.invokevirtual 175, 3) := by decide +kernel
theorem dX8_findError_38 : decode cX8_findError 38 = .ok (.ifCond .ne (-33), 3) := by decide +kernel
theorem dX8_findError_41 : decode cX8_findError 41 = .ok (.aload_n 0, 1) := by decide +kernel
theorem dX8_findError_42 : decode cX8_findError 42 = .ok (.getfield 154, 3) := by decide +kernel
theorem dX8_findError_45 : decode cX8_findError 45 = .ok (.ireturn, 1) := by decide +kernel
theorem dX8_syntaxError_0 : decode cX8_syntaxError 0 = .ok (.aload_n 0, 1) := by decide +kernel
theorem dX8_syntaxError_1 : decode cX8_syntaxError 1 = .ok (.invokevirtual 191, 3) := by decide +kernel
theorem dX8_syntaxError_4 : decode cX8_syntaxError 4 = .ok (.ireturn, 1) := by decide +kernel
theorem dX8_does_0 : decode cX8_does 0 = .ok (.aload_n 0, 1) := by decide +kernel
theorem dX8_does_1 : decode cX8_does 1 = .ok (.getfield 166, 3) := by decide +kernel
theorem dX8_does_4 : decode cX8_does 4 = .ok (.bipush 114, 2) := by decide +kernel
theorem dX8_does_6 : decode cX8_does 6 = .ok (.if_icmp .ne 7, 3) := by decide +kernel
theorem dX8_does_9 : decode cX8_does 9 = .ok (.iconst 1, 1) := by decide +kernel
theorem dX8_does_10 : decode cX8_does 10 = .ok (.goto 4, 3) := by decide +kernel
theorem dX8_does_13 : decode cX8_does 13 = .ok (.iconst 0, 1) := by decide +kernel
theorem dX8_does_14 : decode cX8_does 14 = .ok (.istore_n 1, 1) := by decide +kernel
theorem dX8_does_15 : decode cX8_does 15 = .ok (.iload_n 1, 1) := by decide +kernel
theorem dX8_does_16 : decode cX8_does 16 = .ok (.ifCond .eq 22, 3) := by decide +kernel
theorem dX8_does_19 : decode cX8_does 19 = .ok (.aload_n 0, 1) := by decide +kernel
theorem dX8_does_20 : decode cX8_does 20 = .ok (.aload_n 0, 1) := by decide +kernel
theorem dX8_does_21 : decode cX8_does 21 = .ok (.getfield 172, 3) := by decide +kernel
theorem dX8_does_24 : decode cX8_does 24 = .ok (.aload_n 0, 1) := by decide +kernel
theorem dX8_does_25 : decode cX8_does 25 = .ok (.getfield 178, 3) := by decide +kernel
theorem dX8_does_28 : decode cX8_does 28 = .ok (.aload_n 0, 1) := by decide +kernel
theorem dX8_does_29 : decode cX8_does 29 = .ok (.getfield 181, 3) := by decide +kernel
theorem dX8_does_32 : decode cX8_does 32 = .ok (.invokevirtual 122, 3) := by decide +kernel
theorem dX8_does_35 : decode cX8_does 35 = .ok (.goto 23, 3) := by decide +kernel
theorem dX8_does_38 : decode cX8_does 38 = .ok (.aload_n 0, 1) := by decide +kernel
theorem dX8_does_39 : decode cX8_does 39 = .ok (.aload_n 0, 1) := by decide +kernel
theorem dX8_does_40 : decode cX8_does 40 = .ok (.getfield 172, 3) := by decide +kernel
theorem dX8_does_43 : decode cX8_does 43 = .ok (.aload_n 0, 1) := by decide +kernel
theorem dX8_does_44 : decode cX8_does 44 = .ok (.getfield 178, 3) := by decide +kernel
theorem dX8_does_47 : decode cX8_does 47 = .ok (.aload_n 0, 1) := by decide +kernel
theorem dX8_does_48 : decode cX8_does 48 = .ok (.getfield 181, 3) := by decide +kernel
theorem dX8_does_51 : decode cX8_does 51 = .ok (.aload_n 0, 1) := by decide +kernel
theorem dX8_does_52 : decode cX8_does 52 = .ok (.getfield 184, 3) := by decide +kernel
theorem dX8_does_55 : decode cX8_does 55 = .ok (.invokevirtual 115, 3) := by decide +kernel
theorem dX8_does_58 : decode cX8_does 58 = .ok (.istore_n 2, 1) := by decide +kernel
theorem dX8_does_59 : decode cX8_does 59 = .ok (.iload_n 2, 1) := by decide +kernel
theorem dX8_does_60 : decode cX8_does 60 = .ok (.ifCond .ne 27, 3) := by decide +kernel
theorem dX8_does_63 : decode cX8_does 63 = .ok (.iload_n 1, 1) := by decide +kernel
theorem dX8_does_64 : decode cX8_does 64 = .ok (.ifCond .eq 23, 3) := by decide +kernel
theorem dX8_does_67 : decode cX8_does 67 = .ok (.aload_n 0, 1) := by decide +kernel
theorem dX8_does_68 : decode cX8_does 68 = .ok (.aload_n 0, 1) := by decide +kernel
theorem dX8_does_69 : decode cX8_does 69 = .ok (.getfield 172, 3) := by decide +kernel
theorem dX8_does_72 : decode cX8_does 72 = .ok (.aload_n 0, 1) := by decide +kernel
theorem dX8_does_73 : decode cX8_does 73 = .ok (.getfield 178, 3) := by decide +kernel
theorem dX8_does_76 : decode cX8_does 76 = .ok (.aload_n 0, 1) := by decide +kernel
theorem dX8_does_77 : decode cX8_does 77 = .ok (.getfield 181, 3) := by decide +kernel
theorem dX8_does_80 : decode cX8_does 80 = .ok (.invokevirtual 126, 3) := by decide +kernel
theorem dX8_does_83 : decode cX8_does 83 = .ok (.pop, 1) := by decide +kernel
theorem dX8_does_84 : decode cX8_does 84 = .ok (.goto 28, 3) := by decide +kernel
theorem dX8_does_87 : decode cX8_does 87 = .ok (.iload_n 2, 1) := by decide +kernel
theorem dX8_does_88 : decode cX8_does 88 = .ok (.ifCond .ne 24, 3) := by decide +kernel
theorem dX8_does_91 : decode cX8_does 91 = .ok (.aload_n 0, 1) := by decide +kernel
theorem dX8_does_92 : decode cX8_does 92 = .ok (.aload_n 0, 1) := by decide +kernel
theorem dX8_does_93 : decode cX8_does 93 = .ok (.getfield 172, 3) := by decide +kernel
theorem dX8_does_96 : decode cX8_does 96 = .ok (.aload_n 0, 1) := by decide +kernel
theorem dX8_does_97 : decode cX8_does 97 = .ok (.getfield 178, 3) := by decide +kernel
theorem dX8_does_100 : decode cX8_does 100 = .ok (.aload_n 0, 1) := by decide +kernel
theorem dX8_does_101 : decode cX8_does 101 = .ok (.getfield 181, 3) := by decide +kernel
theorem dX8_does_104 : decode cX8_does 104 = .ok (.aload_n 0, 1) := by decide +kernel
theorem dX8_does_105 : decode cX8_does 105 = .ok (.getfield 184, 3) := by decide +kernel
theorem dX8_does_108 : decode cX8_does 108 = .ok (.invokevirtual 119, 3) := by decide +kernel
theorem dX8_does_111 : decode cX8_does 111 = .ok (.pop, 1) := by decide +kernel
theorem dX8_does_112 : decode cX8_does 112 = .ok (.iload_n 2, 1) := by decide +kernel
theorem dX8_does_113 : decode cX8_does 113 = .ok (.ifCond .ne 7, 3) := by decide +kernel
theorem dX8_does_116 : decode cX8_does 116 = .ok (.iconst 1, 1) := by decide +kernel
theorem dX8_does_117 : decode cX8_does 117 = .ok (.goto 4, 3) := by decide +kernel
theorem dX8_does_120 : decode cX8_does 120 = .ok (.iconst 0, 1) := by decide +kernel
theorem dX8_does_121 : decode cX8_does 121 = .ok (.ireturn, 1) := by decide +kernel
theorem dX8_readItems_0 : decode cX8_readItems 0 = .ok (.aload_n 0, 1) := by decide +kernel
theorem dX8_readItems_1 : decode cX8_readItems 1 = .ok (.invokevirtual 191, 3) := by decide +kernel
theorem dX8_readItems_4 : decode cX8_readItems 4 = .ok (.sipush (-1006), 3) := by decide +kernel
theorem dX8_readItems_7 : decode cX8_readItems 7 = .ok (.if_icmp .eq 7, 3) := by decide +kernel
theorem dX8_readItems_10 : decode cX8_readItems 10 = .ok (.sipush (-1005), 3) := by decide +kernel
theorem dX8_readItems_13 : decode cX8_readItems 13 = .ok (.ireturn, 1) := by decide +kernel
theorem dX8_readItems_14 : decode cX8_readItems 14 = .ok (.aload_n 0, 1) := by decide +kernel
theorem dX8_readItems_15 : decode cX8_readItems 15 = .ok (.invokevirtual 102, 3) := by decide +kernel
theorem dX8_readItems_18 : decode cX8_readItems 18 = .ok (.iconst 0, 1) := by decide +kernel
theorem dX8_readItems_19 : decode cX8_readItems 19 = .ok (.istore_n 1, 1) := by decide +kernel
theorem dX8_readItems_20 : decode cX8_readItems 20 = .ok (.aload_n 0, 1) := by decide +kernel
theorem dX8_readItems_21 : decode cX8_readItems 21 = .ok (.iconst 0, 1) := by decide +kernel
theorem dX8_readItems_22 : decode cX8_readItems 22 = .ok (.putfield 154, 3) := by decide +kernel
theorem dX8_readItems_25 : decode cX8_readItems 25 = .ok (.iconst 1, 1) := by decide +kernel
theorem dX8_readItems_26 : decode cX8_readItems 26 = .ok (.istore_n 2, 1) := by decide +kernel
theorem dX8_readItems_27 : decode cX8_readItems 27 = .ok (.iload_n 2, 1) := by decide +kernel
theorem dX8_readItems_28 : decode cX8_readItems 28 = .ok (.ifCond .eq 46, 3) := by decide +kernel
theorem dX8_readItems_31 : decode cX8_readItems 31 = .ok (.aload_n 0, 1) := by decide +kernel
theorem dX8_readItems_32 : decode cX8_readItems 32 = .ok (.getfield 154, 3) := by decide +kernel
theorem dX8_readItems_35 : decode cX8_readItems 35 = .ok (.aload_n 0, 1) := by decide +kernel
theorem dX8_readItems_36 : decode cX8_readItems 36 = .ok (.getfield 151, 3) := by decide +kernel
theorem dX8_readItems_39 : decode cX8_readItems 39 = .ok (.if_icmp .ge 35, 3) := by decide +kernel
theorem dX8_readItems_42 : decode cX8_readItems 42 = .ok (.aload_n 0, 1) := by decide +kernel
theorem dX8_readItems_43 : decode cX8_readItems 43 = .ok (.invokevirtual 187, 3) := by decide +kernel
theorem dX8_readItems_46 : decode cX8_readItems 46 = .ok (.pop, 1) := by decide +kernel
theorem dX8_readItems_47 : decode cX8_readItems 47 = .ok (.aload_n 0, 1) := by decide +kernel
theorem dX8_readItems_48 : decode cX8_readItems 48 = .ok (.bipush 59, 2) := by decide +kernel
theorem dX8_readItems_50 : decode cX8_readItems 50 = .ok (.invokevirtual 175, 3) := by decide +kernel
theorem dX8_readItems_53 : decode cX8_readItems 53 = .ok (.pop, 1) := by decide +kernel
theorem dX8_readItems_54 : decode cX8_readItems 54 = .ok (.aload_n 0, 1) := by decide +kernel
theorem dX8_readItems_55 : decode cX8_readItems 55 = .ok (.invokevirtual 194, 3) := by decide +kernel
theorem dX8_readItems_58 : decode cX8_readItems 58 = .ok (.istore_n 2, 1) := by decide +kernel
theorem dX8_readItems_59 : decode cX8_readItems 59 = .ok (.iload_n 1, 1) := by decide +kernel
theorem dX8_readItems_60 : decode cX8_readItems 60 = .ok (.iload_n 2, 1) := by decide +kernel
theorem dX8_readItems_61 : decode cX8_readItems 61 = .ok (.ifCond .eq 7, 3) := by decide +kernel
theorem dX8_readItems_64 : decode cX8_readItems 64 = .ok (.iconst 1, 1) := by decide +kernel
theorem dX8_readItems_65 : decode cX8_readItems 65 = .ok (.goto 4, 3) := by decide +kernel
theorem dX8_readItems_68 : decode cX8_readItems 68 = .ok (.iconst 0, 1) := by decide +kernel
theorem dX8_readItems_69 : decode cX8_readItems 69 = .ok (.iadd, 1) := by decide +kernel
theorem dX8_readItems_70 : decode cX8_readItems 70 = .ok (.istore_n 1, 1) := by decide +kernel
theorem dX8_readItems_71 : decode cX8_readItems 71 = .ok (.goto (-44), 3) := by decide +kernel
theorem dX8_readItems_74 : decode cX8_readItems 74 = .ok (.aload_n 0, 1) := by decide +kernel
theorem dX8_readItems_75 : decode cX8_readItems 75 = .ok (.iconst 0, 1) := by decide +kernel
theorem dX8_readItems_76 : decode cX8_readItems 76 = .ok (.putfield 151, 3) := by decide +kernel
theorem dX8_readItems_79 : decode cX8_readItems 79 = .ok (.iload_n 1, 1) := by decide +kernel
theorem dX8_readItems_80 : decode cX8_readItems 80 = .ok (.ireturn, 1) := by decide +kernel
theorem dX8_undo_0 : decode cX8_undo 0 = .ok (.aload_n 0, 1) := by decide +kernel
theorem dX8_undo_1 : decode cX8_undo 1 = .ok (.getfield 31, 3) := by decide +kernel
theorem dX8_undo_4 : decode cX8_undo 4 = .ok (.ifCond .ne 7, 3) := by decide +kernel
theorem dX8_undo_7 : decode cX8_undo 7 = .ok (.sipush (-1003), 3) := by decide +kernel
theorem dX8_undo_10 : decode cX8_undo 10 = .ok (.ireturn, 1) := by decide +kernel
theorem dX8_undo_11 : decode cX8_undo 11 = .ok (.aload_n 0, 1) := by decide +kernel
theorem dX8_undo_12 : decode cX8_undo 12 = .ok (.dup, 1) := by decide +kernel
theorem dX8_undo_13 : decode cX8_undo 13 = .ok (.getfield 31, 3) := by decide +kernel
theorem dX8_undo_16 : decode cX8_undo 16 = .ok (.iconst 1, 1) := by decide +kernel
theorem dX8_undo_17 : decode cX8_undo 17 = .ok (.isub, 1) := by decide +kernel
theorem dX8_undo_18 : decode cX8_undo 18 = .ok (.putfield 31, 3) := by decide +kernel
theorem dX8_undo_21 : decode cX8_undo 21 = .ok (.aload_n 0, 1) := by decide +kernel
theorem dX8_undo_22 : decode cX8_undo 22 = .ok (.getfield 16, 3) := by decide +kernel
theorem dX8_undo_25 : decode cX8_undo 25 = .ok (.aload_n 0, 1) := by decide +kernel
theorem dX8_undo_26 : decode cX8_undo 26 = .ok (.getfield 31, 3) := by decide +kernel
theorem dX8_undo_29 : decode cX8_undo 29 = .ok (.bipush 80, 2) := by decide +kernel
theorem dX8_undo_31 : decode cX8_undo 31 = .ok (.imul, 1) := by decide +kernel
theorem dX8_undo_32 : decode cX8_undo 32 = .ok (.aload_n 0, 1) := by decide +kernel
theorem dX8_undo_33 : decode cX8_undo 33 = .ok (.getfield 7, 3) := by decide +kernel
theorem dX8_undo_36 : decode cX8_undo 36 = .ok (.iconst 0, 1) := by decide +kernel
theorem dX8_undo_37 : decode cX8_undo 37 = .ok (.invokestatic 35, 3) := by decide +kernel
theorem dX8_undo_40 : decode cX8_undo 40 = .ok (.aload_n 0, 1) := by decide +kernel
theorem dX8_undo_41 : decode cX8_undo 41 = .ok (.getfield 31, 3) := by decide +kernel
theorem dX8_undo_44 : decode cX8_undo 44 = .ok (.ireturn, 1) := by decide +kernel
theorem dX8_digest_0 : decode cX8_digest 0 = .ok (.ldc2_w 197, 3) := by decide +kernel
theorem dX8_digest_3 : decode cX8_digest 3 = .ok (.lstore_n 1, 1) := by decide +kernel
theorem dX8_digest_4 : decode cX8_digest 4 = .ok (.iconst 0, 1) := by decide +kernel
theorem dX8_digest_5 : decode cX8_digest 5 = .ok (.istore_n 3, 1) := by decide +kernel
theorem dX8_digest_6 : decode cX8_digest 6 = .ok (.iload_n 3, 1) := by decide +kernel
theorem dX8_digest_7 : decode cX8_digest 7 = .ok (.bipush 7, 2) := by decide +kernel
theorem dX8_digest_9 : decode cX8_digest 9 = .ok (.if_icmp .gt 23, 3) := by decide +kernel
theorem dX8_digest_12 : decode cX8_digest 12 = .ok (.ldc2_w 199, 3) := by decide +kernel
theorem dX8_digest_15 : decode cX8_digest 15 = .ok (.lload_n 1, 1) := by decide +kernel
theorem dX8_digest_16 : decode cX8_digest 16 = .ok (.lmul, 1) := by decide +kernel
theorem dX8_digest_17 : decode cX8_digest 17 = .ok (.aload_n 0, 1) := by decide +kernel
theorem dX8_digest_18 : decode cX8_digest 18 = .ok (.getfield 7, 3) := by decide +kernel
theorem dX8_digest_21 : decode cX8_digest 21 = .ok (.iload_n 3, 1) := by decide +kernel
theorem dX8_digest_22 : decode cX8_digest 22 = .ok (.iaload, 1) := by decide +kernel
theorem dX8_digest_23 : decode cX8_digest 23 = .ok (.i2l, 1) := by decide +kernel
theorem dX8_digest_24 : decode cX8_digest 24 = .ok (.ladd, 1) := by decide +kernel
theorem dX8_digest_25 : decode cX8_digest 25 = .ok (.lstore_n 1, 1) := by decide +kernel
theorem dX8_digest_26 : decode cX8_digest 26 = .ok (.iinc 3 1, 3) := by decide +kernel
theorem dX8_digest_29 : decode cX8_digest 29 = .ok (.goto (-23), 3) := by decide +kernel
theorem dX8_digest_32 : decode cX8_digest 32 = .ok (.iconst 0, 1) := by decide +kernel
theorem dX8_digest_33 : decode cX8_digest 33 = .ok (.istore_n 3, 1) := by decide +kernel
theorem dX8_digest_34 : decode cX8_digest 34 = .ok (.iload_n 3, 1) := by decide +kernel
theorem dX8_digest_35 : decode cX8_digest 35 = .ok (.aload_n 0, 1) := by decide +kernel
theorem dX8_digest_36 : decode cX8_digest 36 = .ok (.getfield 7, 3) := by decide +kernel
theorem dX8_digest_39 : decode cX8_digest 39 = .ok (.iconst 0, 1) := by decide +kernel
theorem dX8_digest_40 : decode cX8_digest 40 = .ok (.iaload, 1) := by decide +kernel
theorem dX8_digest_41 : decode cX8_digest 41 = .ok (.if_icmp .ge 39, 3) := by decide +kernel
theorem dX8_digest_44 : decode cX8_digest 44 = .ok (.iconst 0, 1) := by decide +kernel
theorem dX8_digest_45 : decode cX8_digest 45 = .ok (.istore 4, 2) := by decide +kernel
theorem dX8_digest_47 : decode cX8_digest 47 = .ok (.iload 4, 2) := by decide +kernel
theorem dX8_digest_49 : decode cX8_digest 49 = .ok (.iconst 5, 1) := by decide +kernel
theorem dX8_digest_50 : decode cX8_digest 50 = .ok (.if_icmp .gt 24, 3) := by decide +kernel
theorem dX8_digest_53 : decode cX8_digest 53 = .ok (.ldc2_w 199, 3) := by decide +kernel
theorem dX8_digest_56 : decode cX8_digest 56 = .ok (.lload_n 1, 1) := by decide +kernel
theorem dX8_digest_57 : decode cX8_digest 57 = .ok (.lmul, 1) := by decide +kernel
theorem dX8_digest_58 : decode cX8_digest 58 = .ok (.aload_n 0, 1) := by decide +kernel
theorem dX8_digest_59 : decode cX8_digest 59 = .ok (.iload_n 3, 1) := by decide +kernel
theorem dX8_digest_60 : decode cX8_digest 60 = .ok (.iload 4, 2) := by decide +kernel
theorem dX8_digest_62 : decode cX8_digest 62 = .ok (.invokevirtual 129, 3) := by decide +kernel
theorem dX8_digest_65 : decode cX8_digest 65 = .ok (.i2l, 1) := by decide +kernel
theorem dX8_digest_66 : decode cX8_digest 66 = .ok (.ladd, 1) := by decide +kernel
theorem dX8_digest_67 : decode cX8_digest 67 = .ok (.lstore_n 1, 1) := by decide +kernel
theorem dX8_digest_68 : decode cX8_digest 68 = .ok (.iinc 4 1, 3) := by decide +kernel
theorem dX8_digest_71 : decode cX8_digest 71 = .ok (.goto (-24), 3) := by decide +kernel
theorem dX8_digest_74 : decode cX8_digest 74 = .ok (.iinc 3 1, 3) := by decide +kernel
theorem dX8_digest_77 : decode cX8_digest 77 = .ok (.goto (-43), 3) := by decide +kernel
theorem dX8_digest_80 : decode cX8_digest 80 = .ok (.iconst 0, 1) := by decide +kernel
theorem dX8_digest_81 : decode cX8_digest 81 = .ok (.istore_n 3, 1) := by decide +kernel
theorem dX8_digest_82 : decode cX8_digest 82 = .ok (.iload_n 3, 1) := by decide +kernel
theorem dX8_digest_83 : decode cX8_digest 83 = .ok (.aload_n 0, 1) := by decide +kernel
theorem dX8_digest_84 : decode cX8_digest 84 = .ok (.getfield 7, 3) := by decide +kernel
theorem dX8_digest_87 : decode cX8_digest 87 = .ok (.iconst 1, 1) := by decide +kernel
theorem dX8_digest_88 : decode cX8_digest 88 = .ok (.iaload, 1) := by decide +kernel
theorem dX8_digest_89 : decode cX8_digest 89 = .ok (.if_icmp .ge 39, 3) := by decide +kernel
theorem dX8_digest_92 : decode cX8_digest 92 = .ok (.iconst 0, 1) := by decide +kernel
theorem dX8_digest_93 : decode cX8_digest 93 = .ok (.istore 4, 2) := by decide +kernel
theorem dX8_digest_95 : decode cX8_digest 95 = .ok (.iload 4, 2) := by decide +kernel
theorem dX8_digest_97 : decode cX8_digest 97 = .ok (.iconst 4, 1) := by decide +kernel
theorem dX8_digest_98 : decode cX8_digest 98 = .ok (.if_icmp .gt 24, 3) := by decide +kernel
theorem dX8_digest_101 : decode cX8_digest 101 = .ok (.ldc2_w 199, 3) := by decide +kernel
theorem dX8_digest_104 : decode cX8_digest 104 = .ok (.lload_n 1, 1) := by decide +kernel
theorem dX8_digest_105 : decode cX8_digest 105 = .ok (.lmul, 1) := by decide +kernel
theorem dX8_digest_106 : decode cX8_digest 106 = .ok (.aload_n 0, 1) := by decide +kernel
theorem dX8_digest_107 : decode cX8_digest 107 = .ok (.iload_n 3, 1) := by decide +kernel
theorem dX8_digest_108 : decode cX8_digest 108 = .ok (.iload 4, 2) := by decide +kernel
theorem dX8_digest_110 : decode cX8_digest 110 = .ok (.invokevirtual 138, 3) := by decide +kernel
theorem dX8_digest_113 : decode cX8_digest 113 = .ok (.i2l, 1) := by decide +kernel
theorem dX8_digest_114 : decode cX8_digest 114 = .ok (.ladd, 1) := by decide +kernel
theorem dX8_digest_115 : decode cX8_digest 115 = .ok (.lstore_n 1, 1) := by decide +kernel
theorem dX8_digest_116 : decode cX8_digest 116 = .ok (.iinc 4 1, 3) := by decide +kernel
theorem dX8_digest_119 : decode cX8_digest 119 = .ok (.goto (-24), 3) := by decide +kernel
theorem dX8_digest_122 : decode cX8_digest 122 = .ok (.iinc 3 1, 3) := by decide +kernel
theorem dX8_digest_125 : decode cX8_digest 125 = .ok (.goto (-43), 3) := by decide +kernel
theorem dX8_digest_128 : decode cX8_digest 128 = .ok (.iconst 0, 1) := by decide +kernel
theorem dX8_digest_129 : decode cX8_digest 129 = .ok (.istore_n 3, 1) := by decide +kernel
theorem dX8_digest_130 : decode cX8_digest 130 = .ok (.iload_n 3, 1) := by decide +kernel
theorem dX8_digest_131 : decode cX8_digest 131 = .ok (.iconst 3, 1) := by decide +kernel
theorem dX8_digest_132 : decode cX8_digest 132 = .ok (.if_icmp .ge 22, 3) := by decide +kernel
theorem dX8_digest_135 : decode cX8_digest 135 = .ok (.ldc2_w 199, 3) := by decide +kernel
theorem dX8_digest_138 : decode cX8_digest 138 = .ok (.lload_n 1, 1) := by decide +kernel
theorem dX8_digest_139 : decode cX8_digest 139 = .ok (.lmul, 1) := by decide +kernel
theorem dX8_digest_140 : decode cX8_digest 140 = .ok (.aload_n 0, 1) := by decide +kernel
theorem dX8_digest_141 : decode cX8_digest 141 = .ok (.iload_n 3, 1) := by decide +kernel
theorem dX8_digest_142 : decode cX8_digest 142 = .ok (.invokevirtual 141, 3) := by decide +kernel
theorem dX8_digest_145 : decode cX8_digest 145 = .ok (.i2l, 1) := by decide +kernel
theorem dX8_digest_146 : decode cX8_digest 146 = .ok (.ladd, 1) := by decide +kernel
theorem dX8_digest_147 : decode cX8_digest 147 = .ok (.lstore_n 1, 1) := by decide +kernel
theorem dX8_digest_148 : decode cX8_digest 148 = .ok (.iinc 3 1, 3) := by decide +kernel
theorem dX8_digest_151 : decode cX8_digest 151 = .ok (.goto (-21), 3) := by decide +kernel
theorem dX8_digest_154 : decode cX8_digest 154 = .ok (.ldc2_w 199, 3) := by decide +kernel
theorem dX8_digest_157 : decode cX8_digest 157 = .ok (.lload_n 1, 1) := by decide +kernel
theorem dX8_digest_158 : decode cX8_digest 158 = .ok (.lmul, 1) := by decide +kernel
theorem dX8_digest_159 : decode cX8_digest 159 = .ok (.aload_n 0, 1) := by decide +kernel
theorem dX8_digest_160 : decode cX8_digest 160 = .ok (.invokevirtual 144, 3) := by decide +kernel
theorem dX8_digest_163 : decode cX8_digest 163 = .ok (.i2l, 1) := by decide +kernel
theorem dX8_digest_164 : decode cX8_digest 164 = .ok (.ladd, 1) := by decide +kernel
theorem dX8_digest_165 : decode cX8_digest 165 = .ok (.lstore_n 1, 1) := by decide +kernel
theorem dX8_digest_166 : decode cX8_digest 166 = .ok (.iconst 0, 1) := by decide +kernel
theorem dX8_digest_167 : decode cX8_digest 167 = .ok (.istore_n 3, 1) := by decide +kernel
theorem dX8_digest_168 : decode cX8_digest 168 = .ok (.iload_n 3, 1) := by decide +kernel
theorem dX8_digest_169 : decode cX8_digest 169 = .ok (.aload_n 0, 1) := by decide +kernel
theorem dX8_digest_170 : decode cX8_digest 170 = .ok (.getfield 7, 3) := by decide +kernel
theorem dX8_digest_173 : decode cX8_digest 173 = .ok (.iconst 0, 1) := by decide +kernel
theorem dX8_digest_174 : decode cX8_digest 174 = .ok (.iaload, 1) := by decide +kernel
theorem dX8_digest_175 : decode cX8_digest 175 = .ok (.if_icmp .ge 36, 3) := by decide +kernel
theorem dX8_digest_178 : decode cX8_digest 178 = .ok (.ldc2_w 199, 3) := by decide +kernel
theorem dX8_digest_181 : decode cX8_digest 181 = .ok (.lload_n 1, 1) := by decide +kernel
theorem dX8_digest_182 : decode cX8_digest 182 = .ok (.lmul, 1) := by decide +kernel
theorem dX8_digest_183 : decode cX8_digest 183 = .ok (.aload_n 0, 1) := by decide +kernel
theorem dX8_digest_184 : decode cX8_digest 184 = .ok (.iload_n 3, 1) := by decide +kernel
theorem dX8_digest_185 : decode cX8_digest 185 = .ok (.invokevirtual 56, 3) := by decide +kernel
theorem dX8_digest_188 : decode cX8_digest 188 = .ok (.ifCond .eq 11, 3) := by decide +kernel
theorem dX8_digest_191 : decode cX8_digest 191 = .ok (.aload_n 0, 1) := by decide +kernel
theorem dX8_digest_192 : decode cX8_digest 192 = .ok (.iload_n 3, 1) := by decide +kernel
theorem dX8_digest_193 : decode cX8_digest 193 = .ok (.invokevirtual 148, 3) := by decide +kernel
theorem dX8_digest_196 : decode cX8_digest 196 = .ok (.goto 6, 3) := by decide +kernel
theorem dX8_digest_199 : decode cX8_digest 199 = .ok (.sipush (-1003), 3) := by decide +kernel
theorem dX8_digest_202 : decode cX8_digest 202 = .ok (.i2l, 1) := by decide +kernel
theorem dX8_digest_203 : decode cX8_digest 203 = .ok (.ladd, 1) := by decide +kernel
theorem dX8_digest_204 : decode cX8_digest 204 = .ok (.lstore_n 1, 1) := by decide +kernel
theorem dX8_digest_205 : decode cX8_digest 205 = .ok (.iinc 3 1, 3) := by decide +kernel
theorem dX8_digest_208 : decode cX8_digest 208 = .ok (.goto (-40), 3) := by decide +kernel
theorem dX8_digest_211 : decode cX8_digest 211 = .ok (.lload_n 1, 1) := by decide +kernel
theorem dX8_digest_212 : decode cX8_digest 212 = .ok (.lreturn, 1) := by decide +kernel
theorem dJ6_bitCount_0f7a4_0 : decode cJ6_bitCount_0f7a4 0 = .ok (.iload_n 0, 1) := by decide +kernel
theorem dJ6_bitCount_0f7a4_1 : decode cJ6_bitCount_0f7a4 1 = .ok (.iload_n 0, 1) := by decide +kernel
theorem dJ6_bitCount_0f7a4_2 : decode cJ6_bitCount_0f7a4 2 = .ok (.iconst 1, 1) := by decide +kernel
theorem dJ6_bitCount_0f7a4_3 : decode cJ6_bitCount_0f7a4 3 = .ok (.iushr, 1) := by decide +kernel
theorem dJ6_bitCount_0f7a4_4 : decode cJ6_bitCount_0f7a4 4 = .ok (.ldc_w 265, 3) := by decide +kernel
theorem dJ6_bitCount_0f7a4_7 : decode cJ6_bitCount_0f7a4 7 = .ok (.iand, 1) := by decide +kernel
theorem dJ6_bitCount_0f7a4_8 : decode cJ6_bitCount_0f7a4 8 = .ok (.isub, 1) := by decide +kernel
theorem dJ6_bitCount_0f7a4_9 : decode cJ6_bitCount_0f7a4 9 = .ok (.istore_n 0, 1) := by decide +kernel
theorem dJ6_bitCount_0f7a4_10 : decode cJ6_bitCount_0f7a4 10 = .ok (.iload_n 0, 1) := by decide +kernel
theorem dJ6_bitCount_0f7a4_11 : decode cJ6_bitCount_0f7a4 11 = .ok (.ldc_w 266, 3) := by decide +kernel
theorem dJ6_bitCount_0f7a4_14 : decode cJ6_bitCount_0f7a4 14 = .ok (.iand, 1) := by decide +kernel
theorem dJ6_bitCount_0f7a4_15 : decode cJ6_bitCount_0f7a4 15 = .ok (.iload_n 0, 1) := by decide +kernel
theorem dJ6_bitCount_0f7a4_16 : decode cJ6_bitCount_0f7a4 16 = .ok (.iconst 2, 1) := by decide +kernel
theorem dJ6_bitCount_0f7a4_17 : decode cJ6_bitCount_0f7a4 17 = .ok (.iushr, 1) := by decide +kernel
theorem dJ6_bitCount_0f7a4_18 : decode cJ6_bitCount_0f7a4 18 = .ok (.ldc_w 266, 3) := by decide +kernel
theorem dJ6_bitCount_0f7a4_21 : decode cJ6_bitCount_0f7a4 21 = .ok (.iand, 1) := by decide +kernel
theorem dJ6_bitCount_0f7a4_22 : decode cJ6_bitCount_0f7a4 22 = .ok (.iadd, 1) := by decide +kernel
theorem dJ6_bitCount_0f7a4_23 : decode cJ6_bitCount_0f7a4 23 = .ok (.istore_n 0, 1) := by decide +kernel
theorem dJ6_bitCount_0f7a4_24 : decode cJ6_bitCount_0f7a4 24 = .ok (.iload_n 0, 1) := by decide +kernel
theorem dJ6_bitCount_0f7a4_25 : decode cJ6_bitCount_0f7a4 25 = .ok (.iload_n 0, 1) := by decide +kernel
theorem dJ6_bitCount_0f7a4_26 : decode cJ6_bitCount_0f7a4 26 = .ok (.iconst 4, 1) := by decide +kernel
theorem dJ6_bitCount_0f7a4_27 : decode cJ6_bitCount_0f7a4 27 = .ok (.iushr, 1) := by decide +kernel
theorem dJ6_bitCount_0f7a4_28 : decode cJ6_bitCount_0f7a4 28 = .ok (.iadd, 1) := by decide +kernel
theorem dJ6_bitCount_0f7a4_29 : decode cJ6_bitCount_0f7a4 29 = .ok (.ldc_w 267, 3) := by decide +kernel
theorem dJ6_bitCount_0f7a4_32 : decode cJ6_bitCount_0f7a4 32 = .ok (.iand, 1) := by decide +kernel
theorem dJ6_bitCount_0f7a4_33 : decode cJ6_bitCount_0f7a4 33 = .ok (.istore_n 0, 1) := by decide +kernel
theorem dJ6_bitCount_0f7a4_34 : decode cJ6_bitCount_0f7a4 34 = .ok (.iload_n 0, 1) := by decide +kernel
theorem dJ6_bitCount_0f7a4_35 : decode cJ6_bitCount_0f7a4 35 = .ok (.iload_n 0, 1) := by decide +kernel
theorem dJ6_bitCount_0f7a4_36 : decode cJ6_bitCount_0f7a4 36 = .ok (.bipush 8, 2) := by decide +kernel
theorem dJ6_bitCount_0f7a4_38 : decode cJ6_bitCount_0f7a4 38 = .ok (.iushr, 1) := by decide +kernel
theorem dJ6_bitCount_0f7a4_39 : decode cJ6_bitCount_0f7a4 39 = .ok (.iadd, 1) := by decide +kernel
theorem dJ6_bitCount_0f7a4_40 : decode cJ6_bitCount_0f7a4 40 = .ok (.istore_n 0, 1) := by decide +kernel
theorem dJ6_bitCount_0f7a4_41 : decode cJ6_bitCount_0f7a4 41 = .ok (.iload_n 0, 1) := by decide +kernel
theorem dJ6_bitCount_0f7a4_42 : decode cJ6_bitCount_0f7a4 42 = .ok (.iload_n 0, 1) := by decide +kernel
theorem dJ6_bitCount_0f7a4_43 : decode cJ6_bitCount_0f7a4 43 = .ok (.bipush 16, 2) := by decide +kernel
theorem dJ6_bitCount_0f7a4_45 : decode cJ6_bitCount_0f7a4 45 = .ok (.iushr, 1) := by decide +kernel
theorem dJ6_bitCount_0f7a4_46 : decode cJ6_bitCount_0f7a4 46 = .ok (.iadd, 1) := by decide +kernel
theorem dJ6_bitCount_0f7a4_47 : decode cJ6_bitCount_0f7a4 47 = .ok (.istore_n 0, 1) := by decide +kernel
theorem dJ6_bitCount_0f7a4_48 : decode cJ6_bitCount_0f7a4 48 = .ok (.iload_n 0, 1) := by decide +kernel
theorem dJ6_bitCount_0f7a4_49 : decode cJ6_bitCount_0f7a4 49 = .ok (.bipush 63, 2) := by decide +kernel
theorem dJ6_bitCount_0f7a4_51 : decode cJ6_bitCount_0f7a4 51 = .ok (.iand, 1) := by decide +kernel
theorem dJ6_bitCount_0f7a4_52 : decode cJ6_bitCount_0f7a4 52 = .ok (.ireturn, 1) := by decide +kernel
theorem dJ9_max_7cf53_0 : decode cJ9_max_7cf53 0 = .ok (.iload_n 0, 1) := by decide +kernel
theorem dJ9_max_7cf53_1 : decode cJ9_max_7cf53 1 = .ok (.iload_n 1, 1) := by decide +kernel
theorem dJ9_max_7cf53_2 : decode cJ9_max_7cf53 2 = .ok (.if_icmp .lt 7, 3) := by decide +kernel
theorem dJ9_max_7cf53_5 : decode cJ9_max_7cf53 5 = .ok (.iload_n 0, 1) := by decide +kernel
theorem dJ9_max_7cf53_6 : decode cJ9_max_7cf53 6 = .ok (.goto 4, 3) := by decide +kernel
theorem dJ9_max_7cf53_9 : decode cJ9_max_7cf53 9 = .ok (.iload_n 1, 1) := by decide +kernel
theorem dJ9_max_7cf53_10 : decode cJ9_max_7cf53 10 = .ok (.ireturn, 1) := by decide +kernel
theorem dJ9_min_7cf53_0 : decode cJ9_min_7cf53 0 = .ok (.iload_n 0, 1) := by decide +kernel
theorem dJ9_min_7cf53_1 : decode cJ9_min_7cf53 1 = .ok (.iload_n 1, 1) := by decide +kernel
theorem dJ9_min_7cf53_2 : decode cJ9_min_7cf53 2 = .ok (.if_icmp .gt 7, 3) := by decide +kernel
theorem dJ9_min_7cf53_5 : decode cJ9_min_7cf53 5 = .ok (.iload_n 0, 1) := by decide +kernel
theorem dJ9_min_7cf53_6 : decode cJ9_min_7cf53 6 = .ok (.goto 4, 3) := by decide +kernel
theorem dJ9_min_7cf53_9 : decode cJ9_min_7cf53 9 = .ok (.iload_n 1, 1) := by decide +kernel
theorem dJ9_min_7cf53_10 : decode cJ9_min_7cf53 10 = .ok (.ireturn, 1) := by decide +kernel
theorem dL_law_0 : decode cL_law 0 = .ok (.new 7, 3) := by decide +kernel
theorem dL_law_3 : decode cL_law 3 = .ok (.dup, 1) := by decide +kernel
theorem dL_law_4 : decode cL_law 4 = .ok (.invokespecial 9, 3) := by decide +kernel
theorem dL_law_7 : decode cL_law 7 = .ok (.astore_n 1, 1) := by decide +kernel
theorem dL_law_8 : decode cL_law 8 = .ok (.new 10, 3) := by decide +kernel
theorem dL_law_11 : decode cL_law 11 = .ok (.dup, 1) := by decide +kernel
theorem dL_law_12 : decode cL_law 12 = .ok (.invokespecial 12, 3) := by decide +kernel
theorem dL_law_15 : decode cL_law 15 = .ok (.astore_n 2, 1) := by decide +kernel
theorem dL_law_16 : decode cL_law 16 = .ok (.iconst 0, 1) := by decide +kernel
theorem dL_law_17 : decode cL_law 17 = .ok (.istore_n 3, 1) := by decide +kernel
theorem dL_law_18 : decode cL_law 18 = .ok (.iload_n 3, 1) := by decide +kernel
theorem dL_law_19 : decode cL_law 19 = .ok (.aload_n 0, 1) := by decide +kernel
theorem dL_law_20 : decode cL_law 20 = .ok (.arraylength, 1) := by decide +kernel
theorem dL_law_21 : decode cL_law 21 = .ok (.iconst 5, 1) := by decide +kernel
theorem dL_law_22 : decode cL_law 22 = .ok (.isub, 1) := by decide +kernel
theorem dL_law_23 : decode cL_law 23 = .ok (.if_icmp .gt 669, 3) := by decide +kernel
theorem dL_law_26 : decode cL_law 26 = .ok (.aload_n 0, 1) := by decide +kernel
theorem dL_law_27 : decode cL_law 27 = .ok (.iload_n 3, 1) := by decide +kernel
theorem dL_law_28 : decode cL_law 28 = .ok (.iaload, 1) := by decide +kernel
theorem dL_law_29 : decode cL_law 29 = .ok (.bipush 31, 2) := by decide +kernel
theorem dL_law_31 : decode cL_law 31 = .ok (.iand, 1) := by decide +kernel
theorem dL_law_32 : decode cL_law 32 = .ok (.tableswitch 654 0 20 #[100, 153, 196, 239, 252, 295, 308, 331, 364, 397, 430, 453, 466, 519, 542, 565, 588, 601, 614, 627, 640], 100) := by decide +kernel
theorem dL_law_132 : decode cL_law 132 = .ok (.aload_n 1, 1) := by decide +kernel
theorem dL_law_133 : decode cL_law 133 = .ok (.aload_n 0, 1) := by decide +kernel
theorem dL_law_134 : decode cL_law 134 = .ok (.iload_n 3, 1) := by decide +kernel
theorem dL_law_135 : decode cL_law 135 = .ok (.iconst 1, 1) := by decide +kernel
theorem dL_law_136 : decode cL_law 136 = .ok (.iadd, 1) := by decide +kernel
theorem dL_law_137 : decode cL_law 137 = .ok (.iaload, 1) := by decide +kernel
theorem dL_law_138 : decode cL_law 138 = .ok (.aload_n 0, 1) := by decide +kernel
theorem dL_law_139 : decode cL_law 139 = .ok (.iload_n 3, 1) := by decide +kernel
theorem dL_law_140 : decode cL_law 140 = .ok (.iconst 2, 1) := by decide +kernel
theorem dL_law_141 : decode cL_law 141 = .ok (.iadd, 1) := by decide +kernel
theorem dL_law_142 : decode cL_law 142 = .ok (.iaload, 1) := by decide +kernel
theorem dL_law_143 : decode cL_law 143 = .ok (.aload_n 0, 1) := by decide +kernel
theorem dL_law_144 : decode cL_law 144 = .ok (.iload_n 3, 1) := by decide +kernel
theorem dL_law_145 : decode cL_law 145 = .ok (.iconst 3, 1) := by decide +kernel
theorem dL_law_146 : decode cL_law 146 = .ok (.iadd, 1) := by decide +kernel
theorem dL_law_147 : decode cL_law 147 = .ok (.iaload, 1) := by decide +kernel
theorem dL_law_148 : decode cL_law 148 = .ok (.aload_n 0, 1) := by decide +kernel
theorem dL_law_149 : decode cL_law 149 = .ok (.iload_n 3, 1) := by decide +kernel
theorem dL_law_150 : decode cL_law 150 = .ok (.iconst 4, 1) := by decide +kernel
theorem dL_law_151 : decode cL_law 151 = .ok (.iadd, 1) := by decide +kernel
theorem dL_law_152 : decode cL_law 152 = .ok (.iaload, 1) := by decide +kernel
theorem dL_law_153 : decode cL_law 153 = .ok (.invokevirtual 13, 3) := by decide +kernel
theorem dL_law_156 : decode cL_law 156 = .ok (.aload_n 2, 1) := by decide +kernel
theorem dL_law_157 : decode cL_law 157 = .ok (.aload_n 0, 1) := by decide +kernel
theorem dL_law_158 : decode cL_law 158 = .ok (.iload_n 3, 1) := by decide +kernel
theorem dL_law_159 : decode cL_law 159 = .ok (.iconst 1, 1) := by decide +kernel
theorem dL_law_160 : decode cL_law 160 = .ok (.iadd, 1) := by decide +kernel
theorem dL_law_161 : decode cL_law 161 = .ok (.iaload, 1) := by decide +kernel
theorem dL_law_162 : decode cL_law 162 = .ok (.aload_n 0, 1) := by decide +kernel
theorem dL_law_163 : decode cL_law 163 = .ok (.iload_n 3, 1) := by decide +kernel
theorem dL_law_164 : decode cL_law 164 = .ok (.iconst 2, 1) := by decide +kernel
theorem dL_law_165 : decode cL_law 165 = .ok (.iadd, 1) := by decide +kernel
theorem dL_law_166 : decode cL_law 166 = .ok (.iaload, 1) := by decide +kernel
theorem dL_law_167 : decode cL_law 167 = .ok (.aload_n 0, 1) := by decide +kernel
theorem dL_law_168 : decode cL_law 168 = .ok (.iload_n 3, 1) := by decide +kernel
theorem dL_law_169 : decode cL_law 169 = .ok (.iconst 3, 1) := by decide +kernel
theorem dL_law_170 : decode cL_law 170 = .ok (.iadd, 1) := by decide +kernel
theorem dL_law_171 : decode cL_law 171 = .ok (.iaload, 1) := by decide +kernel
theorem dL_law_172 : decode cL_law 172 = .ok (.aload_n 0, 1) := by decide +kernel
theorem dL_law_173 : decode cL_law 173 = .ok (.iload_n 3, 1) := by decide +kernel
theorem dL_law_174 : decode cL_law 174 = .ok (.iconst 4, 1) := by decide +kernel
theorem dL_law_175 : decode cL_law 175 = .ok (.iadd, 1) := by decide +kernel
theorem dL_law_176 : decode cL_law 176 = .ok (.iaload, 1) := by decide +kernel
theorem dL_law_177 : decode cL_law 177 = .ok (.invokevirtual 17, 3) := by decide +kernel
theorem dL_law_180 : decode cL_law 180 = .ok (.if_icmp .eq 506, 3) := by decide +kernel
theorem dL_law_183 : decode cL_law 183 = .ok (.iconst 0, 1) := by decide +kernel
theorem dL_law_184 : decode cL_law 184 = .ok (.ireturn, 1) := by decide +kernel
theorem dL_law_185 : decode cL_law 185 = .ok (.aload_n 1, 1) := by decide +kernel
theorem dL_law_186 : decode cL_law 186 = .ok (.aload_n 0, 1) := by decide +kernel
theorem dL_law_187 : decode cL_law 187 = .ok (.iload_n 3, 1) := by decide +kernel
theorem dL_law_188 : decode cL_law 188 = .ok (.iconst 1, 1) := by decide +kernel
theorem dL_law_189 : decode cL_law 189 = .ok (.iadd, 1) := by decide +kernel
theorem dL_law_190 : decode cL_law 190 = .ok (.iaload, 1) := by decide +kernel
theorem dL_law_191 : decode cL_law 191 = .ok (.aload_n 0, 1) := by decide +kernel
theorem dL_law_192 : decode cL_law 192 = .ok (.iload_n 3, 1) := by decide +kernel
theorem dL_law_193 : decode cL_law 193 = .ok (.iconst 2, 1) := by decide +kernel
theorem dL_law_194 : decode cL_law 194 = .ok (.iadd, 1) := by decide +kernel
theorem dL_law_195 : decode cL_law 195 = .ok (.iaload, 1) := by decide +kernel
theorem dL_law_196 : decode cL_law 196 = .ok (.aload_n 0, 1) := by decide +kernel
theorem dL_law_197 : decode cL_law 197 = .ok (.iload_n 3, 1) := by decide +kernel
theorem dL_law_198 : decode cL_law 198 = .ok (.iconst 3, 1) := by decide +kernel
theorem dL_law_199 : decode cL_law 199 = .ok (.iadd, 1) := by decide +kernel
theorem dL_law_200 : decode cL_law 200 = .ok (.iaload, 1) := by decide +kernel
theorem dL_law_201 : decode cL_law 201 = .ok (.invokevirtual 18, 3) := by decide +kernel
theorem dL_law_204 : decode cL_law 204 = .ok (.aload_n 2, 1) := by decide +kernel
theorem dL_law_205 : decode cL_law 205 = .ok (.aload_n 0, 1) := by decide +kernel
theorem dL_law_206 : decode cL_law 206 = .ok (.iload_n 3, 1) := by decide +kernel
theorem dL_law_207 : decode cL_law 207 = .ok (.iconst 1, 1) := by decide +kernel
theorem dL_law_208 : decode cL_law 208 = .ok (.iadd, 1) := by decide +kernel
theorem dL_law_209 : decode cL_law 209 = .ok (.iaload, 1) := by decide +kernel
theorem dL_law_210 : decode cL_law 210 = .ok (.aload_n 0, 1) := by decide +kernel
theorem dL_law_211 : decode cL_law 211 = .ok (.iload_n 3, 1) := by decide +kernel
theorem dL_law_212 : decode cL_law 212 = .ok (.iconst 2, 1) := by decide +kernel
theorem dL_law_213 : decode cL_law 213 = .ok (.iadd, 1) := by decide +kernel
theorem dL_law_214 : decode cL_law 214 = .ok (.iaload, 1) := by decide +kernel
theorem dL_law_215 : decode cL_law 215 = .ok (.aload_n 0, 1) := by decide +kernel
theorem dL_law_216 : decode cL_law 216 = .ok (.iload_n 3, 1) := by decide +kernel
theorem dL_law_217 : decode cL_law 217 = .ok (.iconst 3, 1) := by decide +kernel
theorem dL_law_218 : decode cL_law 218 = .ok (.iadd, 1) := by decide +kernel
theorem dL_law_219 : decode cL_law 219 = .ok (.iaload, 1) := by decide +kernel
theorem dL_law_220 : decode cL_law 220 = .ok (.invokevirtual 22, 3) := by decide +kernel
theorem dL_law_223 : decode cL_law 223 = .ok (.if_icmp .eq 463, 3) := by decide +kernel
theorem dL_law_226 : decode cL_law 226 = .ok (.iconst 0, 1) := by decide +kernel
theorem dL_law_227 : decode cL_law 227 = .ok (.ireturn, 1) := by decide +kernel
theorem dL_law_228 : decode cL_law 228 = .ok (.aload_n 1, 1) := by decide +kernel
theorem dL_law_229 : decode cL_law 229 = .ok (.aload_n 0, 1) := by decide +kernel
theorem dL_law_230 : decode cL_law 230 = .ok (.iload_n 3, 1) := by decide +kernel
theorem dL_law_231 : decode cL_law 231 = .ok (.iconst 1, 1) := by decide +kernel
theorem dL_law_232 : decode cL_law 232 = .ok (.iadd, 1) := by decide +kernel
theorem dL_law_233 : decode cL_law 233 = .ok (.iaload, 1) := by decide +kernel
theorem dL_law_234 : decode cL_law 234 = .ok (.aload_n 0, 1) := by decide +kernel
theorem dL_law_235 : decode cL_law 235 = .ok (.iload_n 3, 1) := by decide +kernel
theorem dL_law_236 : decode cL_law 236 = .ok (.iconst 2, 1) := by decide +kernel
theorem dL_law_237 : decode cL_law 237 = .ok (.iadd, 1) := by decide +kernel
theorem dL_law_238 : decode cL_law 238 = .ok (.iaload, 1) := by decide +kernel
theorem dL_law_239 : decode cL_law 239 = .ok (.aload_n 0, 1) := by decide +kernel
theorem dL_law_240 : decode cL_law 240 = .ok (.iload_n 3, 1) := by decide +kernel
theorem dL_law_241 : decode cL_law 241 = .ok (.iconst 3, 1) := by decide +kernel
theorem dL_law_242 : decode cL_law 242 = .ok (.iadd, 1) := by decide +kernel
theorem dL_law_243 : decode cL_law 243 = .ok (.iaload, 1) := by decide +kernel
theorem dL_law_244 : decode cL_law 244 = .ok (.invokevirtual 23, 3) := by decide +kernel
theorem dL_law_247 : decode cL_law 247 = .ok (.aload_n 2, 1) := by decide +kernel
theorem dL_law_248 : decode cL_law 248 = .ok (.aload_n 0, 1) := by decide +kernel
theorem dL_law_249 : decode cL_law 249 = .ok (.iload_n 3, 1) := by decide +kernel
theorem dL_law_250 : decode cL_law 250 = .ok (.iconst 1, 1) := by decide +kernel
theorem dL_law_251 : decode cL_law 251 = .ok (.iadd, 1) := by decide +kernel
theorem dL_law_252 : decode cL_law 252 = .ok (.iaload, 1) := by decide +kernel
theorem dL_law_253 : decode cL_law 253 = .ok (.aload_n 0, 1) := by decide +kernel
theorem dL_law_254 : decode cL_law 254 = .ok (.iload_n 3, 1) := by decide +kernel
theorem dL_law_255 : decode cL_law 255 = .ok (.iconst 2, 1) := by decide +kernel
theorem dL_law_256 : decode cL_law 256 = .ok (.iadd, 1) := by decide +kernel
theorem dL_law_257 : decode cL_law 257 = .ok (.iaload, 1) := by decide +kernel
theorem dL_law_258 : decode cL_law 258 = .ok (.aload_n 0, 1) := by decide +kernel
theorem dL_law_259 : decode cL_law 259 = .ok (.iload_n 3, 1) := by decide +kernel
theorem dL_law_260 : decode cL_law 260 = .ok (.iconst 3, 1) := by decide +kernel
theorem dL_law_261 : decode cL_law 261 = .ok (.iadd, 1) := by decide +kernel
theorem dL_law_262 : decode cL_law 262 = .ok (.iaload, 1) := by decide +kernel
theorem dL_law_263 : decode cL_law 263 = .ok (.invokevirtual 26, 3) := by decide +kernel
theorem dL_law_266 : decode cL_law 266 = .ok (.if_icmp .eq 420, 3) := by decide +kernel
theorem dL_law_269 : decode cL_law 269 = .ok (.iconst 0, 1) := by decide +kernel
theorem dL_law_270 : decode cL_law 270 = .ok (.ireturn, 1) := by decide +kernel
theorem dL_law_271 : decode cL_law 271 = .ok (.aload_n 1, 1) := by decide +kernel
theorem dL_law_272 : decode cL_law 272 = .ok (.invokevirtual 27, 3) := by decide +kernel
theorem dL_law_275 : decode cL_law 275 = .ok (.aload_n 2, 1) := by decide +kernel
theorem dL_law_276 : decode cL_law 276 = .ok (.invokevirtual 31, 3) := by decide +kernel
theorem dL_law_279 : decode cL_law 279 = .ok (.if_icmp .eq 407, 3) := by decide +kernel
theorem dL_law_282 : decode cL_law 282 = .ok (.iconst 0, 1) := by decide +kernel
theorem dL_law_283 : decode cL_law 283 = .ok (.ireturn, 1) := by decide +kernel
theorem dL_law_284 : decode cL_law 284 = .ok (.aload_n 1, 1) := by decide +kernel
theorem dL_law_285 : decode cL_law 285 = .ok (.aload_n 0, 1) := by decide +kernel
theorem dL_law_286 : decode cL_law 286 = .ok (.iload_n 3, 1) := by decide +kernel
theorem dL_law_287 : decode cL_law 287 = .ok (.iconst 1, 1) := by decide +kernel
theorem dL_law_288 : decode cL_law 288 = .ok (.iadd, 1) := by decide +kernel
theorem dL_law_289 : decode cL_law 289 = .ok (.iaload, 1) := by decide +kernel
theorem dL_law_290 : decode cL_law 290 = .ok (.aload_n 0, 1) := by decide +kernel
theorem dL_law_291 : decode cL_law 291 = .ok (.iload_n 3, 1) := by decide +kernel
theorem dL_law_292 : decode cL_law 292 = .ok (.iconst 2, 1) := by decide +kernel
theorem dL_law_293 : decode cL_law 293 = .ok (.iadd, 1) := by decide +kernel
theorem dL_law_294 : decode cL_law 294 = .ok (.iaload, 1) := by decide +kernel
theorem dL_law_295 : decode cL_law 295 = .ok (.aload_n 0, 1) := by decide +kernel
theorem dL_law_296 : decode cL_law 296 = .ok (.iload_n 3, 1) := by decide +kernel
theorem dL_law_297 : decode cL_law 297 = .ok (.iconst 3, 1) := by decide +kernel
theorem dL_law_298 : decode cL_law 298 = .ok (.iadd, 1) := by decide +kernel
theorem dL_law_299 : decode cL_law 299 = .ok (.iaload, 1) := by decide +kernel
theorem dL_law_300 : decode cL_law 300 = .ok (.invokevirtual 32, 3) := by decide +kernel
theorem dL_law_303 : decode cL_law 303 = .ok (.aload_n 2, 1) := by decide +kernel
theorem dL_law_304 : decode cL_law 304 = .ok (.aload_n 0, 1) := by decide +kernel
theorem dL_law_305 : decode cL_law 305 = .ok (.iload_n 3, 1) := by decide +kernel
theorem dL_law_306 : decode cL_law 306 = .ok (.iconst 1, 1) := by decide +kernel
theorem dL_law_307 : decode cL_law 307 = .ok (.iadd, 1) := by decide +kernel
theorem dL_law_308 : decode cL_law 308 = .ok (.iaload, 1) := by decide +kernel
theorem dL_law_309 : decode cL_law 309 = .ok (.aload_n 0, 1) := by decide +kernel
theorem dL_law_310 : decode cL_law 310 = .ok (.iload_n 3, 1) := by decide +kernel
theorem dL_law_311 : decode cL_law 311 = .ok (.iconst 2, 1) := by decide +kernel
theorem dL_law_312 : decode cL_law 312 = .ok (.iadd, 1) := by decide +kernel
theorem dL_law_313 : decode cL_law 313 = .ok (.iaload, 1) := by decide +kernel
theorem dL_law_314 : decode cL_law 314 = .ok (.aload_n 0, 1) := by decide +kernel
theorem dL_law_315 : decode cL_law 315 = .ok (.iload_n 3, 1) := by decide +kernel
theorem dL_law_316 : decode cL_law 316 = .ok (.iconst 3, 1) := by decide +kernel
theorem dL_law_317 : decode cL_law 317 = .ok (.iadd, 1) := by decide +kernel
theorem dL_law_318 : decode cL_law 318 = .ok (.iaload, 1) := by decide +kernel
theorem dL_law_319 : decode cL_law 319 = .ok (.invokevirtual 35, 3) := by decide +kernel
theorem dL_law_322 : decode cL_law 322 = .ok (.if_icmp .eq 364, 3) := by decide +kernel
theorem dL_law_325 : decode cL_law 325 = .ok (.iconst 0, 1) := by decide +kernel
theorem dL_law_326 : decode cL_law 326 = .ok (.ireturn, 1) := by decide +kernel
theorem dL_law_327 : decode cL_law 327 = .ok (.aload_n 1, 1) := by decide +kernel
theorem dL_law_328 : decode cL_law 328 = .ok (.invokevirtual 36, 3) := by decide +kernel
theorem dL_law_331 : decode cL_law 331 = .ok (.aload_n 2, 1) := by decide +kernel
theorem dL_law_332 : decode cL_law 332 = .ok (.invokevirtual 39, 3) := by decide +kernel
theorem dL_law_335 : decode cL_law 335 = .ok (.if_icmp .eq 351, 3) := by decide +kernel
theorem dL_law_338 : decode cL_law 338 = .ok (.iconst 0, 1) := by decide +kernel
theorem dL_law_339 : decode cL_law 339 = .ok (.ireturn, 1) := by decide +kernel
theorem dL_law_340 : decode cL_law 340 = .ok (.aload_n 1, 1) := by decide +kernel
theorem dL_law_341 : decode cL_law 341 = .ok (.aload_n 0, 1) := by decide +kernel
theorem dL_law_342 : decode cL_law 342 = .ok (.iload_n 3, 1) := by decide +kernel
theorem dL_law_343 : decode cL_law 343 = .ok (.iconst 1, 1) := by decide +kernel
theorem dL_law_344 : decode cL_law 344 = .ok (.iadd, 1) := by decide +kernel
theorem dL_law_345 : decode cL_law 345 = .ok (.iaload, 1) := by decide +kernel
theorem dL_law_346 : decode cL_law 346 = .ok (.invokevirtual 40, 3) := by decide +kernel
theorem dL_law_349 : decode cL_law 349 = .ok (.aload_n 2, 1) := by decide +kernel
theorem dL_law_350 : decode cL_law 350 = .ok (.aload_n 0, 1) := by decide +kernel
theorem dL_law_351 : decode cL_law 351 = .ok (.iload_n 3, 1) := by decide +kernel
theorem dL_law_352 : decode cL_law 352 = .ok (.iconst 1, 1) := by decide +kernel
theorem dL_law_353 : decode cL_law 353 = .ok (.iadd, 1) := by decide +kernel
theorem dL_law_354 : decode cL_law 354 = .ok (.iaload, 1) := by decide +kernel
theorem dL_law_355 : decode cL_law 355 = .ok (.invokevirtual 44, 3) := by decide +kernel
theorem dL_law_358 : decode cL_law 358 = .ok (.if_icmp .eq 328, 3) := by decide +kernel
theorem dL_law_361 : decode cL_law 361 = .ok (.iconst 0, 1) := by decide +kernel
theorem dL_law_362 : decode cL_law 362 = .ok (.ireturn, 1) := by decide +kernel
theorem dL_law_363 : decode cL_law 363 = .ok (.aload_n 1, 1) := by decide +kernel
theorem dL_law_364 : decode cL_law 364 = .ok (.aload_n 0, 1) := by decide +kernel
theorem dL_law_365 : decode cL_law 365 = .ok (.iload_n 3, 1) := by decide +kernel
theorem dL_law_366 : decode cL_law 366 = .ok (.iconst 1, 1) := by decide +kernel
theorem dL_law_367 : decode cL_law 367 = .ok (.iadd, 1) := by decide +kernel
theorem dL_law_368 : decode cL_law 368 = .ok (.iaload, 1) := by decide +kernel
theorem dL_law_369 : decode cL_law 369 = .ok (.aload_n 0, 1) := by decide +kernel
theorem dL_law_370 : decode cL_law 370 = .ok (.iload_n 3, 1) := by decide +kernel
theorem dL_law_371 : decode cL_law 371 = .ok (.iconst 2, 1) := by decide +kernel
theorem dL_law_372 : decode cL_law 372 = .ok (.iadd, 1) := by decide +kernel
theorem dL_law_373 : decode cL_law 373 = .ok (.iaload, 1) := by decide +kernel
theorem dL_law_374 : decode cL_law 374 = .ok (.invokevirtual 45, 3) := by decide +kernel
theorem dL_law_377 : decode cL_law 377 = .ok (.aload_n 2, 1) := by decide +kernel
theorem dL_law_378 : decode cL_law 378 = .ok (.aload_n 0, 1) := by decide +kernel
theorem dL_law_379 : decode cL_law 379 = .ok (.iload_n 3, 1) := by decide +kernel
theorem dL_law_380 : decode cL_law 380 = .ok (.iconst 1, 1) := by decide +kernel
theorem dL_law_381 : decode cL_law 381 = .ok (.iadd, 1) := by decide +kernel
theorem dL_law_382 : decode cL_law 382 = .ok (.iaload, 1) := by decide +kernel
theorem dL_law_383 : decode cL_law 383 = .ok (.aload_n 0, 1) := by decide +kernel
theorem dL_law_384 : decode cL_law 384 = .ok (.iload_n 3, 1) := by decide +kernel
theorem dL_law_385 : decode cL_law 385 = .ok (.iconst 2, 1) := by decide +kernel
theorem dL_law_386 : decode cL_law 386 = .ok (.iadd, 1) := by decide +kernel
theorem dL_law_387 : decode cL_law 387 = .ok (.iaload, 1) := by decide +kernel
theorem dL_law_388 : decode cL_law 388 = .ok (.invokevirtual 49, 3) := by decide +kernel
theorem dL_law_391 : decode cL_law 391 = .ok (.if_icmp .eq 295, 3) := by decide +kernel
theorem dL_law_394 : decode cL_law 394 = .ok (.iconst 0, 1) := by decide +kernel
theorem dL_law_395 : decode cL_law 395 = .ok (.ireturn, 1) := by decide +kernel
theorem dL_law_396 : decode cL_law 396 = .ok (.aload_n 1, 1) := by decide +kernel
theorem dL_law_397 : decode cL_law 397 = .ok (.aload_n 0, 1) := by decide +kernel
theorem dL_law_398 : decode cL_law 398 = .ok (.iload_n 3, 1) := by decide +kernel
theorem dL_law_399 : decode cL_law 399 = .ok (.iconst 1, 1) := by decide +kernel
theorem dL_law_400 : decode cL_law 400 = .ok (.iadd, 1) := by decide +kernel
theorem dL_law_401 : decode cL_law 401 = .ok (.iaload, 1) := by decide +kernel
theorem dL_law_402 : decode cL_law 402 = .ok (.aload_n 0, 1) := by decide +kernel
theorem dL_law_403 : decode cL_law 403 = .ok (.iload_n 3, 1) := by decide +kernel
theorem dL_law_404 : decode cL_law 404 = .ok (.iconst 2, 1) := by decide +kernel
theorem dL_law_405 : decode cL_law 405 = .ok (.iadd, 1) := by decide +kernel
theorem dL_law_406 : decode cL_law 406 = .ok (.iaload, 1) := by decide +kernel
theorem dL_law_407 : decode cL_law 407 = .ok (.invokevirtual 50, 3) := by decide +kernel
theorem dL_law_410 : decode cL_law 410 = .ok (.aload_n 2, 1) := by decide +kernel
theorem dL_law_411 : decode cL_law 411 = .ok (.aload_n 0, 1) := by decide +kernel
theorem dL_law_412 : decode cL_law 412 = .ok (.iload_n 3, 1) := by decide +kernel
theorem dL_law_413 : decode cL_law 413 = .ok (.iconst 1, 1) := by decide +kernel
theorem dL_law_414 : decode cL_law 414 = .ok (.iadd, 1) := by decide +kernel
theorem dL_law_415 : decode cL_law 415 = .ok (.iaload, 1) := by decide +kernel
theorem dL_law_416 : decode cL_law 416 = .ok (.aload_n 0, 1) := by decide +kernel
theorem dL_law_417 : decode cL_law 417 = .ok (.iload_n 3, 1) := by decide +kernel
theorem dL_law_418 : decode cL_law 418 = .ok (.iconst 2, 1) := by decide +kernel
theorem dL_law_419 : decode cL_law 419 = .ok (.iadd, 1) := by decide +kernel
theorem dL_law_420 : decode cL_law 420 = .ok (.iaload, 1) := by decide +kernel
theorem dL_law_421 : decode cL_law 421 = .ok (.invokevirtual 53, 3) := by decide +kernel
theorem dL_law_424 : decode cL_law 424 = .ok (.if_icmp .eq 262, 3) := by decide +kernel
theorem dL_law_427 : decode cL_law 427 = .ok (.iconst 0, 1) := by decide +kernel
theorem dL_law_428 : decode cL_law 428 = .ok (.ireturn, 1) := by decide +kernel
theorem dL_law_429 : decode cL_law 429 = .ok (.aload_n 1, 1) := by decide +kernel
theorem dL_law_430 : decode cL_law 430 = .ok (.aload_n 0, 1) := by decide +kernel
theorem dL_law_431 : decode cL_law 431 = .ok (.iload_n 3, 1) := by decide +kernel
theorem dL_law_432 : decode cL_law 432 = .ok (.iconst 1, 1) := by decide +kernel
theorem dL_law_433 : decode cL_law 433 = .ok (.iadd, 1) := by decide +kernel
theorem dL_law_434 : decode cL_law 434 = .ok (.iaload, 1) := by decide +kernel
theorem dL_law_435 : decode cL_law 435 = .ok (.aload_n 0, 1) := by decide +kernel
theorem dL_law_436 : decode cL_law 436 = .ok (.iload_n 3, 1) := by decide +kernel
theorem dL_law_437 : decode cL_law 437 = .ok (.iconst 2, 1) := by decide +kernel
theorem dL_law_438 : decode cL_law 438 = .ok (.iadd, 1) := by decide +kernel
theorem dL_law_439 : decode cL_law 439 = .ok (.iaload, 1) := by decide +kernel
theorem dL_law_440 : decode cL_law 440 = .ok (.invokevirtual 54, 3) := by decide +kernel
theorem dL_law_443 : decode cL_law 443 = .ok (.aload_n 2, 1) := by decide +kernel
theorem dL_law_444 : decode cL_law 444 = .ok (.aload_n 0, 1) := by decide +kernel
theorem dL_law_445 : decode cL_law 445 = .ok (.iload_n 3, 1) := by decide +kernel
theorem dL_law_446 : decode cL_law 446 = .ok (.iconst 1, 1) := by decide +kernel
theorem dL_law_447 : decode cL_law 447 = .ok (.iadd, 1) := by decide +kernel
theorem dL_law_448 : decode cL_law 448 = .ok (.iaload, 1) := by decide +kernel
theorem dL_law_449 : decode cL_law 449 = .ok (.aload_n 0, 1) := by decide +kernel
theorem dL_law_450 : decode cL_law 450 = .ok (.iload_n 3, 1) := by decide +kernel
theorem dL_law_451 : decode cL_law 451 = .ok (.iconst 2, 1) := by decide +kernel
theorem dL_law_452 : decode cL_law 452 = .ok (.iadd, 1) := by decide +kernel
theorem dL_law_453 : decode cL_law 453 = .ok (.iaload, 1) := by decide +kernel
theorem dL_law_454 : decode cL_law 454 = .ok (.invokevirtual 57, 3) := by decide +kernel
theorem dL_law_457 : decode cL_law 457 = .ok (.if_icmp .eq 229, 3) := by decide +kernel
theorem dL_law_460 : decode cL_law 460 = .ok (.iconst 0, 1) := by decide +kernel
theorem dL_law_461 : decode cL_law 461 = .ok (.ireturn, 1) := by decide +kernel
theorem dL_law_462 : decode cL_law 462 = .ok (.aload_n 1, 1) := by decide +kernel
theorem dL_law_463 : decode cL_law 463 = .ok (.aload_n 0, 1) := by decide +kernel
theorem dL_law_464 : decode cL_law 464 = .ok (.iload_n 3, 1) := by decide +kernel
theorem dL_law_465 : decode cL_law 465 = .ok (.iconst 1, 1) := by decide +kernel
theorem dL_law_466 : decode cL_law 466 = .ok (.iadd, 1) := by decide +kernel
theorem dL_law_467 : decode cL_law 467 = .ok (.iaload, 1) := by decide +kernel
theorem dL_law_468 : decode cL_law 468 = .ok (.invokevirtual 58, 3) := by decide +kernel
theorem dL_law_471 : decode cL_law 471 = .ok (.aload_n 2, 1) := by decide +kernel
theorem dL_law_472 : decode cL_law 472 = .ok (.aload_n 0, 1) := by decide +kernel
theorem dL_law_473 : decode cL_law 473 = .ok (.iload_n 3, 1) := by decide +kernel
theorem dL_law_474 : decode cL_law 474 = .ok (.iconst 1, 1) := by decide +kernel
theorem dL_law_475 : decode cL_law 475 = .ok (.iadd, 1) := by decide +kernel
theorem dL_law_476 : decode cL_law 476 = .ok (.iaload, 1) := by decide +kernel
theorem dL_law_477 : decode cL_law 477 = .ok (.invokevirtual 61, 3) := by decide +kernel
theorem dL_law_480 : decode cL_law 480 = .ok (.if_icmp .eq 206, 3) := by decide +kernel
theorem dL_law_483 : decode cL_law 483 = .ok (.iconst 0, 1) := by decide +kernel
theorem dL_law_484 : decode cL_law 484 = .ok (.ireturn, 1) := by decide +kernel
theorem dL_law_485 : decode cL_law 485 = .ok (.aload_n 1, 1) := by decide +kernel
theorem dL_law_486 : decode cL_law 486 = .ok (.invokevirtual 62, 3) := by decide +kernel
theorem dL_law_489 : decode cL_law 489 = .ok (.aload_n 2, 1) := by decide +kernel
theorem dL_law_490 : decode cL_law 490 = .ok (.invokevirtual 65, 3) := by decide +kernel
theorem dL_law_493 : decode cL_law 493 = .ok (.if_icmp .eq 193, 3) := by decide +kernel
theorem dL_law_496 : decode cL_law 496 = .ok (.iconst 0, 1) := by decide +kernel
theorem dL_law_497 : decode cL_law 497 = .ok (.ireturn, 1) := by decide +kernel
theorem dL_law_498 : decode cL_law 498 = .ok (.aload_n 1, 1) := by decide +kernel
theorem dL_law_499 : decode cL_law 499 = .ok (.aload_n 0, 1) := by decide +kernel
theorem dL_law_500 : decode cL_law 500 = .ok (.iload_n 3, 1) := by decide +kernel
theorem dL_law_501 : decode cL_law 501 = .ok (.iconst 1, 1) := by decide +kernel
theorem dL_law_502 : decode cL_law 502 = .ok (.iadd, 1) := by decide +kernel
theorem dL_law_503 : decode cL_law 503 = .ok (.iaload, 1) := by decide +kernel
theorem dL_law_504 : decode cL_law 504 = .ok (.aload_n 0, 1) := by decide +kernel
theorem dL_law_505 : decode cL_law 505 = .ok (.iload_n 3, 1) := by decide +kernel
theorem dL_law_506 : decode cL_law 506 = .ok (.iconst 2, 1) := by decide +kernel
theorem dL_law_507 : decode cL_law 507 = .ok (.iadd, 1) := by decide +kernel
theorem dL_law_508 : decode cL_law 508 = .ok (.iaload, 1) := by decide +kernel
theorem dL_law_509 : decode cL_law 509 = .ok (.aload_n 0, 1) := by decide +kernel
theorem dL_law_510 : decode cL_law 510 = .ok (.iload_n 3, 1) := by decide +kernel
theorem dL_law_511 : decode cL_law 511 = .ok (.iconst 3, 1) := by decide +kernel
theorem dL_law_512 : decode cL_law 512 = .ok (.iadd, 1) := by decide +kernel
theorem dL_law_513 : decode cL_law 513 = .ok (.iaload, 1) := by decide +kernel
theorem dL_law_514 : decode cL_law 514 = .ok (.aload_n 0, 1) := by decide +kernel
theorem dL_law_515 : decode cL_law 515 = .ok (.iload_n 3, 1) := by decide +kernel
theorem dL_law_516 : decode cL_law 516 = .ok (.iconst 4, 1) := by decide +kernel
theorem dL_law_517 : decode cL_law 517 = .ok (.iadd, 1) := by decide +kernel
theorem dL_law_518 : decode cL_law 518 = .ok (.iaload, 1) := by decide +kernel
theorem dL_law_519 : decode cL_law 519 = .ok (.invokevirtual 66, 3) := by decide +kernel
theorem dL_law_522 : decode cL_law 522 = .ok (.aload_n 2, 1) := by decide +kernel
theorem dL_law_523 : decode cL_law 523 = .ok (.aload_n 0, 1) := by decide +kernel
theorem dL_law_524 : decode cL_law 524 = .ok (.iload_n 3, 1) := by decide +kernel
theorem dL_law_525 : decode cL_law 525 = .ok (.iconst 1, 1) := by decide +kernel
theorem dL_law_526 : decode cL_law 526 = .ok (.iadd, 1) := by decide +kernel
theorem dL_law_527 : decode cL_law 527 = .ok (.iaload, 1) := by decide +kernel
theorem dL_law_528 : decode cL_law 528 = .ok (.aload_n 0, 1) := by decide +kernel
theorem dL_law_529 : decode cL_law 529 = .ok (.iload_n 3, 1) := by decide +kernel
theorem dL_law_530 : decode cL_law 530 = .ok (.iconst 2, 1) := by decide +kernel
theorem dL_law_531 : decode cL_law 531 = .ok (.iadd, 1) := by decide +kernel
theorem dL_law_532 : decode cL_law 532 = .ok (.iaload, 1) := by decide +kernel
theorem dL_law_533 : decode cL_law 533 = .ok (.aload_n 0, 1) := by decide +kernel
theorem dL_law_534 : decode cL_law 534 = .ok (.iload_n 3, 1) := by decide +kernel
theorem dL_law_535 : decode cL_law 535 = .ok (.iconst 3, 1) := by decide +kernel
theorem dL_law_536 : decode cL_law 536 = .ok (.iadd, 1) := by decide +kernel
theorem dL_law_537 : decode cL_law 537 = .ok (.iaload, 1) := by decide +kernel
theorem dL_law_538 : decode cL_law 538 = .ok (.aload_n 0, 1) := by decide +kernel
theorem dL_law_539 : decode cL_law 539 = .ok (.iload_n 3, 1) := by decide +kernel
theorem dL_law_540 : decode cL_law 540 = .ok (.iconst 4, 1) := by decide +kernel
theorem dL_law_541 : decode cL_law 541 = .ok (.iadd, 1) := by decide +kernel
theorem dL_law_542 : decode cL_law 542 = .ok (.iaload, 1) := by decide +kernel
theorem dL_law_543 : decode cL_law 543 = .ok (.invokevirtual 69, 3) := by decide +kernel
theorem dL_law_546 : decode cL_law 546 = .ok (.if_icmp .eq 140, 3) := by decide +kernel
theorem dL_law_549 : decode cL_law 549 = .ok (.iconst 0, 1) := by decide +kernel
theorem dL_law_550 : decode cL_law 550 = .ok (.ireturn, 1) := by decide +kernel
theorem dL_law_551 : decode cL_law 551 = .ok (.aload_n 1, 1) := by decide +kernel
theorem dL_law_552 : decode cL_law 552 = .ok (.aload_n 0, 1) := by decide +kernel
theorem dL_law_553 : decode cL_law 553 = .ok (.iload_n 3, 1) := by decide +kernel
theorem dL_law_554 : decode cL_law 554 = .ok (.iconst 1, 1) := by decide +kernel
theorem dL_law_555 : decode cL_law 555 = .ok (.iadd, 1) := by decide +kernel
theorem dL_law_556 : decode cL_law 556 = .ok (.iaload, 1) := by decide +kernel
theorem dL_law_557 : decode cL_law 557 = .ok (.invokevirtual 70, 3) := by decide +kernel
theorem dL_law_560 : decode cL_law 560 = .ok (.aload_n 2, 1) := by decide +kernel
theorem dL_law_561 : decode cL_law 561 = .ok (.aload_n 0, 1) := by decide +kernel
theorem dL_law_562 : decode cL_law 562 = .ok (.iload_n 3, 1) := by decide +kernel
theorem dL_law_563 : decode cL_law 563 = .ok (.iconst 1, 1) := by decide +kernel
theorem dL_law_564 : decode cL_law 564 = .ok (.iadd, 1) := by decide +kernel
theorem dL_law_565 : decode cL_law 565 = .ok (.iaload, 1) := by decide +kernel
theorem dL_law_566 : decode cL_law 566 = .ok (.invokevirtual 73, 3) := by decide +kernel
theorem dL_law_569 : decode cL_law 569 = .ok (.if_icmp .eq 117, 3) := by decide +kernel
theorem dL_law_572 : decode cL_law 572 = .ok (.iconst 0, 1) := by decide +kernel
theorem dL_law_573 : decode cL_law 573 = .ok (.ireturn, 1) := by decide +kernel
theorem dL_law_574 : decode cL_law 574 = .ok (.aload_n 1, 1) := by decide +kernel
theorem dL_law_575 : decode cL_law 575 = .ok (.aload_n 0, 1) := by decide +kernel
theorem dL_law_576 : decode cL_law 576 = .ok (.iload_n 3, 1) := by decide +kernel
theorem dL_law_577 : decode cL_law 577 = .ok (.iconst 1, 1) := by decide +kernel
theorem dL_law_578 : decode cL_law 578 = .ok (.iadd, 1) := by decide +kernel
theorem dL_law_579 : decode cL_law 579 = .ok (.iaload, 1) := by decide +kernel
theorem dL_law_580 : decode cL_law 580 = .ok (.invokevirtual 74, 3) := by decide +kernel
theorem dL_law_583 : decode cL_law 583 = .ok (.aload_n 2, 1) := by decide +kernel
theorem dL_law_584 : decode cL_law 584 = .ok (.aload_n 0, 1) := by decide +kernel
theorem dL_law_585 : decode cL_law 585 = .ok (.iload_n 3, 1) := by decide +kernel
theorem dL_law_586 : decode cL_law 586 = .ok (.iconst 1, 1) := by decide +kernel
theorem dL_law_587 : decode cL_law 587 = .ok (.iadd, 1) := by decide +kernel
theorem dL_law_588 : decode cL_law 588 = .ok (.iaload, 1) := by decide +kernel
theorem dL_law_589 : decode cL_law 589 = .ok (.invokevirtual 77, 3) := by decide +kernel
theorem dL_law_592 : decode cL_law 592 = .ok (.if_icmp .eq 94, 3) := by decide +kernel
theorem dL_law_595 : decode cL_law 595 = .ok (.iconst 0, 1) := by decide +kernel
theorem dL_law_596 : decode cL_law 596 = .ok (.ireturn, 1) := by decide +kernel
theorem dL_law_597 : decode cL_law 597 = .ok (.aload_n 1, 1) := by decide +kernel
theorem dL_law_598 : decode cL_law 598 = .ok (.aload_n 0, 1) := by decide +kernel
theorem dL_law_599 : decode cL_law 599 = .ok (.iload_n 3, 1) := by decide +kernel
theorem dL_law_600 : decode cL_law 600 = .ok (.iconst 1, 1) := by decide +kernel
theorem dL_law_601 : decode cL_law 601 = .ok (.iadd, 1) := by decide +kernel
theorem dL_law_602 : decode cL_law 602 = .ok (.iaload, 1) := by decide +kernel
theorem dL_law_603 : decode cL_law 603 = .ok (.invokevirtual 78, 3) := by decide +kernel
theorem dL_law_606 : decode cL_law 606 = .ok (.aload_n 2, 1) := by decide +kernel
theorem dL_law_607 : decode cL_law 607 = .ok (.aload_n 0, 1) := by decide +kernel
theorem dL_law_608 : decode cL_law 608 = .ok (.iload_n 3, 1) := by decide +kernel
theorem dL_law_609 : decode cL_law 609 = .ok (.iconst 1, 1) := by decide +kernel
theorem dL_law_610 : decode cL_law 610 = .ok (.iadd, 1) := by decide +kernel
theorem dL_law_611 : decode cL_law 611 = .ok (.iaload, 1) := by decide +kernel
theorem dL_law_612 : decode cL_law 612 = .ok (.invokevirtual 81, 3) := by decide +kernel
theorem dL_law_615 : decode cL_law 615 = .ok (.if_icmp .eq 71, 3) := by decide +kernel
theorem dL_law_618 : decode cL_law 618 = .ok (.iconst 0, 1) := by decide +kernel
theorem dL_law_619 : decode cL_law 619 = .ok (.ireturn, 1) := by decide +kernel
theorem dL_law_620 : decode cL_law 620 = .ok (.aload_n 1, 1) := by decide +kernel
theorem dL_law_621 : decode cL_law 621 = .ok (.invokevirtual 82, 3) := by decide +kernel
theorem dL_law_624 : decode cL_law 624 = .ok (.aload_n 2, 1) := by decide +kernel
theorem dL_law_625 : decode cL_law 625 = .ok (.invokevirtual 85, 3) := by decide +kernel
theorem dL_law_628 : decode cL_law 628 = .ok (.if_icmp .eq 58, 3) := by decide +kernel
theorem dL_law_631 : decode cL_law 631 = .ok (.iconst 0, 1) := by decide +kernel
theorem dL_law_632 : decode cL_law 632 = .ok (.ireturn, 1) := by decide +kernel
theorem dL_law_633 : decode cL_law 633 = .ok (.aload_n 1, 1) := by decide +kernel
theorem dL_law_634 : decode cL_law 634 = .ok (.invokevirtual 86, 3) := by decide +kernel
theorem dL_law_637 : decode cL_law 637 = .ok (.aload_n 2, 1) := by decide +kernel
theorem dL_law_638 : decode cL_law 638 = .ok (.invokevirtual 89, 3) := by decide +kernel
theorem dL_law_641 : decode cL_law 641 = .ok (.if_icmp .eq 45, 3) := by decide +kernel
theorem dL_law_644 : decode cL_law 644 = .ok (.iconst 0, 1) := by decide +kernel
theorem dL_law_645 : decode cL_law 645 = .ok (.ireturn, 1) := by decide +kernel
theorem dL_law_646 : decode cL_law 646 = .ok (.aload_n 1, 1) := by decide +kernel
theorem dL_law_647 : decode cL_law 647 = .ok (.invokevirtual 90, 3) := by decide +kernel
theorem dL_law_650 : decode cL_law 650 = .ok (.aload_n 2, 1) := by decide +kernel
theorem dL_law_651 : decode cL_law 651 = .ok (.invokevirtual 93, 3) := by decide +kernel
theorem dL_law_654 : decode cL_law 654 = .ok (.if_icmp .eq 32, 3) := by decide +kernel
theorem dL_law_657 : decode cL_law 657 = .ok (.iconst 0, 1) := by decide +kernel
theorem dL_law_658 : decode cL_law 658 = .ok (.ireturn, 1) := by decide +kernel
theorem dL_law_659 : decode cL_law 659 = .ok (.aload_n 1, 1) := by decide +kernel
theorem dL_law_660 : decode cL_law 660 = .ok (.invokevirtual 94, 3) := by decide +kernel
theorem dL_law_663 : decode cL_law 663 = .ok (.aload_n 2, 1) := by decide +kernel
theorem dL_law_664 : decode cL_law 664 = .ok (.invokevirtual 97, 3) := by decide +kernel
theorem dL_law_667 : decode cL_law 667 = .ok (.if_icmp .eq 19, 3) := by decide +kernel
theorem dL_law_670 : decode cL_law 670 = .ok (.iconst 0, 1) := by decide +kernel
theorem dL_law_671 : decode cL_law 671 = .ok (.ireturn, 1) := by decide +kernel
theorem dL_law_672 : decode cL_law 672 = .ok (.aload_n 1, 1) := by decide +kernel
theorem dL_law_673 : decode cL_law 673 = .ok (.invokevirtual 98, 3) := by decide +kernel
theorem dL_law_676 : decode cL_law 676 = .ok (.aload_n 2, 1) := by decide +kernel
theorem dL_law_677 : decode cL_law 677 = .ok (.invokevirtual 102, 3) := by decide +kernel
theorem dL_law_680 : decode cL_law 680 = .ok (.lcmp, 1) := by decide +kernel
theorem dL_law_681 : decode cL_law 681 = .ok (.ifCond .eq 5, 3) := by decide +kernel
theorem dL_law_684 : decode cL_law 684 = .ok (.iconst 0, 1) := by decide +kernel
theorem dL_law_685 : decode cL_law 685 = .ok (.ireturn, 1) := by decide +kernel
theorem dL_law_686 : decode cL_law 686 = .ok (.iinc 3 5, 3) := by decide +kernel
theorem dL_law_689 : decode cL_law 689 = .ok (.goto (-671), 3) := by decide +kernel
theorem dL_law_692 : decode cL_law 692 = .ok (.iconst 1, 1) := by decide +kernel
theorem dL_law_693 : decode cL_law 693 = .ok (.ireturn, 1) := by decide +kernel
end
section
/-! the words of the tables that every method may use, and each of them by its place -/
def cr_W : List Cond := lw_tbl.filter goodWord
theorem cr_W_t {x : Cond} (h : x ∈ cr_W) : x ∈ lw_tbl := (List.mem_filter.mp h).1
theorem cr_W_g {x : Cond} (h : x ∈ cr_W) : goodWord x = true := (List.mem_filter.mp h).2
theorem cr_wt {x : Cond} (h : x ∈ tables_1) (g : goodWord x = true) : x ∈ cr_W := List.mem_filter.mpr ⟨List.mem_append_right _ h, g⟩
theorem cr_w0 {x : Cond} (i : Nat) (h : (k2_sels lw_privs)[i]? = some x) (g : goodWord x = true) : x ∈ cr_W := List.mem_filter.mpr ⟨List.mem_append_left _ (List.mem_of_getElem? h), g⟩
theorem cr_w1 {x : Cond} (i : Nat) (h : tables_1_1[i]? = some x) (g : goodWord x = true) : x ∈ cr_W := cr_wt (List.mem_append_left _ (List.mem_of_getElem? h)) g
theorem cr_w2 {x : Cond} (i : Nat) (h : tables_1_2[i]? = some x) (g : goodWord x = true) : x ∈ cr_W := cr_wt (List.mem_append_right _ (List.mem_append_left _ (List.mem_of_getElem? h))) g
theorem cr_w3 {x : Cond} (i : Nat) (h : tables_1_3[i]? = some x) (g : goodWord x = true) : x ∈ cr_W := cr_wt (List.mem_append_right _ (List.mem_append_right _ (List.mem_append_left _ (List.mem_of_getElem? h)))) g
theorem cr_w4 {x : Cond} (i : Nat) (h : tables_1_4[i]? = some x) (g : goodWord x = true) : x ∈ cr_W := cr_wt (List.mem_append_right _ (List.mem_append_right _ (List.mem_append_right _ (List.mem_of_getElem? h)))) g
theorem cl_L_7 : Cond.classLink RL 7 RX7 ∈ cr_W := cr_w1 12 (by decide +kernel) rfl
theorem it_X7 : Cond.instantiable RX7 5 ∈ cr_W := cr_w1 13 (by decide +kernel) rfl
theorem in_X7 : Cond.initialized RX7 ∈ cr_W := cr_w1 1 (by decide +kernel) rfl
theorem cl_L_10 : Cond.classLink RL 10 RX8 ∈ cr_W := cr_w3 113 (by decide +kernel) rfl
theorem it_X8 : Cond.instantiable RX8 22 ∈ cr_W := cr_w3 114 (by decide +kernel) rfl
theorem in_X8 : Cond.initialized RX8 ∈ cr_W := cr_w1 9 (by decide +kernel) rfl
theorem ml_L_9 : Cond.methodLink RL 9 yX7_init ∈ cr_W := cr_w1 14 (by decide +kernel) rfl
theorem im_X7_init : Cond.instanceMethod yX7_init ∈ cr_W := cr_w1 15 (by decide +kernel) rfl
theorem cd_X7_init : Cond.code yX7_init cX7_init 1 none ∈ cr_W := cr_w1 16 (by decide +kernel) rfl
theorem ml_X7_1 : Cond.methodLink RX7 1 objectInit ∈ cr_W := cr_w1 17 (by decide +kernel) rfl
theorem im_objI : Cond.instanceMethod objectInit ∈ cr_W := cr_w1 18 (by decide +kernel) rfl
theorem cd_objI : Cond.code objectInit ⟨#[0xb1]⟩ 1 none ∈ cr_W := cr_w1 19 (by decide +kernel) rfl
theorem cl_X7_7 : Cond.classLink RX7 7 RX3 ∈ cr_W := cr_w1 20 (by decide +kernel) rfl
theorem it_X3 : Cond.instantiable RX3 10 ∈ cr_W := cr_w1 21 (by decide +kernel) rfl
theorem in_X3 : Cond.initialized RX3 ∈ cr_W := cr_w1 2 (by decide +kernel) rfl
theorem fl_X7_10 : Cond.fieldLink RX7 10 "ChalkRings" "now" "LChalkRings$Playground;" ∈ cr_W := cr_w2 33 (by decide +kernel) rfl
theorem fl_X7_16 : Cond.fieldLink RX7 16 "ChalkRings" "trial" "LChalkRings$Playground;" ∈ cr_W := cr_w2 34 (by decide +kernel) rfl
theorem cl_X7_19 : Cond.classLink RX7 19 RX5 ∈ cr_W := cr_w1 151 (by decide +kernel) rfl
theorem it_X5 : Cond.instantiable RX5 10 ∈ cr_W := cr_w1 152 (by decide +kernel) rfl
theorem in_X5 : Cond.initialized RX5 ∈ cr_W := cr_w1 5 (by decide +kernel) rfl
theorem fl_X7_22 : Cond.fieldLink RX7 22 "ChalkRings" "roll" "LChalkRings$Roll;" ∈ cr_W := cr_w2 35 (by decide +kernel) rfl
theorem cl_X7_26 : Cond.classLink RX7 26 RX0 ∈ cr_W := cr_w1 194 (by decide +kernel) rfl
theorem it_X0 : Cond.instantiable RX0 3 ∈ cr_W := cr_w1 195 (by decide +kernel) rfl
theorem in_X0 : Cond.initialized RX0 ∈ cr_W := cr_w1 6 (by decide +kernel) rfl
theorem fl_X7_29 : Cond.fieldLink RX7 29 "ChalkRings" "history" "LChalkRings$History;" ∈ cr_W := cr_w2 36 (by decide +kernel) rfl
theorem cl_X7_33 : Cond.classLink RX7 33 RX1 ∈ cr_W := cr_w1 214 (by decide +kernel) rfl
theorem it_X1 : Cond.instantiable RX1 9 ∈ cr_W := cr_w1 215 (by decide +kernel) rfl
theorem in_X1 : Cond.initialized RX1 ∈ cr_W := cr_w1 7 (by decide +kernel) rfl
theorem fl_X7_36 : Cond.fieldLink RX7 36 "ChalkRings" "reader" "LChalkRings$ItemReader;" ∈ cr_W := cr_w2 37 (by decide +kernel) rfl
theorem ml_X7_9 : Cond.methodLink RX7 9 yX3_init ∈ cr_W := cr_w1 22 (by decide +kernel) rfl
theorem im_X3_init : Cond.instanceMethod yX3_init ∈ cr_W := cr_w1 23 (by decide +kernel) rfl
theorem cd_X3_init : Cond.code yX3_init cX3_init 2 none ∈ cr_W := cr_w1 24 (by decide +kernel) rfl
theorem ml_X3_3 : Cond.methodLink RX3 3 objectInit ∈ cr_W := cr_w1 25 (by decide +kernel) rfl
theorem cl_X3_9 : Cond.classLink RX3 9 RX2 ∈ cr_W := cr_w1 26 (by decide +kernel) rfl
theorem fl_X3_11 : Cond.fieldLink RX3 11 "ChalkRings$Playground" "marbles" "[LChalkRings$Marble;" ∈ cr_W := cr_w1 107 (by decide +kernel) rfl
theorem it_X2 : Cond.instantiable RX2 9 ∈ cr_W := cr_w1 28 (by decide +kernel) rfl
theorem in_X2 : Cond.initialized RX2 ∈ cr_W := cr_w1 3 (by decide +kernel) rfl
theorem cl_X3_20 : Cond.classLink RX3 20 RX4 ∈ cr_W := cr_w1 84 (by decide +kernel) rfl
theorem fl_X3_22 : Cond.fieldLink RX3 22 "ChalkRings$Playground" "rings" "[LChalkRings$Ring;" ∈ cr_W := cr_w1 108 (by decide +kernel) rfl
theorem it_X4 : Cond.instantiable RX4 3 ∈ cr_W := cr_w1 86 (by decide +kernel) rfl
theorem in_X4 : Cond.initialized RX4 ∈ cr_W := cr_w1 4 (by decide +kernel) rfl
theorem ml_X3_17 : Cond.methodLink RX3 17 yX2_init ∈ cr_W := cr_w1 29 (by decide +kernel) rfl
theorem im_X2_init : Cond.instanceMethod yX2_init ∈ cr_W := cr_w1 30 (by decide +kernel) rfl
theorem cd_X2_init : Cond.code yX2_init cX2_init 2 none ∈ cr_W := cr_w1 31 (by decide +kernel) rfl
theorem ml_X2_3 : Cond.methodLink RX2 3 objectInit ∈ cr_W := cr_w1 32 (by decide +kernel) rfl
theorem fl_X2_9 : Cond.fieldLink RX2 9 "ChalkRings$Marble" "number" "I" ∈ cr_W := cr_w1 33 (by decide +kernel) rfl
theorem fl_X2_15 : Cond.fieldLink RX2 15 "ChalkRings$Marble" "winner" "I" ∈ cr_W := cr_w1 53 (by decide +kernel) rfl
theorem im_X4_init : Cond.instanceMethod yX4_init ∈ cr_W := cr_w1 88 (by decide +kernel) rfl
theorem cd_X4_init : Cond.code yX4_init cX4_init 1 none ∈ cr_W := cr_w1 89 (by decide +kernel) rfl
theorem ml_X4_3 : Cond.methodLink RX4 3 objectInit ∈ cr_W := cr_w1 90 (by decide +kernel) rfl
theorem im_X5_init : Cond.instanceMethod yX5_init ∈ cr_W := cr_w1 154 (by decide +kernel) rfl
theorem cd_X5_init : Cond.code yX5_init cX5_init 1 none ∈ cr_W := cr_w1 155 (by decide +kernel) rfl
theorem ml_X5_3 : Cond.methodLink RX5 3 objectInit ∈ cr_W := cr_w1 156 (by decide +kernel) rfl
theorem ml_X7_28 : Cond.methodLink RX7 28 yX0_init ∈ cr_W := cr_w1 196 (by decide +kernel) rfl
theorem im_X0_init : Cond.instanceMethod yX0_init ∈ cr_W := cr_w1 197 (by decide +kernel) rfl
theorem cd_X0_init : Cond.code yX0_init cX0_init 2 none ∈ cr_W := cr_w1 198 (by decide +kernel) rfl
theorem ml_X0_3 : Cond.methodLink RX0 3 objectInit ∈ cr_W := cr_w1 199 (by decide +kernel) rfl
theorem cl_X0_9 : Cond.classLink RX0 9 RX3 ∈ cr_W := cr_w1 200 (by decide +kernel) rfl
theorem fl_X0_11 : Cond.fieldLink RX0 11 "ChalkRings$History" "saved" "[LChalkRings$Playground;" ∈ cr_W := cr_w1 203 (by decide +kernel) rfl
theorem ml_X0_17 : Cond.methodLink RX0 17 yX3_init ∈ cr_W := cr_w1 202 (by decide +kernel) rfl
theorem ml_X7_35 : Cond.methodLink RX7 35 yX1_init ∈ cr_W := cr_w1 216 (by decide +kernel) rfl
theorem im_X1_init : Cond.instanceMethod yX1_init ∈ cr_W := cr_w1 217 (by decide +kernel) rfl
theorem cd_X1_init : Cond.code yX1_init cX1_init 1 none ∈ cr_W := cr_w1 218 (by decide +kernel) rfl
theorem ml_X1_3 : Cond.methodLink RX1 3 objectInit ∈ cr_W := cr_w1 219 (by decide +kernel) rfl
theorem cl_X1_9 : Cond.classLink RX1 9 RX6 ∈ cr_W := cr_w1 220 (by decide +kernel) rfl
theorem it_X6 : Cond.instantiable RX6 2 ∈ cr_W := cr_w1 221 (by decide +kernel) rfl
theorem in_X6 : Cond.initialized RX6 ∈ cr_W := cr_w1 8 (by decide +kernel) rfl
theorem fl_X1_12 : Cond.fieldLink RX1 12 "ChalkRings$ItemReader" "text" "LChalkRings$Text;" ∈ cr_W := cr_w1 236 (by decide +kernel) rfl
theorem ml_X1_11 : Cond.methodLink RX1 11 yX6_init ∈ cr_W := cr_w1 222 (by decide +kernel) rfl
theorem im_X6_init : Cond.instanceMethod yX6_init ∈ cr_W := cr_w1 223 (by decide +kernel) rfl
theorem cd_X6_init : Cond.code yX6_init cX6_init 1 none ∈ cr_W := cr_w1 224 (by decide +kernel) rfl
theorem ml_X6_3 : Cond.methodLink RX6 3 objectInit ∈ cr_W := cr_w1 225 (by decide +kernel) rfl
theorem ac_char : Cond.arrayClass .char ∈ cr_W := cr_w1 235 (by decide +kernel) rfl
theorem fl_X6_9 : Cond.fieldLink RX6 9 "ChalkRings$Text" "signs" "[C" ∈ cr_W := cr_w1 226 (by decide +kernel) rfl
theorem ml_L_12 : Cond.methodLink RL 12 yX8_init ∈ cr_W := cr_w3 115 (by decide +kernel) rfl
theorem im_X8_init : Cond.instanceMethod yX8_init ∈ cr_W := cr_w3 116 (by decide +kernel) rfl
theorem cd_X8_init : Cond.code yX8_init cX8_init 1 none ∈ cr_W := cr_w3 117 (by decide +kernel) rfl
theorem ml_X8_1 : Cond.methodLink RX8 1 objectInit ∈ cr_W := cr_w3 118 (by decide +kernel) rfl
theorem ac_int : Cond.arrayClass .int ∈ cr_W := cr_w3 186 (by decide +kernel) rfl
theorem fl_X8_7 : Cond.fieldLink RX8 7 "ChalkRingsModel" "state" "[I" ∈ cr_W := cr_w3 119 (by decide +kernel) rfl
theorem fl_X8_13 : Cond.fieldLink RX8 13 "ChalkRingsModel" "kept" "[I" ∈ cr_W := cr_w3 120 (by decide +kernel) rfl
theorem fl_X8_16 : Cond.fieldLink RX8 16 "ChalkRingsModel" "history" "[I" ∈ cr_W := cr_w3 121 (by decide +kernel) rfl
theorem fl_X8_19 : Cond.fieldLink RX8 19 "ChalkRingsModel" "text" "[I" ∈ cr_W := cr_w3 123 (by decide +kernel) rfl
theorem fl_X8_22 : Cond.fieldLink RX8 22 "ChalkRingsModel" "stepX" "[I" ∈ cr_W := cr_w3 125 (by decide +kernel) rfl
theorem fl_X8_25 : Cond.fieldLink RX8 25 "ChalkRingsModel" "stepY" "[I" ∈ cr_W := cr_w3 126 (by decide +kernel) rfl
theorem fl_X8_28 : Cond.fieldLink RX8 28 "ChalkRingsModel" "ringsAhead" "[I" ∈ cr_W := cr_w3 127 (by decide +kernel) rfl
theorem ml_L_13 : Cond.methodLink RL 13 yX7_putMarble ∈ cr_W := cr_w2 49 (by decide +kernel) rfl
theorem im_X7_putMarble : Cond.instanceMethod yX7_putMarble ∈ cr_W := cr_w2 50 (by decide +kernel) rfl
theorem sl_X7_putMarble : Cond.selects RX7 yX7_putMarble yX7_putMarble ∈ cr_W := cr_w2 51 (by decide +kernel) rfl
theorem cd_X7_putMarble : Cond.code yX7_putMarble cX7_putMarble 6 (some .int) ∈ cr_W := cr_w2 52 (by decide +kernel) rfl
theorem ml_X7_40 : Cond.methodLink RX7 40 yX3_refusalOfMarble ∈ cr_W := cr_w2 53 (by decide +kernel) rfl
theorem im_X3_refusalOfMarble : Cond.instanceMethod yX3_refusalOfMarble ∈ cr_W := cr_w2 54 (by decide +kernel) rfl
theorem sl_X3_refusalOfMarble : Cond.selects RX3 yX3_refusalOfMarble yX3_refusalOfMarble ∈ cr_W := cr_w2 55 (by decide +kernel) rfl
theorem cd_X3_refusalOfMarble : Cond.code yX3_refusalOfMarble cX3_refusalOfMarble 5 (some .int) ∈ cr_W := cr_w2 56 (by decide +kernel) rfl
theorem fl_X3_34 : Cond.fieldLink RX3 34 "ChalkRings$Playground" "placed" "I" ∈ cr_W := cr_w1 109 (by decide +kernel) rfl
theorem st_X7_isPoint : Cond.static yX7_isPoint ∈ cr_W := cr_w2 58 (by decide +kernel) rfl
theorem cd_X7_isPoint : Cond.code yX7_isPoint cX7_isPoint 2 (some .boolean) ∈ cr_W := cr_w2 59 (by decide +kernel) rfl
theorem st_X7_isPlayer : Cond.static yX7_isPlayer ∈ cr_W := cr_w2 61 (by decide +kernel) rfl
theorem cd_X7_isPlayer : Cond.code yX7_isPlayer cX7_isPlayer 1 (some .boolean) ∈ cr_W := cr_w2 62 (by decide +kernel) rfl
theorem ml_X3_77 : Cond.methodLink RX3 77 yX3_marbleOn ∈ cr_W := cr_w2 63 (by decide +kernel) rfl
theorem im_X3_marbleOn : Cond.instanceMethod yX3_marbleOn ∈ cr_W := cr_w2 64 (by decide +kernel) rfl
theorem sl_X3_marbleOn : Cond.selects RX3 yX3_marbleOn yX3_marbleOn ∈ cr_W := cr_w2 65 (by decide +kernel) rfl
theorem cd_X3_marbleOn : Cond.code yX3_marbleOn cX3_marbleOn 7 (some (.object "ChalkRings$Marble")) ∈ cr_W := cr_w2 66 (by decide +kernel) rfl
theorem fl_X3_59 : Cond.fieldLink RX3 59 "ChalkRings$Marble" "lies" "Z" ∈ cr_W := cr_w1 58 (by decide +kernel) rfl
theorem fl_X3_81 : Cond.fieldLink RX3 81 "ChalkRings$Marble" "x" "I" ∈ cr_W := cr_w1 40 (by decide +kernel) rfl
theorem fl_X3_84 : Cond.fieldLink RX3 84 "ChalkRings$Marble" "y" "I" ∈ cr_W := cr_w1 44 (by decide +kernel) rfl
theorem ml_X7_44 : Cond.methodLink RX7 44 yX0_save ∈ cr_W := cr_w2 67 (by decide +kernel) rfl
theorem im_X0_save : Cond.instanceMethod yX0_save ∈ cr_W := cr_w2 68 (by decide +kernel) rfl
theorem sl_X0_save : Cond.selects RX0 yX0_save yX0_save ∈ cr_W := cr_w2 69 (by decide +kernel) rfl
theorem cd_X0_save : Cond.code yX0_save cX0_save 3 none ∈ cr_W := cr_w2 70 (by decide +kernel) rfl
theorem fl_X0_18 : Cond.fieldLink RX0 18 "ChalkRings$History" "depth" "I" ∈ cr_W := cr_w1 205 (by decide +kernel) rfl
theorem fl_X0_22 : Cond.fieldLink RX0 22 "ChalkRings$History" "oldest" "I" ∈ cr_W := cr_w1 204 (by decide +kernel) rfl
theorem ml_X0_25 : Cond.methodLink RX0 25 yX0_slotOf ∈ cr_W := cr_w2 71 (by decide +kernel) rfl
theorem im_X0_slotOf : Cond.instanceMethod yX0_slotOf ∈ cr_W := cr_w2 73 (by decide +kernel) rfl
theorem sl_X0_slotOf : Cond.selects RX0 yX0_slotOf yX0_slotOf ∈ cr_W := cr_w0 0 (by decide +kernel) rfl
theorem cd_X0_slotOf : Cond.code yX0_slotOf cX0_slotOf 3 (some (.object "ChalkRings$Playground")) ∈ cr_W := cr_w2 74 (by decide +kernel) rfl
theorem ml_X0_29 : Cond.methodLink RX0 29 yX3_copyFrom ∈ cr_W := cr_w2 75 (by decide +kernel) rfl
theorem im_X3_copyFrom : Cond.instanceMethod yX3_copyFrom ∈ cr_W := cr_w2 76 (by decide +kernel) rfl
theorem sl_X3_copyFrom : Cond.selects RX3 yX3_copyFrom yX3_copyFrom ∈ cr_W := cr_w2 77 (by decide +kernel) rfl
theorem cd_X3_copyFrom : Cond.code yX3_copyFrom cX3_copyFrom 5 none ∈ cr_W := cr_w2 78 (by decide +kernel) rfl
theorem fl_X3_38 : Cond.fieldLink RX3 38 "ChalkRings$Playground" "drawn" "I" ∈ cr_W := cr_w1 112 (by decide +kernel) rfl
theorem fl_X3_41 : Cond.fieldLink RX3 41 "ChalkRings$Playground" "onMove" "I" ∈ cr_W := cr_w1 114 (by decide +kernel) rfl
theorem fl_X3_44 : Cond.fieldLink RX3 44 "ChalkRings$Playground" "flicks" "I" ∈ cr_W := cr_w1 117 (by decide +kernel) rfl
theorem fl_X3_47 : Cond.fieldLink RX3 47 "ChalkRings$Playground" "hits" "I" ∈ cr_W := cr_w1 120 (by decide +kernel) rfl
theorem fl_X3_50 : Cond.fieldLink RX3 50 "ChalkRings$Playground" "won" "I" ∈ cr_W := cr_w1 123 (by decide +kernel) rfl
theorem fl_X3_53 : Cond.fieldLink RX3 53 "ChalkRings$Playground" "grown" "I" ∈ cr_W := cr_w1 125 (by decide +kernel) rfl
theorem fl_X3_56 : Cond.fieldLink RX3 56 "ChalkRings$Playground" "walls" "I" ∈ cr_W := cr_w1 128 (by decide +kernel) rfl
theorem ml_X3_27 : Cond.methodLink RX3 27 yX2_copyFrom ∈ cr_W := cr_w2 79 (by decide +kernel) rfl
theorem im_X2_copyFrom : Cond.instanceMethod yX2_copyFrom ∈ cr_W := cr_w2 80 (by decide +kernel) rfl
theorem sl_X2_copyFrom : Cond.selects RX2 yX2_copyFrom yX2_copyFrom ∈ cr_W := cr_w2 81 (by decide +kernel) rfl
theorem cd_X2_copyFrom : Cond.code yX2_copyFrom cX2_copyFrom 2 none ∈ cr_W := cr_w2 82 (by decide +kernel) rfl
theorem fl_X2_18 : Cond.fieldLink RX2 18 "ChalkRings$Marble" "x" "I" ∈ cr_W := cr_w1 37 (by decide +kernel) rfl
theorem fl_X2_21 : Cond.fieldLink RX2 21 "ChalkRings$Marble" "y" "I" ∈ cr_W := cr_w1 41 (by decide +kernel) rfl
theorem fl_X2_24 : Cond.fieldLink RX2 24 "ChalkRings$Marble" "size" "I" ∈ cr_W := cr_w1 45 (by decide +kernel) rfl
theorem fl_X2_27 : Cond.fieldLink RX2 27 "ChalkRings$Marble" "owner" "I" ∈ cr_W := cr_w1 49 (by decide +kernel) rfl
theorem fl_X2_30 : Cond.fieldLink RX2 30 "ChalkRings$Marble" "lies" "Z" ∈ cr_W := cr_w1 57 (by decide +kernel) rfl
theorem ml_X3_31 : Cond.methodLink RX3 31 yX4_copyFrom ∈ cr_W := cr_w2 83 (by decide +kernel) rfl
theorem im_X4_copyFrom : Cond.instanceMethod yX4_copyFrom ∈ cr_W := cr_w2 84 (by decide +kernel) rfl
theorem sl_X4_copyFrom : Cond.selects RX4 yX4_copyFrom yX4_copyFrom ∈ cr_W := cr_w2 85 (by decide +kernel) rfl
theorem cd_X4_copyFrom : Cond.code yX4_copyFrom cX4_copyFrom 2 none ∈ cr_W := cr_w2 86 (by decide +kernel) rfl
theorem fl_X4_9 : Cond.fieldLink RX4 9 "ChalkRings$Ring" "x" "I" ∈ cr_W := cr_w1 91 (by decide +kernel) rfl
theorem fl_X4_15 : Cond.fieldLink RX4 15 "ChalkRings$Ring" "y" "I" ∈ cr_W := cr_w1 94 (by decide +kernel) rfl
theorem fl_X4_18 : Cond.fieldLink RX4 18 "ChalkRings$Ring" "radius" "I" ∈ cr_W := cr_w1 97 (by decide +kernel) rfl
theorem ml_X7_48 : Cond.methodLink RX7 48 yX3_addMarble ∈ cr_W := cr_w2 87 (by decide +kernel) rfl
theorem im_X3_addMarble : Cond.instanceMethod yX3_addMarble ∈ cr_W := cr_w2 88 (by decide +kernel) rfl
theorem sl_X3_addMarble : Cond.selects RX3 yX3_addMarble yX3_addMarble ∈ cr_W := cr_w2 89 (by decide +kernel) rfl
theorem cd_X3_addMarble : Cond.code yX3_addMarble cX3_addMarble 6 (some .int) ∈ cr_W := cr_w2 90 (by decide +kernel) rfl
theorem fl_X3_87 : Cond.fieldLink RX3 87 "ChalkRings$Marble" "size" "I" ∈ cr_W := cr_w1 47 (by decide +kernel) rfl
theorem fl_X3_90 : Cond.fieldLink RX3 90 "ChalkRings$Marble" "owner" "I" ∈ cr_W := cr_w1 52 (by decide +kernel) rfl
theorem fl_X3_63 : Cond.fieldLink RX3 63 "ChalkRings$Marble" "winner" "I" ∈ cr_W := cr_w1 54 (by decide +kernel) rfl
theorem fl_X3_93 : Cond.fieldLink RX3 93 "ChalkRings$Marble" "number" "I" ∈ cr_W := cr_w1 35 (by decide +kernel) rfl
theorem ml_L_17 : Cond.methodLink RL 17 yX8_putMarble ∈ cr_W := cr_w4 19 (by decide +kernel) rfl
theorem im_X8_putMarble : Cond.instanceMethod yX8_putMarble ∈ cr_W := cr_w4 20 (by decide +kernel) rfl
theorem sl_X8_putMarble : Cond.selects RX8 yX8_putMarble yX8_putMarble ∈ cr_W := cr_w4 21 (by decide +kernel) rfl
theorem cd_X8_putMarble : Cond.code yX8_putMarble cX8_putMarble 6 (some .int) ∈ cr_W := cr_w4 22 (by decide +kernel) rfl
theorem ml_X8_115 : Cond.methodLink RX8 115 yX8_whyNotPut ∈ cr_W := cr_w4 23 (by decide +kernel) rfl
theorem im_X8_whyNotPut : Cond.instanceMethod yX8_whyNotPut ∈ cr_W := cr_w4 25 (by decide +kernel) rfl
theorem sl_X8_whyNotPut : Cond.selects RX8 yX8_whyNotPut yX8_whyNotPut ∈ cr_W := cr_w0 24 (by decide +kernel) rfl
theorem cd_X8_whyNotPut : Cond.code yX8_whyNotPut cX8_whyNotPut 5 (some .int) ∈ cr_W := cr_w4 26 (by decide +kernel) rfl
theorem ml_X8_112 : Cond.methodLink RX8 112 yX8_isPoint ∈ cr_W := cr_w4 27 (by decide +kernel) rfl
theorem st_X8_isPoint : Cond.static yX8_isPoint ∈ cr_W := cr_w4 28 (by decide +kernel) rfl
theorem cd_X8_isPoint : Cond.code yX8_isPoint cX8_isPoint 2 (some .boolean) ∈ cr_W := cr_w4 29 (by decide +kernel) rfl
theorem ml_X8_39 : Cond.methodLink RX8 39 yX8_within ∈ cr_W := cr_w3 195 (by decide +kernel) rfl
theorem st_X8_within : Cond.static yX8_within ∈ cr_W := cr_w3 196 (by decide +kernel) rfl
theorem cd_X8_within : Cond.code yX8_within cX8_within 3 (some .boolean) ∈ cr_W := cr_w3 197 (by decide +kernel) rfl
theorem ml_X8_63 : Cond.methodLink RX8 63 yX8_marbleAt ∈ cr_W := cr_w4 0 (by decide +kernel) rfl
theorem im_X8_marbleAt : Cond.instanceMethod yX8_marbleAt ∈ cr_W := cr_w4 2 (by decide +kernel) rfl
theorem sl_X8_marbleAt : Cond.selects RX8 yX8_marbleAt yX8_marbleAt ∈ cr_W := cr_w0 21 (by decide +kernel) rfl
theorem cd_X8_marbleAt : Cond.code yX8_marbleAt cX8_marbleAt 5 (some .int) ∈ cr_W := cr_w4 3 (by decide +kernel) rfl
theorem ml_X8_56 : Cond.methodLink RX8 56 yX8_isThere ∈ cr_W := cr_w3 201 (by decide +kernel) rfl
theorem im_X8_isThere : Cond.instanceMethod yX8_isThere ∈ cr_W := cr_w3 203 (by decide +kernel) rfl
theorem sl_X8_isThere : Cond.selects RX8 yX8_isThere yX8_isThere ∈ cr_W := cr_w0 12 (by decide +kernel) rfl
theorem cd_X8_isThere : Cond.code yX8_isThere cX8_isThere 2 (some .boolean) ∈ cr_W := cr_w3 204 (by decide +kernel) rfl
theorem ml_X8_43 : Cond.methodLink RX8 43 yX8_part ∈ cr_W := cr_w3 205 (by decide +kernel) rfl
theorem im_X8_part : Cond.instanceMethod yX8_part ∈ cr_W := cr_w3 207 (by decide +kernel) rfl
theorem sl_X8_part : Cond.selects RX8 yX8_part yX8_part ∈ cr_W := cr_w0 13 (by decide +kernel) rfl
theorem cd_X8_part : Cond.code yX8_part cX8_part 3 (some .int) ∈ cr_W := cr_w3 208 (by decide +kernel) rfl
theorem ml_X8_102 : Cond.methodLink RX8 102 yX8_record ∈ cr_W := cr_w3 209 (by decide +kernel) rfl
theorem im_X8_record : Cond.instanceMethod yX8_record ∈ cr_W := cr_w3 211 (by decide +kernel) rfl
theorem sl_X8_record : Cond.selects RX8 yX8_record yX8_record ∈ cr_W := cr_w0 14 (by decide +kernel) rfl
theorem cd_X8_record : Cond.code yX8_record cX8_record 2 none ∈ cr_W := cr_w3 212 (by decide +kernel) rfl
theorem fl_X8_31 : Cond.fieldLink RX8 31 "ChalkRingsModel" "recorded" "I" ∈ cr_W := cr_w3 122 (by decide +kernel) rfl
theorem ml_X8_35 : Cond.methodLink RX8 35 yX8_copies ∈ cr_W := cr_w3 213 (by decide +kernel) rfl
theorem st_X8_copies : Cond.static yX8_copies ∈ cr_W := cr_w3 214 (by decide +kernel) rfl
theorem cd_X8_copies : Cond.code yX8_copies cX8_copies 5 none ∈ cr_W := cr_w3 215 (by decide +kernel) rfl
theorem ml_X8_119 : Cond.methodLink RX8 119 yX8_puts ∈ cr_W := cr_w4 30 (by decide +kernel) rfl
theorem im_X8_puts : Cond.instanceMethod yX8_puts ∈ cr_W := cr_w4 32 (by decide +kernel) rfl
theorem sl_X8_puts : Cond.selects RX8 yX8_puts yX8_puts ∈ cr_W := cr_w0 25 (by decide +kernel) rfl
theorem cd_X8_puts : Cond.code yX8_puts cX8_puts 6 (some .int) ∈ cr_W := cr_w4 33 (by decide +kernel) rfl
theorem ml_X8_73 : Cond.methodLink RX8 73 yX8_setPart ∈ cr_W := cr_w4 7 (by decide +kernel) rfl
theorem im_X8_setPart : Cond.instanceMethod yX8_setPart ∈ cr_W := cr_w4 9 (by decide +kernel) rfl
theorem sl_X8_setPart : Cond.selects RX8 yX8_setPart yX8_setPart ∈ cr_W := cr_w0 22 (by decide +kernel) rfl
theorem cd_X8_setPart : Cond.code yX8_setPart cX8_setPart 4 none ∈ cr_W := cr_w4 10 (by decide +kernel) rfl
theorem ml_L_18 : Cond.methodLink RL 18 yX7_drawRing ∈ cr_W := cr_w2 91 (by decide +kernel) rfl
theorem im_X7_drawRing : Cond.instanceMethod yX7_drawRing ∈ cr_W := cr_w2 92 (by decide +kernel) rfl
theorem sl_X7_drawRing : Cond.selects RX7 yX7_drawRing yX7_drawRing ∈ cr_W := cr_w2 93 (by decide +kernel) rfl
theorem cd_X7_drawRing : Cond.code yX7_drawRing cX7_drawRing 5 (some .int) ∈ cr_W := cr_w2 94 (by decide +kernel) rfl
theorem ml_X7_51 : Cond.methodLink RX7 51 yX3_refusalOfRing ∈ cr_W := cr_w2 95 (by decide +kernel) rfl
theorem im_X3_refusalOfRing : Cond.instanceMethod yX3_refusalOfRing ∈ cr_W := cr_w2 96 (by decide +kernel) rfl
theorem sl_X3_refusalOfRing : Cond.selects RX3 yX3_refusalOfRing yX3_refusalOfRing ∈ cr_W := cr_w2 97 (by decide +kernel) rfl
theorem cd_X3_refusalOfRing : Cond.code yX3_refusalOfRing cX3_refusalOfRing 4 (some .int) ∈ cr_W := cr_w2 98 (by decide +kernel) rfl
theorem ml_X7_55 : Cond.methodLink RX7 55 yX3_addRing ∈ cr_W := cr_w2 99 (by decide +kernel) rfl
theorem im_X3_addRing : Cond.instanceMethod yX3_addRing ∈ cr_W := cr_w2 100 (by decide +kernel) rfl
theorem sl_X3_addRing : Cond.selects RX3 yX3_addRing yX3_addRing ∈ cr_W := cr_w2 101 (by decide +kernel) rfl
theorem cd_X3_addRing : Cond.code yX3_addRing cX3_addRing 5 (some .int) ∈ cr_W := cr_w2 102 (by decide +kernel) rfl
theorem fl_X3_96 : Cond.fieldLink RX3 96 "ChalkRings$Ring" "x" "I" ∈ cr_W := cr_w1 92 (by decide +kernel) rfl
theorem fl_X3_97 : Cond.fieldLink RX3 97 "ChalkRings$Ring" "y" "I" ∈ cr_W := cr_w1 95 (by decide +kernel) rfl
theorem fl_X3_66 : Cond.fieldLink RX3 66 "ChalkRings$Ring" "radius" "I" ∈ cr_W := cr_w1 98 (by decide +kernel) rfl
theorem ml_L_22 : Cond.methodLink RL 22 yX8_drawRing ∈ cr_W := cr_w4 34 (by decide +kernel) rfl
theorem im_X8_drawRing : Cond.instanceMethod yX8_drawRing ∈ cr_W := cr_w4 35 (by decide +kernel) rfl
theorem sl_X8_drawRing : Cond.selects RX8 yX8_drawRing yX8_drawRing ∈ cr_W := cr_w4 36 (by decide +kernel) rfl
theorem cd_X8_drawRing : Cond.code yX8_drawRing cX8_drawRing 5 (some .int) ∈ cr_W := cr_w4 37 (by decide +kernel) rfl
theorem ml_X8_122 : Cond.methodLink RX8 122 yX8_whyNotDrawn ∈ cr_W := cr_w4 38 (by decide +kernel) rfl
theorem im_X8_whyNotDrawn : Cond.instanceMethod yX8_whyNotDrawn ∈ cr_W := cr_w4 40 (by decide +kernel) rfl
theorem sl_X8_whyNotDrawn : Cond.selects RX8 yX8_whyNotDrawn yX8_whyNotDrawn ∈ cr_W := cr_w0 26 (by decide +kernel) rfl
theorem cd_X8_whyNotDrawn : Cond.code yX8_whyNotDrawn cX8_whyNotDrawn 4 (some .int) ∈ cr_W := cr_w4 41 (by decide +kernel) rfl
theorem ml_X8_126 : Cond.methodLink RX8 126 yX8_draws ∈ cr_W := cr_w4 42 (by decide +kernel) rfl
theorem im_X8_draws : Cond.instanceMethod yX8_draws ∈ cr_W := cr_w4 44 (by decide +kernel) rfl
theorem sl_X8_draws : Cond.selects RX8 yX8_draws yX8_draws ∈ cr_W := cr_w0 27 (by decide +kernel) rfl
theorem cd_X8_draws : Cond.code yX8_draws cX8_draws 5 (some .int) ∈ cr_W := cr_w4 45 (by decide +kernel) rfl
theorem ml_L_23 : Cond.methodLink RL 23 yX7_move ∈ cr_W := cr_w2 103 (by decide +kernel) rfl
theorem im_X7_move : Cond.instanceMethod yX7_move ∈ cr_W := cr_w2 104 (by decide +kernel) rfl
theorem sl_X7_move : Cond.selects RX7 yX7_move yX7_move ∈ cr_W := cr_w2 105 (by decide +kernel) rfl
theorem cd_X7_move : Cond.code yX7_move cX7_move 5 (some .int) ∈ cr_W := cr_w2 106 (by decide +kernel) rfl
theorem fl_X7_66 : Cond.fieldLink RX7 66 "ChalkRings$Marble" "lies" "Z" ∈ cr_W := cr_w1 59 (by decide +kernel) rfl
theorem fl_X7_76 : Cond.fieldLink RX7 76 "ChalkRings$Marble" "x" "I" ∈ cr_W := cr_w1 39 (by decide +kernel) rfl
theorem fl_X7_80 : Cond.fieldLink RX7 80 "ChalkRings$Marble" "y" "I" ∈ cr_W := cr_w1 43 (by decide +kernel) rfl
theorem ml_X7_58 : Cond.methodLink RX7 58 yX3_findMarble ∈ cr_W := cr_w2 107 (by decide +kernel) rfl
theorem im_X3_findMarble : Cond.instanceMethod yX3_findMarble ∈ cr_W := cr_w2 108 (by decide +kernel) rfl
theorem sl_X3_findMarble : Cond.selects RX3 yX3_findMarble yX3_findMarble ∈ cr_W := cr_w2 109 (by decide +kernel) rfl
theorem cd_X3_findMarble : Cond.code yX3_findMarble cX3_findMarble 2 (some (.object "ChalkRings$Marble")) ∈ cr_W := cr_w2 110 (by decide +kernel) rfl
theorem ml_X7_62 : Cond.methodLink RX7 62 yX7_isPoint ∈ cr_W := cr_w2 111 (by decide +kernel) rfl
theorem ml_X7_72 : Cond.methodLink RX7 72 yX3_marbleOn ∈ cr_W := cr_w2 112 (by decide +kernel) rfl
theorem ml_X7_83 : Cond.methodLink RX7 83 yX3_ringsAround ∈ cr_W := cr_w2 113 (by decide +kernel) rfl
theorem im_X3_ringsAround : Cond.instanceMethod yX3_ringsAround ∈ cr_W := cr_w2 114 (by decide +kernel) rfl
theorem sl_X3_ringsAround : Cond.selects RX3 yX3_ringsAround yX3_ringsAround ∈ cr_W := cr_w2 115 (by decide +kernel) rfl
theorem cd_X3_ringsAround : Cond.code yX3_ringsAround cX3_ringsAround 6 (some .int) ∈ cr_W := cr_w2 116 (by decide +kernel) rfl
theorem ml_X3_98 : Cond.methodLink RX3 98 yX4_holds ∈ cr_W := cr_w2 117 (by decide +kernel) rfl
theorem im_X4_holds : Cond.instanceMethod yX4_holds ∈ cr_W := cr_w2 118 (by decide +kernel) rfl
theorem sl_X4_holds : Cond.selects RX4 yX4_holds yX4_holds ∈ cr_W := cr_w2 119 (by decide +kernel) rfl
theorem cd_X4_holds : Cond.code yX4_holds cX4_holds 5 (some .boolean) ∈ cr_W := cr_w2 120 (by decide +kernel) rfl
theorem ml_X7_87 : Cond.methodLink RX7 87 yJ6_bitCount_0f7a4 ∈ cr_W := cr_w2 121 (by decide +kernel) rfl
theorem st_J6_bitCount_0f7a4 : Cond.static yJ6_bitCount_0f7a4 ∈ cr_W := cr_w2 122 (by decide +kernel) rfl
theorem in_J6 : Cond.initialized RJ6 ∈ cr_W := cr_w1 10 (by decide +kernel) rfl
theorem cd_J6_bitCount_0f7a4 : Cond.code yJ6_bitCount_0f7a4 cJ6_bitCount_0f7a4 1 (some .int) ∈ cr_W := cr_w2 123 (by decide +kernel) rfl
theorem ki_J6_265 : Cond.constant RJ6 265 (1431655765) ∈ cr_W := cr_w2 124 (by decide +kernel) rfl
theorem ki_J6_266 : Cond.constant RJ6 266 (858993459) ∈ cr_W := cr_w2 125 (by decide +kernel) rfl
theorem ki_J6_267 : Cond.constant RJ6 267 (252645135) ∈ cr_W := cr_w2 126 (by decide +kernel) rfl
theorem ml_L_26 : Cond.methodLink RL 26 yX8_move ∈ cr_W := cr_w4 46 (by decide +kernel) rfl
theorem im_X8_move : Cond.instanceMethod yX8_move ∈ cr_W := cr_w4 47 (by decide +kernel) rfl
theorem sl_X8_move : Cond.selects RX8 yX8_move yX8_move ∈ cr_W := cr_w4 48 (by decide +kernel) rfl
theorem cd_X8_move : Cond.code yX8_move cX8_move 4 (some .int) ∈ cr_W := cr_w4 49 (by decide +kernel) rfl
theorem ml_X8_95 : Cond.methodLink RX8 95 yX8_isMarble ∈ cr_W := cr_w3 191 (by decide +kernel) rfl
theorem im_X8_isMarble : Cond.instanceMethod yX8_isMarble ∈ cr_W := cr_w3 193 (by decide +kernel) rfl
theorem sl_X8_isMarble : Cond.selects RX8 yX8_isMarble yX8_isMarble ∈ cr_W := cr_w0 11 (by decide +kernel) rfl
theorem cd_X8_isMarble : Cond.code yX8_isMarble cX8_isMarble 2 (some .boolean) ∈ cr_W := cr_w3 194 (by decide +kernel) rfl
theorem ml_X8_53 : Cond.methodLink RX8 53 yX8_ringsOf ∈ cr_W := cr_w3 224 (by decide +kernel) rfl
theorem im_X8_ringsOf : Cond.instanceMethod yX8_ringsOf ∈ cr_W := cr_w3 226 (by decide +kernel) rfl
theorem sl_X8_ringsOf : Cond.selects RX8 yX8_ringsOf yX8_ringsOf ∈ cr_W := cr_w0 17 (by decide +kernel) rfl
theorem cd_X8_ringsOf : Cond.code yX8_ringsOf cX8_ringsOf 5 (some .int) ∈ cr_W := cr_w3 227 (by decide +kernel) rfl
theorem ml_X8_50 : Cond.methodLink RX8 50 yX8_isIn ∈ cr_W := cr_w3 228 (by decide +kernel) rfl
theorem im_X8_isIn : Cond.instanceMethod yX8_isIn ∈ cr_W := cr_w3 230 (by decide +kernel) rfl
theorem sl_X8_isIn : Cond.selects RX8 yX8_isIn yX8_isIn ∈ cr_W := cr_w0 18 (by decide +kernel) rfl
theorem cd_X8_isIn : Cond.code yX8_isIn cX8_isIn 6 (some .boolean) ∈ cr_W := cr_w3 231 (by decide +kernel) rfl
theorem ml_X8_47 : Cond.methodLink RX8 47 yX8_ringPart ∈ cr_W := cr_w3 232 (by decide +kernel) rfl
theorem im_X8_ringPart : Cond.instanceMethod yX8_ringPart ∈ cr_W := cr_w3 234 (by decide +kernel) rfl
theorem sl_X8_ringPart : Cond.selects RX8 yX8_ringPart yX8_ringPart ∈ cr_W := cr_w0 19 (by decide +kernel) rfl
theorem cd_X8_ringPart : Cond.code yX8_ringPart cX8_ringPart 3 (some .int) ∈ cr_W := cr_w3 235 (by decide +kernel) rfl
theorem ml_X8_70 : Cond.methodLink RX8 70 yX8_ones ∈ cr_W := cr_w4 4 (by decide +kernel) rfl
theorem st_X8_ones : Cond.static yX8_ones ∈ cr_W := cr_w4 5 (by decide +kernel) rfl
theorem cd_X8_ones : Cond.code yX8_ones cX8_ones 3 (some .int) ∈ cr_W := cr_w4 6 (by decide +kernel) rfl
theorem ml_L_27 : Cond.methodLink RL 27 yX7_clear ∈ cr_W := cr_w2 127 (by decide +kernel) rfl
theorem im_X7_clear : Cond.instanceMethod yX7_clear ∈ cr_W := cr_w2 128 (by decide +kernel) rfl
theorem sl_X7_clear : Cond.selects RX7 yX7_clear yX7_clear ∈ cr_W := cr_w2 129 (by decide +kernel) rfl
theorem cd_X7_clear : Cond.code yX7_clear cX7_clear 2 (some .int) ∈ cr_W := cr_w2 130 (by decide +kernel) rfl
theorem fl_X7_93 : Cond.fieldLink RX7 93 "ChalkRings$Playground" "placed" "I" ∈ cr_W := cr_w1 110 (by decide +kernel) rfl
theorem ml_X7_96 : Cond.methodLink RX7 96 yX3_wipe ∈ cr_W := cr_w2 131 (by decide +kernel) rfl
theorem im_X3_wipe : Cond.instanceMethod yX3_wipe ∈ cr_W := cr_w2 132 (by decide +kernel) rfl
theorem sl_X3_wipe : Cond.selects RX3 yX3_wipe yX3_wipe ∈ cr_W := cr_w2 133 (by decide +kernel) rfl
theorem cd_X3_wipe : Cond.code yX3_wipe cX3_wipe 5 none ∈ cr_W := cr_w2 134 (by decide +kernel) rfl
theorem ml_L_31 : Cond.methodLink RL 31 yX8_clear ∈ cr_W := cr_w4 50 (by decide +kernel) rfl
theorem im_X8_clear : Cond.instanceMethod yX8_clear ∈ cr_W := cr_w4 51 (by decide +kernel) rfl
theorem sl_X8_clear : Cond.selects RX8 yX8_clear yX8_clear ∈ cr_W := cr_w4 52 (by decide +kernel) rfl
theorem cd_X8_clear : Cond.code yX8_clear cX8_clear 3 (some .int) ∈ cr_W := cr_w4 53 (by decide +kernel) rfl
theorem ml_L_32 : Cond.methodLink RL 32 yX7_flick ∈ cr_W := cr_w2 135 (by decide +kernel) rfl
theorem im_X7_flick : Cond.instanceMethod yX7_flick ∈ cr_W := cr_w2 136 (by decide +kernel) rfl
theorem sl_X7_flick : Cond.selects RX7 yX7_flick yX7_flick ∈ cr_W := cr_w2 137 (by decide +kernel) rfl
theorem cd_X7_flick : Cond.code yX7_flick cX7_flick 5 (some .int) ∈ cr_W := cr_w2 138 (by decide +kernel) rfl
theorem fl_X7_106 : Cond.fieldLink RX7 106 "ChalkRings$Marble" "owner" "I" ∈ cr_W := cr_w1 51 (by decide +kernel) rfl
theorem fl_X7_109 : Cond.fieldLink RX7 109 "ChalkRings$Playground" "onMove" "I" ∈ cr_W := cr_w1 115 (by decide +kernel) rfl
theorem fl_X7_116 : Cond.fieldLink RX7 116 "ChalkRings$Roll" "won" "I" ∈ cr_W := cr_w1 158 (by decide +kernel) rfl
theorem ml_X7_99 : Cond.methodLink RX7 99 yX7_isDirection ∈ cr_W := cr_w2 139 (by decide +kernel) rfl
theorem st_X7_isDirection : Cond.static yX7_isDirection ∈ cr_W := cr_w2 140 (by decide +kernel) rfl
theorem cd_X7_isDirection : Cond.code yX7_isDirection cX7_isDirection 1 (some .boolean) ∈ cr_W := cr_w2 141 (by decide +kernel) rfl
theorem fl_X7_189 : Cond.fieldLink RX7 189 "ChalkRings" "STEP_X" "[I" ∈ cr_W := cr_w2 142 (by decide +kernel) rfl
theorem fl_X7_275 : Cond.fieldLink RX7 275 "ChalkRings" "STEP_Y" "[I" ∈ cr_W := cr_w2 144 (by decide +kernel) rfl
theorem ml_X7_103 : Cond.methodLink RX7 103 yX7_isStrength ∈ cr_W := cr_w2 146 (by decide +kernel) rfl
theorem st_X7_isStrength : Cond.static yX7_isStrength ∈ cr_W := cr_w2 147 (by decide +kernel) rfl
theorem cd_X7_isStrength : Cond.code yX7_isStrength cX7_isStrength 1 (some .boolean) ∈ cr_W := cr_w2 148 (by decide +kernel) rfl
theorem ml_X7_112 : Cond.methodLink RX7 112 yX5_play ∈ cr_W := cr_w2 149 (by decide +kernel) rfl
theorem im_X5_play : Cond.instanceMethod yX5_play ∈ cr_W := cr_w2 150 (by decide +kernel) rfl
theorem sl_X5_play : Cond.selects RX5 yX5_play yX5_play ∈ cr_W := cr_w2 151 (by decide +kernel) rfl
theorem cd_X5_play : Cond.code yX5_play cX5_play 6 none ∈ cr_W := cr_w2 152 (by decide +kernel) rfl
theorem fl_X5_9 : Cond.fieldLink RX5 9 "ChalkRings$Roll" "won" "I" ∈ cr_W := cr_w1 157 (by decide +kernel) rfl
theorem fl_X5_15 : Cond.fieldLink RX5 15 "ChalkRings$Roll" "wonSizes" "I" ∈ cr_W := cr_w1 159 (by decide +kernel) rfl
theorem fl_X5_18 : Cond.fieldLink RX5 18 "ChalkRings$Roll" "hits" "I" ∈ cr_W := cr_w1 161 (by decide +kernel) rfl
theorem fl_X5_21 : Cond.fieldLink RX5 21 "ChalkRings$Roll" "walls" "I" ∈ cr_W := cr_w1 169 (by decide +kernel) rfl
theorem fl_X5_24 : Cond.fieldLink RX5 24 "ChalkRings$Roll" "strength" "I" ∈ cr_W := cr_w1 170 (by decide +kernel) rfl
theorem fl_X5_31 : Cond.fieldLink RX5 31 "ChalkRings$Roll" "addX" "I" ∈ cr_W := cr_w1 171 (by decide +kernel) rfl
theorem fl_X5_37 : Cond.fieldLink RX5 37 "ChalkRings$Roll" "addY" "I" ∈ cr_W := cr_w1 172 (by decide +kernel) rfl
theorem fl_X5_53 : Cond.fieldLink RX5 53 "ChalkRings$Marble" "owner" "I" ∈ cr_W := cr_w1 50 (by decide +kernel) rfl
theorem fl_X5_62 : Cond.fieldLink RX5 62 "ChalkRings$Playground" "flicks" "I" ∈ cr_W := cr_w1 116 (by decide +kernel) rfl
theorem fl_X5_65 : Cond.fieldLink RX5 65 "ChalkRings$Playground" "hits" "I" ∈ cr_W := cr_w1 119 (by decide +kernel) rfl
theorem fl_X5_66 : Cond.fieldLink RX5 66 "ChalkRings$Playground" "walls" "I" ∈ cr_W := cr_w1 127 (by decide +kernel) rfl
theorem fl_X5_67 : Cond.fieldLink RX5 67 "ChalkRings$Playground" "won" "I" ∈ cr_W := cr_w1 122 (by decide +kernel) rfl
theorem st_X7_stepX : Cond.static yX7_stepX ∈ cr_W := cr_w2 154 (by decide +kernel) rfl
theorem cd_X7_stepX : Cond.code yX7_stepX cX7_stepX 1 (some .int) ∈ cr_W := cr_w2 155 (by decide +kernel) rfl
theorem st_X7_stepY : Cond.static yX7_stepY ∈ cr_W := cr_w2 157 (by decide +kernel) rfl
theorem cd_X7_stepY : Cond.code yX7_stepY cX7_stepY 1 (some .int) ∈ cr_W := cr_w2 158 (by decide +kernel) rfl
theorem ml_X5_40 : Cond.methodLink RX5 40 yX3_findMarble ∈ cr_W := cr_w2 159 (by decide +kernel) rfl
theorem ml_X5_46 : Cond.methodLink RX5 46 yX3_markAhead ∈ cr_W := cr_w2 160 (by decide +kernel) rfl
theorem im_X3_markAhead : Cond.instanceMethod yX3_markAhead ∈ cr_W := cr_w2 161 (by decide +kernel) rfl
theorem sl_X3_markAhead : Cond.selects RX3 yX3_markAhead yX3_markAhead ∈ cr_W := cr_w2 162 (by decide +kernel) rfl
theorem cd_X3_markAhead : Cond.code yX3_markAhead cX3_markAhead 5 none ∈ cr_W := cr_w2 163 (by decide +kernel) rfl
theorem fl_X3_116 : Cond.fieldLink RX3 116 "ChalkRings$Marble" "ringsAhead" "I" ∈ cr_W := cr_w1 62 (by decide +kernel) rfl
theorem fl_X3_119 : Cond.fieldLink RX3 119 "ChalkRings$Marble" "wasHit" "Z" ∈ cr_W := cr_w1 64 (by decide +kernel) rfl
theorem ml_X3_112 : Cond.methodLink RX3 112 yX3_ringsAround ∈ cr_W := cr_w2 164 (by decide +kernel) rfl
theorem ml_X5_49 : Cond.methodLink RX5 49 yX5_rollAll ∈ cr_W := cr_w2 165 (by decide +kernel) rfl
theorem im_X5_rollAll : Cond.instanceMethod yX5_rollAll ∈ cr_W := cr_w2 167 (by decide +kernel) rfl
theorem sl_X5_rollAll : Cond.selects RX5 yX5_rollAll yX5_rollAll ∈ cr_W := cr_w0 1 (by decide +kernel) rfl
theorem cd_X5_rollAll : Cond.code yX5_rollAll cX5_rollAll 6 none ∈ cr_W := cr_w2 168 (by decide +kernel) rfl
theorem fl_X5_75 : Cond.fieldLink RX5 75 "ChalkRings$Marble" "wasHit" "Z" ∈ cr_W := cr_w1 63 (by decide +kernel) rfl
theorem fl_X5_79 : Cond.fieldLink RX5 79 "ChalkRings$Marble" "size" "I" ∈ cr_W := cr_w1 46 (by decide +kernel) rfl
theorem fl_X5_86 : Cond.fieldLink RX5 86 "ChalkRings$Marble" "number" "I" ∈ cr_W := cr_w1 34 (by decide +kernel) rfl
theorem fl_X5_89 : Cond.fieldLink RX5 89 "ChalkRings$Roll" "last" "I" ∈ cr_W := cr_w1 163 (by decide +kernel) rfl
theorem fl_X5_92 : Cond.fieldLink RX5 92 "ChalkRings$Marble" "x" "I" ∈ cr_W := cr_w1 38 (by decide +kernel) rfl
theorem fl_X5_95 : Cond.fieldLink RX5 95 "ChalkRings$Roll" "lastX" "I" ∈ cr_W := cr_w1 165 (by decide +kernel) rfl
theorem fl_X5_98 : Cond.fieldLink RX5 98 "ChalkRings$Marble" "y" "I" ∈ cr_W := cr_w1 42 (by decide +kernel) rfl
theorem fl_X5_101 : Cond.fieldLink RX5 101 "ChalkRings$Roll" "lastY" "I" ∈ cr_W := cr_w1 167 (by decide +kernel) rfl
theorem ml_X5_71 : Cond.methodLink RX5 71 yX5_rollToHit ∈ cr_W := cr_w2 169 (by decide +kernel) rfl
theorem im_X5_rollToHit : Cond.instanceMethod yX5_rollToHit ∈ cr_W := cr_w2 171 (by decide +kernel) rfl
theorem sl_X5_rollToHit : Cond.selects RX5 yX5_rollToHit yX5_rollToHit ∈ cr_W := cr_w0 2 (by decide +kernel) rfl
theorem cd_X5_rollToHit : Cond.code yX5_rollToHit cX5_rollToHit 9 (some (.object "ChalkRings$Marble")) ∈ cr_W := cr_w2 172 (by decide +kernel) rfl
theorem ml_X5_120 : Cond.methodLink RX5 120 Lib.Math.max.name ∈ cr_W := cr_w2 180 (by decide +kernel) rfl
theorem st_JMmax : Cond.static Lib.Math.max.name ∈ cr_W := cr_w2 181 (by decide +kernel) rfl
theorem in_JMath : Cond.initialized "java/lang/Math" ∈ cr_W := cr_w1 11 (by decide +kernel) rfl
theorem cd_JMmax : Cond.code Lib.Math.max.name Lib.Math.max.code 2 (some .int) ∈ cr_W := cr_w2 182 (by decide +kernel) rfl
theorem ml_X5_104 : Cond.methodLink RX5 104 yX3_ringsAround ∈ cr_W := cr_w2 173 (by decide +kernel) rfl
theorem ml_X5_107 : Cond.methodLink RX5 107 yX5_turnAtWalls ∈ cr_W := cr_w2 174 (by decide +kernel) rfl
theorem im_X5_turnAtWalls : Cond.instanceMethod yX5_turnAtWalls ∈ cr_W := cr_w2 176 (by decide +kernel) rfl
theorem sl_X5_turnAtWalls : Cond.selects RX5 yX5_turnAtWalls yX5_turnAtWalls ∈ cr_W := cr_w0 3 (by decide +kernel) rfl
theorem cd_X5_turnAtWalls : Cond.code yX5_turnAtWalls cX5_turnAtWalls 2 none ∈ cr_W := cr_w2 177 (by decide +kernel) rfl
theorem ml_X5_111 : Cond.methodLink RX5 111 yX3_marbleOn ∈ cr_W := cr_w2 178 (by decide +kernel) rfl
theorem ml_X5_115 : Cond.methodLink RX5 115 yJ6_bitCount_0f7a4 ∈ cr_W := cr_w2 179 (by decide +kernel) rfl
theorem ml_X5_82 : Cond.methodLink RX5 82 yX5_passedOn ∈ cr_W := cr_w2 183 (by decide +kernel) rfl
theorem im_X5_passedOn : Cond.instanceMethod yX5_passedOn ∈ cr_W := cr_w2 185 (by decide +kernel) rfl
theorem sl_X5_passedOn : Cond.selects RX5 yX5_passedOn yX5_passedOn ∈ cr_W := cr_w0 4 (by decide +kernel) rfl
theorem cd_X5_passedOn : Cond.code yX5_passedOn cX5_passedOn 3 (some .int) ∈ cr_W := cr_w2 186 (by decide +kernel) rfl
theorem ml_X5_125 : Cond.methodLink RX5 125 Lib.Math.min.name ∈ cr_W := cr_w2 187 (by decide +kernel) rfl
theorem st_JMmin : Cond.static Lib.Math.min.name ∈ cr_W := cr_w2 188 (by decide +kernel) rfl
theorem cd_JMmin : Cond.code Lib.Math.min.name Lib.Math.min.code 2 (some .int) ∈ cr_W := cr_w2 189 (by decide +kernel) rfl
theorem ml_X5_58 : Cond.methodLink RX5 58 yX5_takeWinnings ∈ cr_W := cr_w2 190 (by decide +kernel) rfl
theorem im_X5_takeWinnings : Cond.instanceMethod yX5_takeWinnings ∈ cr_W := cr_w2 192 (by decide +kernel) rfl
theorem sl_X5_takeWinnings : Cond.selects RX5 yX5_takeWinnings yX5_takeWinnings ∈ cr_W := cr_w0 5 (by decide +kernel) rfl
theorem cd_X5_takeWinnings : Cond.code yX5_takeWinnings cX5_takeWinnings 6 none ∈ cr_W := cr_w2 193 (by decide +kernel) rfl
theorem fl_X5_128 : Cond.fieldLink RX5 128 "ChalkRings$Playground" "placed" "I" ∈ cr_W := cr_w1 111 (by decide +kernel) rfl
theorem fl_X5_135 : Cond.fieldLink RX5 135 "ChalkRings$Marble" "lies" "Z" ∈ cr_W := cr_w1 60 (by decide +kernel) rfl
theorem fl_X5_138 : Cond.fieldLink RX5 138 "ChalkRings$Marble" "winner" "I" ∈ cr_W := cr_w1 55 (by decide +kernel) rfl
theorem fl_X5_141 : Cond.fieldLink RX5 141 "ChalkRings$Marble" "ringsAhead" "I" ∈ cr_W := cr_w1 61 (by decide +kernel) rfl
theorem ml_X5_131 : Cond.methodLink RX5 131 yX3_isWonBy ∈ cr_W := cr_w2 194 (by decide +kernel) rfl
theorem im_X3_isWonBy : Cond.instanceMethod yX3_isWonBy ∈ cr_W := cr_w2 195 (by decide +kernel) rfl
theorem sl_X3_isWonBy : Cond.selects RX3 yX3_isWonBy yX3_isWonBy ∈ cr_W := cr_w2 196 (by decide +kernel) rfl
theorem cd_X3_isWonBy : Cond.code yX3_isWonBy cX3_isWonBy 3 (some .boolean) ∈ cr_W := cr_w2 197 (by decide +kernel) rfl
theorem ml_X5_144 : Cond.methodLink RX5 144 yX3_growRings ∈ cr_W := cr_w2 198 (by decide +kernel) rfl
theorem im_X3_growRings : Cond.instanceMethod yX3_growRings ∈ cr_W := cr_w2 199 (by decide +kernel) rfl
theorem sl_X3_growRings : Cond.selects RX3 yX3_growRings yX3_growRings ∈ cr_W := cr_w2 200 (by decide +kernel) rfl
theorem cd_X3_growRings : Cond.code yX3_growRings cX3_growRings 4 none ∈ cr_W := cr_w2 201 (by decide +kernel) rfl
theorem ml_X5_68 : Cond.methodLink RX5 68 yX3_nextPlayer ∈ cr_W := cr_w2 202 (by decide +kernel) rfl
theorem im_X3_nextPlayer : Cond.instanceMethod yX3_nextPlayer ∈ cr_W := cr_w2 203 (by decide +kernel) rfl
theorem sl_X3_nextPlayer : Cond.selects RX3 yX3_nextPlayer yX3_nextPlayer ∈ cr_W := cr_w2 204 (by decide +kernel) rfl
theorem cd_X3_nextPlayer : Cond.code yX3_nextPlayer cX3_nextPlayer 1 none ∈ cr_W := cr_w2 205 (by decide +kernel) rfl
theorem ml_L_35 : Cond.methodLink RL 35 yX8_flick ∈ cr_W := cr_w3 187 (by decide +kernel) rfl
theorem im_X8_flick : Cond.instanceMethod yX8_flick ∈ cr_W := cr_w3 188 (by decide +kernel) rfl
theorem sl_X8_flick : Cond.selects RX8 yX8_flick yX8_flick ∈ cr_W := cr_w3 189 (by decide +kernel) rfl
theorem cd_X8_flick : Cond.code yX8_flick cX8_flick 4 (some .int) ∈ cr_W := cr_w3 190 (by decide +kernel) rfl
theorem fl_X8_89 : Cond.fieldLink RX8 89 "ChalkRingsModel" "wonMany" "I" ∈ cr_W := cr_w3 132 (by decide +kernel) rfl
theorem ml_X8_98 : Cond.methodLink RX8 98 yX8_isFlick ∈ cr_W := cr_w3 198 (by decide +kernel) rfl
theorem st_X8_isFlick : Cond.static yX8_isFlick ∈ cr_W := cr_w3 199 (by decide +kernel) rfl
theorem cd_X8_isFlick : Cond.code yX8_isFlick cX8_isFlick 2 (some .boolean) ∈ cr_W := cr_w3 200 (by decide +kernel) rfl
theorem ml_X8_105 : Cond.methodLink RX8 105 yX8_flicks ∈ cr_W := cr_w3 216 (by decide +kernel) rfl
theorem im_X8_flicks : Cond.instanceMethod yX8_flicks ∈ cr_W := cr_w3 218 (by decide +kernel) rfl
theorem sl_X8_flicks : Cond.selects RX8 yX8_flicks yX8_flicks ∈ cr_W := cr_w0 15 (by decide +kernel) rfl
theorem cd_X8_flicks : Cond.code yX8_flicks cX8_flicks 8 none ∈ cr_W := cr_w3 219 (by decide +kernel) rfl
theorem fl_X8_92 : Cond.fieldLink RX8 92 "ChalkRingsModel" "wonBulk" "I" ∈ cr_W := cr_w3 133 (by decide +kernel) rfl
theorem fl_X8_60 : Cond.fieldLink RX8 60 "ChalkRingsModel" "hit" "I" ∈ cr_W := cr_w3 128 (by decide +kernel) rfl
theorem ml_X8_66 : Cond.methodLink RX8 66 yX8_ringsOfMarble ∈ cr_W := cr_w3 220 (by decide +kernel) rfl
theorem im_X8_ringsOfMarble : Cond.instanceMethod yX8_ringsOfMarble ∈ cr_W := cr_w3 222 (by decide +kernel) rfl
theorem sl_X8_ringsOfMarble : Cond.selects RX8 yX8_ringsOfMarble yX8_ringsOfMarble ∈ cr_W := cr_w0 16 (by decide +kernel) rfl
theorem cd_X8_ringsOfMarble : Cond.code yX8_ringsOfMarble cX8_ringsOfMarble 2 (some .int) ∈ cr_W := cr_w3 223 (by decide +kernel) rfl
theorem ml_X8_86 : Cond.methodLink RX8 86 yX8_rolls ∈ cr_W := cr_w3 236 (by decide +kernel) rfl
theorem im_X8_rolls : Cond.instanceMethod yX8_rolls ∈ cr_W := cr_w3 238 (by decide +kernel) rfl
theorem sl_X8_rolls : Cond.selects RX8 yX8_rolls yX8_rolls ∈ cr_W := cr_w0 20 (by decide +kernel) rfl
theorem cd_X8_rolls : Cond.code yX8_rolls cX8_rolls 12 none ∈ cr_W := cr_w3 239 (by decide +kernel) rfl
theorem fl_X8_77 : Cond.fieldLink RX8 77 "ChalkRingsModel" "lastOne" "I" ∈ cr_W := cr_w3 129 (by decide +kernel) rfl
theorem fl_X8_80 : Cond.fieldLink RX8 80 "ChalkRingsModel" "lastX" "I" ∈ cr_W := cr_w3 130 (by decide +kernel) rfl
theorem fl_X8_83 : Cond.fieldLink RX8 83 "ChalkRingsModel" "lastY" "I" ∈ cr_W := cr_w3 131 (by decide +kernel) rfl
theorem ml_X8_109 : Cond.methodLink RX8 109 yX8_goesOn ∈ cr_W := cr_w4 11 (by decide +kernel) rfl
theorem im_X8_goesOn : Cond.instanceMethod yX8_goesOn ∈ cr_W := cr_w4 13 (by decide +kernel) rfl
theorem sl_X8_goesOn : Cond.selects RX8 yX8_goesOn yX8_goesOn ∈ cr_W := cr_w0 23 (by decide +kernel) rfl
theorem cd_X8_goesOn : Cond.code yX8_goesOn cX8_goesOn 1 none ∈ cr_W := cr_w4 14 (by decide +kernel) rfl
theorem ml_L_36 : Cond.methodLink RL 36 yX7_pass ∈ cr_W := cr_w2 206 (by decide +kernel) rfl
theorem im_X7_pass : Cond.instanceMethod yX7_pass ∈ cr_W := cr_w2 207 (by decide +kernel) rfl
theorem sl_X7_pass : Cond.selects RX7 yX7_pass yX7_pass ∈ cr_W := cr_w2 208 (by decide +kernel) rfl
theorem cd_X7_pass : Cond.code yX7_pass cX7_pass 1 (some .int) ∈ cr_W := cr_w2 209 (by decide +kernel) rfl
theorem ml_X7_119 : Cond.methodLink RX7 119 yX3_nextPlayer ∈ cr_W := cr_w2 210 (by decide +kernel) rfl
theorem ml_L_39 : Cond.methodLink RL 39 yX8_pass ∈ cr_W := cr_w4 15 (by decide +kernel) rfl
theorem im_X8_pass : Cond.instanceMethod yX8_pass ∈ cr_W := cr_w4 16 (by decide +kernel) rfl
theorem sl_X8_pass : Cond.selects RX8 yX8_pass yX8_pass ∈ cr_W := cr_w4 17 (by decide +kernel) rfl
theorem cd_X8_pass : Cond.code yX8_pass cX8_pass 1 (some .int) ∈ cr_W := cr_w4 18 (by decide +kernel) rfl
theorem ml_L_40 : Cond.methodLink RL 40 yX7_count ∈ cr_W := cr_w2 211 (by decide +kernel) rfl
theorem im_X7_count : Cond.instanceMethod yX7_count ∈ cr_W := cr_w2 212 (by decide +kernel) rfl
theorem sl_X7_count : Cond.selects RX7 yX7_count yX7_count ∈ cr_W := cr_w2 213 (by decide +kernel) rfl
theorem cd_X7_count : Cond.code yX7_count cX7_count 2 (some .int) ∈ cr_W := cr_w2 214 (by decide +kernel) rfl
theorem fl_X7_122 : Cond.fieldLink RX7 122 "ChalkRings$Playground" "drawn" "I" ∈ cr_W := cr_w1 113 (by decide +kernel) rfl
theorem fl_X7_125 : Cond.fieldLink RX7 125 "ChalkRings$Playground" "flicks" "I" ∈ cr_W := cr_w1 118 (by decide +kernel) rfl
theorem fl_X7_128 : Cond.fieldLink RX7 128 "ChalkRings$Playground" "hits" "I" ∈ cr_W := cr_w1 121 (by decide +kernel) rfl
theorem fl_X7_131 : Cond.fieldLink RX7 131 "ChalkRings$Playground" "won" "I" ∈ cr_W := cr_w1 124 (by decide +kernel) rfl
theorem fl_X7_132 : Cond.fieldLink RX7 132 "ChalkRings$Playground" "grown" "I" ∈ cr_W := cr_w1 126 (by decide +kernel) rfl
theorem fl_X7_135 : Cond.fieldLink RX7 135 "ChalkRings$Playground" "walls" "I" ∈ cr_W := cr_w1 129 (by decide +kernel) rfl
theorem ml_L_44 : Cond.methodLink RL 44 yX8_count ∈ cr_W := cr_w4 54 (by decide +kernel) rfl
theorem im_X8_count : Cond.instanceMethod yX8_count ∈ cr_W := cr_w4 55 (by decide +kernel) rfl
theorem sl_X8_count : Cond.selects RX8 yX8_count yX8_count ∈ cr_W := cr_w4 56 (by decide +kernel) rfl
theorem cd_X8_count : Cond.code yX8_count cX8_count 2 (some .int) ∈ cr_W := cr_w4 57 (by decide +kernel) rfl
theorem ml_L_45 : Cond.methodLink RL 45 yX7_marble ∈ cr_W := cr_w2 215 (by decide +kernel) rfl
theorem im_X7_marble : Cond.instanceMethod yX7_marble ∈ cr_W := cr_w2 216 (by decide +kernel) rfl
theorem sl_X7_marble : Cond.selects RX7 yX7_marble yX7_marble ∈ cr_W := cr_w2 217 (by decide +kernel) rfl
theorem cd_X7_marble : Cond.code yX7_marble cX7_marble 4 (some .int) ∈ cr_W := cr_w2 218 (by decide +kernel) rfl
theorem fl_X7_138 : Cond.fieldLink RX7 138 "ChalkRings$Marble" "size" "I" ∈ cr_W := cr_w1 48 (by decide +kernel) rfl
theorem fl_X7_141 : Cond.fieldLink RX7 141 "ChalkRings$Marble" "winner" "I" ∈ cr_W := cr_w1 56 (by decide +kernel) rfl
theorem ml_L_49 : Cond.methodLink RL 49 yX8_marble ∈ cr_W := cr_w4 58 (by decide +kernel) rfl
theorem im_X8_marble : Cond.instanceMethod yX8_marble ∈ cr_W := cr_w4 59 (by decide +kernel) rfl
theorem sl_X8_marble : Cond.selects RX8 yX8_marble yX8_marble ∈ cr_W := cr_w4 60 (by decide +kernel) rfl
theorem cd_X8_marble : Cond.code yX8_marble cX8_marble 3 (some .int) ∈ cr_W := cr_w4 61 (by decide +kernel) rfl
theorem ml_X8_129 : Cond.methodLink RX8 129 yX8_ofMarble ∈ cr_W := cr_w4 62 (by decide +kernel) rfl
theorem im_X8_ofMarble : Cond.instanceMethod yX8_ofMarble ∈ cr_W := cr_w4 64 (by decide +kernel) rfl
theorem sl_X8_ofMarble : Cond.selects RX8 yX8_ofMarble yX8_ofMarble ∈ cr_W := cr_w0 28 (by decide +kernel) rfl
theorem cd_X8_ofMarble : Cond.code yX8_ofMarble cX8_ofMarble 3 (some .int) ∈ cr_W := cr_w4 65 (by decide +kernel) rfl
theorem ml_L_50 : Cond.methodLink RL 50 yX7_ring ∈ cr_W := cr_w2 219 (by decide +kernel) rfl
theorem im_X7_ring : Cond.instanceMethod yX7_ring ∈ cr_W := cr_w2 220 (by decide +kernel) rfl
theorem sl_X7_ring : Cond.selects RX7 yX7_ring yX7_ring ∈ cr_W := cr_w2 221 (by decide +kernel) rfl
theorem cd_X7_ring : Cond.code yX7_ring cX7_ring 4 (some .int) ∈ cr_W := cr_w2 222 (by decide +kernel) rfl
theorem fl_X7_148 : Cond.fieldLink RX7 148 "ChalkRings$Ring" "x" "I" ∈ cr_W := cr_w1 93 (by decide +kernel) rfl
theorem fl_X7_151 : Cond.fieldLink RX7 151 "ChalkRings$Ring" "y" "I" ∈ cr_W := cr_w1 96 (by decide +kernel) rfl
theorem fl_X7_152 : Cond.fieldLink RX7 152 "ChalkRings$Ring" "radius" "I" ∈ cr_W := cr_w1 99 (by decide +kernel) rfl
theorem ml_X7_144 : Cond.methodLink RX7 144 yX3_findRing ∈ cr_W := cr_w2 223 (by decide +kernel) rfl
theorem im_X3_findRing : Cond.instanceMethod yX3_findRing ∈ cr_W := cr_w2 224 (by decide +kernel) rfl
theorem sl_X3_findRing : Cond.selects RX3 yX3_findRing yX3_findRing ∈ cr_W := cr_w2 225 (by decide +kernel) rfl
theorem cd_X3_findRing : Cond.code yX3_findRing cX3_findRing 2 (some (.object "ChalkRings$Ring")) ∈ cr_W := cr_w2 226 (by decide +kernel) rfl
theorem ml_X7_155 : Cond.methodLink RX7 155 yX3_marblesIn ∈ cr_W := cr_w2 227 (by decide +kernel) rfl
theorem im_X3_marblesIn : Cond.instanceMethod yX3_marblesIn ∈ cr_W := cr_w2 228 (by decide +kernel) rfl
theorem sl_X3_marblesIn : Cond.selects RX3 yX3_marblesIn yX3_marblesIn ∈ cr_W := cr_w2 229 (by decide +kernel) rfl
theorem cd_X3_marblesIn : Cond.code yX3_marblesIn cX3_marblesIn 7 (some .int) ∈ cr_W := cr_w2 230 (by decide +kernel) rfl
theorem ml_X7_159 : Cond.methodLink RX7 159 yX4_pointsInside ∈ cr_W := cr_w2 231 (by decide +kernel) rfl
theorem im_X4_pointsInside : Cond.instanceMethod yX4_pointsInside ∈ cr_W := cr_w2 232 (by decide +kernel) rfl
theorem sl_X4_pointsInside : Cond.selects RX4 yX4_pointsInside yX4_pointsInside ∈ cr_W := cr_w2 233 (by decide +kernel) rfl
theorem cd_X4_pointsInside : Cond.code yX4_pointsInside cX4_pointsInside 4 (some .int) ∈ cr_W := cr_w2 234 (by decide +kernel) rfl
theorem ml_X4_21 : Cond.methodLink RX4 21 yX4_holds ∈ cr_W := cr_w2 235 (by decide +kernel) rfl
theorem ml_L_53 : Cond.methodLink RL 53 yX8_ring ∈ cr_W := cr_w4 66 (by decide +kernel) rfl
theorem im_X8_ring : Cond.instanceMethod yX8_ring ∈ cr_W := cr_w4 67 (by decide +kernel) rfl
theorem sl_X8_ring : Cond.selects RX8 yX8_ring yX8_ring ∈ cr_W := cr_w4 68 (by decide +kernel) rfl
theorem cd_X8_ring : Cond.code yX8_ring cX8_ring 3 (some .int) ∈ cr_W := cr_w4 69 (by decide +kernel) rfl
theorem ml_X8_138 : Cond.methodLink RX8 138 yX8_ofRing ∈ cr_W := cr_w4 70 (by decide +kernel) rfl
theorem im_X8_ofRing : Cond.instanceMethod yX8_ofRing ∈ cr_W := cr_w4 72 (by decide +kernel) rfl
theorem sl_X8_ofRing : Cond.selects RX8 yX8_ofRing yX8_ofRing ∈ cr_W := cr_w0 29 (by decide +kernel) rfl
theorem cd_X8_ofRing : Cond.code yX8_ofRing cX8_ofRing 3 (some .int) ∈ cr_W := cr_w4 73 (by decide +kernel) rfl
theorem ml_X8_132 : Cond.methodLink RX8 132 yX8_marblesIn ∈ cr_W := cr_w4 74 (by decide +kernel) rfl
theorem im_X8_marblesIn : Cond.instanceMethod yX8_marblesIn ∈ cr_W := cr_w4 76 (by decide +kernel) rfl
theorem sl_X8_marblesIn : Cond.selects RX8 yX8_marblesIn yX8_marblesIn ∈ cr_W := cr_w0 30 (by decide +kernel) rfl
theorem cd_X8_marblesIn : Cond.code yX8_marblesIn cX8_marblesIn 4 (some .int) ∈ cr_W := cr_w4 77 (by decide +kernel) rfl
theorem ml_X8_135 : Cond.methodLink RX8 135 yX8_pointsIn ∈ cr_W := cr_w4 78 (by decide +kernel) rfl
theorem im_X8_pointsIn : Cond.instanceMethod yX8_pointsIn ∈ cr_W := cr_w4 80 (by decide +kernel) rfl
theorem sl_X8_pointsIn : Cond.selects RX8 yX8_pointsIn yX8_pointsIn ∈ cr_W := cr_w0 31 (by decide +kernel) rfl
theorem cd_X8_pointsIn : Cond.code yX8_pointsIn cX8_pointsIn 5 (some .int) ∈ cr_W := cr_w4 81 (by decide +kernel) rfl
theorem ml_L_54 : Cond.methodLink RL 54 yX7_at ∈ cr_W := cr_w2 236 (by decide +kernel) rfl
theorem im_X7_at : Cond.instanceMethod yX7_at ∈ cr_W := cr_w2 237 (by decide +kernel) rfl
theorem sl_X7_at : Cond.selects RX7 yX7_at yX7_at ∈ cr_W := cr_w2 238 (by decide +kernel) rfl
theorem cd_X7_at : Cond.code yX7_at cX7_at 4 (some .int) ∈ cr_W := cr_w2 239 (by decide +kernel) rfl
theorem fl_X7_163 : Cond.fieldLink RX7 163 "ChalkRings$Marble" "number" "I" ∈ cr_W := cr_w1 36 (by decide +kernel) rfl
theorem ml_L_57 : Cond.methodLink RL 57 yX8_at ∈ cr_W := cr_w4 82 (by decide +kernel) rfl
theorem im_X8_at : Cond.instanceMethod yX8_at ∈ cr_W := cr_w4 83 (by decide +kernel) rfl
theorem sl_X8_at : Cond.selects RX8 yX8_at yX8_at ∈ cr_W := cr_w4 84 (by decide +kernel) rfl
theorem cd_X8_at : Cond.code yX8_at cX8_at 3 (some .int) ∈ cr_W := cr_w4 85 (by decide +kernel) rfl
theorem ml_L_58 : Cond.methodLink RL 58 yX7_score ∈ cr_W := cr_w3 0 (by decide +kernel) rfl
theorem im_X7_score : Cond.instanceMethod yX7_score ∈ cr_W := cr_w3 1 (by decide +kernel) rfl
theorem sl_X7_score : Cond.selects RX7 yX7_score yX7_score ∈ cr_W := cr_w3 2 (by decide +kernel) rfl
theorem cd_X7_score : Cond.code yX7_score cX7_score 2 (some .int) ∈ cr_W := cr_w3 3 (by decide +kernel) rfl
theorem ml_X7_166 : Cond.methodLink RX7 166 yX7_isPlayer ∈ cr_W := cr_w3 4 (by decide +kernel) rfl
theorem ml_X7_169 : Cond.methodLink RX7 169 yX3_pointsOf ∈ cr_W := cr_w3 5 (by decide +kernel) rfl
theorem im_X3_pointsOf : Cond.instanceMethod yX3_pointsOf ∈ cr_W := cr_w3 6 (by decide +kernel) rfl
theorem sl_X3_pointsOf : Cond.selects RX3 yX3_pointsOf yX3_pointsOf ∈ cr_W := cr_w3 7 (by decide +kernel) rfl
theorem cd_X3_pointsOf : Cond.code yX3_pointsOf cX3_pointsOf 7 (some .int) ∈ cr_W := cr_w3 8 (by decide +kernel) rfl
theorem ml_L_61 : Cond.methodLink RL 61 yX8_score ∈ cr_W := cr_w4 86 (by decide +kernel) rfl
theorem im_X8_score : Cond.instanceMethod yX8_score ∈ cr_W := cr_w4 87 (by decide +kernel) rfl
theorem sl_X8_score : Cond.selects RX8 yX8_score yX8_score ∈ cr_W := cr_w4 88 (by decide +kernel) rfl
theorem cd_X8_score : Cond.code yX8_score cX8_score 2 (some .int) ∈ cr_W := cr_w4 89 (by decide +kernel) rfl
theorem ml_X8_141 : Cond.methodLink RX8 141 yX8_scoreOf ∈ cr_W := cr_w4 90 (by decide +kernel) rfl
theorem im_X8_scoreOf : Cond.instanceMethod yX8_scoreOf ∈ cr_W := cr_w4 92 (by decide +kernel) rfl
theorem sl_X8_scoreOf : Cond.selects RX8 yX8_scoreOf yX8_scoreOf ∈ cr_W := cr_w0 32 (by decide +kernel) rfl
theorem cd_X8_scoreOf : Cond.code yX8_scoreOf cX8_scoreOf 4 (some .int) ∈ cr_W := cr_w4 93 (by decide +kernel) rfl
theorem ml_L_62 : Cond.methodLink RL 62 yX7_leader ∈ cr_W := cr_w3 9 (by decide +kernel) rfl
theorem im_X7_leader : Cond.instanceMethod yX7_leader ∈ cr_W := cr_w3 10 (by decide +kernel) rfl
theorem sl_X7_leader : Cond.selects RX7 yX7_leader yX7_leader ∈ cr_W := cr_w3 11 (by decide +kernel) rfl
theorem cd_X7_leader : Cond.code yX7_leader cX7_leader 3 (some .int) ∈ cr_W := cr_w3 12 (by decide +kernel) rfl
theorem ml_L_65 : Cond.methodLink RL 65 yX8_leader ∈ cr_W := cr_w4 94 (by decide +kernel) rfl
theorem im_X8_leader : Cond.instanceMethod yX8_leader ∈ cr_W := cr_w4 95 (by decide +kernel) rfl
theorem sl_X8_leader : Cond.selects RX8 yX8_leader yX8_leader ∈ cr_W := cr_w4 96 (by decide +kernel) rfl
theorem cd_X8_leader : Cond.code yX8_leader cX8_leader 1 (some .int) ∈ cr_W := cr_w4 97 (by decide +kernel) rfl
theorem ml_X8_144 : Cond.methodLink RX8 144 yX8_findLeader ∈ cr_W := cr_w4 98 (by decide +kernel) rfl
theorem im_X8_findLeader : Cond.instanceMethod yX8_findLeader ∈ cr_W := cr_w4 100 (by decide +kernel) rfl
theorem sl_X8_findLeader : Cond.selects RX8 yX8_findLeader yX8_findLeader ∈ cr_W := cr_w0 33 (by decide +kernel) rfl
theorem cd_X8_findLeader : Cond.code yX8_findLeader cX8_findLeader 3 (some .int) ∈ cr_W := cr_w4 101 (by decide +kernel) rfl
theorem ml_L_66 : Cond.methodLink RL 66 yX7_ifFlicked ∈ cr_W := cr_w3 13 (by decide +kernel) rfl
theorem im_X7_ifFlicked : Cond.instanceMethod yX7_ifFlicked ∈ cr_W := cr_w3 14 (by decide +kernel) rfl
theorem sl_X7_ifFlicked : Cond.selects RX7 yX7_ifFlicked yX7_ifFlicked ∈ cr_W := cr_w3 15 (by decide +kernel) rfl
theorem cd_X7_ifFlicked : Cond.code yX7_ifFlicked cX7_ifFlicked 6 (some .int) ∈ cr_W := cr_w3 16 (by decide +kernel) rfl
theorem fl_X7_176 : Cond.fieldLink RX7 176 "ChalkRings$Roll" "wonSizes" "I" ∈ cr_W := cr_w1 160 (by decide +kernel) rfl
theorem fl_X7_179 : Cond.fieldLink RX7 179 "ChalkRings$Roll" "hits" "I" ∈ cr_W := cr_w1 162 (by decide +kernel) rfl
theorem fl_X7_180 : Cond.fieldLink RX7 180 "ChalkRings$Roll" "last" "I" ∈ cr_W := cr_w1 164 (by decide +kernel) rfl
theorem fl_X7_183 : Cond.fieldLink RX7 183 "ChalkRings$Roll" "lastX" "I" ∈ cr_W := cr_w1 166 (by decide +kernel) rfl
theorem fl_X7_186 : Cond.fieldLink RX7 186 "ChalkRings$Roll" "lastY" "I" ∈ cr_W := cr_w1 168 (by decide +kernel) rfl
theorem ml_X7_172 : Cond.methodLink RX7 172 yX7_tryFlick ∈ cr_W := cr_w3 17 (by decide +kernel) rfl
theorem im_X7_tryFlick : Cond.instanceMethod yX7_tryFlick ∈ cr_W := cr_w3 19 (by decide +kernel) rfl
theorem sl_X7_tryFlick : Cond.selects RX7 yX7_tryFlick yX7_tryFlick ∈ cr_W := cr_w0 6 (by decide +kernel) rfl
theorem cd_X7_tryFlick : Cond.code yX7_tryFlick cX7_tryFlick 4 none ∈ cr_W := cr_w3 20 (by decide +kernel) rfl
theorem ml_X7_262 : Cond.methodLink RX7 262 yX3_copyFrom ∈ cr_W := cr_w3 21 (by decide +kernel) rfl
theorem ml_L_69 : Cond.methodLink RL 69 yX8_ifFlicked ∈ cr_W := cr_w4 102 (by decide +kernel) rfl
theorem im_X8_ifFlicked : Cond.instanceMethod yX8_ifFlicked ∈ cr_W := cr_w4 103 (by decide +kernel) rfl
theorem sl_X8_ifFlicked : Cond.selects RX8 yX8_ifFlicked yX8_ifFlicked ∈ cr_W := cr_w4 104 (by decide +kernel) rfl
theorem cd_X8_ifFlicked : Cond.code yX8_ifFlicked cX8_ifFlicked 6 (some .int) ∈ cr_W := cr_w4 105 (by decide +kernel) rfl
theorem ml_L_70 : Cond.methodLink RL 70 yX7_bestFlick ∈ cr_W := cr_w3 22 (by decide +kernel) rfl
theorem im_X7_bestFlick : Cond.instanceMethod yX7_bestFlick ∈ cr_W := cr_w3 23 (by decide +kernel) rfl
theorem sl_X7_bestFlick : Cond.selects RX7 yX7_bestFlick yX7_bestFlick ∈ cr_W := cr_w3 24 (by decide +kernel) rfl
theorem cd_X7_bestFlick : Cond.code yX7_bestFlick cX7_bestFlick 7 (some .int) ∈ cr_W := cr_w3 25 (by decide +kernel) rfl
theorem ml_L_73 : Cond.methodLink RL 73 yX8_bestFlick ∈ cr_W := cr_w4 106 (by decide +kernel) rfl
theorem im_X8_bestFlick : Cond.instanceMethod yX8_bestFlick ∈ cr_W := cr_w4 107 (by decide +kernel) rfl
theorem sl_X8_bestFlick : Cond.selects RX8 yX8_bestFlick yX8_bestFlick ∈ cr_W := cr_w4 108 (by decide +kernel) rfl
theorem cd_X8_bestFlick : Cond.code yX8_bestFlick cX8_bestFlick 6 (some .int) ∈ cr_W := cr_w4 109 (by decide +kernel) rfl
theorem ml_L_74 : Cond.methodLink RL 74 yX7_wayOut ∈ cr_W := cr_w3 26 (by decide +kernel) rfl
theorem im_X7_wayOut : Cond.instanceMethod yX7_wayOut ∈ cr_W := cr_w3 27 (by decide +kernel) rfl
theorem sl_X7_wayOut : Cond.selects RX7 yX7_wayOut yX7_wayOut ∈ cr_W := cr_w3 28 (by decide +kernel) rfl
theorem cd_X7_wayOut : Cond.code yX7_wayOut cX7_wayOut 4 (some .int) ∈ cr_W := cr_w3 29 (by decide +kernel) rfl
theorem ml_X7_193 : Cond.methodLink RX7 193 yX3_isOutAfter ∈ cr_W := cr_w3 30 (by decide +kernel) rfl
theorem im_X3_isOutAfter : Cond.instanceMethod yX3_isOutAfter ∈ cr_W := cr_w3 31 (by decide +kernel) rfl
theorem sl_X3_isOutAfter : Cond.selects RX3 yX3_isOutAfter yX3_isOutAfter ∈ cr_W := cr_w3 32 (by decide +kernel) rfl
theorem cd_X3_isOutAfter : Cond.code yX3_isOutAfter cX3_isOutAfter 6 (some .boolean) ∈ cr_W := cr_w3 33 (by decide +kernel) rfl
theorem ml_L_77 : Cond.methodLink RL 77 yX8_wayOut ∈ cr_W := cr_w4 110 (by decide +kernel) rfl
theorem im_X8_wayOut : Cond.instanceMethod yX8_wayOut ∈ cr_W := cr_w4 111 (by decide +kernel) rfl
theorem sl_X8_wayOut : Cond.selects RX8 yX8_wayOut yX8_wayOut ∈ cr_W := cr_w4 112 (by decide +kernel) rfl
theorem cd_X8_wayOut : Cond.code yX8_wayOut cX8_wayOut 2 (some .int) ∈ cr_W := cr_w4 113 (by decide +kernel) rfl
theorem ml_X8_148 : Cond.methodLink RX8 148 yX8_stepsOut ∈ cr_W := cr_w4 114 (by decide +kernel) rfl
theorem im_X8_stepsOut : Cond.instanceMethod yX8_stepsOut ∈ cr_W := cr_w4 116 (by decide +kernel) rfl
theorem sl_X8_stepsOut : Cond.selects RX8 yX8_stepsOut yX8_stepsOut ∈ cr_W := cr_w0 34 (by decide +kernel) rfl
theorem cd_X8_stepsOut : Cond.code yX8_stepsOut cX8_stepsOut 7 (some .int) ∈ cr_W := cr_w4 117 (by decide +kernel) rfl
theorem ml_L_78 : Cond.methodLink RL 78 yX7_type ∈ cr_W := cr_w3 37 (by decide +kernel) rfl
theorem im_X7_type : Cond.instanceMethod yX7_type ∈ cr_W := cr_w3 38 (by decide +kernel) rfl
theorem sl_X7_type : Cond.selects RX7 yX7_type yX7_type ∈ cr_W := cr_w3 39 (by decide +kernel) rfl
theorem cd_X7_type : Cond.code yX7_type cX7_type 2 (some .int) ∈ cr_W := cr_w3 40 (by decide +kernel) rfl
theorem fl_X7_197 : Cond.fieldLink RX7 197 "ChalkRings$ItemReader" "text" "LChalkRings$Text;" ∈ cr_W := cr_w1 237 (by decide +kernel) rfl
theorem fl_X7_207 : Cond.fieldLink RX7 207 "ChalkRings$Text" "length" "I" ∈ cr_W := cr_w1 229 (by decide +kernel) rfl
theorem ml_X7_201 : Cond.methodLink RX7 201 yX6_append ∈ cr_W := cr_w3 41 (by decide +kernel) rfl
theorem im_X6_append : Cond.instanceMethod yX6_append ∈ cr_W := cr_w3 42 (by decide +kernel) rfl
theorem sl_X6_append : Cond.selects RX6 yX6_append yX6_append ∈ cr_W := cr_w3 43 (by decide +kernel) rfl
theorem cd_X6_append : Cond.code yX6_append cX6_append 2 (some .boolean) ∈ cr_W := cr_w3 44 (by decide +kernel) rfl
theorem fl_X6_15 : Cond.fieldLink RX6 15 "ChalkRings$Text" "length" "I" ∈ cr_W := cr_w1 227 (by decide +kernel) rfl
theorem ml_L_81 : Cond.methodLink RL 81 yX8_type ∈ cr_W := cr_w4 118 (by decide +kernel) rfl
theorem im_X8_type : Cond.instanceMethod yX8_type ∈ cr_W := cr_w4 119 (by decide +kernel) rfl
theorem sl_X8_type : Cond.selects RX8 yX8_type yX8_type ∈ cr_W := cr_w4 120 (by decide +kernel) rfl
theorem cd_X8_type : Cond.code yX8_type cX8_type 2 (some .int) ∈ cr_W := cr_w4 121 (by decide +kernel) rfl
theorem fl_X8_151 : Cond.fieldLink RX8 151 "ChalkRingsModel" "textLength" "I" ∈ cr_W := cr_w3 124 (by decide +kernel) rfl
theorem ml_L_82 : Cond.methodLink RL 82 yX7_clearText ∈ cr_W := cr_w3 45 (by decide +kernel) rfl
theorem im_X7_clearText : Cond.instanceMethod yX7_clearText ∈ cr_W := cr_w3 46 (by decide +kernel) rfl
theorem sl_X7_clearText : Cond.selects RX7 yX7_clearText yX7_clearText ∈ cr_W := cr_w3 47 (by decide +kernel) rfl
theorem cd_X7_clearText : Cond.code yX7_clearText cX7_clearText 2 (some .int) ∈ cr_W := cr_w3 48 (by decide +kernel) rfl
theorem ml_L_85 : Cond.methodLink RL 85 yX8_clearText ∈ cr_W := cr_w4 122 (by decide +kernel) rfl
theorem im_X8_clearText : Cond.instanceMethod yX8_clearText ∈ cr_W := cr_w4 123 (by decide +kernel) rfl
theorem sl_X8_clearText : Cond.selects RX8 yX8_clearText yX8_clearText ∈ cr_W := cr_w4 124 (by decide +kernel) rfl
theorem cd_X8_clearText : Cond.code yX8_clearText cX8_clearText 2 (some .int) ∈ cr_W := cr_w4 125 (by decide +kernel) rfl
theorem ml_L_86 : Cond.methodLink RL 86 yX7_syntaxError ∈ cr_W := cr_w3 49 (by decide +kernel) rfl
theorem im_X7_syntaxError : Cond.instanceMethod yX7_syntaxError ∈ cr_W := cr_w3 50 (by decide +kernel) rfl
theorem sl_X7_syntaxError : Cond.selects RX7 yX7_syntaxError yX7_syntaxError ∈ cr_W := cr_w3 51 (by decide +kernel) rfl
theorem cd_X7_syntaxError : Cond.code yX7_syntaxError cX7_syntaxError 2 (some .int) ∈ cr_W := cr_w3 52 (by decide +kernel) rfl
theorem fl_X7_220 : Cond.fieldLink RX7 220 "ChalkRings$ItemReader" "failed" "Z" ∈ cr_W := cr_w2 1 (by decide +kernel) rfl
theorem fl_X7_223 : Cond.fieldLink RX7 223 "ChalkRings$ItemReader" "place" "I" ∈ cr_W := cr_w1 239 (by decide +kernel) rfl
theorem ml_X7_210 : Cond.methodLink RX7 210 yX1_start ∈ cr_W := cr_w3 53 (by decide +kernel) rfl
theorem im_X1_start : Cond.instanceMethod yX1_start ∈ cr_W := cr_w3 54 (by decide +kernel) rfl
theorem sl_X1_start : Cond.selects RX1 yX1_start yX1_start ∈ cr_W := cr_w3 55 (by decide +kernel) rfl
theorem cd_X1_start : Cond.code yX1_start cX1_start 1 none ∈ cr_W := cr_w3 56 (by decide +kernel) rfl
theorem fl_X1_18 : Cond.fieldLink RX1 18 "ChalkRings$ItemReader" "place" "I" ∈ cr_W := cr_w1 238 (by decide +kernel) rfl
theorem fl_X1_22 : Cond.fieldLink RX1 22 "ChalkRings$ItemReader" "failed" "Z" ∈ cr_W := cr_w2 0 (by decide +kernel) rfl
theorem ml_X7_213 : Cond.methodLink RX7 213 yX1_readItem ∈ cr_W := cr_w3 57 (by decide +kernel) rfl
theorem im_X1_readItem : Cond.instanceMethod yX1_readItem ∈ cr_W := cr_w3 58 (by decide +kernel) rfl
theorem sl_X1_readItem : Cond.selects RX1 yX1_readItem yX1_readItem ∈ cr_W := cr_w3 59 (by decide +kernel) rfl
theorem cd_X1_readItem : Cond.code yX1_readItem cX1_readItem 1 none ∈ cr_W := cr_w3 60 (by decide +kernel) rfl
theorem fl_X1_37 : Cond.fieldLink RX1 37 "ChalkRings$ItemReader" "isRing" "Z" ∈ cr_W := cr_w2 2 (by decide +kernel) rfl
theorem fl_X1_44 : Cond.fieldLink RX1 44 "ChalkRings$ItemReader" "x" "I" ∈ cr_W := cr_w2 4 (by decide +kernel) rfl
theorem fl_X1_47 : Cond.fieldLink RX1 47 "ChalkRings$ItemReader" "y" "I" ∈ cr_W := cr_w2 6 (by decide +kernel) rfl
theorem fl_X1_50 : Cond.fieldLink RX1 50 "ChalkRings$ItemReader" "radius" "I" ∈ cr_W := cr_w2 8 (by decide +kernel) rfl
theorem fl_X1_53 : Cond.fieldLink RX1 53 "ChalkRings$ItemReader" "size" "I" ∈ cr_W := cr_w2 10 (by decide +kernel) rfl
theorem fl_X1_56 : Cond.fieldLink RX1 56 "ChalkRings$ItemReader" "owner" "I" ∈ cr_W := cr_w2 12 (by decide +kernel) rfl
theorem ml_X1_29 : Cond.methodLink RX1 29 yX1_take ∈ cr_W := cr_w3 61 (by decide +kernel) rfl
theorem im_X1_take : Cond.instanceMethod yX1_take ∈ cr_W := cr_w3 63 (by decide +kernel) rfl
theorem sl_X1_take : Cond.selects RX1 yX1_take yX1_take ∈ cr_W := cr_w0 7 (by decide +kernel) rfl
theorem cd_X1_take : Cond.code yX1_take cX1_take 2 none ∈ cr_W := cr_w3 64 (by decide +kernel) rfl
theorem ml_X1_33 : Cond.methodLink RX1 33 yX6_signAt ∈ cr_W := cr_w3 65 (by decide +kernel) rfl
theorem im_X6_signAt : Cond.instanceMethod yX6_signAt ∈ cr_W := cr_w3 66 (by decide +kernel) rfl
theorem sl_X6_signAt : Cond.selects RX6 yX6_signAt yX6_signAt ∈ cr_W := cr_w3 67 (by decide +kernel) rfl
theorem cd_X6_signAt : Cond.code yX6_signAt cX6_signAt 2 (some .int) ∈ cr_W := cr_w3 68 (by decide +kernel) rfl
theorem ml_X1_40 : Cond.methodLink RX1 40 yX1_takeNumber ∈ cr_W := cr_w3 69 (by decide +kernel) rfl
theorem im_X1_takeNumber : Cond.instanceMethod yX1_takeNumber ∈ cr_W := cr_w3 71 (by decide +kernel) rfl
theorem sl_X1_takeNumber : Cond.selects RX1 yX1_takeNumber yX1_takeNumber ∈ cr_W := cr_w0 8 (by decide +kernel) rfl
theorem cd_X1_takeNumber : Cond.code yX1_takeNumber cX1_takeNumber 6 (some .int) ∈ cr_W := cr_w3 72 (by decide +kernel) rfl
theorem ml_X1_59 : Cond.methodLink RX1 59 yX1_digitAt ∈ cr_W := cr_w3 73 (by decide +kernel) rfl
theorem im_X1_digitAt : Cond.instanceMethod yX1_digitAt ∈ cr_W := cr_w3 75 (by decide +kernel) rfl
theorem sl_X1_digitAt : Cond.selects RX1 yX1_digitAt yX1_digitAt ∈ cr_W := cr_w0 9 (by decide +kernel) rfl
theorem cd_X1_digitAt : Cond.code yX1_digitAt cX1_digitAt 3 (some .int) ∈ cr_W := cr_w3 76 (by decide +kernel) rfl
theorem ml_X7_216 : Cond.methodLink RX7 216 yX1_hasMore ∈ cr_W := cr_w3 77 (by decide +kernel) rfl
theorem im_X1_hasMore : Cond.instanceMethod yX1_hasMore ∈ cr_W := cr_w3 78 (by decide +kernel) rfl
theorem sl_X1_hasMore : Cond.selects RX1 yX1_hasMore yX1_hasMore ∈ cr_W := cr_w3 79 (by decide +kernel) rfl
theorem cd_X1_hasMore : Cond.code yX1_hasMore cX1_hasMore 1 (some .boolean) ∈ cr_W := cr_w3 80 (by decide +kernel) rfl
theorem fl_X1_26 : Cond.fieldLink RX1 26 "ChalkRings$Text" "length" "I" ∈ cr_W := cr_w1 228 (by decide +kernel) rfl
theorem ml_L_89 : Cond.methodLink RL 89 yX8_syntaxError ∈ cr_W := cr_w4 126 (by decide +kernel) rfl
theorem im_X8_syntaxError : Cond.instanceMethod yX8_syntaxError ∈ cr_W := cr_w4 127 (by decide +kernel) rfl
theorem sl_X8_syntaxError : Cond.selects RX8 yX8_syntaxError yX8_syntaxError ∈ cr_W := cr_w4 128 (by decide +kernel) rfl
theorem cd_X8_syntaxError : Cond.code yX8_syntaxError cX8_syntaxError 1 (some .int) ∈ cr_W := cr_w4 129 (by decide +kernel) rfl
theorem ml_X8_191 : Cond.methodLink RX8 191 yX8_findError ∈ cr_W := cr_w4 130 (by decide +kernel) rfl
theorem im_X8_findError : Cond.instanceMethod yX8_findError ∈ cr_W := cr_w4 132 (by decide +kernel) rfl
theorem sl_X8_findError : Cond.selects RX8 yX8_findError yX8_findError ∈ cr_W := cr_w0 35 (by decide +kernel) rfl
theorem cd_X8_findError : Cond.code yX8_findError cX8_findError 1 (some .int) ∈ cr_W := cr_w4 133 (by decide +kernel) rfl
theorem fl_X8_154 : Cond.fieldLink RX8 154 "ChalkRingsModel" "at" "I" ∈ cr_W := cr_w3 134 (by decide +kernel) rfl
theorem ml_X8_187 : Cond.methodLink RX8 187 yX8_readsItem ∈ cr_W := cr_w4 134 (by decide +kernel) rfl
theorem im_X8_readsItem : Cond.instanceMethod yX8_readsItem ∈ cr_W := cr_w4 136 (by decide +kernel) rfl
theorem sl_X8_readsItem : Cond.selects RX8 yX8_readsItem yX8_readsItem ∈ cr_W := cr_w0 36 (by decide +kernel) rfl
theorem cd_X8_readsItem : Cond.code yX8_readsItem cX8_readsItem 2 (some .boolean) ∈ cr_W := cr_w4 137 (by decide +kernel) rfl
theorem fl_X8_166 : Cond.fieldLink RX8 166 "ChalkRingsModel" "letter" "I" ∈ cr_W := cr_w3 135 (by decide +kernel) rfl
theorem fl_X8_160 : Cond.fieldLink RX8 160 "ChalkRingsModel" "number" "I" ∈ cr_W := cr_w3 136 (by decide +kernel) rfl
theorem fl_X8_172 : Cond.fieldLink RX8 172 "ChalkRingsModel" "xRead" "I" ∈ cr_W := cr_w3 137 (by decide +kernel) rfl
theorem fl_X8_178 : Cond.fieldLink RX8 178 "ChalkRingsModel" "yRead" "I" ∈ cr_W := cr_w3 138 (by decide +kernel) rfl
theorem fl_X8_181 : Cond.fieldLink RX8 181 "ChalkRingsModel" "three" "I" ∈ cr_W := cr_w3 139 (by decide +kernel) rfl
theorem fl_X8_184 : Cond.fieldLink RX8 184 "ChalkRingsModel" "four" "I" ∈ cr_W := cr_w3 140 (by decide +kernel) rfl
theorem ml_X8_157 : Cond.methodLink RX8 157 yX8_character ∈ cr_W := cr_w4 138 (by decide +kernel) rfl
theorem im_X8_character : Cond.instanceMethod yX8_character ∈ cr_W := cr_w4 140 (by decide +kernel) rfl
theorem sl_X8_character : Cond.selects RX8 yX8_character yX8_character ∈ cr_W := cr_w0 37 (by decide +kernel) rfl
theorem cd_X8_character : Cond.code yX8_character cX8_character 2 (some .int) ∈ cr_W := cr_w4 141 (by decide +kernel) rfl
theorem ml_X8_169 : Cond.methodLink RX8 169 yX8_readsNumber ∈ cr_W := cr_w4 142 (by decide +kernel) rfl
theorem im_X8_readsNumber : Cond.instanceMethod yX8_readsNumber ∈ cr_W := cr_w4 144 (by decide +kernel) rfl
theorem sl_X8_readsNumber : Cond.selects RX8 yX8_readsNumber yX8_readsNumber ∈ cr_W := cr_w0 38 (by decide +kernel) rfl
theorem cd_X8_readsNumber : Cond.code yX8_readsNumber cX8_readsNumber 4 (some .boolean) ∈ cr_W := cr_w4 145 (by decide +kernel) rfl
theorem ml_X8_163 : Cond.methodLink RX8 163 yX8_readsDigit ∈ cr_W := cr_w4 146 (by decide +kernel) rfl
theorem im_X8_readsDigit : Cond.instanceMethod yX8_readsDigit ∈ cr_W := cr_w4 148 (by decide +kernel) rfl
theorem sl_X8_readsDigit : Cond.selects RX8 yX8_readsDigit yX8_readsDigit ∈ cr_W := cr_w0 39 (by decide +kernel) rfl
theorem cd_X8_readsDigit : Cond.code yX8_readsDigit cX8_readsDigit 4 (some .boolean) ∈ cr_W := cr_w4 149 (by decide +kernel) rfl
theorem ml_X8_175 : Cond.methodLink RX8 175 yX8_isNext ∈ cr_W := cr_w4 150 (by decide +kernel) rfl
theorem im_X8_isNext : Cond.instanceMethod yX8_isNext ∈ cr_W := cr_w4 152 (by decide +kernel) rfl
theorem sl_X8_isNext : Cond.selects RX8 yX8_isNext yX8_isNext ∈ cr_W := cr_w0 40 (by decide +kernel) rfl
theorem cd_X8_isNext : Cond.code yX8_isNext cX8_isNext 3 (some .boolean) ∈ cr_W := cr_w4 153 (by decide +kernel) rfl
theorem ml_L_90 : Cond.methodLink RL 90 yX7_readItems ∈ cr_W := cr_w3 81 (by decide +kernel) rfl
theorem im_X7_readItems : Cond.instanceMethod yX7_readItems ∈ cr_W := cr_w3 82 (by decide +kernel) rfl
theorem sl_X7_readItems : Cond.selects RX7 yX7_readItems yX7_readItems ∈ cr_W := cr_w3 83 (by decide +kernel) rfl
theorem cd_X7_readItems : Cond.code yX7_readItems cX7_readItems 2 (some .int) ∈ cr_W := cr_w3 84 (by decide +kernel) rfl
theorem ml_X7_226 : Cond.methodLink RX7 226 yX7_syntaxError ∈ cr_W := cr_w3 85 (by decide +kernel) rfl
theorem ml_X7_229 : Cond.methodLink RX7 229 yX7_addItemRead ∈ cr_W := cr_w3 86 (by decide +kernel) rfl
theorem im_X7_addItemRead : Cond.instanceMethod yX7_addItemRead ∈ cr_W := cr_w3 88 (by decide +kernel) rfl
theorem sl_X7_addItemRead : Cond.selects RX7 yX7_addItemRead yX7_addItemRead ∈ cr_W := cr_w0 10 (by decide +kernel) rfl
theorem cd_X7_addItemRead : Cond.code yX7_addItemRead cX7_addItemRead 1 (some .boolean) ∈ cr_W := cr_w3 89 (by decide +kernel) rfl
theorem fl_X7_265 : Cond.fieldLink RX7 265 "ChalkRings$ItemReader" "isRing" "Z" ∈ cr_W := cr_w2 3 (by decide +kernel) rfl
theorem fl_X7_268 : Cond.fieldLink RX7 268 "ChalkRings$ItemReader" "x" "I" ∈ cr_W := cr_w2 5 (by decide +kernel) rfl
theorem fl_X7_269 : Cond.fieldLink RX7 269 "ChalkRings$ItemReader" "y" "I" ∈ cr_W := cr_w2 7 (by decide +kernel) rfl
theorem fl_X7_270 : Cond.fieldLink RX7 270 "ChalkRings$ItemReader" "radius" "I" ∈ cr_W := cr_w2 9 (by decide +kernel) rfl
theorem fl_X7_271 : Cond.fieldLink RX7 271 "ChalkRings$ItemReader" "size" "I" ∈ cr_W := cr_w2 11 (by decide +kernel) rfl
theorem fl_X7_272 : Cond.fieldLink RX7 272 "ChalkRings$ItemReader" "owner" "I" ∈ cr_W := cr_w2 13 (by decide +kernel) rfl
theorem ml_L_93 : Cond.methodLink RL 93 yX8_readItems ∈ cr_W := cr_w4 154 (by decide +kernel) rfl
theorem im_X8_readItems : Cond.instanceMethod yX8_readItems ∈ cr_W := cr_w4 155 (by decide +kernel) rfl
theorem sl_X8_readItems : Cond.selects RX8 yX8_readItems yX8_readItems ∈ cr_W := cr_w4 156 (by decide +kernel) rfl
theorem cd_X8_readItems : Cond.code yX8_readItems cX8_readItems 3 (some .int) ∈ cr_W := cr_w4 157 (by decide +kernel) rfl
theorem ml_X8_194 : Cond.methodLink RX8 194 yX8_does ∈ cr_W := cr_w4 158 (by decide +kernel) rfl
theorem im_X8_does : Cond.instanceMethod yX8_does ∈ cr_W := cr_w4 160 (by decide +kernel) rfl
theorem sl_X8_does : Cond.selects RX8 yX8_does yX8_does ∈ cr_W := cr_w0 41 (by decide +kernel) rfl
theorem cd_X8_does : Cond.code yX8_does cX8_does 3 (some .boolean) ∈ cr_W := cr_w4 161 (by decide +kernel) rfl
theorem ml_L_94 : Cond.methodLink RL 94 yX7_undo ∈ cr_W := cr_w3 90 (by decide +kernel) rfl
theorem im_X7_undo : Cond.instanceMethod yX7_undo ∈ cr_W := cr_w3 91 (by decide +kernel) rfl
theorem sl_X7_undo : Cond.selects RX7 yX7_undo yX7_undo ∈ cr_W := cr_w3 92 (by decide +kernel) rfl
theorem cd_X7_undo : Cond.code yX7_undo cX7_undo 1 (some .int) ∈ cr_W := cr_w3 93 (by decide +kernel) rfl
theorem fl_X7_232 : Cond.fieldLink RX7 232 "ChalkRings$History" "depth" "I" ∈ cr_W := cr_w1 206 (by decide +kernel) rfl
theorem ml_X7_235 : Cond.methodLink RX7 235 yX0_restore ∈ cr_W := cr_w3 94 (by decide +kernel) rfl
theorem im_X0_restore : Cond.instanceMethod yX0_restore ∈ cr_W := cr_w3 95 (by decide +kernel) rfl
theorem sl_X0_restore : Cond.selects RX0 yX0_restore yX0_restore ∈ cr_W := cr_w3 96 (by decide +kernel) rfl
theorem cd_X0_restore : Cond.code yX0_restore cX0_restore 3 none ∈ cr_W := cr_w3 97 (by decide +kernel) rfl
theorem ml_L_97 : Cond.methodLink RL 97 yX8_undo ∈ cr_W := cr_w4 162 (by decide +kernel) rfl
theorem im_X8_undo : Cond.instanceMethod yX8_undo ∈ cr_W := cr_w4 163 (by decide +kernel) rfl
theorem sl_X8_undo : Cond.selects RX8 yX8_undo yX8_undo ∈ cr_W := cr_w4 164 (by decide +kernel) rfl
theorem cd_X8_undo : Cond.code yX8_undo cX8_undo 1 (some .int) ∈ cr_W := cr_w4 165 (by decide +kernel) rfl
theorem ml_L_98 : Cond.methodLink RL 98 yX7_digest ∈ cr_W := cr_w3 98 (by decide +kernel) rfl
theorem im_X7_digest : Cond.instanceMethod yX7_digest ∈ cr_W := cr_w3 99 (by decide +kernel) rfl
theorem sl_X7_digest : Cond.selects RX7 yX7_digest yX7_digest ∈ cr_W := cr_w3 100 (by decide +kernel) rfl
theorem cd_X7_digest : Cond.code yX7_digest cX7_digest 5 (some .long) ∈ cr_W := cr_w3 101 (by decide +kernel) rfl
theorem kl_X7_238 : Cond.constantLong RX7 238 (4) ∈ cr_W := cr_w3 102 (by decide +kernel) rfl
theorem ml_X7_240 : Cond.methodLink RX7 240 yX7_count ∈ cr_W := cr_w3 103 (by decide +kernel) rfl
theorem ml_X7_243 : Cond.methodLink RX7 243 yX7_mix ∈ cr_W := cr_w3 104 (by decide +kernel) rfl
theorem st_X7_mix : Cond.static yX7_mix ∈ cr_W := cr_w3 105 (by decide +kernel) rfl
theorem cd_X7_mix : Cond.code yX7_mix cX7_mix 4 (some .long) ∈ cr_W := cr_w3 106 (by decide +kernel) rfl
theorem kl_X7_273 : Cond.constantLong RX7 273 (31) ∈ cr_W := cr_w3 107 (by decide +kernel) rfl
theorem ml_X7_247 : Cond.methodLink RX7 247 yX7_marble ∈ cr_W := cr_w3 108 (by decide +kernel) rfl
theorem ml_X7_250 : Cond.methodLink RX7 250 yX7_ring ∈ cr_W := cr_w3 109 (by decide +kernel) rfl
theorem ml_X7_253 : Cond.methodLink RX7 253 yX7_score ∈ cr_W := cr_w3 110 (by decide +kernel) rfl
theorem ml_X7_256 : Cond.methodLink RX7 256 yX7_leader ∈ cr_W := cr_w3 111 (by decide +kernel) rfl
theorem ml_X7_259 : Cond.methodLink RX7 259 yX7_wayOut ∈ cr_W := cr_w3 112 (by decide +kernel) rfl
theorem ml_L_102 : Cond.methodLink RL 102 yX8_digest ∈ cr_W := cr_w4 166 (by decide +kernel) rfl
theorem im_X8_digest : Cond.instanceMethod yX8_digest ∈ cr_W := cr_w4 167 (by decide +kernel) rfl
theorem sl_X8_digest : Cond.selects RX8 yX8_digest yX8_digest ∈ cr_W := cr_w4 168 (by decide +kernel) rfl
theorem cd_X8_digest : Cond.code yX8_digest cX8_digest 5 (some .long) ∈ cr_W := cr_w4 169 (by decide +kernel) rfl
theorem kl_X8_197 : Cond.constantLong RX8 197 (4) ∈ cr_W := cr_w4 170 (by decide +kernel) rfl
theorem kl_X8_199 : Cond.constantLong RX8 199 (31) ∈ cr_W := cr_w4 171 (by decide +kernel) rfl
theorem cr_in0 : ∀ x ∈ wsX00, x ∈ cr_W := by
  intro x hx
  have h1 : ∀ x ∈ wsX00, x ∈ tables_1 := by decide +kernel
  have h2 : wsX00.all goodWord = true := by decide +kernel
  exact cr_wt (h1 x hx) (List.all_eq_true.mp h2 x hx)
theorem cr_in1 : ∀ x ∈ wsX10, x ∈ cr_W := by
  intro x hx
  have h1 : ∀ x ∈ wsX10, x ∈ tables_1 := by decide +kernel
  have h2 : wsX10.all goodWord = true := by decide +kernel
  exact cr_wt (h1 x hx) (List.all_eq_true.mp h2 x hx)
theorem cr_in2 : ∀ x ∈ wsX20, x ∈ cr_W := by
  intro x hx
  have h1 : ∀ x ∈ wsX20, x ∈ tables_1 := by decide +kernel
  have h2 : wsX20.all goodWord = true := by decide +kernel
  exact cr_wt (h1 x hx) (List.all_eq_true.mp h2 x hx)
theorem cr_in3 : ∀ x ∈ wsX30, x ∈ cr_W := by
  intro x hx
  have h1 : ∀ x ∈ wsX30, x ∈ tables_1 := by decide +kernel
  have h2 : wsX30.all goodWord = true := by decide +kernel
  exact cr_wt (h1 x hx) (List.all_eq_true.mp h2 x hx)
theorem cr_in4 : ∀ x ∈ wsX40, x ∈ cr_W := by
  intro x hx
  have h1 : ∀ x ∈ wsX40, x ∈ tables_1 := by decide +kernel
  have h2 : wsX40.all goodWord = true := by decide +kernel
  exact cr_wt (h1 x hx) (List.all_eq_true.mp h2 x hx)
theorem cr_in5 : ∀ x ∈ wsX50, x ∈ cr_W := by
  intro x hx
  have h1 : ∀ x ∈ wsX50, x ∈ tables_1 := by decide +kernel
  have h2 : wsX50.all goodWord = true := by decide +kernel
  exact cr_wt (h1 x hx) (List.all_eq_true.mp h2 x hx)
theorem cr_in6 : ∀ x ∈ wsX60, x ∈ cr_W := by
  intro x hx
  have h1 : ∀ x ∈ wsX60, x ∈ tables_1 := by decide +kernel
  have h2 : wsX60.all goodWord = true := by decide +kernel
  exact cr_wt (h1 x hx) (List.all_eq_true.mp h2 x hx)
theorem cr_in7 : ∀ x ∈ wsX70, x ∈ cr_W := by
  intro x hx
  have h1 : ∀ x ∈ wsX70, x ∈ tables_1 := by decide +kernel
  have h2 : wsX70.all goodWord = true := by decide +kernel
  exact cr_wt (h1 x hx) (List.all_eq_true.mp h2 x hx)
theorem cr_in8 : ∀ x ∈ wsX80, x ∈ cr_W := by
  intro x hx
  have h1 : ∀ x ∈ wsX80, x ∈ tables_1 := by decide +kernel
  have h2 : wsX80.all goodWord = true := by decide +kernel
  exact cr_wt (h1 x hx) (List.all_eq_true.mp h2 x hx)
end
section
/-! The world of the claim: 167 cells with fixed shape, their numbers a function of cell and place; the judgement that the lifted methods are walked in. -/
abbrev cr_Hp : Type := Nat → Nat → Int32
def cr_pt (V : cr_Hp) (a k : Nat) (x : Int32) : cr_Hp := fun b => if b = a then upd (V b) k x else V b
theorem cr_pt_ne {V : cr_Hp} {a k b : Nat} {x : Int32} (h : b ≠ a) : cr_pt V a k x b = V b := if_neg h
theorem cr_pt_eq {V : cr_Hp} {a k : Nat} {x : Int32} : cr_pt V a k x a = upd (V a) k x := if_pos rfl
abbrev cr_pg (a : Nat) : Prop := a < 152 ∧ a % 19 = 0
abbrev cr_ms (a : Nat) : Prop := a < 152 ∧ a % 19 = 1
abbrev cr_rs (a : Nat) : Prop := a < 152 ∧ a % 19 = 2
abbrev cr_ma (a : Nat) : Prop := a < 152 ∧ 3 ≤ a % 19 ∧ a % 19 < 15
abbrev cr_rg (a : Nat) : Prop := a < 152 ∧ 15 ≤ a % 19
/-- the world's parameters: addresses, array classes, class numbers and slots, the two constant tables -/
abbrev cr_Wd : Type := (Nat → Nat) × (Nat → ClassId) × va_G × Nat × Nat
def cr_row (w : cr_Wd) (a : Nat) (r : Nat → Int32) : va_E :=
  if a < 152 then
    if a % 19 = 0 then .inr (3, [.ref (w.1 (a + 1)), .ref (w.1 (a + 2)), .int (r 2), .int (r 3), .int (r 4), .int (r 5), .int (r 6), .int (r 7), .int (r 8), .int (r 9)])
    else if a % 19 = 1 then .inl (w.2.1 2, 12, .inr (.inr (.inr (.inr (fun j => some (w.1 (a + 2 + j)))))))
    else if a % 19 = 2 then .inl (w.2.1 3, 4, .inr (.inr (.inr (.inr (fun j => some (w.1 (a + 13 + j)))))))
    else if a % 19 < 15 then .inr (2, [.int (r 0), .int (r 1), .int (r 2), .int (r 3), .int (r 4), .int (r 5), .int (r 6), .int (r 7), .int (r 8)])
    else .inr (4, [.int (r 0), .int (r 1), .int (r 2)])
  else if a = 152 then .inr (7, [.ref (w.1 0), .ref (w.1 19), .ref (w.1 153), .ref (w.1 154), .ref (w.1 156)])
  else if a = 153 then .inr (5, [.int (r 0), .int (r 1), .int (r 2), .int (r 3), .int (r 4), .int (r 5), .int (r 6), .int (r 7), .int (r 8), .int (r 9)])
  else if a = 154 then .inr (0, [.ref (w.1 155), .int (r 1), .int (r 2)])
  else if a = 155 then .inl (w.2.1 4, 6, .inr (.inr (.inr (.inr (fun j => some (w.1 (38 + 19 * j)))))))
  else if a = 156 then .inr (1, [.ref (w.1 157), .int (r 1), .int (r 2), .int (r 3), .int (r 4), .int (r 5), .int (r 6), .int (r 7), .int (r 8)])
  else if a = 157 then .inr (6, [.ref (w.1 158), .int (r 1)])
  else if a = 158 then .inl (w.2.1 1, 80, .inl r)
  else if a = 159 then .inr (8, [.ref (w.1 160), .ref (w.1 161), .ref (w.1 162), .int (r 3), .ref (w.1 163), .int (r 5), .ref (w.1 164), .ref (w.1 165), .ref (w.1 166), .int (r 9), .int (r 10), .int (r 11), .int (r 12), .int (r 13), .int (r 14), .int (r 15), .int (r 16), .int (r 17), .int (r 18), .int (r 19), .int (r 20), .int (r 21)])
  else if a = 160 then .inl (w.2.1 0, 80, .inl r)
  else if a = 161 then .inl (w.2.1 0, 80, .inl r)
  else if a = 162 then .inl (w.2.1 0, 480, .inl r)
  else if a = 163 then .inl (w.2.1 0, 80, .inl r)
  else if a = 164 then .inl (w.2.1 0, 8, .inl r)
  else if a = 165 then .inl (w.2.1 0, 8, .inl r)
  else .inl (w.2.1 0, 12, .inl r)
theorem cr_row_pg (w : cr_Wd) {a : Nat} (h : cr_pg a) (r : Nat → Int32) : cr_row w a r = .inr (3, [.ref (w.1 (a + 1)), .ref (w.1 (a + 2)), .int (r 2), .int (r 3), .int (r 4), .int (r 5), .int (r 6), .int (r 7), .int (r 8), .int (r 9)]) := by
  unfold cr_row; rw [if_pos h.1, if_pos h.2]
theorem cr_row_ms (w : cr_Wd) {a : Nat} (h : cr_ms a) (r : Nat → Int32) : cr_row w a r = .inl (w.2.1 2, 12, .inr (.inr (.inr (.inr (fun j => some (w.1 (a + 2 + j))))))) := by
  unfold cr_row; rw [if_pos h.1, if_neg (by omega), if_pos h.2]
theorem cr_row_rs (w : cr_Wd) {a : Nat} (h : cr_rs a) (r : Nat → Int32) : cr_row w a r = .inl (w.2.1 3, 4, .inr (.inr (.inr (.inr (fun j => some (w.1 (a + 13 + j))))))) := by
  unfold cr_row; rw [if_pos h.1, if_neg (by omega), if_neg (by omega), if_pos h.2]
theorem cr_row_ma (w : cr_Wd) {a : Nat} (h : cr_ma a) (r : Nat → Int32) : cr_row w a r = .inr (2, [.int (r 0), .int (r 1), .int (r 2), .int (r 3), .int (r 4), .int (r 5), .int (r 6), .int (r 7), .int (r 8)]) := by
  unfold cr_row; rw [if_pos h.1, if_neg (by omega), if_neg (by omega), if_neg (by omega), if_pos h.2.2]
theorem cr_row_rg (w : cr_Wd) {a : Nat} (h : cr_rg a) (r : Nat → Int32) : cr_row w a r = .inr (4, [.int (r 0), .int (r 1), .int (r 2)]) := by
  unfold cr_row; rw [if_pos h.1, if_neg (by omega), if_neg (by omega), if_neg (by omega), if_neg (by omega)]
theorem cr_row_152 (w : cr_Wd) (r : Nat → Int32) : cr_row w 152 r = .inr (7, [.ref (w.1 0), .ref (w.1 19), .ref (w.1 153), .ref (w.1 154), .ref (w.1 156)]) := rfl
theorem cr_row_153 (w : cr_Wd) (r : Nat → Int32) : cr_row w 153 r = .inr (5, [.int (r 0), .int (r 1), .int (r 2), .int (r 3), .int (r 4), .int (r 5), .int (r 6), .int (r 7), .int (r 8), .int (r 9)]) := rfl
theorem cr_row_154 (w : cr_Wd) (r : Nat → Int32) : cr_row w 154 r = .inr (0, [.ref (w.1 155), .int (r 1), .int (r 2)]) := rfl
theorem cr_row_155 (w : cr_Wd) (r : Nat → Int32) : cr_row w 155 r = .inl (w.2.1 4, 6, .inr (.inr (.inr (.inr (fun j => some (w.1 (38 + 19 * j))))))) := rfl
theorem cr_row_156 (w : cr_Wd) (r : Nat → Int32) : cr_row w 156 r = .inr (1, [.ref (w.1 157), .int (r 1), .int (r 2), .int (r 3), .int (r 4), .int (r 5), .int (r 6), .int (r 7), .int (r 8)]) := rfl
theorem cr_row_157 (w : cr_Wd) (r : Nat → Int32) : cr_row w 157 r = .inr (6, [.ref (w.1 158), .int (r 1)]) := rfl
theorem cr_row_158 (w : cr_Wd) (r : Nat → Int32) : cr_row w 158 r = .inl (w.2.1 1, 80, .inl r) := rfl
theorem cr_row_159 (w : cr_Wd) (r : Nat → Int32) : cr_row w 159 r = .inr (8, [.ref (w.1 160), .ref (w.1 161), .ref (w.1 162), .int (r 3), .ref (w.1 163), .int (r 5), .ref (w.1 164), .ref (w.1 165), .ref (w.1 166), .int (r 9), .int (r 10), .int (r 11), .int (r 12), .int (r 13), .int (r 14), .int (r 15), .int (r 16), .int (r 17), .int (r 18), .int (r 19), .int (r 20), .int (r 21)]) := rfl
theorem cr_row_160 (w : cr_Wd) (r : Nat → Int32) : cr_row w 160 r = .inl (w.2.1 0, 80, .inl r) := rfl
theorem cr_row_161 (w : cr_Wd) (r : Nat → Int32) : cr_row w 161 r = .inl (w.2.1 0, 80, .inl r) := rfl
theorem cr_row_162 (w : cr_Wd) (r : Nat → Int32) : cr_row w 162 r = .inl (w.2.1 0, 480, .inl r) := rfl
theorem cr_row_163 (w : cr_Wd) (r : Nat → Int32) : cr_row w 163 r = .inl (w.2.1 0, 80, .inl r) := rfl
theorem cr_row_164 (w : cr_Wd) (r : Nat → Int32) : cr_row w 164 r = .inl (w.2.1 0, 8, .inl r) := rfl
theorem cr_row_165 (w : cr_Wd) (r : Nat → Int32) : cr_row w 165 r = .inl (w.2.1 0, 8, .inl r) := rfl
theorem cr_row_166 (w : cr_Wd) (r : Nat → Int32) : cr_row w 166 r = .inl (w.2.1 0, 12, .inl r) := rfl
def cr_ws (w : cr_Wd) (V : cr_Hp) : va_W := (List.range 167).map (fun a => (w.1 a, cr_row w a (V a)))
theorem cr_get (w : cr_Wd) (V : cr_Hp) {a : Nat} (h : a < 167) {e : va_E} (he : cr_row w a (V a) = e) : (cr_ws w V)[a]? = some (w.1 a, e) := by
  subst he
  simp [cr_ws, h]
theorem cr_set (w : cr_Wd) (V : cr_Hp) {a k : Nat} {x : Int32} (h : a < 167) {e : va_E} (he : cr_row w a (upd (V a) k x) = e) : (cr_ws w V).set a (w.1 a, e) = cr_ws w (cr_pt V a k x) := by
  subst he
  apply List.ext_getElem?
  intro i
  by_cases hi : i < 167
  · by_cases hia : a = i
    · subst hia
      rw [List.getElem?_set_self (by simpa [cr_ws] using h)]
      exact (cr_get w (cr_pt V a k x) h (by rw [cr_pt_eq])).symm
    · rw [List.getElem?_set_ne hia]
      rw [cr_get w V hi rfl, cr_get w (cr_pt V a k x) hi (by rw [cr_pt_ne (Ne.symm hia)])]
  · rw [List.getElem?_eq_none (by simp [cr_ws]; omega), List.getElem?_eq_none (by simp [cr_ws]; omega)]
/-- the cells' addresses -/
def cr_A (w : cr_Wd) : Nat → Prop := fun q => ∃ a, a < 167 ∧ q = w.1 a
def cr_inj (w : cr_Wd) : Prop := ∀ a b : Nat, a < 167 → b < 167 → w.1 a = w.1 b → a = b
theorem cr_D {w : cr_Wd} (h : cr_inj w) (V : cr_Hp) : va_D (cr_A w) (cr_ws w V) := by
  have key : ∀ (i : Nat) (q : Nat × va_E), (cr_ws w V)[i]? = some q → i < 167 ∧ q.1 = w.1 i := by
    intro i q hq
    have hi : i < 167 := by
      have := (List.getElem?_eq_some_iff.mp hq).1
      simpa [cr_ws] using this
    rw [cr_get w V hi rfl] at hq
    cases hq
    exact ⟨hi, rfl⟩
  refine ⟨fun i j x y hi hj hxy => ?_, fun k q hk => ⟨k, (key k q hk).1, (key k q hk).2⟩⟩
  have h1 := key i x hi
  have h2 := key j y hj
  exact h i j h1.1 h2.1 (h1.2.symm.trans (hxy.trans h2.2))
def cr_tys (w : cr_Wd) : List (ClassId × FieldType) := [(w.2.1 0, .int), (w.2.1 1, .char), (w.2.1 2, .object "ChalkRings$Marble"), (w.2.1 3, .object "ChalkRings$Ring"), (w.2.1 4, .object "ChalkRings$Playground")]
def cr_sx (j : Nat) : Int32 := ([0, 1, 1, 1, 0, -1, -1, -1] : List Int32).getD j 0
def cr_sy (j : Nat) : Int32 := ([-1, -1, 0, 1, 1, 1, 0, -1] : List Int32).getD j 0
def cr_nest : List Cond := [.methodLinkNest "ChalkRings" 21 ⟨"ChalkRings$Roll", "<init>", "()V"⟩ "ChalkRings", .methodLinkNest "ChalkRings$Playground" 105 ⟨"ChalkRings", "stepX", "(I)I"⟩ "ChalkRings", .methodLinkNest "ChalkRings$Playground" 109 ⟨"ChalkRings", "stepY", "(I)I"⟩ "ChalkRings", .methodLinkNest "ChalkRings$Playground" 26 ⟨"ChalkRings$Ring", "<init>", "()V"⟩ "ChalkRings", .methodLinkNest "ChalkRings$Playground" 69 ⟨"ChalkRings", "isPoint", "(II)Z"⟩ "ChalkRings", .methodLinkNest "ChalkRings$Playground" 73 ⟨"ChalkRings", "isPlayer", "(I)Z"⟩ "ChalkRings", .methodLinkNest "ChalkRings$Roll" 27 ⟨"ChalkRings", "stepX", "(I)I"⟩ "ChalkRings", .methodLinkNest "ChalkRings$Roll" 34 ⟨"ChalkRings", "stepY", "(I)I"⟩ "ChalkRings", .fieldLinkNest "ChalkRings$Playground" 101 "ChalkRings" "STEP_X" "[I" "ChalkRings"]
theorem cr_nest_warm {s U : State} (hW : s.WarmedH U.vm) (h : ∀ x ∈ cr_nest, va_Nw x s) : ∀ x ∈ cr_nest, va_Nw x U := by
  intro x hx
  have h1 := h x hx
  simp only [cr_nest, List.mem_cons, List.not_mem_nil, or_false] at hx
  rcases hx with rfl | rfl | rfl | rfl | rfl | rfl | rfl | rfl | rfl <;> first | exact va_Nw.warmM hW h1 | exact va_Nw.warmF hW h1
/-- what of the machine every method needs -/
def cr_Ev (w : cr_Wd) (U : State) (H : Heap) : Prop := va_K w.2.2.1 vwCl (cr_tys w) U ∧ (∀ x ∈ cr_nest, va_Nw x U) ∧ (va_Z "ChalkRings" "STEP_X" "[I" (.ref w.2.2.2.1) (cr_A w) U H ∧ va_T .int w.2.2.2.1 8 (fun j => .int (cr_sx j)) (cr_A w) U H) ∧ (va_Z "ChalkRings" "STEP_Y" "[I" (.ref w.2.2.2.2) (cr_A w) U H ∧ va_T .int w.2.2.2.2 8 (fun j => .int (cr_sy j)) (cr_A w) U H)
theorem cr_Ev.warm {w : cr_Wd} {s U : State} {H : Heap} (hW : s.WarmedH U.vm) (h : cr_Ev w s H) : cr_Ev w U H := ⟨va_K.moved hW.alike h.1, cr_nest_warm hW h.2.1, ⟨va_Z.moved hW.alike h.2.2.1.1, va_T.moved hW.alike h.2.2.1.2⟩, ⟨va_Z.moved hW.alike h.2.2.2.1, va_T.moved hW.alike h.2.2.2.2⟩⟩
theorem cr_Ev.kept {w : cr_Wd} {s : State} {H H1 : Heap} (h : cr_Ev w s H) (hq : ∀ a : Nat, a < H.size → ¬ cr_A w a → H1[a]? = H[a]?) : cr_Ev w s H1 := ⟨h.1, h.2.1, ⟨va_Z.kept h.2.2.1.1 hq, va_T.kept h.2.2.1.2 hq⟩, ⟨va_Z.kept h.2.2.2.1 hq, va_T.kept h.2.2.2.2 hq⟩⟩
def cr_Pc (w : cr_Wd) (V : cr_Hp) (av : List Value) : Array Value → State → Prop := va_Pc av (fun U => va_P w.2.2.1 vwCl (cr_ws w V) U.heap ∧ cr_Ev w U U.heap ∧ cr_inj w)
theorem cr_blind {w : cr_Wd} {V : cr_Hp} {av : List Value} : FrameBlind (cr_Pc w V av) := by
  intro a U g mk h
  exact ⟨h.1, h.2.1, cr_Ev.warm (s := U) (U := U.calling g mk a) (State.WarmedH.refl _) h.2.2.1, h.2.2.2⟩
def cr_Qi (w : cr_Wd) (V : cr_Hp) (r : Int32) : Array Value → State → Outcome → State → Prop := va_Qi (fun (x : Int32) (_ : Unit) => x = r) (fun _ t => va_P w.2.2.1 vwCl (cr_ws w V) t.heap) (cr_A w)
def cr_Ql (w : cr_Wd) (V : cr_Hp) (r : Int64) : Array Value → State → Outcome → State → Prop := va_Ql (fun (x : Int64) (_ : Unit) => x = r) (fun _ t => va_P w.2.2.1 vwCl (cr_ws w V) t.heap) (cr_A w)
def cr_Qv (w : cr_Wd) (V : cr_Hp) : Array Value → State → Outcome → State → Prop := va_Qv (fun (_ : Unit) => True) (fun _ t => va_P w.2.2.1 vwCl (cr_ws w V) t.heap) (cr_A w)
def cr_Qe (w : cr_Wd) (V : cr_Hp) (r : Option Nat) : Array Value → State → Outcome → State → Prop := va_Qe w.1 (fun (x : Option Nat) (_ : Unit) => x = r) (fun _ t => va_P w.2.2.1 vwCl (cr_ws w V) t.heap) (cr_A w)
/-- the words of a method: its code, and all of the law's -/
abbrev cr_wds (y : MethodName) (cc : ByteArray) (nL : Nat) (ret : Option FieldType) : List Cond := Cond.code y cc nL ret :: cr_W

def cr_it {S R : Type} (f : S → Option (S ⊕ R)) : Nat → S → Option R
  | 0, _ => none
  | n + 1, s => match f s with
    | none => none
    | some (.inl s') => cr_it f n s'
    | some (.inr r) => some r
def cr_FU : Nat := 100000
theorem cr_it_W {S R : Type} {f : S → Option (S ⊕ R)} {P : S → Prop} {K : R → Prop} (hs : ∀ s x, f s = some x → (∀ s', x = .inl s' → P s') → (∀ r, x = .inr r → K r) → P s) : ∀ (n : Nat) (s : S) (r : R), cr_it f n s = some r → K r → P s
  | 0, s, r, h, _ => by cases h
  | n + 1, s, r, h, hk => by
    unfold cr_it at h
    cases hf : f s with
    | none => rw [hf] at h; cases h
    | some x =>
      cases x with
      | inl s' =>
        rw [hf] at h
        refine hs s _ hf (fun s'' e => ?_) (fun r' e => by cases e)
        cases e
        exact cr_it_W hs n s' r h hk
      | inr r' =>
        rw [hf] at h
        refine hs s _ hf (fun s'' e => by cases e) (fun r'' e => ?_)
        cases e
        cases h
        exact hk
def cr_lt {α β : Type} (e : α) (g : α → Option β) : Option β := g e
theorem cr_lt_s {α β : Type} {e : α} {g : α → Option β} {x : β} (h : cr_lt e g = some x) : ∃ y, y = e ∧ g y = some x := ⟨e, rfl, h⟩
def cr_gd {β : Type} (c : Prop) [Decidable c] (o : Option β) : Option β := if c then o else none
theorem cr_gd_s {β : Type} {c : Prop} [Decidable c] {o : Option β} {x : β} (h : cr_gd c o = some x) : c ∧ o = some x := by
  unfold cr_gd at h
  by_cases hc : c
  · rw [if_pos hc] at h; exact ⟨hc, h⟩
  · rw [if_neg hc] at h; cases h
def cr_bd {α β : Type} (o : Option α) (g : α → Option β) : Option β := match o with | none => none | some a => g a
theorem cr_bd_s {α β : Type} {o : Option α} {g : α → Option β} {x : β} (h : cr_bd o g = some x) : ∃ y, o = some y ∧ g y = some x := by
  cases o with
  | none => cases h
  | some a => exact ⟨a, rfl, h⟩
def cr_b2 {α β : Type} (o : Option (α × cr_Hp)) (g : α → cr_Hp → Option β) : Option β := match o with | none => none | some q => g q.1 q.2
theorem cr_b2_s {α β : Type} {o : Option (α × cr_Hp)} {g : α → cr_Hp → Option β} {x : β} (h : cr_b2 o g = some x) : ∃ y V, o = some (y, V) ∧ g y V = some x := by
  cases o with
  | none => cases h
  | some a => exact ⟨a.1, a.2, rfl, h⟩
def cr_on {β : Type} (r : Option Nat) (A : Option β) (B : Nat → Option β) : Option β := match r with | none => A | some a => B a
theorem cr_if_t {β : Type} {c : Prop} [Decidable c] {A B : Option β} {x : β} (hc : c) (h : (if c then A else B) = some x) : A = some x := by rw [if_pos hc] at h; exact h
theorem cr_if_f {β : Type} {c : Prop} [Decidable c] {A B : Option β} {x : β} (hc : ¬ c) (h : (if c then A else B) = some x) : B = some x := by rw [if_neg hc] at h; exact h
theorem cr_on_n {β : Type} {A : Option β} {B : Nat → Option β} {x : β} (h : cr_on none A B = some x) : A = some x := h
theorem cr_on_s {β : Type} {A : Option β} {B : Nat → Option β} {a : Nat} {x : β} (h : cr_on (some a) A B = some x) : B a = some x := h
abbrev cr_ix (i : Int32) (n : Nat) : Prop := ¬ (i < 0 ∨ n ≤ i.toNatClampNeg)
theorem cr_ix_lt {i : Int32} {n : Nat} (h : cr_ix i n) : i.toNatClampNeg < n := Nat.not_le.mp fun q => h (Or.inr q)
abbrev cr_bo (x : Int32) : Prop := x = 0 ∨ x = 1
theorem cr_pg_ms {a : Nat} (h : cr_pg a) : cr_ms (a + 1) := by constructor <;> omega
theorem cr_pg_rs {a : Nat} (h : cr_pg a) : cr_rs (a + 2) := by constructor <;> omega
theorem cr_ms_ma {a j : Nat} (h : cr_ms a) (hj : j < 12) : cr_ma (a + 2 + j) := by refine ⟨?_, ?_, ?_⟩ <;> omega
theorem cr_rs_rg {a j : Nat} (h : cr_rs a) (hj : j < 4) : cr_rg (a + 13 + j) := by constructor <;> omega
theorem cr_sv_pg {j : Nat} (hj : j < 6) : cr_pg (38 + 19 * j) := by constructor <;> omega
theorem cr_l_pg {a : Nat} (h : cr_pg a) : a < 167 := by omega
theorem cr_l_ms {a : Nat} (h : cr_ms a) : a < 167 := by omega
theorem cr_l_rs {a : Nat} (h : cr_rs a) : a < 167 := by omega
theorem cr_l_ma {a : Nat} (h : cr_ma a) : a < 167 := by omega
theorem cr_l_rg {a : Nat} (h : cr_rg a) : a < 167 := by omega
end
section
section CRJ
variable {p : Program} {l : Launch} {e : Env} {R : Room} {s : State} {m : MethodId} {args : Array Value} {below : List Frame} {meth : Method} {c : Code} {Q : State → Prop} {w : cr_Wd} {own : String} {c0 : Cond} {cc : ByteArray} {nL : Nat} {V : cr_Hp} {pc : Nat} {lv : List (Nat × Value)} {st : List Value} {ce sl : Nat}
def cr_Cx (w : cr_Wd) (own : String) (c0 : Cond) (cc : ByteArray) (nL : Nat) (p : Program) (s : State) (m : MethodId) (args : Array Value) (meth : Method) (c : Code) : Prop := p.tables.exec = Jvm.exec ∧ c.code = cc ∧ c.maxLocals = nL ∧ s.vm.findClass own = some m.cls ∧ (∀ x ∈ c0 :: cr_W, x.before args s = true) ∧ cr_Ev w s s.heap ∧ cr_inj w ∧ meth.locks = false
def cr_J (w : cr_Wd) (nL : Nat) (p : Program) (l : Launch) (e : Env) (R : Room) (s : State) (m : MethodId) (args : Array Value) (below : List Frame) (meth : Method) (c : Code) (ce sl : Nat) (Q : State → Prop) (V : cr_Hp) (pc : Nat) (lv : List (Nat × Value)) (st : List Value) : Prop := ∀ (H : Heap) (locs : List Loc) (ls : Array Slot), va_P w.2.2.1 vwCl (cr_ws w V) H → va_S (cr_A w) s.heap H locs → lv_has ls nL lv → W p l e R s m args below meth c H locs ce sl Q (F0 m pc ls st)
theorem cr_Cx.ts (X : cr_Cx w own c0 cc nL p s m args meth c) {x : Cond} (h : x ∈ cr_W) : x.before args s = true := X.2.2.2.2.1 x (List.mem_cons_of_mem _ h)

theorem jr_iconst (X : cr_Cx w own c0 cc nL p s m args meth c) {n : Int} {v : Int32} (hdg : decode cc pc = .ok (.iconst n, 1)) (hv : Int32.ofInt n = v) (kk : cr_J w nL p l e R s m args below meth c ce sl Q V (pc + 1) lv (.int v :: st)) : cr_J w nL p l e R s m args below meth c ce sl Q V pc lv st := fun H locs ls hP hS hl => lv_iconst X.1 X.2.1 hdg hv (kk H locs ls hP hS hl)
theorem jr_bipush (X : cr_Cx w own c0 cc nL p s m args meth c) {n : Int} {v : Int32} (hdg : decode cc pc = .ok (.bipush n, 2)) (hv : (Int8.ofInt n).toInt32 = v) (kk : cr_J w nL p l e R s m args below meth c ce sl Q V (pc + 2) lv (.int v :: st)) : cr_J w nL p l e R s m args below meth c ce sl Q V pc lv st := fun H locs ls hP hS hl => lv_bipush X.1 X.2.1 hdg hv (kk H locs ls hP hS hl)
theorem jr_sipush (X : cr_Cx w own c0 cc nL p s m args meth c) {n : Int} {v : Int32} (hdg : decode cc pc = .ok (.sipush n, 3)) (hv : (Int16.ofInt n).toInt32 = v) (kk : cr_J w nL p l e R s m args below meth c ce sl Q V (pc + 3) lv (.int v :: st)) : cr_J w nL p l e R s m args below meth c ce sl Q V pc lv st := fun H locs ls hP hS hl => lv_sipush X.1 X.2.1 hdg hv (kk H locs ls hP hS hl)
theorem jr_null (X : cr_Cx w own c0 cc nL p s m args meth c)  (hdg : decode cc pc = .ok (.aconst_null, 1)) (kk : cr_J w nL p l e R s m args below meth c ce sl Q V (pc + 1) lv (.null :: st)) : cr_J w nL p l e R s m args below meth c ce sl Q V pc lv st := fun H locs ls hP hS hl => lv_null X.1 X.2.1 hdg (kk H locs ls hP hS hl)
theorem jr_iload_n (X : cr_Cx w own c0 cc nL p s m args meth c) {k : Fin 4} {i : Nat} {x : Int32} (hdg : decode cc pc = .ok (.iload_n k, 1)) (hi : (k : Nat) = i) (j : Nat) (hk : lv[j]? = some (i, .int x)) (kk : cr_J w nL p l e R s m args below meth c ce sl Q V (pc + 1) lv (.int x :: st)) : cr_J w nL p l e R s m args below meth c ce sl Q V pc lv st := fun H locs ls hP hS hl => lv_iload_n X.1 X.2.1 hdg hi (lv_at hl j hk) (kk H locs ls hP hS hl)
theorem jr_iload (X : cr_Cx w own c0 cc nL p s m args meth c) {i : Nat} {x : Int32} (hdg : decode cc pc = .ok (.iload i, 2)) (j : Nat) (hk : lv[j]? = some (i, .int x)) (kk : cr_J w nL p l e R s m args below meth c ce sl Q V (pc + 2) lv (.int x :: st)) : cr_J w nL p l e R s m args below meth c ce sl Q V pc lv st := fun H locs ls hP hS hl => lv_iload X.1 X.2.1 hdg (lv_at hl j hk) (kk H locs ls hP hS hl)
theorem jr_lload_n (X : cr_Cx w own c0 cc nL p s m args meth c) {k : Fin 4} {i : Nat} {x : Int64} (hdg : decode cc pc = .ok (.lload_n k, 1)) (hi : (k : Nat) = i) (j : Nat) (hk : lv[j]? = some (i, .long x)) (kk : cr_J w nL p l e R s m args below meth c ce sl Q V (pc + 1) lv (.long x :: st)) : cr_J w nL p l e R s m args below meth c ce sl Q V pc lv st := fun H locs ls hP hS hl => lv_lload_n X.1 X.2.1 hdg hi (lv_at hl j hk) (kk H locs ls hP hS hl)
theorem jr_lload (X : cr_Cx w own c0 cc nL p s m args meth c) {i : Nat} {x : Int64} (hdg : decode cc pc = .ok (.lload i, 2)) (j : Nat) (hk : lv[j]? = some (i, .long x)) (kk : cr_J w nL p l e R s m args below meth c ce sl Q V (pc + 2) lv (.long x :: st)) : cr_J w nL p l e R s m args below meth c ce sl Q V pc lv st := fun H locs ls hP hS hl => lv_lload X.1 X.2.1 hdg (lv_at hl j hk) (kk H locs ls hP hS hl)
theorem jr_aload_n (X : cr_Cx w own c0 cc nL p s m args meth c) {k : Fin 4} {i : Nat} {x : Nat} (hdg : decode cc pc = .ok (.aload_n k, 1)) (hi : (k : Nat) = i) (j : Nat) (hk : lv[j]? = some (i, .ref x)) (kk : cr_J w nL p l e R s m args below meth c ce sl Q V (pc + 1) lv (.ref x :: st)) : cr_J w nL p l e R s m args below meth c ce sl Q V pc lv st := fun H locs ls hP hS hl => lv_aload_n X.1 X.2.1 hdg hi (lv_at hl j hk) (kk H locs ls hP hS hl)
theorem jr_aload (X : cr_Cx w own c0 cc nL p s m args meth c) {i : Nat} {x : Nat} (hdg : decode cc pc = .ok (.aload i, 2)) (j : Nat) (hk : lv[j]? = some (i, .ref x)) (kk : cr_J w nL p l e R s m args below meth c ce sl Q V (pc + 2) lv (.ref x :: st)) : cr_J w nL p l e R s m args below meth c ce sl Q V pc lv st := fun H locs ls hP hS hl => lv_aload X.1 X.2.1 hdg (lv_at hl j hk) (kk H locs ls hP hS hl)
theorem jr_istore_n (X : cr_Cx w own c0 cc nL p s m args meth c) {k : Fin 4} {i : Nat} {x : Int32} {lv2 : List (Nat × Value)} (hdg : decode cc pc = .ok (.istore_n k, 1)) (hi : (k : Nat) = i) (hn : i < nL) (h2 : (i, Value.int x) :: lv.filter (fun q => !(q.1 == i) && !(q.1 + 1 == i && q.2.category == 2)) = lv2) (kk : cr_J w nL p l e R s m args below meth c ce sl Q V (pc + 1) lv2 st) : cr_J w nL p l e R s m args below meth c ce sl Q V pc lv (.int x :: st) := fun H locs ls hP hS hl => lv_istore_n X.1 X.2.1 hdg hi hl hn h2 (fun ls2 hl2 => kk H locs ls2 hP hS hl2)
theorem jr_istore (X : cr_Cx w own c0 cc nL p s m args meth c) {i : Nat} {x : Int32} {lv2 : List (Nat × Value)} (hdg : decode cc pc = .ok (.istore i, 2)) (hn : i < nL) (h2 : (i, Value.int x) :: lv.filter (fun q => !(q.1 == i) && !(q.1 + 1 == i && q.2.category == 2)) = lv2) (kk : cr_J w nL p l e R s m args below meth c ce sl Q V (pc + 2) lv2 st) : cr_J w nL p l e R s m args below meth c ce sl Q V pc lv (.int x :: st) := fun H locs ls hP hS hl => lv_istore X.1 X.2.1 hdg hl hn h2 (fun ls2 hl2 => kk H locs ls2 hP hS hl2)
theorem jr_lstore_n (X : cr_Cx w own c0 cc nL p s m args meth c) {k : Fin 4} {i : Nat} {x : Int64} {lv2 : List (Nat × Value)} (hdg : decode cc pc = .ok (.lstore_n k, 1)) (hi : (k : Nat) = i) (hn : i + 1 < nL) (h2 : (i, Value.long x) :: lv.filter (fun q => !(q.1 == i) && (!(q.1 == i + 1) && !(q.1 + 1 == i && q.2.category == 2))) = lv2) (kk : cr_J w nL p l e R s m args below meth c ce sl Q V (pc + 1) lv2 st) : cr_J w nL p l e R s m args below meth c ce sl Q V pc lv (.long x :: st) := fun H locs ls hP hS hl => lv_lstore_n X.1 X.2.1 hdg hi hl hn h2 (fun ls2 hl2 => kk H locs ls2 hP hS hl2)
theorem jr_lstore (X : cr_Cx w own c0 cc nL p s m args meth c) {i : Nat} {x : Int64} {lv2 : List (Nat × Value)} (hdg : decode cc pc = .ok (.lstore i, 2)) (hn : i + 1 < nL) (h2 : (i, Value.long x) :: lv.filter (fun q => !(q.1 == i) && (!(q.1 == i + 1) && !(q.1 + 1 == i && q.2.category == 2))) = lv2) (kk : cr_J w nL p l e R s m args below meth c ce sl Q V (pc + 2) lv2 st) : cr_J w nL p l e R s m args below meth c ce sl Q V pc lv (.long x :: st) := fun H locs ls hP hS hl => lv_lstore X.1 X.2.1 hdg hl hn h2 (fun ls2 hl2 => kk H locs ls2 hP hS hl2)
theorem jr_astore_n (X : cr_Cx w own c0 cc nL p s m args meth c) {k : Fin 4} {i : Nat} {x : Nat} {lv2 : List (Nat × Value)} (hdg : decode cc pc = .ok (.astore_n k, 1)) (hi : (k : Nat) = i) (hn : i < nL) (h2 : (i, Value.ref x) :: lv.filter (fun q => !(q.1 == i) && !(q.1 + 1 == i && q.2.category == 2)) = lv2) (kk : cr_J w nL p l e R s m args below meth c ce sl Q V (pc + 1) lv2 st) : cr_J w nL p l e R s m args below meth c ce sl Q V pc lv (.ref x :: st) := fun H locs ls hP hS hl => lv_astore_n X.1 X.2.1 hdg hi hl hn h2 (fun ls2 hl2 => kk H locs ls2 hP hS hl2)
theorem jr_astore (X : cr_Cx w own c0 cc nL p s m args meth c) {i : Nat} {x : Nat} {lv2 : List (Nat × Value)} (hdg : decode cc pc = .ok (.astore i, 2)) (hn : i < nL) (h2 : (i, Value.ref x) :: lv.filter (fun q => !(q.1 == i) && !(q.1 + 1 == i && q.2.category == 2)) = lv2) (kk : cr_J w nL p l e R s m args below meth c ce sl Q V (pc + 2) lv2 st) : cr_J w nL p l e R s m args below meth c ce sl Q V pc lv (.ref x :: st) := fun H locs ls hP hS hl => lv_astore X.1 X.2.1 hdg hl hn h2 (fun ls2 hl2 => kk H locs ls2 hP hS hl2)
theorem jr_iinc (X : cr_Cx w own c0 cc nL p s m args meth c) {i : Nat} {n : Int} {x v : Int32} {lv2 : List (Nat × Value)} (hdg : decode cc pc = .ok (.iinc i n, 3)) (j : Nat) (hk : lv[j]? = some (i, .int x)) (hv : x + Int32.ofInt n = v) (hn : i < nL) (h2 : (i, Value.int v) :: lv.filter (fun q => !(q.1 == i) && !(q.1 + 1 == i && q.2.category == 2)) = lv2) (kk : cr_J w nL p l e R s m args below meth c ce sl Q V (pc + 3) lv2 st) : cr_J w nL p l e R s m args below meth c ce sl Q V pc lv st := fun H locs ls hP hS hl => lv_iinc X.1 X.2.1 hdg hl hk hv hn h2 (fun ls2 hl2 => kk H locs ls2 hP hS hl2)
theorem jr_iadd (X : cr_Cx w own c0 cc nL p s m args meth c) {x y : Int32} (hdg : decode cc pc = .ok (.iadd, 1)) (kk : cr_J w nL p l e R s m args below meth c ce sl Q V (pc + 1) lv (.int (x + y) :: st)) : cr_J w nL p l e R s m args below meth c ce sl Q V pc lv (.int y :: .int x :: st) := fun H locs ls hP hS hl => lv_iadd X.1 X.2.1 hdg (kk H locs ls hP hS hl)
theorem jr_isub (X : cr_Cx w own c0 cc nL p s m args meth c) {x y : Int32} (hdg : decode cc pc = .ok (.isub, 1)) (kk : cr_J w nL p l e R s m args below meth c ce sl Q V (pc + 1) lv (.int (x - y) :: st)) : cr_J w nL p l e R s m args below meth c ce sl Q V pc lv (.int y :: .int x :: st) := fun H locs ls hP hS hl => lv_isub X.1 X.2.1 hdg (kk H locs ls hP hS hl)
theorem jr_imul (X : cr_Cx w own c0 cc nL p s m args meth c) {x y : Int32} (hdg : decode cc pc = .ok (.imul, 1)) (kk : cr_J w nL p l e R s m args below meth c ce sl Q V (pc + 1) lv (.int (x * y) :: st)) : cr_J w nL p l e R s m args below meth c ce sl Q V pc lv (.int y :: .int x :: st) := fun H locs ls hP hS hl => lv_imul X.1 X.2.1 hdg (kk H locs ls hP hS hl)
theorem jr_iand (X : cr_Cx w own c0 cc nL p s m args meth c) {x y : Int32} (hdg : decode cc pc = .ok (.iand, 1)) (kk : cr_J w nL p l e R s m args below meth c ce sl Q V (pc + 1) lv (.int (x &&& y) :: st)) : cr_J w nL p l e R s m args below meth c ce sl Q V pc lv (.int y :: .int x :: st) := fun H locs ls hP hS hl => lv_iand X.1 X.2.1 hdg (kk H locs ls hP hS hl)
theorem jr_ior (X : cr_Cx w own c0 cc nL p s m args meth c) {x y : Int32} (hdg : decode cc pc = .ok (.ior, 1)) (kk : cr_J w nL p l e R s m args below meth c ce sl Q V (pc + 1) lv (.int (x ||| y) :: st)) : cr_J w nL p l e R s m args below meth c ce sl Q V pc lv (.int y :: .int x :: st) := fun H locs ls hP hS hl => lv_ior X.1 X.2.1 hdg (kk H locs ls hP hS hl)
theorem jr_ixor (X : cr_Cx w own c0 cc nL p s m args meth c) {x y : Int32} (hdg : decode cc pc = .ok (.ixor, 1)) (kk : cr_J w nL p l e R s m args below meth c ce sl Q V (pc + 1) lv (.int (x ^^^ y) :: st)) : cr_J w nL p l e R s m args below meth c ce sl Q V pc lv (.int y :: .int x :: st) := fun H locs ls hP hS hl => lv_ixor X.1 X.2.1 hdg (kk H locs ls hP hS hl)
theorem jr_ishl (X : cr_Cx w own c0 cc nL p s m args meth c) {x y : Int32} (hdg : decode cc pc = .ok (.ishl, 1)) (kk : cr_J w nL p l e R s m args below meth c ce sl Q V (pc + 1) lv (.int (x <<< (y &&& 31)) :: st)) : cr_J w nL p l e R s m args below meth c ce sl Q V pc lv (.int y :: .int x :: st) := fun H locs ls hP hS hl => lv_ishl X.1 X.2.1 hdg (kk H locs ls hP hS hl)
theorem jr_ishr (X : cr_Cx w own c0 cc nL p s m args meth c) {x y : Int32} (hdg : decode cc pc = .ok (.ishr, 1)) (kk : cr_J w nL p l e R s m args below meth c ce sl Q V (pc + 1) lv (.int (x >>> (y &&& 31)) :: st)) : cr_J w nL p l e R s m args below meth c ce sl Q V pc lv (.int y :: .int x :: st) := fun H locs ls hP hS hl => lv_ishr X.1 X.2.1 hdg (kk H locs ls hP hS hl)
theorem jr_iushr (X : cr_Cx w own c0 cc nL p s m args meth c) {x y : Int32} (hdg : decode cc pc = .ok (.iushr, 1)) (kk : cr_J w nL p l e R s m args below meth c ce sl Q V (pc + 1) lv (.int (x.toUInt32 >>> (y.toUInt32 &&& Int32.toUInt32 31)).toInt32 :: st)) : cr_J w nL p l e R s m args below meth c ce sl Q V pc lv (.int y :: .int x :: st) := fun H locs ls hP hS hl => lv_iushr X.1 X.2.1 hdg rfl (kk H locs ls hP hS hl)
theorem jr_idiv (X : cr_Cx w own c0 cc nL p s m args meth c) {x y : Int32} (hdg : decode cc pc = .ok (.idiv, 1)) (hne : ¬ y = 0) (kk : cr_J w nL p l e R s m args below meth c ce sl Q V (pc + 1) lv (.int (x / y) :: st)) : cr_J w nL p l e R s m args below meth c ce sl Q V pc lv (.int y :: .int x :: st) := fun H locs ls hP hS hl => lv_idiv X.1 X.2.1 hdg hne (kk H locs ls hP hS hl)
theorem jr_irem (X : cr_Cx w own c0 cc nL p s m args meth c) {x y : Int32} (hdg : decode cc pc = .ok (.irem, 1)) (hne : ¬ y = 0) (kk : cr_J w nL p l e R s m args below meth c ce sl Q V (pc + 1) lv (.int (x - x / y * y) :: st)) : cr_J w nL p l e R s m args below meth c ce sl Q V pc lv (.int y :: .int x :: st) := fun H locs ls hP hS hl => lv_irem X.1 X.2.1 hdg hne (kk H locs ls hP hS hl)
theorem jr_ineg (X : cr_Cx w own c0 cc nL p s m args meth c) {x : Int32} (hdg : decode cc pc = .ok (.ineg, 1)) (kk : cr_J w nL p l e R s m args below meth c ce sl Q V (pc + 1) lv (.int (-x) :: st)) : cr_J w nL p l e R s m args below meth c ce sl Q V pc lv (.int x :: st) := fun H locs ls hP hS hl => lv_ineg X.1 X.2.1 hdg (kk H locs ls hP hS hl)
theorem jr_ladd (X : cr_Cx w own c0 cc nL p s m args meth c) {x y : Int64} (hdg : decode cc pc = .ok (.ladd, 1)) (kk : cr_J w nL p l e R s m args below meth c ce sl Q V (pc + 1) lv (.long (x + y) :: st)) : cr_J w nL p l e R s m args below meth c ce sl Q V pc lv (.long y :: .long x :: st) := fun H locs ls hP hS hl => lv_ladd X.1 X.2.1 hdg (kk H locs ls hP hS hl)
theorem jr_lmul (X : cr_Cx w own c0 cc nL p s m args meth c) {x y : Int64} (hdg : decode cc pc = .ok (.lmul, 1)) (kk : cr_J w nL p l e R s m args below meth c ce sl Q V (pc + 1) lv (.long (x * y) :: st)) : cr_J w nL p l e R s m args below meth c ce sl Q V pc lv (.long y :: .long x :: st) := fun H locs ls hP hS hl => lv_lmul X.1 X.2.1 hdg (kk H locs ls hP hS hl)
theorem jr_i2l (X : cr_Cx w own c0 cc nL p s m args meth c) {x : Int32} (hdg : decode cc pc = .ok (.i2l, 1)) (kk : cr_J w nL p l e R s m args below meth c ce sl Q V (pc + 1) lv (.long x.toInt64 :: st)) : cr_J w nL p l e R s m args below meth c ce sl Q V pc lv (.int x :: st) := fun H locs ls hP hS hl => lv_i2l X.1 X.2.1 hdg rfl (kk H locs ls hP hS hl)
theorem jr_i2c (X : cr_Cx w own c0 cc nL p s m args meth c) {x : Int32} (hdg : decode cc pc = .ok (.i2c, 1)) (kk : cr_J w nL p l e R s m args below meth c ce sl Q V (pc + 1) lv (.int (x.toUInt32 % 65536).toInt32 :: st)) : cr_J w nL p l e R s m args below meth c ce sl Q V pc lv (.int x :: st) := fun H locs ls hP hS hl => lv_i2c X.1 X.2.1 hdg rfl (kk H locs ls hP hS hl)
theorem jr_dup (X : cr_Cx w own c0 cc nL p s m args meth c) {v : Value} (hdg : decode cc pc = .ok (.dup, 1)) (hv : v.category = 1) (kk : cr_J w nL p l e R s m args below meth c ce sl Q V (pc + 1) lv (v :: v :: st)) : cr_J w nL p l e R s m args below meth c ce sl Q V pc lv (v :: st) := fun H locs ls hP hS hl => lv_dup X.1 X.2.1 hdg hv (kk H locs ls hP hS hl)
theorem jr_dup2 (X : cr_Cx w own c0 cc nL p s m args meth c) {v u : Value} (hdg : decode cc pc = .ok (.dup2, 1)) (hv : v.category = 1) (hu : u.category = 1) (kk : cr_J w nL p l e R s m args below meth c ce sl Q V (pc + 1) lv (v :: u :: v :: u :: st)) : cr_J w nL p l e R s m args below meth c ce sl Q V pc lv (v :: u :: st) := fun H locs ls hP hS hl => lv_dup2_11 X.1 X.2.1 hdg hv hu (kk H locs ls hP hS hl)
theorem jr_pop (X : cr_Cx w own c0 cc nL p s m args meth c) {v : Value} (hdg : decode cc pc = .ok (.pop, 1)) (hv : v.category = 1) (kk : cr_J w nL p l e R s m args below meth c ce sl Q V (pc + 1) lv st) : cr_J w nL p l e R s m args below meth c ce sl Q V pc lv (v :: st) := fun H locs ls hP hS hl => lv_pop X.1 X.2.1 hdg hv (kk H locs ls hP hS hl)
theorem jr_goto (X : cr_Cx w own c0 cc nL p s m args meth c) {off : Int} (tgt : Nat) (hdg : decode cc pc = .ok (.goto off, 3)) (ht : (pc : Int) + off = (tgt : Int)) (kk : cr_J w nL p l e R s m args below meth c ce sl Q V tgt lv st) : cr_J w nL p l e R s m args below meth c ce sl Q V pc lv st := fun H locs ls hP hS hl => lv_goto X.1 X.2.1 hdg ht (kk H locs ls hP hS hl)
theorem jr_if_eq (X : cr_Cx w own c0 cc nL p s m args meth c) {x : Int32} {off : Int} (tgt : Nat) (hdg : decode cc pc = .ok (.ifCond .eq off, 3)) (ht : (pc : Int) + off = (tgt : Int)) (kt : x = 0 → cr_J w nL p l e R s m args below meth c ce sl Q V tgt lv st) (kf : ¬ x = 0 → cr_J w nL p l e R s m args below meth c ce sl Q V (pc + 3) lv st) : cr_J w nL p l e R s m args below meth c ce sl Q V pc lv (.int x :: st) := fun H locs ls hP hS hl => lv_if_eq X.1 X.2.1 hdg ht (fun q => kt q H locs ls hP hS hl) (fun q => kf q H locs ls hP hS hl)
theorem jr_icmp_eq (X : cr_Cx w own c0 cc nL p s m args meth c) {x y : Int32} {off : Int} (tgt : Nat) (hdg : decode cc pc = .ok (.if_icmp .eq off, 3)) (ht : (pc : Int) + off = (tgt : Int)) (kt : x = y → cr_J w nL p l e R s m args below meth c ce sl Q V tgt lv st) (kf : ¬ x = y → cr_J w nL p l e R s m args below meth c ce sl Q V (pc + 3) lv st) : cr_J w nL p l e R s m args below meth c ce sl Q V pc lv (.int y :: .int x :: st) := fun H locs ls hP hS hl => lv_icmp_eq X.1 X.2.1 hdg ht (fun q => kt q H locs ls hP hS hl) (fun q => kf q H locs ls hP hS hl)
theorem jr_if_ne (X : cr_Cx w own c0 cc nL p s m args meth c) {x : Int32} {off : Int} (tgt : Nat) (hdg : decode cc pc = .ok (.ifCond .ne off, 3)) (ht : (pc : Int) + off = (tgt : Int)) (kt : ¬ x = 0 → cr_J w nL p l e R s m args below meth c ce sl Q V tgt lv st) (kf : x = 0 → cr_J w nL p l e R s m args below meth c ce sl Q V (pc + 3) lv st) : cr_J w nL p l e R s m args below meth c ce sl Q V pc lv (.int x :: st) := fun H locs ls hP hS hl => lv_if_ne X.1 X.2.1 hdg ht (fun q => kt q H locs ls hP hS hl) (fun q => kf q H locs ls hP hS hl)
theorem jr_icmp_ne (X : cr_Cx w own c0 cc nL p s m args meth c) {x y : Int32} {off : Int} (tgt : Nat) (hdg : decode cc pc = .ok (.if_icmp .ne off, 3)) (ht : (pc : Int) + off = (tgt : Int)) (kt : ¬ x = y → cr_J w nL p l e R s m args below meth c ce sl Q V tgt lv st) (kf : x = y → cr_J w nL p l e R s m args below meth c ce sl Q V (pc + 3) lv st) : cr_J w nL p l e R s m args below meth c ce sl Q V pc lv (.int y :: .int x :: st) := fun H locs ls hP hS hl => lv_icmp_ne X.1 X.2.1 hdg ht (fun q => kt q H locs ls hP hS hl) (fun q => kf q H locs ls hP hS hl)
theorem jr_if_lt (X : cr_Cx w own c0 cc nL p s m args meth c) {x : Int32} {off : Int} (tgt : Nat) (hdg : decode cc pc = .ok (.ifCond .lt off, 3)) (ht : (pc : Int) + off = (tgt : Int)) (kt : x < 0 → cr_J w nL p l e R s m args below meth c ce sl Q V tgt lv st) (kf : ¬ x < 0 → cr_J w nL p l e R s m args below meth c ce sl Q V (pc + 3) lv st) : cr_J w nL p l e R s m args below meth c ce sl Q V pc lv (.int x :: st) := fun H locs ls hP hS hl => lv_if_lt X.1 X.2.1 hdg ht (fun q => kt q H locs ls hP hS hl) (fun q => kf q H locs ls hP hS hl)
theorem jr_icmp_lt (X : cr_Cx w own c0 cc nL p s m args meth c) {x y : Int32} {off : Int} (tgt : Nat) (hdg : decode cc pc = .ok (.if_icmp .lt off, 3)) (ht : (pc : Int) + off = (tgt : Int)) (kt : x < y → cr_J w nL p l e R s m args below meth c ce sl Q V tgt lv st) (kf : ¬ x < y → cr_J w nL p l e R s m args below meth c ce sl Q V (pc + 3) lv st) : cr_J w nL p l e R s m args below meth c ce sl Q V pc lv (.int y :: .int x :: st) := fun H locs ls hP hS hl => lv_icmp_lt X.1 X.2.1 hdg ht (fun q => kt q H locs ls hP hS hl) (fun q => kf q H locs ls hP hS hl)
theorem jr_if_ge (X : cr_Cx w own c0 cc nL p s m args meth c) {x : Int32} {off : Int} (tgt : Nat) (hdg : decode cc pc = .ok (.ifCond .ge off, 3)) (ht : (pc : Int) + off = (tgt : Int)) (kt : 0 ≤ x → cr_J w nL p l e R s m args below meth c ce sl Q V tgt lv st) (kf : ¬ 0 ≤ x → cr_J w nL p l e R s m args below meth c ce sl Q V (pc + 3) lv st) : cr_J w nL p l e R s m args below meth c ce sl Q V pc lv (.int x :: st) := fun H locs ls hP hS hl => lv_if_ge X.1 X.2.1 hdg ht (fun q => kt q H locs ls hP hS hl) (fun q => kf q H locs ls hP hS hl)
theorem jr_icmp_ge (X : cr_Cx w own c0 cc nL p s m args meth c) {x y : Int32} {off : Int} (tgt : Nat) (hdg : decode cc pc = .ok (.if_icmp .ge off, 3)) (ht : (pc : Int) + off = (tgt : Int)) (kt : y ≤ x → cr_J w nL p l e R s m args below meth c ce sl Q V tgt lv st) (kf : ¬ y ≤ x → cr_J w nL p l e R s m args below meth c ce sl Q V (pc + 3) lv st) : cr_J w nL p l e R s m args below meth c ce sl Q V pc lv (.int y :: .int x :: st) := fun H locs ls hP hS hl => lv_icmp_ge X.1 X.2.1 hdg ht (fun q => kt q H locs ls hP hS hl) (fun q => kf q H locs ls hP hS hl)
theorem jr_if_gt (X : cr_Cx w own c0 cc nL p s m args meth c) {x : Int32} {off : Int} (tgt : Nat) (hdg : decode cc pc = .ok (.ifCond .gt off, 3)) (ht : (pc : Int) + off = (tgt : Int)) (kt : 0 < x → cr_J w nL p l e R s m args below meth c ce sl Q V tgt lv st) (kf : ¬ 0 < x → cr_J w nL p l e R s m args below meth c ce sl Q V (pc + 3) lv st) : cr_J w nL p l e R s m args below meth c ce sl Q V pc lv (.int x :: st) := fun H locs ls hP hS hl => lv_if_gt X.1 X.2.1 hdg ht (fun q => kt q H locs ls hP hS hl) (fun q => kf q H locs ls hP hS hl)
theorem jr_icmp_gt (X : cr_Cx w own c0 cc nL p s m args meth c) {x y : Int32} {off : Int} (tgt : Nat) (hdg : decode cc pc = .ok (.if_icmp .gt off, 3)) (ht : (pc : Int) + off = (tgt : Int)) (kt : y < x → cr_J w nL p l e R s m args below meth c ce sl Q V tgt lv st) (kf : ¬ y < x → cr_J w nL p l e R s m args below meth c ce sl Q V (pc + 3) lv st) : cr_J w nL p l e R s m args below meth c ce sl Q V pc lv (.int y :: .int x :: st) := fun H locs ls hP hS hl => lv_icmp_gt X.1 X.2.1 hdg ht (fun q => kt q H locs ls hP hS hl) (fun q => kf q H locs ls hP hS hl)
theorem jr_if_le (X : cr_Cx w own c0 cc nL p s m args meth c) {x : Int32} {off : Int} (tgt : Nat) (hdg : decode cc pc = .ok (.ifCond .le off, 3)) (ht : (pc : Int) + off = (tgt : Int)) (kt : x ≤ 0 → cr_J w nL p l e R s m args below meth c ce sl Q V tgt lv st) (kf : ¬ x ≤ 0 → cr_J w nL p l e R s m args below meth c ce sl Q V (pc + 3) lv st) : cr_J w nL p l e R s m args below meth c ce sl Q V pc lv (.int x :: st) := fun H locs ls hP hS hl => lv_if_le X.1 X.2.1 hdg ht (fun q => kt q H locs ls hP hS hl) (fun q => kf q H locs ls hP hS hl)
theorem jr_icmp_le (X : cr_Cx w own c0 cc nL p s m args meth c) {x y : Int32} {off : Int} (tgt : Nat) (hdg : decode cc pc = .ok (.if_icmp .le off, 3)) (ht : (pc : Int) + off = (tgt : Int)) (kt : x ≤ y → cr_J w nL p l e R s m args below meth c ce sl Q V tgt lv st) (kf : ¬ x ≤ y → cr_J w nL p l e R s m args below meth c ce sl Q V (pc + 3) lv st) : cr_J w nL p l e R s m args below meth c ce sl Q V pc lv (.int y :: .int x :: st) := fun H locs ls hP hS hl => lv_icmp_le X.1 X.2.1 hdg ht (fun q => kt q H locs ls hP hS hl) (fun q => kf q H locs ls hP hS hl)
theorem jr_ifnullR (X : cr_Cx w own c0 cc nL p s m args meth c) {x : Nat} {off : Int} (hdg : decode cc pc = .ok (.ifnull off, 3)) (kk : cr_J w nL p l e R s m args below meth c ce sl Q V (pc + 3) lv st) : cr_J w nL p l e R s m args below meth c ce sl Q V pc lv (.ref x :: st) := fun H locs ls hP hS hl => lv_ifnull X.1 X.2.1 hdg (kk H locs ls hP hS hl)
theorem jr_ifnullN (X : cr_Cx w own c0 cc nL p s m args meth c) {off : Int} (tgt : Nat) (hdg : decode cc pc = .ok (.ifnull off, 3)) (ht : (pc : Int) + off = (tgt : Int)) (kk : cr_J w nL p l e R s m args below meth c ce sl Q V tgt lv st) : cr_J w nL p l e R s m args below meth c ce sl Q V pc lv (.null :: st) := fun H locs ls hP hS hl => lv_ifnullN X.1 X.2.1 hdg ht (kk H locs ls hP hS hl)
theorem jr_ifnonnullR (X : cr_Cx w own c0 cc nL p s m args meth c) {x : Nat} {off : Int} (tgt : Nat) (hdg : decode cc pc = .ok (.ifnonnull off, 3)) (ht : (pc : Int) + off = (tgt : Int)) (kk : cr_J w nL p l e R s m args below meth c ce sl Q V tgt lv st) : cr_J w nL p l e R s m args below meth c ce sl Q V pc lv (.ref x :: st) := fun H locs ls hP hS hl => lv_ifnonnull X.1 X.2.1 hdg ht (kk H locs ls hP hS hl)
theorem jr_ifnonnullN (X : cr_Cx w own c0 cc nL p s m args meth c) {off : Int} (hdg : decode cc pc = .ok (.ifnonnull off, 3)) (kk : cr_J w nL p l e R s m args below meth c ce sl Q V (pc + 3) lv st) : cr_J w nL p l e R s m args below meth c ce sl Q V pc lv (.null :: st) := fun H locs ls hP hS hl => lv_ifnonnullN X.1 X.2.1 hdg (kk H locs ls hP hS hl)
theorem jr_ldcw (X : cr_Cx w own c0 cc nL p s m args meth c) {index : Nat} {v : Int32} (hk : Cond.constant own index v ∈ cr_W) (hdg : decode cc pc = .ok (.ldc_w index, 3)) (kk : cr_J w nL p l e R s m args below meth c ce sl Q V (pc + 3) lv (.int v :: st)) : cr_J w nL p l e R s m args below meth c ce sl Q V pc lv st := fun H locs ls hP hS hl => lv_ldcw X.1 X.2.1 X.2.2.2.1 (X.ts hk) hdg (kk H locs ls hP hS hl)
theorem jr_ldc2 (X : cr_Cx w own c0 cc nL p s m args meth c) {index : Nat} {v : Int64} (hk : Cond.constantLong own index v ∈ cr_W) (hdg : decode cc pc = .ok (.ldc2_w index, 3)) (kk : cr_J w nL p l e R s m args below meth c ce sl Q V (pc + 3) lv (.long v :: st)) : cr_J w nL p l e R s m args below meth c ce sl Q V pc lv st := fun H locs ls hP hS hl => lv_ldc2 X.1 X.2.1 X.2.2.2.1 (X.ts hk) hdg (kk H locs ls hP hS hl)
theorem jr_get (X : cr_Cx w own c0 cc nL p s m args meth c) {ci : Nat} {C : String} {T : u_T} {N idx a k : Nat} {fs : List Value} {v : Value} (hc : vwCl[ci]? = some (C, T, N)) (hin : ∀ x ∈ u_ws C T N, x ∈ cr_W) (ha : a < 167) (hr : cr_row w a (V a) = .inr (ci, fs)) (hv : fs[k]? = some v) (hk : k < N) (hlink : Cond.fieldLink own idx (T k).1 (T k).2.1 (T k).2.2.1 ∈ cr_W) (hdg : decode cc pc = .ok (.getfield idx, 3)) (kk : cr_J w nL p l e R s m args below meth c ce sl Q V (pc + 3) lv (v :: st)) : cr_J w nL p l e R s m args below meth c ce sl Q V pc lv (.ref (w.1 a) :: st) := fun H locs ls hP hS hl => va_get X.1 X.2.1 (fun _ h => X.ts h) hin X.2.2.2.1 X.2.2.2.2.2.1.1 hP a (cr_get w V ha hr) hc k hk (X.ts hlink) (fun _ h => h) hv hdg (kk H locs ls hP hS hl)
theorem jr_put (X : cr_Cx w own c0 cc nL p s m args meth c) {ci : Nat} {C : String} {T : u_T} {N idx a k : Nat} {fs : (Nat → Int32) → List Value} {x : Int32} {V1 : cr_Hp} (hc : vwCl[ci]? = some (C, T, N)) (hin : ∀ x ∈ u_ws C T N, x ∈ cr_W) (ty0 : Nat → FieldType) (hty : ∀ k, k < N → parseFieldDescriptor (T k).2.2.1 = some (ty0 k)) (hnm : ∀ a, a < N → ∀ b, b < N → a ≠ b → (T a).2.1 ≠ (T b).2.1) (ha : a < 167) (hr : ∀ r, cr_row w a r = .inr (ci, fs r)) (hset : (fs (V a)).set k (.int x) = fs (upd (V a) k x)) (hl0 : k < (fs (V a)).length) (hk : k < N) (hfin : (T k).2.2.2 = false) (hn : narrow (ty0 k) (.int x) = .int x) (hfit : fits (ty0 k) (.int x) = true) (hlink : Cond.fieldLink own idx (T k).1 (T k).2.1 (T k).2.2.1 ∈ cr_W) (hdg : decode cc pc = .ok (.putfield idx, 3)) (hV : V1 = cr_pt V a k x) (kk : cr_J w nL p l e R s m args below meth c ce sl Q V1 (pc + 3) lv st) : cr_J w nL p l e R s m args below meth c ce sl Q V pc lv (.int x :: .ref (w.1 a) :: st) := fun H locs ls hP hS hl => va_put X.1 X.2.1 (fun _ h => X.ts h) hin ty0 hty hnm X.2.2.2.1 X.2.2.2.2.2.1.1 hP (cr_D X.2.2.2.2.2.2.1 V) hS a (cr_get w V ha (hr _)) hc k hk (X.ts hlink) (fun _ h => h) hfin (hty k hk) hn hfit hl0 hdg (fun H1 locs1 hP1 _ hS1 => kk H1 locs1 ls (by rw [hset] at hP1; rw [cr_set w V ha (hr _)] at hP1; rw [hV]; exact hP1) hS1 hl)
theorem jr_iald (X : cr_Cx w own c0 cc nL p s m args meth c) {a n : Nat} {i : Int32} (ha : a < 167) (hr : cr_row w a (V a) = .inl (w.2.1 0, n, .inl (V a))) (hin : cr_ix i n) (hdg : decode cc pc = .ok (.iaload, 1)) (kk : cr_J w nL p l e R s m args below meth c ce sl Q V (pc + 1) lv (.int (V a i.toNatClampNeg) :: st)) : cr_J w nL p l e R s m args below meth c ce sl Q V pc lv (.int i :: .ref (w.1 a) :: st) := fun H locs ls hP hS hl => va_iald X.1 X.2.1 X.2.2.2.2.2.1.1 hP a 0 (cr_get w V ha hr) rfl hin hdg (kk H locs ls hP hS hl)
theorem jr_cald (X : cr_Cx w own c0 cc nL p s m args meth c) {a n : Nat} {i : Int32} (ha : a < 167) (hr : cr_row w a (V a) = .inl (w.2.1 1, n, .inl (V a))) (hin : cr_ix i n) (hdg : decode cc pc = .ok (.caload, 1)) (kk : cr_J w nL p l e R s m args below meth c ce sl Q V (pc + 1) lv (.int (V a i.toNatClampNeg) :: st)) : cr_J w nL p l e R s m args below meth c ce sl Q V pc lv (.int i :: .ref (w.1 a) :: st) := fun H locs ls hP hS hl => va_cald X.1 X.2.1 X.2.2.2.2.2.1.1 hP a 1 (cr_get w V ha hr) rfl hin hdg (kk H locs ls hP hS hl)
theorem jr_iast (X : cr_Cx w own c0 cc nL p s m args meth c) {a n : Nat} {i x : Int32} {V1 : cr_Hp} (ha : a < 167) (hr : ∀ r, cr_row w a r = .inl (w.2.1 0, n, .inl r)) (hin : cr_ix i n) (hdg : decode cc pc = .ok (.iastore, 1)) (hV : V1 = cr_pt V a i.toNatClampNeg x) (kk : cr_J w nL p l e R s m args below meth c ce sl Q V1 (pc + 1) lv st) : cr_J w nL p l e R s m args below meth c ce sl Q V pc lv (.int x :: .int i :: .ref (w.1 a) :: st) := fun H locs ls hP hS hl => va_iast X.1 X.2.1 X.2.2.2.2.2.1.1 hP (cr_D X.2.2.2.2.2.2.1 V) hS a 0 (cr_get w V ha (hr _)) rfl hin hdg (fun H1 locs1 hP1 _ hS1 => kk H1 locs1 ls (by rw [cr_set w V ha (hr _)] at hP1; rw [hV]; exact hP1) hS1 hl)
theorem jr_cast (X : cr_Cx w own c0 cc nL p s m args meth c) {a n : Nat} {i x : Int32} {V1 : cr_Hp} (ha : a < 167) (hr : ∀ r, cr_row w a r = .inl (w.2.1 1, n, .inl r)) (hin : cr_ix i n) (hdg : decode cc pc = .ok (.castore, 1)) (hV : V1 = cr_pt V a i.toNatClampNeg (vp_nar .char x)) (kk : cr_J w nL p l e R s m args below meth c ce sl Q V1 (pc + 1) lv st) : cr_J w nL p l e R s m args below meth c ce sl Q V pc lv (.int x :: .int i :: .ref (w.1 a) :: st) := fun H locs ls hP hS hl => va_cast X.1 X.2.1 X.2.2.2.2.2.1.1 hP (cr_D X.2.2.2.2.2.2.1 V) hS a 1 (cr_get w V ha (hr _)) rfl hin hdg (fun H1 locs1 hP1 _ hS1 => kk H1 locs1 ls (by rw [cr_set w V ha (hr _)] at hP1; rw [hV]; exact hP1) hS1 hl)
theorem jr_aald (X : cr_Cx w own c0 cc nL p s m args meth c) {a n : Nat} {i : Int32} {f : Nat → Nat} {C : String} (t0 : Nat) {cA : ClassId} (ht : (cr_tys w)[t0]? = some (cA, .object C)) (ha : a < 167) (hr : cr_row w a (V a) = .inl (cA, n, .inr (.inr (.inr (.inr (fun j => some (w.1 (f j)))))))) (hin : cr_ix i n) (hdg : decode cc pc = .ok (.aaload, 1)) (kk : cr_J w nL p l e R s m args below meth c ce sl Q V (pc + 1) lv (.ref (w.1 (f i.toNatClampNeg)) :: st)) : cr_J w nL p l e R s m args below meth c ce sl Q V pc lv (.int i :: .ref (w.1 a) :: st) := fun H locs ls hP hS hl => va_aldq X.1 X.2.1 X.2.2.2.2.2.1.1 hP a t0 (cr_get w V ha hr) ht hin hdg (kk H locs ls hP hS hl)
theorem jr_alen (X : cr_Cx w own c0 cc nL p s m args meth c) {a : Nat} {x : vp_A} {ty : FieldType} {v : Int32} (t0 : Nat) {cA : ClassId} (ht : (cr_tys w)[t0]? = some (cA, ty)) (ha : a < 167) (hr : cr_row w a (V a) = .inl (cA, x)) (hv : Int32.ofNat x.1 = v) (hdg : decode cc pc = .ok (.arraylength, 1)) (kk : cr_J w nL p l e R s m args below meth c ce sl Q V (pc + 1) lv (.int v :: st)) : cr_J w nL p l e R s m args below meth c ce sl Q V pc lv (.ref (w.1 a) :: st) := fun H locs ls hP hS hl => va_alen X.1 X.2.1 X.2.2.2.2.2.1.1 hP a t0 (cr_get w V ha hr) ht hv hdg (kk H locs ls hP hS hl)
theorem jr_gets_x (X : cr_Cx w own c0 cc nL p s m args meth c) {idx : Nat} (hlink : Cond.fieldLink own idx "ChalkRings" "STEP_X" "[I" ∈ cr_W) (hdg : decode cc pc = .ok (.getstatic idx, 3)) (kk : cr_J w nL p l e R s m args below meth c ce sl Q V (pc + 3) lv (.ref w.2.2.2.1 :: st)) : cr_J w nL p l e R s m args below meth c ce sl Q V pc lv st := fun H locs ls hP hS hl => va_gets X.1 X.2.1 X.2.2.2.2.2.1.2.2.1.1 hS X.2.2.2.1 (X.ts hlink) (fun _ h => h) hdg (kk H locs ls hP hS hl)
theorem jr_getsN_x (X : cr_Cx w own c0 cc nL p s m args meth c) {idx : Nat} {host : String} (hlink : Cond.fieldLinkNest own idx "ChalkRings" "STEP_X" "[I" host ∈ cr_nest) (hdg : decode cc pc = .ok (.getstatic idx, 3)) (kk : cr_J w nL p l e R s m args below meth c ce sl Q V (pc + 3) lv (.ref w.2.2.2.1 :: st)) : cr_J w nL p l e R s m args below meth c ce sl Q V pc lv st := fun H locs ls hP hS hl => va_getsN X.1 X.2.1 X.2.2.2.2.2.1.2.2.1.1 hS X.2.2.2.1 (va_Nw.use rfl (X.2.2.2.2.2.1.2.1 _ hlink)) (fun _ h => h) hdg (kk H locs ls hP hS hl)
theorem jr_ti_x (X : cr_Cx w own c0 cc nL p s m args meth c) {i : Int32} (hin : cr_ix i 8) (hdg : decode cc pc = .ok (.iaload, 1)) (kk : cr_J w nL p l e R s m args below meth c ce sl Q V (pc + 1) lv (.int (cr_sx i.toNatClampNeg) :: st)) : cr_J w nL p l e R s m args below meth c ce sl Q V pc lv (.int i :: .ref w.2.2.2.1 :: st) := fun H locs ls hP hS hl => va_ti X.1 X.2.1 X.2.2.2.2.2.1.2.2.1.2 hS hin rfl hdg (kk H locs ls hP hS hl)
theorem jr_tlen_x (X : cr_Cx w own c0 cc nL p s m args meth c)  (hdg : decode cc pc = .ok (.arraylength, 1)) (kk : cr_J w nL p l e R s m args below meth c ce sl Q V (pc + 1) lv (.int 8 :: st)) : cr_J w nL p l e R s m args below meth c ce sl Q V pc lv (.ref w.2.2.2.1 :: st) := fun H locs ls hP hS hl => va_tlen X.1 X.2.1 X.2.2.2.2.2.1.2.2.1.2 hS rfl hdg (kk H locs ls hP hS hl)
theorem jr_gets_y (X : cr_Cx w own c0 cc nL p s m args meth c) {idx : Nat} (hlink : Cond.fieldLink own idx "ChalkRings" "STEP_Y" "[I" ∈ cr_W) (hdg : decode cc pc = .ok (.getstatic idx, 3)) (kk : cr_J w nL p l e R s m args below meth c ce sl Q V (pc + 3) lv (.ref w.2.2.2.2 :: st)) : cr_J w nL p l e R s m args below meth c ce sl Q V pc lv st := fun H locs ls hP hS hl => va_gets X.1 X.2.1 X.2.2.2.2.2.1.2.2.2.1 hS X.2.2.2.1 (X.ts hlink) (fun _ h => h) hdg (kk H locs ls hP hS hl)
theorem jr_getsN_y (X : cr_Cx w own c0 cc nL p s m args meth c) {idx : Nat} {host : String} (hlink : Cond.fieldLinkNest own idx "ChalkRings" "STEP_Y" "[I" host ∈ cr_nest) (hdg : decode cc pc = .ok (.getstatic idx, 3)) (kk : cr_J w nL p l e R s m args below meth c ce sl Q V (pc + 3) lv (.ref w.2.2.2.2 :: st)) : cr_J w nL p l e R s m args below meth c ce sl Q V pc lv st := fun H locs ls hP hS hl => va_getsN X.1 X.2.1 X.2.2.2.2.2.1.2.2.2.1 hS X.2.2.2.1 (va_Nw.use rfl (X.2.2.2.2.2.1.2.1 _ hlink)) (fun _ h => h) hdg (kk H locs ls hP hS hl)
theorem jr_ti_y (X : cr_Cx w own c0 cc nL p s m args meth c) {i : Int32} (hin : cr_ix i 8) (hdg : decode cc pc = .ok (.iaload, 1)) (kk : cr_J w nL p l e R s m args below meth c ce sl Q V (pc + 1) lv (.int (cr_sy i.toNatClampNeg) :: st)) : cr_J w nL p l e R s m args below meth c ce sl Q V pc lv (.int i :: .ref w.2.2.2.2 :: st) := fun H locs ls hP hS hl => va_ti X.1 X.2.1 X.2.2.2.2.2.1.2.2.2.2 hS hin rfl hdg (kk H locs ls hP hS hl)
theorem jr_tlen_y (X : cr_Cx w own c0 cc nL p s m args meth c)  (hdg : decode cc pc = .ok (.arraylength, 1)) (kk : cr_J w nL p l e R s m args below meth c ce sl Q V (pc + 1) lv (.int 8 :: st)) : cr_J w nL p l e R s m args below meth c ce sl Q V pc lv (.ref w.2.2.2.2 :: st) := fun H locs ls hP hS hl => va_tlen X.1 X.2.1 X.2.2.2.2.2.1.2.2.2.2 hS rfl hdg (kk H locs ls hP hS hl)
theorem jr_mmax (X : cr_Cx w own c0 cc nL p s m args meth c) {idx : Nat} {x y : Int32} (hR : 1 ≤ R.frames ∧ (st.map fun v => v.category).sum + 13 ≤ R.locals) (hcs : ce ≤ R.cells ∧ sl ≤ R.slots) (hlink : Cond.methodLink own idx Lib.Math.max.name ∈ cr_W) (h1 : Cond.static Lib.Math.max.name ∈ cr_W) (h2 : Cond.initialized "java/lang/Math" ∈ cr_W) (h3 : Cond.code Lib.Math.max.name Lib.Math.max.code 2 (some .int) ∈ cr_W) (hdg : decode cc pc = .ok (.invokestatic idx, 3)) (kk : cr_J w nL p l e R s m args below meth c ce sl Q V (pc + 3) lv (.int (if x < y then y else x) :: st)) : cr_J w nL p l e R s m args below meth c ce sl Q V pc lv (.int y :: .int x :: st) := fun H locs ls hP hS hl => va_mmax X.1 X.2.1 (X.2.2.1.trans hl.1.symm) X.2.2.2.1 (X.ts hlink) (X.ts h1) (X.ts h2) (X.ts h3) hR.1 hR.2 hcs.1 hcs.2 hdg (kk H locs ls hP hS hl)
theorem jr_mmin (X : cr_Cx w own c0 cc nL p s m args meth c) {idx : Nat} {x y : Int32} (hR : 1 ≤ R.frames ∧ (st.map fun v => v.category).sum + 13 ≤ R.locals) (hcs : ce ≤ R.cells ∧ sl ≤ R.slots) (hlink : Cond.methodLink own idx Lib.Math.min.name ∈ cr_W) (h1 : Cond.static Lib.Math.min.name ∈ cr_W) (h2 : Cond.initialized "java/lang/Math" ∈ cr_W) (h3 : Cond.code Lib.Math.min.name Lib.Math.min.code 2 (some .int) ∈ cr_W) (hdg : decode cc pc = .ok (.invokestatic idx, 3)) (kk : cr_J w nL p l e R s m args below meth c ce sl Q V (pc + 3) lv (.int (if y < x then y else x) :: st)) : cr_J w nL p l e R s m args below meth c ce sl Q V pc lv (.int y :: .int x :: st) := fun H locs ls hP hS hl => va_mmin X.1 X.2.1 (X.2.2.1.trans hl.1.symm) X.2.2.2.1 (X.ts hlink) (X.ts h1) (X.ts h2) (X.ts h3) hR.1 hR.2 hcs.1 hcs.2 hdg (kk H locs ls hP hS hl)
theorem jr_iret (X : cr_Cx w own c0 cc nL p s m args meth c) {r : Int32} (hr : meth.sig.returnType = some .int) (hdg : decode cc pc = .ok (.ireturn, 1)) : cr_J w nL p l e R s m args below meth c 0 0 (MQ below (cr_Qi w V r) args s 0 0 (cr_A w)) V pc lv [.int r] := fun H locs ls hP hS hl => W.iret X.1 X.2.1 hr (fun t ht _ => ⟨⟨_, (), rfl, rfl, by show va_P _ _ _ t.heap; rw [ht]; exact hP⟩, hS.F ht⟩) hS.2.2 hdg X.2.2.2.2.2.2.2
theorem jr_lret (X : cr_Cx w own c0 cc nL p s m args meth c) {r : Int64} (hr : meth.sig.returnType = some .long) (hdg : decode cc pc = .ok (.lreturn, 1)) : cr_J w nL p l e R s m args below meth c 0 0 (MQ below (cr_Ql w V r) args s 0 0 (cr_A w)) V pc lv [.long r] := fun H locs ls hP hS hl => W.lret X.1 X.2.1 hr (fun t ht _ => ⟨⟨_, (), rfl, rfl, by show va_P _ _ _ t.heap; rw [ht]; exact hP⟩, hS.F ht⟩) hS.2.2 hdg X.2.2.2.2.2.2.2
theorem jr_zret (X : cr_Cx w own c0 cc nL p s m args meth c) {r : Int32} {ty : FieldType} (hr : meth.sig.returnType = some ty) (hn : narrow ty (.int r) = .int r) (hdg : decode cc pc = .ok (.ireturn, 1)) : cr_J w nL p l e R s m args below meth c 0 0 (MQ below (cr_Qi w V r) args s 0 0 (cr_A w)) V pc lv [.int r] := fun H locs ls hP hS hl => W.zret X.1 X.2.1 hr hn (fun t ht _ => ⟨⟨_, (), rfl, rfl, by show va_P _ _ _ t.heap; rw [ht]; exact hP⟩, hS.F ht⟩) hS.2.2 hdg X.2.2.2.2.2.2.2
theorem jr_vret (X : cr_Cx w own c0 cc nL p s m args meth c) (hr : meth.sig.returnType = none) (hdg : decode cc pc = .ok (.return_, 1)) : cr_J w nL p l e R s m args below meth c 0 0 (MQ below (cr_Qv w V) args s 0 0 (cr_A w)) V pc lv [] := fun H locs ls hP hS hl => W.vret X.1 X.2.1 hr (fun t ht _ => ⟨⟨(), rfl, trivial, by show va_P _ _ _ t.heap; rw [ht]; exact hP⟩, hS.F ht⟩) hS.2.2 hdg X.2.2.2.2.2.2.2
theorem jr_aret (X : cr_Cx w own c0 cc nL p s m args meth c) {r : Option Nat} {n : String} (hr : meth.sig.returnType = some (.object n)) (hdg : decode cc pc = .ok (.areturn, 1)) {v : Value} (hv : v = va_re w.1 r) : cr_J w nL p l e R s m args below meth c 0 0 (MQ below (cr_Qe w V r) args s 0 0 (cr_A w)) V pc lv [v] := fun H locs ls hP hS hl => W.aret X.1 X.2.1 hr (Or.inl ⟨n, rfl⟩) (by rw [hv]; exact va_re_or _ _) (fun t ht _ => ⟨⟨r, (), by rw [hv], rfl, by show va_P _ _ _ t.heap; rw [ht]; exact hP⟩, hS.F ht⟩) hS.2.2 hdg X.2.2.2.2.2.2.2
theorem jr_aload_nN (X : cr_Cx w own c0 cc nL p s m args meth c) {k : Fin 4} {i : Nat} (hdg : decode cc pc = .ok (.aload_n k, 1)) (hi : (k : Nat) = i) (j : Nat) (hk : lv[j]? = some (i, .null)) (kk : cr_J w nL p l e R s m args below meth c ce sl Q V (pc + 1) lv (.null :: st)) : cr_J w nL p l e R s m args below meth c ce sl Q V pc lv st := fun H locs ls hP hS hl => lv_aload_nN X.1 X.2.1 hdg hi (lv_at hl j hk) (kk H locs ls hP hS hl)
theorem jr_aloadN (X : cr_Cx w own c0 cc nL p s m args meth c) {i : Nat} (hdg : decode cc pc = .ok (.aload i, 2)) (j : Nat) (hk : lv[j]? = some (i, .null)) (kk : cr_J w nL p l e R s m args below meth c ce sl Q V (pc + 2) lv (.null :: st)) : cr_J w nL p l e R s m args below meth c ce sl Q V pc lv st := fun H locs ls hP hS hl => lv_aloadN X.1 X.2.1 hdg (lv_at hl j hk) (kk H locs ls hP hS hl)
theorem jr_astore_nN (X : cr_Cx w own c0 cc nL p s m args meth c) {k : Fin 4} {i : Nat} {lv2 : List (Nat × Value)} (hdg : decode cc pc = .ok (.astore_n k, 1)) (hi : (k : Nat) = i) (hn : i < nL) (h2 : (i, Value.null) :: lv.filter (fun q => !(q.1 == i) && !(q.1 + 1 == i && q.2.category == 2)) = lv2) (kk : cr_J w nL p l e R s m args below meth c ce sl Q V (pc + 1) lv2 st) : cr_J w nL p l e R s m args below meth c ce sl Q V pc lv (.null :: st) := fun H locs ls hP hS hl => lv_astore_nN X.1 X.2.1 hdg hi hl hn h2 (fun ls2 hl2 => kk H locs ls2 hP hS hl2)
theorem jr_astoreN (X : cr_Cx w own c0 cc nL p s m args meth c) {i : Nat} {lv2 : List (Nat × Value)} (hdg : decode cc pc = .ok (.astore i, 2)) (hn : i < nL) (h2 : (i, Value.null) :: lv.filter (fun q => !(q.1 == i) && !(q.1 + 1 == i && q.2.category == 2)) = lv2) (kk : cr_J w nL p l e R s m args below meth c ce sl Q V (pc + 2) lv2 st) : cr_J w nL p l e R s m args below meth c ce sl Q V pc lv (.null :: st) := fun H locs ls hP hS hl => lv_astoreN X.1 X.2.1 hdg hl hn h2 (fun ls2 hl2 => kk H locs ls2 hP hS hl2)
theorem jr_sub {lv2 : List (Nat × Value)} (ks : List Nat) (h : lv_pick lv ks = lv2) (kk : cr_J w nL p l e R s m args below meth c ce sl Q V pc lv2 st) : cr_J w nL p l e R s m args below meth c ce sl Q V pc lv st := fun H locs ls hP hS hl => kk H locs ls hP hS (lv_sub hl ks h)
theorem jr_top {x y : Int32} (h : y = x) (kk : cr_J w nL p l e R s m args below meth c ce sl Q V pc lv (.int y :: st)) : cr_J w nL p l e R s m args below meth c ce sl Q V pc lv (.int x :: st) := h ▸ kk
theorem jr_topl {x y : Int64} (h : y = x) (kk : cr_J w nL p l e R s m args below meth c ce sl Q V pc lv (.long y :: st)) : cr_J w nL p l e R s m args below meth c ce sl Q V pc lv (.long x :: st) := h ▸ kk
theorem jr_tabI (X : cr_Cx w own c0 cc nL p s m args meth c) {dflt lo hi : Int} {offs : Array Int} {len : Nat} {x : Int32} {off : Int} (k : Int32) (hx : x = k) (tgt : Nat) (hdg : decode cc pc = .ok (.tableswitch dflt lo hi offs, len)) (h1 : ¬ k.toInt < lo) (h2 : ¬ hi < k.toInt) (ho : offs[(k.toInt - lo).toNat]? = some off) (ht : (pc : Int) + off = (tgt : Int)) (kk : cr_J w nL p l e R s m args below meth c ce sl Q V tgt lv st) : cr_J w nL p l e R s m args below meth c ce sl Q V pc lv (.int x :: st) := fun H locs ls hP hS hl => lv_tableIn X.1 X.2.1 hdg (by rw [hx]; exact h1) (by rw [hx]; exact h2) (by rw [hx]; exact ho) ht (kk H locs ls hP hS hl)
theorem jr_tabO (X : cr_Cx w own c0 cc nL p s m args meth c) {dflt lo hi : Int} {offs : Array Int} {len : Nat} {x : Int32} (tgt : Nat) (hdg : decode cc pc = .ok (.tableswitch dflt lo hi offs, len)) (h : x.toInt < lo ∨ hi < x.toInt) (ht : (pc : Int) + dflt = (tgt : Int)) (kk : cr_J w nL p l e R s m args below meth c ce sl Q V tgt lv st) : cr_J w nL p l e R s m args below meth c ce sl Q V pc lv (.int x :: st) := fun H locs ls hP hS hl => lv_tableOut X.1 X.2.1 hdg h ht (kk H locs ls hP hS hl)
theorem jr_look (X : cr_Cx w own c0 cc nL p s m args meth c) {dflt : Int} {ps : Array (Int × Int)} {len : Nat} {x : Int32} {off : Int} (tgt : Nat) (hdg : decode cc pc = .ok (.lookupswitch dflt ps, len)) (hp : (ps.toList.zip (ps.toList.drop 1)).all (fun (a, next) => a.1 < next.1) = true) (ho : Op.lookupswitch.offset ps.toList dflt x.toInt = off) (ht : (pc : Int) + off = (tgt : Int)) (kk : cr_J w nL p l e R s m args below meth c ce sl Q V tgt lv st) : cr_J w nL p l e R s m args below meth c ce sl Q V pc lv (.int x :: st) := fun H locs ls hP hS hl => lv_lookup X.1 X.2.1 hdg hp ho ht (kk H locs ls hP hS hl)
end CRJ
theorem cr_tin {x : Int32} {n : Int} {k : Int32} (h : ¬ x = k) (hk : k.toInt = n) : x.toInt ≠ n := fun e => h (Int32.toInt_inj.mp (e.trans hk.symm))
theorem cr_nb {x : Int32} (h : cr_bo x) : narrow .boolean (.int x) = .int x := by rcases h with rfl | rfl <;> decide
theorem cr_fb {x : Int32} (h : cr_bo x) : fits .boolean (.int x) = true := by rcases h with rfl | rfl <;> decide
theorem cr_pg0 : cr_pg 0 := by decide
theorem cr_pg19 : cr_pg 19 := by decide
abbrev cr_ia (a : Nat) : Prop := 160 ≤ a ∧ a ≤ 166
def cr_len (a : Nat) : Nat := if a = 160 then 80 else if a = 161 then 80 else if a = 162 then 480 else if a = 163 then 80 else if a = 164 then 8 else if a = 165 then 8 else 12
theorem cr_l_ia {a : Nat} (h : cr_ia a) : a < 167 := by omega
theorem cr_row_ia (w : cr_Wd) {a : Nat} (h : cr_ia a) (r : Nat → Int32) : cr_row w a r = .inl (w.2.1 0, cr_len a, .inl r) := by
  have h2 : a = 160 ∨ a = 161 ∨ a = 162 ∨ a = 163 ∨ a = 164 ∨ a = 165 ∨ a = 166 := by omega
  rcases h2 with rfl | rfl | rfl | rfl | rfl | rfl | rfl <;> rfl
def cr_u2 {a b c : Type} (g : a → b → Option c) (q : a × b) : Option c := g q.1 q.2
def cr_u3 {a b c d : Type} (g : a → b → c → Option d) (q : a × b × c) : Option d := g q.1 q.2.1 q.2.2
def cr_u4 {a b c d e : Type} (g : a → b → c → d → Option e) (q : a × b × c × d) : Option e := g q.1 q.2.1 q.2.2.1 q.2.2.2
def cr_u5 {a b c d e f : Type} (g : a → b → c → d → e → Option f) (q : a × b × c × d × e) : Option f := g q.1 q.2.1 q.2.2.1 q.2.2.2.1 q.2.2.2.2
def cr_u6 {a b c d e f k : Type} (g : a → b → c → d → e → f → Option k) (q : a × b × c × d × e × f) : Option k := g q.1 q.2.1 q.2.2.1 q.2.2.2.1 q.2.2.2.2.1 q.2.2.2.2.2
def cr_sm {a b c : Type} (f : a → Option c) (g : b → Option c) (q : a ⊕ b) : Option c := match q with | .inl x => f x | .inr y => g y
end
section
section CRK
variable {p : Program} {l : Launch} {e : Env} {R : Room} {s : State} {m : MethodId} {args : Array Value} {below : List Frame} {meth : Method} {c : Code} {Q : State → Prop} {w : cr_Wd} {own : String} {c0 : Cond} {cc : ByteArray} {nL : Nat} {V : cr_Hp} {pc : Nat} {lv : List (Nat × Value)} {st : List Value} {ce sl : Nat}
theorem cr_good {k : Cond} {l : List Cond} (h : ∀ x ∈ l, x ∈ cr_W) : GoodIn (k :: cr_W) l := fun x hx => ⟨List.mem_cons_of_mem _ (h x hx), good_of_word (cr_W_g (h x hx))⟩
theorem cr_goodc {y : MethodName} {bytes : ByteArray} {maxL : Nat} {ret : Option FieldType} {k : Cond} (h : Cond.code y bytes maxL ret ∈ cr_W) : GoodIn (k :: cr_W) (cr_wds y bytes maxL ret) := cr_good (fun x hx => by
  rcases List.mem_cons.mp hx with rfl | h2
  · exact h
  · exact h2)
theorem cr_goodV {y : MethodName} {bytes : ByteArray} {maxL idx : Nat} {C own : String} {ret : Option FieldType} {k : Cond} (h1 : Cond.methodLink own idx y ∈ cr_W) (h2 : Cond.instanceMethod y ∈ cr_W) (h3 : Cond.selects C y y ∈ cr_W) (h4 : Cond.initialized C ∈ cr_W) (h : Cond.code y bytes maxL ret ∈ cr_W) : GoodIn (k :: cr_W) (wsV own idx C y (cr_wds y bytes maxL ret)) := fun x hx => by
  unfold wsV at hx
  rcases List.mem_append.mp hx with hx | hx
  · refine cr_good (l := [Cond.methodLink own idx y, Cond.instanceMethod y, Cond.selects C y y, Cond.initialized C]) (fun z hz => ?_) x hx
    simp only [List.mem_cons, List.not_mem_nil, or_false] at hz
    rcases hz with rfl | rfl | rfl | rfl <;> assumption
  · exact cr_goodc h x hx
theorem cr_goodS {y : MethodName} {bytes : ByteArray} {maxL idx : Nat} {own : String} {ret : Option FieldType} {k : Cond} (h1 : Cond.methodLink own idx y ∈ cr_W) (h2 : Cond.static y ∈ cr_W) (h4 : Cond.initialized y.cls ∈ cr_W) (h : Cond.code y bytes maxL ret ∈ cr_W) : GoodIn (k :: cr_W) (va_wsS own idx y (cr_wds y bytes maxL ret)) := fun x hx => by
  unfold va_wsS at hx
  rcases List.mem_append.mp hx with hx | hx
  · refine cr_good (l := [Cond.methodLink own idx y, Cond.static y, Cond.initialized y.cls]) (fun z hz => ?_) x hx
    simp only [List.mem_cons, List.not_mem_nil, or_false] at hz
    rcases hz with rfl | rfl | rfl <;> assumption
  · exact cr_goodc h x hx
theorem cr_pre (X : cr_Cx w own c0 cc nL p s m args meth c) {V : cr_Hp} {av : List Value} {H : Heap} {locs : List Loc} (hP : va_P w.2.2.1 vwCl (cr_ws w V) H) (hS : va_S (cr_A w) s.heap H locs) : ∀ U : State, U.heap = H → s.WarmedH U.vm → cr_Pc w V av av.toArray U := fun U hU hW => ⟨rfl, by rw [hU]; exact hP, by rw [hU]; exact cr_Ev.kept (cr_Ev.warm hW X.2.2.2.2.2.1) hS.2.1, X.2.2.2.2.2.2.1⟩
theorem jc_Vi (X : cr_Cx w own c0 cc nL p s m args meth c) {y : MethodName} {bytes : ByteArray} {maxL idx : Nat} {ret : Option FieldType} {rm : Room} {V1 : cr_Hp} {r : Int32} {As stk : List Value} {C : String} {T : u_T} {N ci b : Nat} {fs : List Value} (n : Nat) (hM : Met l y (cr_wds y bytes maxL ret) rm (cr_Pc w V (.ref (w.1 b) :: As)) (cr_Qi w V1 r) 0 0 (cr_A w)) (hrm : rm.cells = 0 ∧ rm.slots = 0) (h1 : Cond.methodLink own idx y ∈ cr_W) (h2 : Cond.instanceMethod y ∈ cr_W) (h3 : Cond.selects C y y ∈ cr_W) (h4 : Cond.initialized C ∈ cr_W) (h5 : Cond.code y bytes maxL ret ∈ cr_W) (hd : y.cls = C ∧ y.cls ≠ "java/lang/invoke/MethodHandle" ∧ y.cls ≠ "java/lang/invoke/VarHandle" ∧ (parseMethodDescriptor y.desc).map (fun d => d.parameters.length) = some n) (hR : rm.frames + 1 ≤ R.frames ∧ 8 + (maxL + 11) + rm.locals ≤ R.locals) (hcs : ce ≤ R.cells ∧ sl ≤ R.slots) (hn : As.length = n) (hcat : (st.map fun v => v.category).sum ≤ 8) (hb : b < 167) (hrow : cr_row w b (V b) = .inr (ci, fs)) (hc : vwCl[ci]? = some (C, T, N)) (hst : stk = As.reverse ++ .ref (w.1 b) :: st) (hdg : decode cc pc = .ok (.invokevirtual idx, 3)) (kk : cr_J w nL p l e R s m args below meth c ce sl Q V1 (pc + 3) lv (.int r :: st)) : cr_J w nL p l e R s m args below meth c ce sl Q V pc lv stk := fun H locs ls hP hS hl => by
  subst hst
  refine va_calli (A0 := cr_A w) (A1 := cr_A w) (va_runV (As := As) (rest := st) ⟨X.1, X.2.1, X.2.2.1, X.2.2.2.1, X.2.2.2.2.1⟩ hM (cwV n X.2.2.2.2.1 (cr_goodV h1 h2 h3 h4 h5) rfl hrm.1 hrm.2 hd hR) ⟨cr_blind, va_recv X.2.2.2.2.2.1.1 hP (ci := ci) (q0 := b) hc (cr_get w V hb hrow), cr_pre X hP hS⟩ rfl hn hl.1 rfl (lv_room hcat) hdg hcs) hS (fun _ _ h => h) (fun _ h => h) (fun r1 u t H1 locs1 ht hvm hw hB hz hk hS1 => ?_)
  subst hw
  exact kk H1 locs1 ls (by have hB : va_P w.2.2.1 vwCl (cr_ws w V1) t.heap := hB; rw [ht] at hB; exact hB) hS1 hl
theorem jc_Si (X : cr_Cx w own c0 cc nL p s m args meth c) {y : MethodName} {bytes : ByteArray} {maxL idx : Nat} {ret : Option FieldType} {rm : Room} {V1 : cr_Hp} {r : Int32} {As stk : List Value} (n : Nat) (hM : Met l y (cr_wds y bytes maxL ret) rm (cr_Pc w V As) (cr_Qi w V1 r) 0 0 (cr_A w)) (hrm : rm.cells = 0 ∧ rm.slots = 0) (h1 : Cond.methodLink own idx y ∈ cr_W) (h2 : Cond.static y ∈ cr_W) (h4 : Cond.initialized y.cls ∈ cr_W) (h5 : Cond.code y bytes maxL ret ∈ cr_W) (hd : y.cls ≠ "java/lang/invoke/MethodHandle" ∧ y.cls ≠ "java/lang/invoke/VarHandle" ∧ (parseMethodDescriptor y.desc).map (fun d => d.parameters.length) = some n) (hR : rm.frames + 1 ≤ R.frames ∧ 8 + (maxL + 11) + rm.locals ≤ R.locals) (hcs : ce ≤ R.cells ∧ sl ≤ R.slots) (hn : As.length = n) (hcat : (st.map fun v => v.category).sum ≤ 8) (hst : stk = As.reverse ++ st) (hdg : decode cc pc = .ok (.invokestatic idx, 3)) (kk : cr_J w nL p l e R s m args below meth c ce sl Q V1 (pc + 3) lv (.int r :: st)) : cr_J w nL p l e R s m args below meth c ce sl Q V pc lv stk := fun H locs ls hP hS hl => by
  subst hst
  refine va_calli (A0 := cr_A w) (A1 := cr_A w) (va_runS (As := As) (rest := st) ⟨X.1, X.2.1, X.2.2.1, X.2.2.2.1, X.2.2.2.2.1⟩ hM (va_cwS n X.2.2.2.2.1 (cr_goodS h1 h2 h4 h5) rfl hrm.1 hrm.2 hd hR) ⟨cr_blind, cr_pre X hP hS⟩ rfl hn hl.1 rfl (lv_room hcat) hdg hcs) hS (fun _ _ h => h) (fun _ h => h) (fun r1 u t H1 locs1 ht hvm hw hB hz hk hS1 => ?_)
  subst hw
  exact kk H1 locs1 ls (by have hB : va_P w.2.2.1 vwCl (cr_ws w V1) t.heap := hB; rw [ht] at hB; exact hB) hS1 hl
theorem jc_Ni (X : cr_Cx w own c0 cc nL p s m args meth c) {y : MethodName} {bytes : ByteArray} {maxL idx : Nat} {ret : Option FieldType} {rm : Room} {V1 : cr_Hp} {r : Int32} {As stk : List Value} {host : String} (n : Nat) (hM : Met l y (cr_wds y bytes maxL ret) rm (cr_Pc w V As) (cr_Qi w V1 r) 0 0 (cr_A w)) (hrm : rm.cells = 0 ∧ rm.slots = 0) (h1 : Cond.methodLinkNest own idx y host ∈ cr_nest) (h2 : Cond.static y ∈ cr_W) (h4 : Cond.initialized y.cls ∈ cr_W) (h5 : Cond.code y bytes maxL ret ∈ cr_W) (hd : y.cls ≠ "java/lang/invoke/MethodHandle" ∧ y.cls ≠ "java/lang/invoke/VarHandle" ∧ (parseMethodDescriptor y.desc).map (fun d => d.parameters.length) = some n) (hR : rm.frames + 1 ≤ R.frames ∧ 8 + (maxL + 11) + rm.locals ≤ R.locals) (hcs : ce ≤ R.cells ∧ sl ≤ R.slots) (hn : As.length = n) (hcat : (st.map fun v => v.category).sum ≤ 8) (hst : stk = As.reverse ++ st) (hdg : decode cc pc = .ok (.invokestatic idx, 3)) (kk : cr_J w nL p l e R s m args below meth c ce sl Q V1 (pc + 3) lv (.int r :: st)) : cr_J w nL p l e R s m args below meth c ce sl Q V pc lv stk := fun H locs ls hP hS hl => by
  subst hst
  refine va_calli (A0 := cr_A w) (A1 := cr_A w) (va_runSN (As := As) (rest := st) ⟨X.1, X.2.1, X.2.2.1, X.2.2.2.1, X.2.2.2.2.1⟩ hM ⟨va_cnB n X.2.2.2.2.1 (cr_goodc h5) rfl hrm.1 hrm.2 (X.2.2.2.2.2.1.2.1 _ h1) (X.ts h4) hd hR, X.ts h2, trivial⟩ ⟨cr_blind, cr_pre X hP hS⟩ rfl hn hl.1 rfl (lv_room hcat) hdg hcs) hS (fun _ _ h => h) (fun _ h => h) (fun r1 u t H1 locs1 ht hvm hw hB hz hk hS1 => ?_)
  subst hw
  exact kk H1 locs1 ls (by have hB : va_P w.2.2.1 vwCl (cr_ws w V1) t.heap := hB; rw [ht] at hB; exact hB) hS1 hl
theorem jc_Vl (X : cr_Cx w own c0 cc nL p s m args meth c) {y : MethodName} {bytes : ByteArray} {maxL idx : Nat} {ret : Option FieldType} {rm : Room} {V1 : cr_Hp} {r : Int64} {As stk : List Value} {C : String} {T : u_T} {N ci b : Nat} {fs : List Value} (n : Nat) (hM : Met l y (cr_wds y bytes maxL ret) rm (cr_Pc w V (.ref (w.1 b) :: As)) (cr_Ql w V1 r) 0 0 (cr_A w)) (hrm : rm.cells = 0 ∧ rm.slots = 0) (h1 : Cond.methodLink own idx y ∈ cr_W) (h2 : Cond.instanceMethod y ∈ cr_W) (h3 : Cond.selects C y y ∈ cr_W) (h4 : Cond.initialized C ∈ cr_W) (h5 : Cond.code y bytes maxL ret ∈ cr_W) (hd : y.cls = C ∧ y.cls ≠ "java/lang/invoke/MethodHandle" ∧ y.cls ≠ "java/lang/invoke/VarHandle" ∧ (parseMethodDescriptor y.desc).map (fun d => d.parameters.length) = some n) (hR : rm.frames + 1 ≤ R.frames ∧ 8 + (maxL + 11) + rm.locals ≤ R.locals) (hcs : ce ≤ R.cells ∧ sl ≤ R.slots) (hn : As.length = n) (hcat : (st.map fun v => v.category).sum ≤ 8) (hb : b < 167) (hrow : cr_row w b (V b) = .inr (ci, fs)) (hc : vwCl[ci]? = some (C, T, N)) (hst : stk = As.reverse ++ .ref (w.1 b) :: st) (hdg : decode cc pc = .ok (.invokevirtual idx, 3)) (kk : cr_J w nL p l e R s m args below meth c ce sl Q V1 (pc + 3) lv (.long r :: st)) : cr_J w nL p l e R s m args below meth c ce sl Q V pc lv stk := fun H locs ls hP hS hl => by
  subst hst
  refine va_calll (A0 := cr_A w) (A1 := cr_A w) (va_runV (As := As) (rest := st) ⟨X.1, X.2.1, X.2.2.1, X.2.2.2.1, X.2.2.2.2.1⟩ hM (cwV n X.2.2.2.2.1 (cr_goodV h1 h2 h3 h4 h5) rfl hrm.1 hrm.2 hd hR) ⟨cr_blind, va_recv X.2.2.2.2.2.1.1 hP (ci := ci) (q0 := b) hc (cr_get w V hb hrow), cr_pre X hP hS⟩ rfl hn hl.1 rfl (lv_room hcat) hdg hcs) hS (fun _ _ h => h) (fun _ h => h) (fun r1 u t H1 locs1 ht hvm hw hB hz hk hS1 => ?_)
  subst hw
  exact kk H1 locs1 ls (by have hB : va_P w.2.2.1 vwCl (cr_ws w V1) t.heap := hB; rw [ht] at hB; exact hB) hS1 hl
theorem jc_Sl (X : cr_Cx w own c0 cc nL p s m args meth c) {y : MethodName} {bytes : ByteArray} {maxL idx : Nat} {ret : Option FieldType} {rm : Room} {V1 : cr_Hp} {r : Int64} {As stk : List Value} (n : Nat) (hM : Met l y (cr_wds y bytes maxL ret) rm (cr_Pc w V As) (cr_Ql w V1 r) 0 0 (cr_A w)) (hrm : rm.cells = 0 ∧ rm.slots = 0) (h1 : Cond.methodLink own idx y ∈ cr_W) (h2 : Cond.static y ∈ cr_W) (h4 : Cond.initialized y.cls ∈ cr_W) (h5 : Cond.code y bytes maxL ret ∈ cr_W) (hd : y.cls ≠ "java/lang/invoke/MethodHandle" ∧ y.cls ≠ "java/lang/invoke/VarHandle" ∧ (parseMethodDescriptor y.desc).map (fun d => d.parameters.length) = some n) (hR : rm.frames + 1 ≤ R.frames ∧ 8 + (maxL + 11) + rm.locals ≤ R.locals) (hcs : ce ≤ R.cells ∧ sl ≤ R.slots) (hn : As.length = n) (hcat : (st.map fun v => v.category).sum ≤ 8) (hst : stk = As.reverse ++ st) (hdg : decode cc pc = .ok (.invokestatic idx, 3)) (kk : cr_J w nL p l e R s m args below meth c ce sl Q V1 (pc + 3) lv (.long r :: st)) : cr_J w nL p l e R s m args below meth c ce sl Q V pc lv stk := fun H locs ls hP hS hl => by
  subst hst
  refine va_calll (A0 := cr_A w) (A1 := cr_A w) (va_runS (As := As) (rest := st) ⟨X.1, X.2.1, X.2.2.1, X.2.2.2.1, X.2.2.2.2.1⟩ hM (va_cwS n X.2.2.2.2.1 (cr_goodS h1 h2 h4 h5) rfl hrm.1 hrm.2 hd hR) ⟨cr_blind, cr_pre X hP hS⟩ rfl hn hl.1 rfl (lv_room hcat) hdg hcs) hS (fun _ _ h => h) (fun _ h => h) (fun r1 u t H1 locs1 ht hvm hw hB hz hk hS1 => ?_)
  subst hw
  exact kk H1 locs1 ls (by have hB : va_P w.2.2.1 vwCl (cr_ws w V1) t.heap := hB; rw [ht] at hB; exact hB) hS1 hl
theorem jc_Vv (X : cr_Cx w own c0 cc nL p s m args meth c) {y : MethodName} {bytes : ByteArray} {maxL idx : Nat} {ret : Option FieldType} {rm : Room} {V1 : cr_Hp}  {As stk : List Value} {C : String} {T : u_T} {N ci b : Nat} {fs : List Value} (n : Nat) (hM : Met l y (cr_wds y bytes maxL ret) rm (cr_Pc w V (.ref (w.1 b) :: As)) (cr_Qv w V1) 0 0 (cr_A w)) (hrm : rm.cells = 0 ∧ rm.slots = 0) (h1 : Cond.methodLink own idx y ∈ cr_W) (h2 : Cond.instanceMethod y ∈ cr_W) (h3 : Cond.selects C y y ∈ cr_W) (h4 : Cond.initialized C ∈ cr_W) (h5 : Cond.code y bytes maxL ret ∈ cr_W) (hd : y.cls = C ∧ y.cls ≠ "java/lang/invoke/MethodHandle" ∧ y.cls ≠ "java/lang/invoke/VarHandle" ∧ (parseMethodDescriptor y.desc).map (fun d => d.parameters.length) = some n) (hR : rm.frames + 1 ≤ R.frames ∧ 8 + (maxL + 11) + rm.locals ≤ R.locals) (hcs : ce ≤ R.cells ∧ sl ≤ R.slots) (hn : As.length = n) (hcat : (st.map fun v => v.category).sum ≤ 8) (hb : b < 167) (hrow : cr_row w b (V b) = .inr (ci, fs)) (hc : vwCl[ci]? = some (C, T, N)) (hst : stk = As.reverse ++ .ref (w.1 b) :: st) (hdg : decode cc pc = .ok (.invokevirtual idx, 3)) (kk : cr_J w nL p l e R s m args below meth c ce sl Q V1 (pc + 3) lv st) : cr_J w nL p l e R s m args below meth c ce sl Q V pc lv stk := fun H locs ls hP hS hl => by
  subst hst
  refine va_callv (A0 := cr_A w) (A1 := cr_A w) (va_runV (As := As) (rest := st) ⟨X.1, X.2.1, X.2.2.1, X.2.2.2.1, X.2.2.2.2.1⟩ hM (cwV n X.2.2.2.2.1 (cr_goodV h1 h2 h3 h4 h5) rfl hrm.1 hrm.2 hd hR) ⟨cr_blind, va_recv X.2.2.2.2.2.1.1 hP (ci := ci) (q0 := b) hc (cr_get w V hb hrow), cr_pre X hP hS⟩ rfl hn hl.1 rfl (lv_room hcat) hdg hcs) hS (fun _ _ h => h) (fun _ h => h) (fun u t H1 locs1 ht hvm hw hB hz hk hS1 => ?_)
  exact kk H1 locs1 ls (by have hB : va_P w.2.2.1 vwCl (cr_ws w V1) t.heap := hB; rw [ht] at hB; exact hB) hS1 hl
theorem jc_Sv (X : cr_Cx w own c0 cc nL p s m args meth c) {y : MethodName} {bytes : ByteArray} {maxL idx : Nat} {ret : Option FieldType} {rm : Room} {V1 : cr_Hp}  {As stk : List Value} (n : Nat) (hM : Met l y (cr_wds y bytes maxL ret) rm (cr_Pc w V As) (cr_Qv w V1) 0 0 (cr_A w)) (hrm : rm.cells = 0 ∧ rm.slots = 0) (h1 : Cond.methodLink own idx y ∈ cr_W) (h2 : Cond.static y ∈ cr_W) (h4 : Cond.initialized y.cls ∈ cr_W) (h5 : Cond.code y bytes maxL ret ∈ cr_W) (hd : y.cls ≠ "java/lang/invoke/MethodHandle" ∧ y.cls ≠ "java/lang/invoke/VarHandle" ∧ (parseMethodDescriptor y.desc).map (fun d => d.parameters.length) = some n) (hR : rm.frames + 1 ≤ R.frames ∧ 8 + (maxL + 11) + rm.locals ≤ R.locals) (hcs : ce ≤ R.cells ∧ sl ≤ R.slots) (hn : As.length = n) (hcat : (st.map fun v => v.category).sum ≤ 8) (hst : stk = As.reverse ++ st) (hdg : decode cc pc = .ok (.invokestatic idx, 3)) (kk : cr_J w nL p l e R s m args below meth c ce sl Q V1 (pc + 3) lv st) : cr_J w nL p l e R s m args below meth c ce sl Q V pc lv stk := fun H locs ls hP hS hl => by
  subst hst
  refine va_callv (A0 := cr_A w) (A1 := cr_A w) (va_runS (As := As) (rest := st) ⟨X.1, X.2.1, X.2.2.1, X.2.2.2.1, X.2.2.2.2.1⟩ hM (va_cwS n X.2.2.2.2.1 (cr_goodS h1 h2 h4 h5) rfl hrm.1 hrm.2 hd hR) ⟨cr_blind, cr_pre X hP hS⟩ rfl hn hl.1 rfl (lv_room hcat) hdg hcs) hS (fun _ _ h => h) (fun _ h => h) (fun u t H1 locs1 ht hvm hw hB hz hk hS1 => ?_)
  exact kk H1 locs1 ls (by have hB : va_P w.2.2.1 vwCl (cr_ws w V1) t.heap := hB; rw [ht] at hB; exact hB) hS1 hl
theorem jc_Ve (X : cr_Cx w own c0 cc nL p s m args meth c) {y : MethodName} {bytes : ByteArray} {maxL idx : Nat} {ret : Option FieldType} {rm : Room} {V1 : cr_Hp} {r : Option Nat} {As stk : List Value} {C : String} {T : u_T} {N ci b : Nat} {fs : List Value} (n : Nat) (hM : Met l y (cr_wds y bytes maxL ret) rm (cr_Pc w V (.ref (w.1 b) :: As)) (cr_Qe w V1 r) 0 0 (cr_A w)) (hrm : rm.cells = 0 ∧ rm.slots = 0) (h1 : Cond.methodLink own idx y ∈ cr_W) (h2 : Cond.instanceMethod y ∈ cr_W) (h3 : Cond.selects C y y ∈ cr_W) (h4 : Cond.initialized C ∈ cr_W) (h5 : Cond.code y bytes maxL ret ∈ cr_W) (hd : y.cls = C ∧ y.cls ≠ "java/lang/invoke/MethodHandle" ∧ y.cls ≠ "java/lang/invoke/VarHandle" ∧ (parseMethodDescriptor y.desc).map (fun d => d.parameters.length) = some n) (hR : rm.frames + 1 ≤ R.frames ∧ 8 + (maxL + 11) + rm.locals ≤ R.locals) (hcs : ce ≤ R.cells ∧ sl ≤ R.slots) (hn : As.length = n) (hcat : (st.map fun v => v.category).sum ≤ 8) (hb : b < 167) (hrow : cr_row w b (V b) = .inr (ci, fs)) (hc : vwCl[ci]? = some (C, T, N)) (hst : stk = As.reverse ++ .ref (w.1 b) :: st) (hdg : decode cc pc = .ok (.invokevirtual idx, 3)) (kn : r = none → cr_J w nL p l e R s m args below meth c ce sl Q V1 (pc + 3) lv (.null :: st)) (kk : ∀ a, r = some a → cr_J w nL p l e R s m args below meth c ce sl Q V1 (pc + 3) lv (.ref (w.1 a) :: st)) : cr_J w nL p l e R s m args below meth c ce sl Q V pc lv stk := fun H locs ls hP hS hl => by
  subst hst
  refine va_calle (A0 := cr_A w) (A1 := cr_A w) (va_runV (As := As) (rest := st) ⟨X.1, X.2.1, X.2.2.1, X.2.2.2.1, X.2.2.2.2.1⟩ hM (cwV n X.2.2.2.2.1 (cr_goodV h1 h2 h3 h4 h5) rfl hrm.1 hrm.2 hd hR) ⟨cr_blind, va_recv X.2.2.2.2.2.1.1 hP (ci := ci) (q0 := b) hc (cr_get w V hb hrow), cr_pre X hP hS⟩ rfl hn hl.1 rfl (lv_room hcat) hdg hcs) hS (fun _ _ h => h) (fun _ h => h) (fun r1 u t H1 locs1 ht hvm hw hB hz hk hS1 => ?_)
  subst hw
  cases r1 with
  | none => exact kn rfl H1 locs1 ls (by have hB : va_P w.2.2.1 vwCl (cr_ws w V1) t.heap := hB; rw [ht] at hB; exact hB) hS1 hl
  | some a => exact kk a rfl H1 locs1 ls (by have hB : va_P w.2.2.1 vwCl (cr_ws w V1) t.heap := hB; rw [ht] at hB; exact hB) hS1 hl
theorem jc_Se (X : cr_Cx w own c0 cc nL p s m args meth c) {y : MethodName} {bytes : ByteArray} {maxL idx : Nat} {ret : Option FieldType} {rm : Room} {V1 : cr_Hp} {r : Option Nat} {As stk : List Value} (n : Nat) (hM : Met l y (cr_wds y bytes maxL ret) rm (cr_Pc w V As) (cr_Qe w V1 r) 0 0 (cr_A w)) (hrm : rm.cells = 0 ∧ rm.slots = 0) (h1 : Cond.methodLink own idx y ∈ cr_W) (h2 : Cond.static y ∈ cr_W) (h4 : Cond.initialized y.cls ∈ cr_W) (h5 : Cond.code y bytes maxL ret ∈ cr_W) (hd : y.cls ≠ "java/lang/invoke/MethodHandle" ∧ y.cls ≠ "java/lang/invoke/VarHandle" ∧ (parseMethodDescriptor y.desc).map (fun d => d.parameters.length) = some n) (hR : rm.frames + 1 ≤ R.frames ∧ 8 + (maxL + 11) + rm.locals ≤ R.locals) (hcs : ce ≤ R.cells ∧ sl ≤ R.slots) (hn : As.length = n) (hcat : (st.map fun v => v.category).sum ≤ 8) (hst : stk = As.reverse ++ st) (hdg : decode cc pc = .ok (.invokestatic idx, 3)) (kn : r = none → cr_J w nL p l e R s m args below meth c ce sl Q V1 (pc + 3) lv (.null :: st)) (kk : ∀ a, r = some a → cr_J w nL p l e R s m args below meth c ce sl Q V1 (pc + 3) lv (.ref (w.1 a) :: st)) : cr_J w nL p l e R s m args below meth c ce sl Q V pc lv stk := fun H locs ls hP hS hl => by
  subst hst
  refine va_calle (A0 := cr_A w) (A1 := cr_A w) (va_runS (As := As) (rest := st) ⟨X.1, X.2.1, X.2.2.1, X.2.2.2.1, X.2.2.2.2.1⟩ hM (va_cwS n X.2.2.2.2.1 (cr_goodS h1 h2 h4 h5) rfl hrm.1 hrm.2 hd hR) ⟨cr_blind, cr_pre X hP hS⟩ rfl hn hl.1 rfl (lv_room hcat) hdg hcs) hS (fun _ _ h => h) (fun _ h => h) (fun r1 u t H1 locs1 ht hvm hw hB hz hk hS1 => ?_)
  subst hw
  cases r1 with
  | none => exact kn rfl H1 locs1 ls (by have hB : va_P w.2.2.1 vwCl (cr_ws w V1) t.heap := hB; rw [ht] at hB; exact hB) hS1 hl
  | some a => exact kk a rfl H1 locs1 ls (by have hB : va_P w.2.2.1 vwCl (cr_ws w V1) t.heap := hB; rw [ht] at hB; exact hB) hS1 hl
theorem cr_met {l : Launch} {y : MethodName} {own : String} {bytes : ByteArray} {maxL : Nat} {ret : Option FieldType} {rm : Room} {w : cr_Wd} {V : cr_Hp} {av : List Value} {lv : List (Nat × Value)} {Qc : Array Value → State → Outcome → State → Prop} (hy : plainName y.cls = true) (ho : y.cls = own) (hlen : (lg_sl av).length ≤ maxL) (hlv : lv_args 0 av = lv)
    (body : ∀ p e s m args below meth c, cr_Cx w own (Cond.code y bytes maxL ret) bytes maxL p s m args meth c → meth.sig.returnType = ret → cr_J w maxL p l e rm s m args below meth c 0 0 (MQ below Qc args s 0 0 (cr_A w)) V 0 lv []) : Met l y (cr_wds y bytes maxL ret) rm (cr_Pc w V av) Qc 0 0 (cr_A w) := by
  refine Met.ofW (cc := bytes) (maxL := maxL) (ret := ret) hy rfl ?_
  intro p e s m args below meth c s₁ B hml hv
  obtain ⟨rfl, hP, hE, hI⟩ := hv
  have hl := lv_entry av (n := maxL) hlen
  rw [hlv] at hl
  rw [lg_entry_eq]
  exact body p e s m _ below meth c ⟨B.exec, B.bytes, hml, by rw [← ho]; exact findClass_of_methodNamed B.named, atoms_spec B.pre, hE, hI, B.notSynchronized⟩ B.returns s.heap [] _ hP va_S.rf hl
end CRK
end
section
theorem zz_probe : (1:Nat) = 1 := rfl
end
