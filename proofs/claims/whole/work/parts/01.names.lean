-- ===== PART A: goes FIRST, ahead of the names: the tables' words, and 'selects' of the private methods out of them =====
/-- a private method of a class that the tables say can be made, by its rows of tables_1 -/
def lw_okq (q : MethodName × Nat) : Prop := (q.1.cls ≠ "java/lang/invoke/MethodHandle" ∧ q.1.cls ≠ "java/lang/invoke/VarHandle") ∧ Cond.instantiable q.1.cls q.2 ∈ tables_1 ∧ Cond.privateMethod q.1 ∈ tables_1 ∧ Cond.instanceMethod q.1 ∈ tables_1
theorem lw_p0 : lw_okq (⟨"DrumLayers", "isDeck", "(III)Z"⟩, 10) := ⟨⟨by decide +kernel, by decide +kernel⟩, List.mem_of_getElem? (i := 24) (by decide +kernel), List.mem_of_getElem? (i := 580) (by decide +kernel), List.mem_of_getElem? (i := 581) (by decide +kernel)⟩
theorem lw_p1 : lw_okq (⟨"DrumLayers", "vacantJob", "()LDrumLayers$Job;"⟩, 10) := ⟨⟨by decide +kernel, by decide +kernel⟩, List.mem_of_getElem? (i := 24) (by decide +kernel), List.mem_of_getElem? (i := 584) (by decide +kernel), List.mem_of_getElem? (i := 585) (by decide +kernel)⟩
theorem lw_p2 : lw_okq (⟨"DrumLayers$Machine", "end", "(LDrumLayers$Job;)V"⟩, 6) := ⟨⟨by decide +kernel, by decide +kernel⟩, List.mem_of_getElem? (i := 506) (by decide +kernel), List.mem_of_getElem? (i := 626) (by decide +kernel), List.mem_of_getElem? (i := 627) (by decide +kernel)⟩
theorem lw_p3 : lw_okq (⟨"DrumLayers$Console", "say", "(I)V"⟩, 12) := ⟨⟨by decide +kernel, by decide +kernel⟩, List.mem_of_getElem? (i := 455) (by decide +kernel), List.mem_of_getElem? (i := 657) (by decide +kernel), List.mem_of_getElem? (i := 658) (by decide +kernel)⟩
theorem lw_p4 : lw_okq (⟨"DrumLayers$Bank", "grants", "(LDrumLayers$Job;I)Z"⟩, 8) := ⟨⟨by decide +kernel, by decide +kernel⟩, List.mem_of_getElem? (i := 361) (by decide +kernel), List.mem_of_getElem? (i := 684) (by decide +kernel), List.mem_of_getElem? (i := 685) (by decide +kernel)⟩
theorem lw_p5 : lw_okq (⟨"DrumLayers$Bank", "move", "(LDrumLayers$Job;II)V"⟩, 8) := ⟨⟨by decide +kernel, by decide +kernel⟩, List.mem_of_getElem? (i := 361) (by decide +kernel), List.mem_of_getElem? (i := 692) (by decide +kernel), List.mem_of_getElem? (i := 693) (by decide +kernel)⟩
theorem lw_p6 : lw_okq (⟨"DrumLayers$Bank", "allCanEnd", "()Z"⟩, 8) := ⟨⟨by decide +kernel, by decide +kernel⟩, List.mem_of_getElem? (i := 361) (by decide +kernel), List.mem_of_getElem? (i := 696) (by decide +kernel), List.mem_of_getElem? (i := 697) (by decide +kernel)⟩
theorem lw_p7 : lw_okq (⟨"DrumLayers$Bank", "hasRoomFor", "(LDrumLayers$Job;)Z"⟩, 8) := ⟨⟨by decide +kernel, by decide +kernel⟩, List.mem_of_getElem? (i := 361) (by decide +kernel), List.mem_of_getElem? (i := 700) (by decide +kernel), List.mem_of_getElem? (i := 701) (by decide +kernel)⟩
theorem lw_p8 : lw_okq (⟨"DrumLayers$Bank", "addToRoom", "(LDrumLayers$Job;)V"⟩, 8) := ⟨⟨by decide +kernel, by decide +kernel⟩, List.mem_of_getElem? (i := 361) (by decide +kernel), List.mem_of_getElem? (i := 704) (by decide +kernel), List.mem_of_getElem? (i := 705) (by decide +kernel)⟩
theorem lw_p9 : lw_okq (⟨"java/util/ArrayList", "fastRemove", "([Ljava/lang/Object;I)V"⟩, 3) := ⟨⟨by decide +kernel, by decide +kernel⟩, List.mem_of_getElem? (i := 251) (by decide +kernel), List.mem_of_getElem? (i := 712) (by decide +kernel), List.mem_of_getElem? (i := 713) (by decide +kernel)⟩
theorem lw_p10 : lw_okq (⟨"DrumLayers$Machine", "attempt", "(LDrumLayers$Job;)V"⟩, 6) := ⟨⟨by decide +kernel, by decide +kernel⟩, List.mem_of_getElem? (i := 506) (by decide +kernel), List.mem_of_getElem? (i := 728) (by decide +kernel), List.mem_of_getElem? (i := 729) (by decide +kernel)⟩
theorem lw_p11 : lw_okq (⟨"java/util/ArrayList", "add", "(Ljava/lang/Object;[Ljava/lang/Object;I)V"⟩, 3) := ⟨⟨by decide +kernel, by decide +kernel⟩, List.mem_of_getElem? (i := 251) (by decide +kernel), List.mem_of_getElem? (i := 748) (by decide +kernel), List.mem_of_getElem? (i := 749) (by decide +kernel)⟩
theorem lw_p12 : lw_okq (⟨"java/util/ArrayList", "grow", "()[Ljava/lang/Object;"⟩, 3) := ⟨⟨by decide +kernel, by decide +kernel⟩, List.mem_of_getElem? (i := 251) (by decide +kernel), List.mem_of_getElem? (i := 752) (by decide +kernel), List.mem_of_getElem? (i := 753) (by decide +kernel)⟩
theorem lw_p13 : lw_okq (⟨"java/util/ArrayList", "grow", "(I)[Ljava/lang/Object;"⟩, 3) := ⟨⟨by decide +kernel, by decide +kernel⟩, List.mem_of_getElem? (i := 251) (by decide +kernel), List.mem_of_getElem? (i := 756) (by decide +kernel), List.mem_of_getElem? (i := 757) (by decide +kernel)⟩
theorem lw_p14 : lw_okq (⟨"DrumLayers$Machine", "attemptOperand", "(LDrumLayers$Job;LDrumLayers$Frame;II)V"⟩, 6) := ⟨⟨by decide +kernel, by decide +kernel⟩, List.mem_of_getElem? (i := 506) (by decide +kernel), List.mem_of_getElem? (i := 815) (by decide +kernel), List.mem_of_getElem? (i := 816) (by decide +kernel)⟩
theorem lw_p15 : lw_okq (⟨"DrumLayers$Machine", "compute", "(LDrumLayers$Job;II)V"⟩, 6) := ⟨⟨by decide +kernel, by decide +kernel⟩, List.mem_of_getElem? (i := 506) (by decide +kernel), List.mem_of_getElem? (i := 824) (by decide +kernel), List.mem_of_getElem? (i := 825) (by decide +kernel)⟩
def lw_privs_1 : List (MethodName × Nat) := [(⟨"DrumLayers", "isDeck", "(III)Z"⟩, 10), (⟨"DrumLayers", "vacantJob", "()LDrumLayers$Job;"⟩, 10), (⟨"DrumLayers$Machine", "end", "(LDrumLayers$Job;)V"⟩, 6), (⟨"DrumLayers$Console", "say", "(I)V"⟩, 12), (⟨"DrumLayers$Bank", "grants", "(LDrumLayers$Job;I)Z"⟩, 8), (⟨"DrumLayers$Bank", "move", "(LDrumLayers$Job;II)V"⟩, 8), (⟨"DrumLayers$Bank", "allCanEnd", "()Z"⟩, 8), (⟨"DrumLayers$Bank", "hasRoomFor", "(LDrumLayers$Job;)Z"⟩, 8), (⟨"DrumLayers$Bank", "addToRoom", "(LDrumLayers$Job;)V"⟩, 8), (⟨"java/util/ArrayList", "fastRemove", "([Ljava/lang/Object;I)V"⟩, 3), (⟨"DrumLayers$Machine", "attempt", "(LDrumLayers$Job;)V"⟩, 6), (⟨"java/util/ArrayList", "add", "(Ljava/lang/Object;[Ljava/lang/Object;I)V"⟩, 3), (⟨"java/util/ArrayList", "grow", "()[Ljava/lang/Object;"⟩, 3), (⟨"java/util/ArrayList", "grow", "(I)[Ljava/lang/Object;"⟩, 3), (⟨"DrumLayers$Machine", "attemptOperand", "(LDrumLayers$Job;LDrumLayers$Frame;II)V"⟩, 6), (⟨"DrumLayers$Machine", "compute", "(LDrumLayers$Job;II)V"⟩, 6)]
theorem lw_r1 : ∀ q ∈ lw_privs_1, lw_okq q := List.forall_mem_cons.mpr ⟨lw_p0, List.forall_mem_cons.mpr ⟨lw_p1, List.forall_mem_cons.mpr ⟨lw_p2, List.forall_mem_cons.mpr ⟨lw_p3, List.forall_mem_cons.mpr ⟨lw_p4, List.forall_mem_cons.mpr ⟨lw_p5, List.forall_mem_cons.mpr ⟨lw_p6, List.forall_mem_cons.mpr ⟨lw_p7, List.forall_mem_cons.mpr ⟨lw_p8, List.forall_mem_cons.mpr ⟨lw_p9, List.forall_mem_cons.mpr ⟨lw_p10, List.forall_mem_cons.mpr ⟨lw_p11, List.forall_mem_cons.mpr ⟨lw_p12, List.forall_mem_cons.mpr ⟨lw_p13, List.forall_mem_cons.mpr ⟨lw_p14, List.forall_mem_cons.mpr ⟨lw_p15, fun _ h => absurd h List.not_mem_nil⟩⟩⟩⟩⟩⟩⟩⟩⟩⟩⟩⟩⟩⟩⟩⟩
theorem lw_p16 : lw_okq (⟨"DrumLayers$Machine", "control", "(LDrumLayers$Job;II)V"⟩, 6) := ⟨⟨by decide +kernel, by decide +kernel⟩, List.mem_of_getElem? (i := 506) (by decide +kernel), List.mem_of_getElem? (i := 828) (by decide +kernel), List.mem_of_getElem? (i := 829) (by decide +kernel)⟩
theorem lw_p17 : lw_okq (⟨"DrumLayers", "systemStep", "(I)V"⟩, 10) := ⟨⟨by decide +kernel, by decide +kernel⟩, List.mem_of_getElem? (i := 24) (by decide +kernel), List.mem_of_getElem? (i := 871) (by decide +kernel), List.mem_of_getElem? (i := 872) (by decide +kernel)⟩
theorem lw_p18 : lw_okq (⟨"DrumLayers$Store", "begin", "(I)V"⟩, 13) := ⟨⟨by decide +kernel, by decide +kernel⟩, List.mem_of_getElem? (i := 245) (by decide +kernel), List.mem_of_getElem? (i := 879) (by decide +kernel), List.mem_of_getElem? (i := 880) (by decide +kernel)⟩
theorem lw_p19 : lw_okq (⟨"DrumLayers$Store", "bring", "()V"⟩, 13) := ⟨⟨by decide +kernel, by decide +kernel⟩, List.mem_of_getElem? (i := 245) (by decide +kernel), List.mem_of_getElem? (i := 883) (by decide +kernel), List.mem_of_getElem? (i := 884) (by decide +kernel)⟩
theorem lw_p20 : lw_okq (⟨"DrumLayers$Store", "takeFirst", "()V"⟩, 13) := ⟨⟨by decide +kernel, by decide +kernel⟩, List.mem_of_getElem? (i := 245) (by decide +kernel), List.mem_of_getElem? (i := 892) (by decide +kernel), List.mem_of_getElem? (i := 893) (by decide +kernel)⟩
theorem lw_p21 : lw_okq (⟨"DrumLayers$Devices", "putOnPaper", "(LDrumLayers$Job;)V"⟩, 15) := ⟨⟨by decide +kernel, by decide +kernel⟩, List.mem_of_getElem? (i := 396) (by decide +kernel), List.mem_of_getElem? (i := 927) (by decide +kernel), List.mem_of_getElem? (i := 928) (by decide +kernel)⟩
theorem lw_p22 : lw_okq (⟨"DrumLayers$Devices", "wakePrinted", "(LDrumLayers$Job;)V"⟩, 15) := ⟨⟨by decide +kernel, by decide +kernel⟩, List.mem_of_getElem? (i := 396) (by decide +kernel), List.mem_of_getElem? (i := 933) (by decide +kernel), List.mem_of_getElem? (i := 934) (by decide +kernel)⟩
theorem lw_p23 : lw_okq (⟨"DrumLayers$Console", "obeys", "()Z"⟩, 12) := ⟨⟨by decide +kernel, by decide +kernel⟩, List.mem_of_getElem? (i := 455) (by decide +kernel), List.mem_of_getElem? (i := 949) (by decide +kernel), List.mem_of_getElem? (i := 950) (by decide +kernel)⟩
theorem lw_p24 : lw_okq (⟨"DrumLayers$Console", "digitAt", "(I)I"⟩, 12) := ⟨⟨by decide +kernel, by decide +kernel⟩, List.mem_of_getElem? (i := 455) (by decide +kernel), List.mem_of_getElem? (i := 953) (by decide +kernel), List.mem_of_getElem? (i := 954) (by decide +kernel)⟩
theorem lw_p25 : lw_okq (⟨"DrumLayers$Console", "signAt", "(I)I"⟩, 12) := ⟨⟨by decide +kernel, by decide +kernel⟩, List.mem_of_getElem? (i := 455) (by decide +kernel), List.mem_of_getElem? (i := 957) (by decide +kernel), List.mem_of_getElem? (i := 958) (by decide +kernel)⟩
theorem lw_p26 : lw_okq (⟨"DrumLayers$Console", "admits", "(LDrumLayers$Job;)Z"⟩, 12) := ⟨⟨by decide +kernel, by decide +kernel⟩, List.mem_of_getElem? (i := 455) (by decide +kernel), List.mem_of_getElem? (i := 962) (by decide +kernel), List.mem_of_getElem? (i := 963) (by decide +kernel)⟩
theorem lw_p27 : lw_okq (⟨"DrumLayers$Console", "cancels", "(LDrumLayers$Job;)Z"⟩, 12) := ⟨⟨by decide +kernel, by decide +kernel⟩, List.mem_of_getElem? (i := 455) (by decide +kernel), List.mem_of_getElem? (i := 971) (by decide +kernel), List.mem_of_getElem? (i := 972) (by decide +kernel)⟩
theorem lw_p28 : lw_okq (⟨"DrumLayers$Console", "replies", "(LDrumLayers$Job;)Z"⟩, 12) := ⟨⟨by decide +kernel, by decide +kernel⟩, List.mem_of_getElem? (i := 455) (by decide +kernel), List.mem_of_getElem? (i := 980) (by decide +kernel), List.mem_of_getElem? (i := 981) (by decide +kernel)⟩
theorem lw_p29 : lw_okq (⟨"DrumLayers$Console", "dropFirst", "()V"⟩, 12) := ⟨⟨by decide +kernel, by decide +kernel⟩, List.mem_of_getElem? (i := 455) (by decide +kernel), List.mem_of_getElem? (i := 985) (by decide +kernel), List.mem_of_getElem? (i := 986) (by decide +kernel)⟩
theorem lw_p30 : lw_okq (⟨"DrumLayers$Store", "moveToDrum", "()V"⟩, 13) := ⟨⟨by decide +kernel, by decide +kernel⟩, List.mem_of_getElem? (i := 245) (by decide +kernel), List.mem_of_getElem? (i := 1001) (by decide +kernel), List.mem_of_getElem? (i := 1002) (by decide +kernel)⟩
theorem lw_p31 : lw_okq (⟨"DrumLayers$Store", "moveToCore", "()V"⟩, 13) := ⟨⟨by decide +kernel, by decide +kernel⟩, List.mem_of_getElem? (i := 245) (by decide +kernel), List.mem_of_getElem? (i := 1014) (by decide +kernel), List.mem_of_getElem? (i := 1015) (by decide +kernel)⟩
def lw_privs_2 : List (MethodName × Nat) := [(⟨"DrumLayers$Machine", "control", "(LDrumLayers$Job;II)V"⟩, 6), (⟨"DrumLayers", "systemStep", "(I)V"⟩, 10), (⟨"DrumLayers$Store", "begin", "(I)V"⟩, 13), (⟨"DrumLayers$Store", "bring", "()V"⟩, 13), (⟨"DrumLayers$Store", "takeFirst", "()V"⟩, 13), (⟨"DrumLayers$Devices", "putOnPaper", "(LDrumLayers$Job;)V"⟩, 15), (⟨"DrumLayers$Devices", "wakePrinted", "(LDrumLayers$Job;)V"⟩, 15), (⟨"DrumLayers$Console", "obeys", "()Z"⟩, 12), (⟨"DrumLayers$Console", "digitAt", "(I)I"⟩, 12), (⟨"DrumLayers$Console", "signAt", "(I)I"⟩, 12), (⟨"DrumLayers$Console", "admits", "(LDrumLayers$Job;)Z"⟩, 12), (⟨"DrumLayers$Console", "cancels", "(LDrumLayers$Job;)Z"⟩, 12), (⟨"DrumLayers$Console", "replies", "(LDrumLayers$Job;)Z"⟩, 12), (⟨"DrumLayers$Console", "dropFirst", "()V"⟩, 12), (⟨"DrumLayers$Store", "moveToDrum", "()V"⟩, 13), (⟨"DrumLayers$Store", "moveToCore", "()V"⟩, 13)]
theorem lw_r2 : ∀ q ∈ lw_privs_2, lw_okq q := List.forall_mem_cons.mpr ⟨lw_p16, List.forall_mem_cons.mpr ⟨lw_p17, List.forall_mem_cons.mpr ⟨lw_p18, List.forall_mem_cons.mpr ⟨lw_p19, List.forall_mem_cons.mpr ⟨lw_p20, List.forall_mem_cons.mpr ⟨lw_p21, List.forall_mem_cons.mpr ⟨lw_p22, List.forall_mem_cons.mpr ⟨lw_p23, List.forall_mem_cons.mpr ⟨lw_p24, List.forall_mem_cons.mpr ⟨lw_p25, List.forall_mem_cons.mpr ⟨lw_p26, List.forall_mem_cons.mpr ⟨lw_p27, List.forall_mem_cons.mpr ⟨lw_p28, List.forall_mem_cons.mpr ⟨lw_p29, List.forall_mem_cons.mpr ⟨lw_p30, List.forall_mem_cons.mpr ⟨lw_p31, fun _ h => absurd h List.not_mem_nil⟩⟩⟩⟩⟩⟩⟩⟩⟩⟩⟩⟩⟩⟩⟩⟩
theorem lw_p32 : lw_okq (⟨"DrumLayers$Console", "acceptLine", "()Z"⟩, 12) := ⟨⟨by decide +kernel, by decide +kernel⟩, List.mem_of_getElem? (i := 455) (by decide +kernel), List.mem_of_getElem? (i := 1039) (by decide +kernel), List.mem_of_getElem? (i := 1040) (by decide +kernel)⟩
theorem lw_p33 : lw_okq (⟨"DrumLayersModel", "oneTick", "()V"⟩, 71) := ⟨⟨by decide +kernel, by decide +kernel⟩, List.mem_of_getElem? (i := 1114) (by decide +kernel), List.mem_of_getElem? (i := 1349) (by decide +kernel), List.mem_of_getElem? (i := 1350) (by decide +kernel)⟩
theorem lw_p34 : lw_okq (⟨"DrumLayersModel", "jobStep", "(I)V"⟩, 71) := ⟨⟨by decide +kernel, by decide +kernel⟩, List.mem_of_getElem? (i := 1114) (by decide +kernel), List.mem_of_getElem? (i := 1353) (by decide +kernel), List.mem_of_getElem? (i := 1354) (by decide +kernel)⟩
theorem lw_p35 : lw_okq (⟨"DrumLayersModel", "endingStep", "(I)V"⟩, 71) := ⟨⟨by decide +kernel, by decide +kernel⟩, List.mem_of_getElem? (i := 1114) (by decide +kernel), List.mem_of_getElem? (i := 1357) (by decide +kernel), List.mem_of_getElem? (i := 1358) (by decide +kernel)⟩
theorem lw_p36 : lw_okq (⟨"DrumLayersModel", "pause", "(II)V"⟩, 71) := ⟨⟨by decide +kernel, by decide +kernel⟩, List.mem_of_getElem? (i := 1114) (by decide +kernel), List.mem_of_getElem? (i := 1361) (by decide +kernel), List.mem_of_getElem? (i := 1362) (by decide +kernel)⟩
theorem lw_p37 : lw_okq (⟨"DrumLayersModel", "say", "(I)V"⟩, 71) := ⟨⟨by decide +kernel, by decide +kernel⟩, List.mem_of_getElem? (i := 1114) (by decide +kernel), List.mem_of_getElem? (i := 1365) (by decide +kernel), List.mem_of_getElem? (i := 1366) (by decide +kernel)⟩
theorem lw_p38 : lw_okq (⟨"DrumLayersModel", "goThroughGets", "()V"⟩, 71) := ⟨⟨by decide +kernel, by decide +kernel⟩, List.mem_of_getElem? (i := 1114) (by decide +kernel), List.mem_of_getElem? (i := 1369) (by decide +kernel), List.mem_of_getElem? (i := 1370) (by decide +kernel)⟩
theorem lw_p39 : lw_okq (⟨"DrumLayersModel", "grants", "(II)Z"⟩, 71) := ⟨⟨by decide +kernel, by decide +kernel⟩, List.mem_of_getElem? (i := 1114) (by decide +kernel), List.mem_of_getElem? (i := 1373) (by decide +kernel), List.mem_of_getElem? (i := 1374) (by decide +kernel)⟩
theorem lw_p40 : lw_okq (⟨"DrumLayersModel", "isSafe", "()Z"⟩, 71) := ⟨⟨by decide +kernel, by decide +kernel⟩, List.mem_of_getElem? (i := 1114) (by decide +kernel), List.mem_of_getElem? (i := 1377) (by decide +kernel), List.mem_of_getElem? (i := 1378) (by decide +kernel)⟩
theorem lw_p41 : lw_okq (⟨"DrumLayersModel", "isNext", "(II)Z"⟩, 71) := ⟨⟨by decide +kernel, by decide +kernel⟩, List.mem_of_getElem? (i := 1114) (by decide +kernel), List.mem_of_getElem? (i := 1381) (by decide +kernel), List.mem_of_getElem? (i := 1382) (by decide +kernel)⟩
theorem lw_p42 : lw_okq (⟨"DrumLayersModel", "claimed", "(II)I"⟩, 71) := ⟨⟨by decide +kernel, by decide +kernel⟩, List.mem_of_getElem? (i := 1114) (by decide +kernel), List.mem_of_getElem? (i := 1385) (by decide +kernel), List.mem_of_getElem? (i := 1386) (by decide +kernel)⟩
theorem lw_p43 : lw_okq (⟨"DrumLayersModel", "leaveGets", "(I)V"⟩, 71) := ⟨⟨by decide +kernel, by decide +kernel⟩, List.mem_of_getElem? (i := 1114) (by decide +kernel), List.mem_of_getElem? (i := 1389) (by decide +kernel), List.mem_of_getElem? (i := 1390) (by decide +kernel)⟩
theorem lw_p44 : lw_okq (⟨"DrumLayersModel", "finish", "(I)V"⟩, 71) := ⟨⟨by decide +kernel, by decide +kernel⟩, List.mem_of_getElem? (i := 1114) (by decide +kernel), List.mem_of_getElem? (i := 1393) (by decide +kernel), List.mem_of_getElem? (i := 1394) (by decide +kernel)⟩
theorem lw_p45 : lw_okq (⟨"DrumLayersModel", "unpin", "(I)V"⟩, 71) := ⟨⟨by decide +kernel, by decide +kernel⟩, List.mem_of_getElem? (i := 1114) (by decide +kernel), List.mem_of_getElem? (i := 1397) (by decide +kernel), List.mem_of_getElem? (i := 1398) (by decide +kernel)⟩
theorem lw_p46 : lw_okq (⟨"DrumLayersModel", "wake", "(I)V"⟩, 71) := ⟨⟨by decide +kernel, by decide +kernel⟩, List.mem_of_getElem? (i := 1114) (by decide +kernel), List.mem_of_getElem? (i := 1401) (by decide +kernel), List.mem_of_getElem? (i := 1402) (by decide +kernel)⟩
theorem lw_p47 : lw_okq (⟨"DrumLayersModel", "instruction", "(I)V"⟩, 71) := ⟨⟨by decide +kernel, by decide +kernel⟩, List.mem_of_getElem? (i := 1114) (by decide +kernel), List.mem_of_getElem? (i := 1405) (by decide +kernel), List.mem_of_getElem? (i := 1406) (by decide +kernel)⟩
def lw_privs_3 : List (MethodName × Nat) := [(⟨"DrumLayers$Console", "acceptLine", "()Z"⟩, 12), (⟨"DrumLayersModel", "oneTick", "()V"⟩, 71), (⟨"DrumLayersModel", "jobStep", "(I)V"⟩, 71), (⟨"DrumLayersModel", "endingStep", "(I)V"⟩, 71), (⟨"DrumLayersModel", "pause", "(II)V"⟩, 71), (⟨"DrumLayersModel", "say", "(I)V"⟩, 71), (⟨"DrumLayersModel", "goThroughGets", "()V"⟩, 71), (⟨"DrumLayersModel", "grants", "(II)Z"⟩, 71), (⟨"DrumLayersModel", "isSafe", "()Z"⟩, 71), (⟨"DrumLayersModel", "isNext", "(II)Z"⟩, 71), (⟨"DrumLayersModel", "claimed", "(II)I"⟩, 71), (⟨"DrumLayersModel", "leaveGets", "(I)V"⟩, 71), (⟨"DrumLayersModel", "finish", "(I)V"⟩, 71), (⟨"DrumLayersModel", "unpin", "(I)V"⟩, 71), (⟨"DrumLayersModel", "wake", "(I)V"⟩, 71), (⟨"DrumLayersModel", "instruction", "(I)V"⟩, 71)]
theorem lw_r3 : ∀ q ∈ lw_privs_3, lw_okq q := List.forall_mem_cons.mpr ⟨lw_p32, List.forall_mem_cons.mpr ⟨lw_p33, List.forall_mem_cons.mpr ⟨lw_p34, List.forall_mem_cons.mpr ⟨lw_p35, List.forall_mem_cons.mpr ⟨lw_p36, List.forall_mem_cons.mpr ⟨lw_p37, List.forall_mem_cons.mpr ⟨lw_p38, List.forall_mem_cons.mpr ⟨lw_p39, List.forall_mem_cons.mpr ⟨lw_p40, List.forall_mem_cons.mpr ⟨lw_p41, List.forall_mem_cons.mpr ⟨lw_p42, List.forall_mem_cons.mpr ⟨lw_p43, List.forall_mem_cons.mpr ⟨lw_p44, List.forall_mem_cons.mpr ⟨lw_p45, List.forall_mem_cons.mpr ⟨lw_p46, List.forall_mem_cons.mpr ⟨lw_p47, fun _ h => absurd h List.not_mem_nil⟩⟩⟩⟩⟩⟩⟩⟩⟩⟩⟩⟩⟩⟩⟩⟩
theorem lw_p48 : lw_okq (⟨"DrumLayersModel", "frameOf", "(II)I"⟩, 71) := ⟨⟨by decide +kernel, by decide +kernel⟩, List.mem_of_getElem? (i := 1114) (by decide +kernel), List.mem_of_getElem? (i := 1409) (by decide +kernel), List.mem_of_getElem? (i := 1410) (by decide +kernel)⟩
theorem lw_p49 : lw_okq (⟨"DrumLayersModel", "want", "(II)V"⟩, 71) := ⟨⟨by decide +kernel, by decide +kernel⟩, List.mem_of_getElem? (i := 1114) (by decide +kernel), List.mem_of_getElem? (i := 1413) (by decide +kernel), List.mem_of_getElem? (i := 1414) (by decide +kernel)⟩
theorem lw_p50 : lw_okq (⟨"DrumLayersModel", "raise", "(I)V"⟩, 71) := ⟨⟨by decide +kernel, by decide +kernel⟩, List.mem_of_getElem? (i := 1114) (by decide +kernel), List.mem_of_getElem? (i := 1417) (by decide +kernel), List.mem_of_getElem? (i := 1418) (by decide +kernel)⟩
theorem lw_p51 : lw_okq (⟨"DrumLayersModel", "withWord", "(IIII)V"⟩, 71) := ⟨⟨by decide +kernel, by decide +kernel⟩, List.mem_of_getElem? (i := 1114) (by decide +kernel), List.mem_of_getElem? (i := 1422) (by decide +kernel), List.mem_of_getElem? (i := 1423) (by decide +kernel)⟩
theorem lw_p52 : lw_okq (⟨"DrumLayersModel", "without", "(III)V"⟩, 71) := ⟨⟨by decide +kernel, by decide +kernel⟩, List.mem_of_getElem? (i := 1114) (by decide +kernel), List.mem_of_getElem? (i := 1426) (by decide +kernel), List.mem_of_getElem? (i := 1427) (by decide +kernel)⟩
theorem lw_p53 : lw_okq (⟨"DrumLayersModel", "read", "(I)V"⟩, 71) := ⟨⟨by decide +kernel, by decide +kernel⟩, List.mem_of_getElem? (i := 1114) (by decide +kernel), List.mem_of_getElem? (i := 1430) (by decide +kernel), List.mem_of_getElem? (i := 1431) (by decide +kernel)⟩
theorem lw_p54 : lw_okq (⟨"DrumLayersModel", "print", "(I)V"⟩, 71) := ⟨⟨by decide +kernel, by decide +kernel⟩, List.mem_of_getElem? (i := 1114) (by decide +kernel), List.mem_of_getElem? (i := 1434) (by decide +kernel), List.mem_of_getElem? (i := 1435) (by decide +kernel)⟩
theorem lw_p55 : lw_okq (⟨"DrumLayersModel", "get", "(II)V"⟩, 71) := ⟨⟨by decide +kernel, by decide +kernel⟩, List.mem_of_getElem? (i := 1114) (by decide +kernel), List.mem_of_getElem? (i := 1438) (by decide +kernel), List.mem_of_getElem? (i := 1439) (by decide +kernel)⟩
theorem lw_p56 : lw_okq (⟨"DrumLayersModel", "give", "(II)V"⟩, 71) := ⟨⟨by decide +kernel, by decide +kernel⟩, List.mem_of_getElem? (i := 1114) (by decide +kernel), List.mem_of_getElem? (i := 1442) (by decide +kernel), List.mem_of_getElem? (i := 1443) (by decide +kernel)⟩
theorem lw_p57 : lw_okq (⟨"DrumLayersModel", "segmentsStep", "()V"⟩, 71) := ⟨⟨by decide +kernel, by decide +kernel⟩, List.mem_of_getElem? (i := 1114) (by decide +kernel), List.mem_of_getElem? (i := 1446) (by decide +kernel), List.mem_of_getElem? (i := 1447) (by decide +kernel)⟩
theorem lw_p58 : lw_okq (⟨"DrumLayersModel", "choose", "()I"⟩, 71) := ⟨⟨by decide +kernel, by decide +kernel⟩, List.mem_of_getElem? (i := 1114) (by decide +kernel), List.mem_of_getElem? (i := 1450) (by decide +kernel), List.mem_of_getElem? (i := 1451) (by decide +kernel)⟩
theorem lw_p59 : lw_okq (⟨"DrumLayersModel", "waitFor", "(III)V"⟩, 71) := ⟨⟨by decide +kernel, by decide +kernel⟩, List.mem_of_getElem? (i := 1114) (by decide +kernel), List.mem_of_getElem? (i := 1454) (by decide +kernel), List.mem_of_getElem? (i := 1455) (by decide +kernel)⟩
theorem lw_p60 : lw_okq (⟨"DrumLayersModel", "readingStep", "()V"⟩, 71) := ⟨⟨by decide +kernel, by decide +kernel⟩, List.mem_of_getElem? (i := 1114) (by decide +kernel), List.mem_of_getElem? (i := 1458) (by decide +kernel), List.mem_of_getElem? (i := 1459) (by decide +kernel)⟩
theorem lw_p61 : lw_okq (⟨"DrumLayersModel", "printingStep", "()V"⟩, 71) := ⟨⟨by decide +kernel, by decide +kernel⟩, List.mem_of_getElem? (i := 1114) (by decide +kernel), List.mem_of_getElem? (i := 1462) (by decide +kernel), List.mem_of_getElem? (i := 1463) (by decide +kernel)⟩
theorem lw_p62 : lw_okq (⟨"DrumLayersModel", "consoleStep", "()V"⟩, 71) := ⟨⟨by decide +kernel, by decide +kernel⟩, List.mem_of_getElem? (i := 1114) (by decide +kernel), List.mem_of_getElem? (i := 1466) (by decide +kernel), List.mem_of_getElem? (i := 1467) (by decide +kernel)⟩
theorem lw_p63 : lw_okq (⟨"DrumLayersModel", "obeys", "()Z"⟩, 71) := ⟨⟨by decide +kernel, by decide +kernel⟩, List.mem_of_getElem? (i := 1114) (by decide +kernel), List.mem_of_getElem? (i := 1470) (by decide +kernel), List.mem_of_getElem? (i := 1471) (by decide +kernel)⟩
def lw_privs_4 : List (MethodName × Nat) := [(⟨"DrumLayersModel", "frameOf", "(II)I"⟩, 71), (⟨"DrumLayersModel", "want", "(II)V"⟩, 71), (⟨"DrumLayersModel", "raise", "(I)V"⟩, 71), (⟨"DrumLayersModel", "withWord", "(IIII)V"⟩, 71), (⟨"DrumLayersModel", "without", "(III)V"⟩, 71), (⟨"DrumLayersModel", "read", "(I)V"⟩, 71), (⟨"DrumLayersModel", "print", "(I)V"⟩, 71), (⟨"DrumLayersModel", "get", "(II)V"⟩, 71), (⟨"DrumLayersModel", "give", "(II)V"⟩, 71), (⟨"DrumLayersModel", "segmentsStep", "()V"⟩, 71), (⟨"DrumLayersModel", "choose", "()I"⟩, 71), (⟨"DrumLayersModel", "waitFor", "(III)V"⟩, 71), (⟨"DrumLayersModel", "readingStep", "()V"⟩, 71), (⟨"DrumLayersModel", "printingStep", "()V"⟩, 71), (⟨"DrumLayersModel", "consoleStep", "()V"⟩, 71), (⟨"DrumLayersModel", "obeys", "()Z"⟩, 71)]
theorem lw_r4 : ∀ q ∈ lw_privs_4, lw_okq q := List.forall_mem_cons.mpr ⟨lw_p48, List.forall_mem_cons.mpr ⟨lw_p49, List.forall_mem_cons.mpr ⟨lw_p50, List.forall_mem_cons.mpr ⟨lw_p51, List.forall_mem_cons.mpr ⟨lw_p52, List.forall_mem_cons.mpr ⟨lw_p53, List.forall_mem_cons.mpr ⟨lw_p54, List.forall_mem_cons.mpr ⟨lw_p55, List.forall_mem_cons.mpr ⟨lw_p56, List.forall_mem_cons.mpr ⟨lw_p57, List.forall_mem_cons.mpr ⟨lw_p58, List.forall_mem_cons.mpr ⟨lw_p59, List.forall_mem_cons.mpr ⟨lw_p60, List.forall_mem_cons.mpr ⟨lw_p61, List.forall_mem_cons.mpr ⟨lw_p62, List.forall_mem_cons.mpr ⟨lw_p63, fun _ h => absurd h List.not_mem_nil⟩⟩⟩⟩⟩⟩⟩⟩⟩⟩⟩⟩⟩⟩⟩⟩
theorem lw_p64 : lw_okq (⟨"DrumLayersModel", "admits", "(I)Z"⟩, 71) := ⟨⟨by decide +kernel, by decide +kernel⟩, List.mem_of_getElem? (i := 1114) (by decide +kernel), List.mem_of_getElem? (i := 1474) (by decide +kernel), List.mem_of_getElem? (i := 1475) (by decide +kernel)⟩
theorem lw_p65 : lw_okq (⟨"DrumLayersModel", "admitted", "()I"⟩, 71) := ⟨⟨by decide +kernel, by decide +kernel⟩, List.mem_of_getElem? (i := 1114) (by decide +kernel), List.mem_of_getElem? (i := 1478) (by decide +kernel), List.mem_of_getElem? (i := 1479) (by decide +kernel)⟩
theorem lw_p66 : lw_okq (⟨"DrumLayersModel", "cancels", "(I)Z"⟩, 71) := ⟨⟨by decide +kernel, by decide +kernel⟩, List.mem_of_getElem? (i := 1114) (by decide +kernel), List.mem_of_getElem? (i := 1482) (by decide +kernel), List.mem_of_getElem? (i := 1483) (by decide +kernel)⟩
theorem lw_p67 : lw_okq (⟨"DrumLayersModel", "replies", "(II)Z"⟩, 71) := ⟨⟨by decide +kernel, by decide +kernel⟩, List.mem_of_getElem? (i := 1114) (by decide +kernel), List.mem_of_getElem? (i := 1486) (by decide +kernel), List.mem_of_getElem? (i := 1487) (by decide +kernel)⟩
theorem lw_p68 : lw_okq (⟨"DrumLayersModel", "drumIsDone", "()V"⟩, 71) := ⟨⟨by decide +kernel, by decide +kernel⟩, List.mem_of_getElem? (i := 1114) (by decide +kernel), List.mem_of_getElem? (i := 1497) (by decide +kernel), List.mem_of_getElem? (i := 1498) (by decide +kernel)⟩
theorem lw_p69 : lw_okq (⟨"DrumLayersModel", "isWritten", "(I)Z"⟩, 71) := ⟨⟨by decide +kernel, by decide +kernel⟩, List.mem_of_getElem? (i := 1114) (by decide +kernel), List.mem_of_getElem? (i := 1501) (by decide +kernel), List.mem_of_getElem? (i := 1502) (by decide +kernel)⟩
def lw_privs_5 : List (MethodName × Nat) := [(⟨"DrumLayersModel", "admits", "(I)Z"⟩, 71), (⟨"DrumLayersModel", "admitted", "()I"⟩, 71), (⟨"DrumLayersModel", "cancels", "(I)Z"⟩, 71), (⟨"DrumLayersModel", "replies", "(II)Z"⟩, 71), (⟨"DrumLayersModel", "drumIsDone", "()V"⟩, 71), (⟨"DrumLayersModel", "isWritten", "(I)Z"⟩, 71)]
theorem lw_r5 : ∀ q ∈ lw_privs_5, lw_okq q := List.forall_mem_cons.mpr ⟨lw_p64, List.forall_mem_cons.mpr ⟨lw_p65, List.forall_mem_cons.mpr ⟨lw_p66, List.forall_mem_cons.mpr ⟨lw_p67, List.forall_mem_cons.mpr ⟨lw_p68, List.forall_mem_cons.mpr ⟨lw_p69, fun _ h => absurd h List.not_mem_nil⟩⟩⟩⟩⟩⟩
def lw_privs : List (MethodName × Nat) := lw_privs_1 ++ (lw_privs_2 ++ (lw_privs_3 ++ (lw_privs_4 ++ (lw_privs_5))))
def lw_tbl : List Cond := k2_sels lw_privs ++ tables_1
theorem lw_privs_ok : ∀ q ∈ lw_privs, lw_okq q := by
  show ∀ q ∈ lw_privs_1 ++ (lw_privs_2 ++ (lw_privs_3 ++ (lw_privs_4 ++ (lw_privs_5)))), lw_okq q
  exact List.forall_mem_append.mpr ⟨lw_r1, List.forall_mem_append.mpr ⟨lw_r2, List.forall_mem_append.mpr ⟨lw_r3, List.forall_mem_append.mpr ⟨lw_r4, lw_r5⟩⟩⟩⟩
def RX0 : String := "DrumLayers$Bank"
def TX0 : u_T := fun k => match k with
  | 0 => ("DrumLayers$Bank", "processor", "LDrumLayers$Processor;", true)
  | 1 => ("DrumLayers$Bank", "core", "LDrumLayers$Core;", true)
  | 2 => ("DrumLayers$Bank", "jobs", "[LDrumLayers$Job;", true)
  | 3 => ("DrumLayers$Bank", "pages", "I", true)
  | 4 => ("DrumLayers$Bank", "free", "[I", true)
  | 5 => ("DrumLayers$Bank", "gets", "Ljava/util/ArrayList;", true)
  | 6 => ("DrumLayers$Bank", "room", "[I", true)
  | _ => ("DrumLayers$Bank", "settled", "[Z", true)
def tyX0 : Nat → FieldType := fun k => match k with
  | 0 => .object "DrumLayers$Processor"
  | 1 => .object "DrumLayers$Core"
  | 2 => .array (.object "DrumLayers$Job")
  | 3 => .int
  | 4 => .array .int
  | 5 => .object "java/util/ArrayList"
  | 6 => .array .int
  | _ => .array .boolean
abbrev wsX00 : List Cond := u_ws RX0 TX0 8
theorem nmX0 : ∀ a, a < 8 → ∀ b, b < 8 → a ≠ b → (TX0 a).2.1 ≠ (TX0 b).2.1 := by decide +kernel
theorem tyX0_ok : ∀ k, k < 8 → parseFieldDescriptor (TX0 k).2.2.1 = some (tyX0 k) := by decide +kernel
abbrev cX0_init : ByteArray := prog_2_method_1_code
def yX0_init : MethodName := ⟨RX0, "<init>", "(LDrumLayers$Processor;LDrumLayers$Core;[LDrumLayers$Job;I)V"⟩
abbrev cX0_freeOf : ByteArray := prog_2_method_2_code
def yX0_freeOf : MethodName := ⟨RX0, "freeOf", "(I)I"⟩
abbrev cX0_admitted : ByteArray := prog_2_method_3_code
def yX0_admitted : MethodName := ⟨RX0, "admitted", "()I"⟩
abbrev cX0_holderOfPrinter : ByteArray := prog_2_method_4_code
def yX0_holderOfPrinter : MethodName := ⟨RX0, "holderOfPrinter", "()LDrumLayers$Job;"⟩
abbrev cX0_get : ByteArray := prog_2_method_5_code
def yX0_get : MethodName := ⟨RX0, "get", "(LDrumLayers$Job;I)V"⟩
abbrev cX0_takesBack : ByteArray := prog_2_method_6_code
def yX0_takesBack : MethodName := ⟨RX0, "takesBack", "(LDrumLayers$Job;I)Z"⟩
abbrev cX0_giveAllBack : ByteArray := prog_2_method_7_code
def yX0_giveAllBack : MethodName := ⟨RX0, "giveAllBack", "(LDrumLayers$Job;)V"⟩
abbrev cX0_grantWaiting : ByteArray := prog_2_method_8_code
def yX0_grantWaiting : MethodName := ⟨RX0, "grantWaiting", "()V"⟩
abbrev cX0_leaveRow : ByteArray := prog_2_method_9_code
def yX0_leaveRow : MethodName := ⟨RX0, "leaveRow", "(LDrumLayers$Job;)V"⟩
abbrev cX0_grants : ByteArray := prog_2_method_10_code
def yX0_grants : MethodName := ⟨RX0, "grants", "(LDrumLayers$Job;I)Z"⟩
abbrev cX0_move : ByteArray := prog_2_method_11_code
def yX0_move : MethodName := ⟨RX0, "move", "(LDrumLayers$Job;II)V"⟩
abbrev cX0_allCanEnd : ByteArray := prog_2_method_12_code
def yX0_allCanEnd : MethodName := ⟨RX0, "allCanEnd", "()Z"⟩
abbrev cX0_hasRoomFor : ByteArray := prog_2_method_13_code
def yX0_hasRoomFor : MethodName := ⟨RX0, "hasRoomFor", "(LDrumLayers$Job;)Z"⟩
abbrev cX0_addToRoom : ByteArray := prog_2_method_14_code
def yX0_addToRoom : MethodName := ⟨RX0, "addToRoom", "(LDrumLayers$Job;)V"⟩
def RX1 : String := "DrumLayers$Console"
def TX1 : u_T := fun k => match k with
  | 0 => ("DrumLayers$Console", "processor", "LDrumLayers$Processor;", true)
  | 1 => ("DrumLayers$Console", "core", "LDrumLayers$Core;", true)
  | 2 => ("DrumLayers$Console", "bank", "LDrumLayers$Bank;", true)
  | 3 => ("DrumLayers$Console", "jobs", "[LDrumLayers$Job;", true)
  | 4 => ("DrumLayers$Console", "lines", "LDrumLayers$Signal;", true)
  | 5 => ("DrumLayers$Console", "kept", "[B", true)
  | 6 => ("DrumLayers$Console", "said", "I", false)
  | 7 => ("DrumLayers$Console", "typed", "[B", true)
  | 8 => ("DrumLayers$Console", "typedLength", "I", false)
  | 9 => ("DrumLayers$Console", "texts", "[[B", true)
  | 10 => ("DrumLayers$Console", "lengths", "[I", true)
  | _ => ("DrumLayers$Console", "waiting", "I", false)
def tyX1 : Nat → FieldType := fun k => match k with
  | 0 => .object "DrumLayers$Processor"
  | 1 => .object "DrumLayers$Core"
  | 2 => .object "DrumLayers$Bank"
  | 3 => .array (.object "DrumLayers$Job")
  | 4 => .object "DrumLayers$Signal"
  | 5 => .array .byte
  | 6 => .int
  | 7 => .array .byte
  | 8 => .int
  | 9 => .array (.array .byte)
  | 10 => .array .int
  | _ => .int
abbrev wsX10 : List Cond := u_ws RX1 TX1 12
theorem nmX1 : ∀ a, a < 12 → ∀ b, b < 12 → a ≠ b → (TX1 a).2.1 ≠ (TX1 b).2.1 := by decide +kernel
theorem tyX1_ok : ∀ k, k < 12 → parseFieldDescriptor (TX1 k).2.2.1 = some (tyX1 k) := by decide +kernel
abbrev cX1_init : ByteArray := prog_3_method_1_code
def yX1_init : MethodName := ⟨RX1, "<init>", "(LDrumLayers$Processor;LDrumLayers$Core;LDrumLayers$Bank;[LDrumLayers$Job;)V"⟩
abbrev cX1_accept : ByteArray := prog_3_method_2_code
def yX1_accept : MethodName := ⟨RX1, "accept", "(I)Z"⟩
abbrev cX1_acceptLine : ByteArray := prog_3_method_3_code
def yX1_acceptLine : MethodName := ⟨RX1, "acceptLine", "()Z"⟩
abbrev cX1_step : ByteArray := prog_3_method_4_code
def yX1_step : MethodName := ⟨RX1, "step", "()V"⟩
abbrev cX1_dropFirst : ByteArray := prog_3_method_5_code
def yX1_dropFirst : MethodName := ⟨RX1, "dropFirst", "()V"⟩
abbrev cX1_obeys : ByteArray := prog_3_method_6_code
def yX1_obeys : MethodName := ⟨RX1, "obeys", "()Z"⟩
abbrev cX1_admits : ByteArray := prog_3_method_7_code
def yX1_admits : MethodName := ⟨RX1, "admits", "(LDrumLayers$Job;)Z"⟩
abbrev cX1_cancels : ByteArray := prog_3_method_8_code
def yX1_cancels : MethodName := ⟨RX1, "cancels", "(LDrumLayers$Job;)Z"⟩
abbrev cX1_replies : ByteArray := prog_3_method_9_code
def yX1_replies : MethodName := ⟨RX1, "replies", "(LDrumLayers$Job;)Z"⟩
abbrev cX1_signAt : ByteArray := prog_3_method_10_code
def yX1_signAt : MethodName := ⟨RX1, "signAt", "(I)I"⟩
abbrev cX1_digitAt : ByteArray := prog_3_method_11_code
def yX1_digitAt : MethodName := ⟨RX1, "digitAt", "(I)I"⟩
abbrev cX1_ask : ByteArray := prog_3_method_12_code
def yX1_ask : MethodName := ⟨RX1, "ask", "(LDrumLayers$Job;)V"⟩
abbrev cX1_sayOver : ByteArray := prog_3_method_13_code
def yX1_sayOver : MethodName := ⟨RX1, "sayOver", "(LDrumLayers$Job;)V"⟩
abbrev cX1_say : ByteArray := prog_3_method_14_code
def yX1_say : MethodName := ⟨RX1, "say", "(I)V"⟩
abbrev cX1_byteSaid : ByteArray := prog_3_method_15_code
def yX1_byteSaid : MethodName := ⟨RX1, "byteSaid", "(I)I"⟩
def RX2 : String := "DrumLayers$Core"
def TX2 : u_T := fun k => match k with
  | _ => ("DrumLayers$Core", "frames", "[LDrumLayers$Frame;", true)
def tyX2 : Nat → FieldType := fun k => match k with
  | _ => .array (.object "DrumLayers$Frame")
abbrev wsX20 : List Cond := u_ws RX2 TX2 1
theorem nmX2 : ∀ a, a < 1 → ∀ b, b < 1 → a ≠ b → (TX2 a).2.1 ≠ (TX2 b).2.1 := by decide +kernel
theorem tyX2_ok : ∀ k, k < 1 → parseFieldDescriptor (TX2 k).2.2.1 = some (tyX2 k) := by decide +kernel
abbrev cX2_init : ByteArray := prog_4_method_1_code
def yX2_init : MethodName := ⟨RX2, "<init>", "(I)V"⟩
abbrev cX2_find : ByteArray := prog_4_method_2_code
def yX2_find : MethodName := ⟨RX2, "find", "(LDrumLayers$Job;I)LDrumLayers$Frame;"⟩
abbrev cX2_choose : ByteArray := prog_4_method_3_code
def yX2_choose : MethodName := ⟨RX2, "choose", "()LDrumLayers$Frame;"⟩
abbrev cX2_complete : ByteArray := prog_4_method_4_code
def yX2_complete : MethodName := ⟨RX2, "complete", "(LDrumLayers$Job;I)V"⟩
abbrev cX2_vacateAll : ByteArray := prog_4_method_5_code
def yX2_vacateAll : MethodName := ⟨RX2, "vacateAll", "(LDrumLayers$Job;)V"⟩
abbrev cX2_tell : ByteArray := prog_4_method_6_code
def yX2_tell : MethodName := ⟨RX2, "tell", "(II)I"⟩
def RX3 : String := "DrumLayers$Devices"
def TX3 : u_T := fun k => match k with
  | 0 => ("DrumLayers$Devices", "processor", "LDrumLayers$Processor;", true)
  | 1 => ("DrumLayers$Devices", "core", "LDrumLayers$Core;", true)
  | 2 => ("DrumLayers$Devices", "bank", "LDrumLayers$Bank;", true)
  | 3 => ("DrumLayers$Devices", "cardRow", "Ljava/util/ArrayList;", true)
  | 4 => ("DrumLayers$Devices", "cards", "LDrumLayers$Signal;", true)
  | 5 => ("DrumLayers$Devices", "readerDone", "LDrumLayers$Signal;", true)
  | 6 => ("DrumLayers$Devices", "prints", "LDrumLayers$Signal;", true)
  | 7 => ("DrumLayers$Devices", "printerDone", "LDrumLayers$Signal;", true)
  | 8 => ("DrumLayers$Devices", "readerWorks", "Z", false)
  | 9 => ("DrumLayers$Devices", "printerWorks", "Z", false)
  | 10 => ("DrumLayers$Devices", "reads", "LDrumLayers$Job;", false)
  | 11 => ("DrumLayers$Devices", "printsFor", "LDrumLayers$Job;", false)
  | 12 => ("DrumLayers$Devices", "paperLines", "[I", true)
  | 13 => ("DrumLayers$Devices", "paperSerials", "[I", true)
  | _ => ("DrumLayers$Devices", "paperCount", "I", false)
def tyX3 : Nat → FieldType := fun k => match k with
  | 0 => .object "DrumLayers$Processor"
  | 1 => .object "DrumLayers$Core"
  | 2 => .object "DrumLayers$Bank"
  | 3 => .object "java/util/ArrayList"
  | 4 => .object "DrumLayers$Signal"
  | 5 => .object "DrumLayers$Signal"
  | 6 => .object "DrumLayers$Signal"
  | 7 => .object "DrumLayers$Signal"
  | 8 => .boolean
  | 9 => .boolean
  | 10 => .object "DrumLayers$Job"
  | 11 => .object "DrumLayers$Job"
  | 12 => .array .int
  | 13 => .array .int
  | _ => .int
abbrev wsX30 : List Cond := u_ws RX3 TX3 15
theorem nmX3 : ∀ a, a < 15 → ∀ b, b < 15 → a ≠ b → (TX3 a).2.1 ≠ (TX3 b).2.1 := by decide +kernel
theorem tyX3_ok : ∀ k, k < 15 → parseFieldDescriptor (TX3 k).2.2.1 = some (tyX3 k) := by decide +kernel
abbrev cX3_init : ByteArray := prog_5_method_1_code
def yX3_init : MethodName := ⟨RX3, "<init>", "(LDrumLayers$Processor;LDrumLayers$Core;LDrumLayers$Bank;)V"⟩
abbrev cX3_read : ByteArray := prog_5_method_2_code
def yX3_read : MethodName := ⟨RX3, "read", "(LDrumLayers$Job;)V"⟩
abbrev cX3_readingStep : ByteArray := prog_5_method_3_code
def yX3_readingStep : MethodName := ⟨RX3, "readingStep", "()V"⟩
abbrev cX3_readerIsDone : ByteArray := prog_5_method_4_code
def yX3_readerIsDone : MethodName := ⟨RX3, "readerIsDone", "()Z"⟩
abbrev cX3_print : ByteArray := prog_5_method_5_code
def yX3_print : MethodName := ⟨RX3, "print", "(LDrumLayers$Job;)V"⟩
abbrev cX3_printingStep : ByteArray := prog_5_method_6_code
def yX3_printingStep : MethodName := ⟨RX3, "printingStep", "()V"⟩
abbrev cX3_putOnPaper : ByteArray := prog_5_method_7_code
def yX3_putOnPaper : MethodName := ⟨RX3, "putOnPaper", "(LDrumLayers$Job;)V"⟩
abbrev cX3_wakePrinted : ByteArray := prog_5_method_8_code
def yX3_wakePrinted : MethodName := ⟨RX3, "wakePrinted", "(LDrumLayers$Job;)V"⟩
abbrev cX3_printerIsDone : ByteArray := prog_5_method_9_code
def yX3_printerIsDone : MethodName := ⟨RX3, "printerIsDone", "()Z"⟩
abbrev cX3_lineOnPaper : ByteArray := prog_5_method_10_code
def yX3_lineOnPaper : MethodName := ⟨RX3, "lineOnPaper", "(LDrumLayers$Job;I)I"⟩
def RX4 : String := "DrumLayers$Frame"
def TX4 : u_T := fun k => match k with
  | 0 => ("DrumLayers$Frame", "words", "[I", true)
  | 1 => ("DrumLayers$Frame", "owner", "LDrumLayers$Job;", false)
  | 2 => ("DrumLayers$Frame", "segment", "I", false)
  | 3 => ("DrumLayers$Frame", "busy", "Z", false)
  | 4 => ("DrumLayers$Frame", "changed", "Z", false)
  | 5 => ("DrumLayers$Frame", "pinned", "Z", false)
  | _ => ("DrumLayers$Frame", "used", "I", false)
def tyX4 : Nat → FieldType := fun k => match k with
  | 0 => .array .int
  | 1 => .object "DrumLayers$Job"
  | 2 => .int
  | 3 => .boolean
  | 4 => .boolean
  | 5 => .boolean
  | _ => .int
abbrev wsX40 : List Cond := u_ws RX4 TX4 7
theorem nmX4 : ∀ a, a < 7 → ∀ b, b < 7 → a ≠ b → (TX4 a).2.1 ≠ (TX4 b).2.1 := by decide +kernel
theorem tyX4_ok : ∀ k, k < 7 → parseFieldDescriptor (TX4 k).2.2.1 = some (tyX4 k) := by decide +kernel
abbrev cX4_init : ByteArray := prog_6_method_1_code
def yX4_init : MethodName := ⟨RX4, "<init>", "()V"⟩
abbrev cX4_isFree : ByteArray := prog_6_method_2_code
def yX4_isFree : MethodName := ⟨RX4, "isFree", "()Z"⟩
abbrev cX4_isOf : ByteArray := prog_6_method_3_code
def yX4_isOf : MethodName := ⟨RX4, "isOf", "(LDrumLayers$Job;)Z"⟩
abbrev cX4_read : ByteArray := prog_6_method_4_code
def yX4_read : MethodName := ⟨RX4, "read", "(I)I"⟩
abbrev cX4_write : ByteArray := prog_6_method_5_code
def yX4_write : MethodName := ⟨RX4, "write", "(II)V"⟩
abbrev cX4_vacate : ByteArray := prog_6_method_6_code
def yX4_vacate : MethodName := ⟨RX4, "vacate", "()V"⟩
abbrev cX4_occupy : ByteArray := prog_6_method_7_code
def yX4_occupy : MethodName := ⟨RX4, "occupy", "(LDrumLayers$Job;II)V"⟩
abbrev cX4_tell : ByteArray := prog_6_method_8_code
def yX4_tell : MethodName := ⟨RX4, "tell", "(I)I"⟩
def RX5 : String := "DrumLayers$Job"
def TX5 : u_T := fun k => match k with
  | 0 => ("DrumLayers$Job", "number", "I", true)
  | 1 => ("DrumLayers$Job", "drumWords", "[I", true)
  | 2 => ("DrumLayers$Job", "cards", "[I", true)
  | 3 => ("DrumLayers$Job", "lines", "LDrumLayers$Row;", true)
  | 4 => ("DrumLayers$Job", "claims", "[I", true)
  | 5 => ("DrumLayers$Job", "holds", "[I", true)
  | 6 => ("DrumLayers$Job", "serial", "I", false)
  | 7 => ("DrumLayers$Job", "state", "I", false)
  | 8 => ("DrumLayers$Job", "endsWith", "I", false)
  | 9 => ("DrumLayers$Job", "segments", "I", false)
  | 10 => ("DrumLayers$Job", "limit", "I", false)
  | 11 => ("DrumLayers$Job", "steps", "I", false)
  | 12 => ("DrumLayers$Job", "place", "I", false)
  | 13 => ("DrumLayers$Job", "a", "I", false)
  | 14 => ("DrumLayers$Job", "x", "I", false)
  | 15 => ("DrumLayers$Job", "cardCount", "I", false)
  | 16 => ("DrumLayers$Job", "cardsRead", "I", false)
  | 17 => ("DrumLayers$Job", "onPaper", "I", false)
  | 18 => ("DrumLayers$Job", "cancelled", "Z", false)
  | _ => ("DrumLayers$Job", "wanted", "I", false)
def tyX5 : Nat → FieldType := fun k => match k with
  | 0 => .int
  | 1 => .array .int
  | 2 => .array .int
  | 3 => .object "DrumLayers$Row"
  | 4 => .array .int
  | 5 => .array .int
  | 6 => .int
  | 7 => .int
  | 8 => .int
  | 9 => .int
  | 10 => .int
  | 11 => .int
  | 12 => .int
  | 13 => .int
  | 14 => .int
  | 15 => .int
  | 16 => .int
  | 17 => .int
  | 18 => .boolean
  | _ => .int
abbrev wsX50 : List Cond := u_ws RX5 TX5 20
theorem nmX5 : ∀ a, a < 20 → ∀ b, b < 20 → a ≠ b → (TX5 a).2.1 ≠ (TX5 b).2.1 := by decide +kernel
theorem tyX5_ok : ∀ k, k < 20 → parseFieldDescriptor (TX5 k).2.2.1 = some (tyX5 k) := by decide +kernel
abbrev cX5_init : ByteArray := prog_7_method_1_code
def yX5_init : MethodName := ⟨RX5, "<init>", "(I)V"⟩
abbrev cX5_renew : ByteArray := prog_7_method_2_code
def yX5_renew : MethodName := ⟨RX5, "renew", "(I)V"⟩
abbrev cX5_claim : ByteArray := prog_7_method_3_code
def yX5_claim : MethodName := ⟨RX5, "claim", "(I)V"⟩
abbrev cX5_load : ByteArray := prog_7_method_4_code
def yX5_load : MethodName := ⟨RX5, "load", "(LDrumLayers$Row;II)V"⟩
abbrev cX5_has : ByteArray := prog_7_method_5_code
def yX5_has : MethodName := ⟨RX5, "has", "(I)Z"⟩
abbrev cX5_isAsOf : ByteArray := prog_7_method_6_code
def yX5_isAsOf : MethodName := ⟨RX5, "isAsOf", "(I)Z"⟩
abbrev cX5_onDrum : ByteArray := prog_7_method_7_code
def yX5_onDrum : MethodName := ⟨RX5, "onDrum", "(I)I"⟩
abbrev cX5_putOnDrum : ByteArray := prog_7_method_8_code
def yX5_putOnDrum : MethodName := ⟨RX5, "putOnDrum", "(II)V"⟩
abbrev cX5_held : ByteArray := prog_7_method_9_code
def yX5_held : MethodName := ⟨RX5, "held", "(I)I"⟩
abbrev cX5_claimed : ByteArray := prog_7_method_10_code
def yX5_claimed : MethodName := ⟨RX5, "claimed", "(I)I"⟩
abbrev cX5_hasCard : ByteArray := prog_7_method_11_code
def yX5_hasCard : MethodName := ⟨RX5, "hasCard", "()Z"⟩
abbrev cX5_takeCard : ByteArray := prog_7_method_12_code
def yX5_takeCard : MethodName := ⟨RX5, "takeCard", "()I"⟩
abbrev cX5_tell : ByteArray := prog_7_method_13_code
def yX5_tell : MethodName := ⟨RX5, "tell", "(I)I"⟩
def RX6 : String := "DrumLayers$Machine"
def TX6 : u_T := fun k => match k with
  | 0 => ("DrumLayers$Machine", "processor", "LDrumLayers$Processor;", true)
  | 1 => ("DrumLayers$Machine", "core", "LDrumLayers$Core;", true)
  | 2 => ("DrumLayers$Machine", "store", "LDrumLayers$Store;", true)
  | 3 => ("DrumLayers$Machine", "bank", "LDrumLayers$Bank;", true)
  | 4 => ("DrumLayers$Machine", "devices", "LDrumLayers$Devices;", true)
  | _ => ("DrumLayers$Machine", "console", "LDrumLayers$Console;", true)
def tyX6 : Nat → FieldType := fun k => match k with
  | 0 => .object "DrumLayers$Processor"
  | 1 => .object "DrumLayers$Core"
  | 2 => .object "DrumLayers$Store"
  | 3 => .object "DrumLayers$Bank"
  | 4 => .object "DrumLayers$Devices"
  | _ => .object "DrumLayers$Console"
abbrev wsX60 : List Cond := u_ws RX6 TX6 6
theorem nmX6 : ∀ a, a < 6 → ∀ b, b < 6 → a ≠ b → (TX6 a).2.1 ≠ (TX6 b).2.1 := by decide +kernel
theorem tyX6_ok : ∀ k, k < 6 → parseFieldDescriptor (TX6 k).2.2.1 = some (tyX6 k) := by decide +kernel
abbrev cX6_init : ByteArray := prog_8_method_1_code
def yX6_init : MethodName := ⟨RX6, "<init>", "(LDrumLayers$Processor;LDrumLayers$Core;LDrumLayers$Store;LDrumLayers$Bank;LDrumLayers$Devices;LDrumLayers$Console;)V"⟩
abbrev cX6_step : ByteArray := prog_8_method_2_code
def yX6_step : MethodName := ⟨RX6, "step", "(LDrumLayers$Job;)V"⟩
abbrev cX6_end : ByteArray := prog_8_method_3_code
def yX6_end : MethodName := ⟨RX6, "end", "(LDrumLayers$Job;)V"⟩
abbrev cX6_attempt : ByteArray := prog_8_method_4_code
def yX6_attempt : MethodName := ⟨RX6, "attempt", "(LDrumLayers$Job;)V"⟩
abbrev cX6_hasOperand : ByteArray := prog_8_method_5_code
def yX6_hasOperand : MethodName := ⟨RX6, "hasOperand", "(I)Z"⟩
abbrev cX6_attemptOperand : ByteArray := prog_8_method_6_code
def yX6_attemptOperand : MethodName := ⟨RX6, "attemptOperand", "(LDrumLayers$Job;LDrumLayers$Frame;II)V"⟩
abbrev cX6_compute : ByteArray := prog_8_method_7_code
def yX6_compute : MethodName := ⟨RX6, "compute", "(LDrumLayers$Job;II)V"⟩
abbrev cX6_control : ByteArray := prog_8_method_8_code
def yX6_control : MethodName := ⟨RX6, "control", "(LDrumLayers$Job;II)V"⟩
def RX7 : String := "DrumLayers$Processor"
def TX7 : u_T := fun k => match k with
  | 0 => ("DrumLayers$Processor", "ready", "LDrumLayers$Row;", true)
  | 1 => ("DrumLayers$Processor", "causes", "[I", true)
  | 2 => ("DrumLayers$Processor", "quantum", "I", true)
  | 3 => ("DrumLayers$Processor", "ticks", "I", false)
  | _ => ("DrumLayers$Processor", "stepsInTurn", "I", false)
def tyX7 : Nat → FieldType := fun k => match k with
  | 0 => .object "DrumLayers$Row"
  | 1 => .array .int
  | 2 => .int
  | 3 => .int
  | _ => .int
abbrev wsX70 : List Cond := u_ws RX7 TX7 5
theorem nmX7 : ∀ a, a < 5 → ∀ b, b < 5 → a ≠ b → (TX7 a).2.1 ≠ (TX7 b).2.1 := by decide +kernel
theorem tyX7_ok : ∀ k, k < 5 → parseFieldDescriptor (TX7 k).2.2.1 = some (tyX7 k) := by decide +kernel
abbrev cX7_init : ByteArray := prog_9_method_1_code
def yX7_init : MethodName := ⟨RX7, "<init>", "(I)V"⟩
abbrev cX7_begin : ByteArray := prog_9_method_2_code
def yX7_begin : MethodName := ⟨RX7, "begin", "()I"⟩
abbrev cX7_end : ByteArray := prog_9_method_3_code
def yX7_end : MethodName := ⟨RX7, "end", "(I)V"⟩
abbrev cX7_leave : ByteArray := prog_9_method_4_code
def yX7_leave : MethodName := ⟨RX7, "leave", "(I)V"⟩
abbrev cX7_suspend : ByteArray := prog_9_method_5_code
def yX7_suspend : MethodName := ⟨RX7, "suspend", "(II)V"⟩
abbrev cX7_wake : ByteArray := prog_9_method_6_code
def yX7_wake : MethodName := ⟨RX7, "wake", "(I)V"⟩
abbrev cX7_causeOf : ByteArray := prog_9_method_7_code
def yX7_causeOf : MethodName := ⟨RX7, "causeOf", "(I)I"⟩
def RX8 : String := "DrumLayers$Row"
def TX8 : u_T := fun k => match k with
  | 0 => ("DrumLayers$Row", "values", "[I", true)
  | _ => ("DrumLayers$Row", "size", "I", false)
def tyX8 : Nat → FieldType := fun k => match k with
  | 0 => .array .int
  | _ => .int
abbrev wsX80 : List Cond := u_ws RX8 TX8 2
theorem nmX8 : ∀ a, a < 2 → ∀ b, b < 2 → a ≠ b → (TX8 a).2.1 ≠ (TX8 b).2.1 := by decide +kernel
theorem tyX8_ok : ∀ k, k < 2 → parseFieldDescriptor (TX8 k).2.2.1 = some (tyX8 k) := by decide +kernel
abbrev cX8_init : ByteArray := prog_10_method_1_code
def yX8_init : MethodName := ⟨RX8, "<init>", "(I)V"⟩
abbrev cX8_size : ByteArray := prog_10_method_2_code
def yX8_size : MethodName := ⟨RX8, "size", "()I"⟩
abbrev cX8_at : ByteArray := prog_10_method_3_code
def yX8_at : MethodName := ⟨RX8, "at", "(I)I"⟩
abbrev cX8_append : ByteArray := prog_10_method_4_code
def yX8_append : MethodName := ⟨RX8, "append", "(I)V"⟩
abbrev cX8_placeOf : ByteArray := prog_10_method_5_code
def yX8_placeOf : MethodName := ⟨RX8, "placeOf", "(I)I"⟩
abbrev cX8_removeAt : ByteArray := prog_10_method_6_code
def yX8_removeAt : MethodName := ⟨RX8, "removeAt", "(I)V"⟩
abbrev cX8_clear : ByteArray := prog_10_method_7_code
def yX8_clear : MethodName := ⟨RX8, "clear", "()V"⟩
def RX9 : String := "DrumLayers$Signal"
def TX9 : u_T := fun k => match k with
  | 0 => ("DrumLayers$Signal", "processor", "LDrumLayers$Processor;", true)
  | 1 => ("DrumLayers$Signal", "process", "I", true)
  | 2 => ("DrumLayers$Signal", "cause", "I", true)
  | 3 => ("DrumLayers$Signal", "awaited", "Z", false)
  | _ => ("DrumLayers$Signal", "count", "I", false)
def tyX9 : Nat → FieldType := fun k => match k with
  | 0 => .object "DrumLayers$Processor"
  | 1 => .int
  | 2 => .int
  | 3 => .boolean
  | _ => .int
abbrev wsX90 : List Cond := u_ws RX9 TX9 5
theorem nmX9 : ∀ a, a < 5 → ∀ b, b < 5 → a ≠ b → (TX9 a).2.1 ≠ (TX9 b).2.1 := by decide +kernel
theorem tyX9_ok : ∀ k, k < 5 → parseFieldDescriptor (TX9 k).2.2.1 = some (tyX9 k) := by decide +kernel
abbrev cX9_init : ByteArray := prog_11_method_1_code
def yX9_init : MethodName := ⟨RX9, "<init>", "(LDrumLayers$Processor;II)V"⟩
abbrev cX9_v : ByteArray := prog_11_method_2_code
def yX9_v : MethodName := ⟨RX9, "v", "()V"⟩
abbrev cX9_p : ByteArray := prog_11_method_3_code
def yX9_p : MethodName := ⟨RX9, "p", "()V"⟩
def RX10 : String := "DrumLayers$Store"
def TX10 : u_T := fun k => match k with
  | 0 => ("DrumLayers$Store", "processor", "LDrumLayers$Processor;", true)
  | 1 => ("DrumLayers$Store", "core", "LDrumLayers$Core;", true)
  | 2 => ("DrumLayers$Store", "asking", "Ljava/util/ArrayList;", true)
  | 3 => ("DrumLayers$Store", "wanted", "LDrumLayers$Signal;", true)
  | 4 => ("DrumLayers$Store", "drumDone", "LDrumLayers$Signal;", true)
  | 5 => ("DrumLayers$Store", "drum", "I", false)
  | 6 => ("DrumLayers$Store", "behind", "I", false)
  | 7 => ("DrumLayers$Store", "target", "LDrumLayers$Frame;", false)
  | 8 => ("DrumLayers$Store", "comer", "LDrumLayers$Job;", false)
  | 9 => ("DrumLayers$Store", "writtenJob", "LDrumLayers$Job;", false)
  | 10 => ("DrumLayers$Store", "writtenSerial", "I", false)
  | 11 => ("DrumLayers$Store", "writtenSegment", "I", false)
  | _ => ("DrumLayers$Store", "brought", "I", false)
def tyX10 : Nat → FieldType := fun k => match k with
  | 0 => .object "DrumLayers$Processor"
  | 1 => .object "DrumLayers$Core"
  | 2 => .object "java/util/ArrayList"
  | 3 => .object "DrumLayers$Signal"
  | 4 => .object "DrumLayers$Signal"
  | 5 => .int
  | 6 => .int
  | 7 => .object "DrumLayers$Frame"
  | 8 => .object "DrumLayers$Job"
  | 9 => .object "DrumLayers$Job"
  | 10 => .int
  | 11 => .int
  | _ => .int
abbrev wsX100 : List Cond := u_ws RX10 TX10 13
theorem nmX10 : ∀ a, a < 13 → ∀ b, b < 13 → a ≠ b → (TX10 a).2.1 ≠ (TX10 b).2.1 := by decide +kernel
theorem tyX10_ok : ∀ k, k < 13 → parseFieldDescriptor (TX10 k).2.2.1 = some (tyX10 k) := by decide +kernel
abbrev cX10_init : ByteArray := prog_12_method_1_code
def yX10_init : MethodName := ⟨RX10, "<init>", "(LDrumLayers$Processor;LDrumLayers$Core;)V"⟩
abbrev cX10_ask : ByteArray := prog_12_method_2_code
def yX10_ask : MethodName := ⟨RX10, "ask", "(LDrumLayers$Job;I)V"⟩
abbrev cX10_step : ByteArray := prog_12_method_3_code
def yX10_step : MethodName := ⟨RX10, "step", "()V"⟩
abbrev cX10_takeFirst : ByteArray := prog_12_method_4_code
def yX10_takeFirst : MethodName := ⟨RX10, "takeFirst", "()V"⟩
abbrev cX10_begin : ByteArray := prog_12_method_5_code
def yX10_begin : MethodName := ⟨RX10, "begin", "(I)V"⟩
abbrev cX10_bring : ByteArray := prog_12_method_6_code
def yX10_bring : MethodName := ⟨RX10, "bring", "()V"⟩
abbrev cX10_drumIsDone : ByteArray := prog_12_method_7_code
def yX10_drumIsDone : MethodName := ⟨RX10, "drumIsDone", "()Z"⟩
abbrev cX10_moveToDrum : ByteArray := prog_12_method_8_code
def yX10_moveToDrum : MethodName := ⟨RX10, "moveToDrum", "()V"⟩
abbrev cX10_moveToCore : ByteArray := prog_12_method_9_code
def yX10_moveToCore : MethodName := ⟨RX10, "moveToCore", "()V"⟩
abbrev cX10_holderOf : ByteArray := prog_12_method_10_code
def yX10_holderOf : MethodName := ⟨RX10, "holderOf", "(LDrumLayers$Job;I)LDrumLayers$Frame;"⟩
def RX11 : String := "DrumLayers"
def TX11 : u_T := fun k => match k with
  | 0 => ("DrumLayers", "processor", "LDrumLayers$Processor;", true)
  | 1 => ("DrumLayers", "jobs", "[LDrumLayers$Job;", true)
  | 2 => ("DrumLayers", "core", "LDrumLayers$Core;", true)
  | 3 => ("DrumLayers", "store", "LDrumLayers$Store;", true)
  | 4 => ("DrumLayers", "bank", "LDrumLayers$Bank;", true)
  | 5 => ("DrumLayers", "devices", "LDrumLayers$Devices;", true)
  | 6 => ("DrumLayers", "console", "LDrumLayers$Console;", true)
  | 7 => ("DrumLayers", "machine", "LDrumLayers$Machine;", true)
  | 8 => ("DrumLayers", "tape", "LDrumLayers$Row;", true)
  | _ => ("DrumLayers", "submissions", "I", false)
def tyX11 : Nat → FieldType := fun k => match k with
  | 0 => .object "DrumLayers$Processor"
  | 1 => .array (.object "DrumLayers$Job")
  | 2 => .object "DrumLayers$Core"
  | 3 => .object "DrumLayers$Store"
  | 4 => .object "DrumLayers$Bank"
  | 5 => .object "DrumLayers$Devices"
  | 6 => .object "DrumLayers$Console"
  | 7 => .object "DrumLayers$Machine"
  | 8 => .object "DrumLayers$Row"
  | _ => .int
abbrev wsX110 : List Cond := u_ws RX11 TX11 10
theorem nmX11 : ∀ a, a < 10 → ∀ b, b < 10 → a ≠ b → (TX11 a).2.1 ≠ (TX11 b).2.1 := by decide +kernel
theorem tyX11_ok : ∀ k, k < 10 → parseFieldDescriptor (TX11 k).2.2.1 = some (tyX11 k) := by decide +kernel
abbrev cX11_init : ByteArray := prog_1_method_1_code
def yX11_init : MethodName := ⟨RX11, "<init>", "(III)V"⟩
abbrev cX11_feed : ByteArray := prog_1_method_2_code
def yX11_feed : MethodName := ⟨RX11, "feed", "(IIII)I"⟩
abbrev cX11_submit : ByteArray := prog_1_method_3_code
def yX11_submit : MethodName := ⟨RX11, "submit", "(IIIII)I"⟩
abbrev cX11_tick : ByteArray := prog_1_method_4_code
def yX11_tick : MethodName := ⟨RX11, "tick", "(I)I"⟩
abbrev cX11_done : ByteArray := prog_1_method_5_code
def yX11_done : MethodName := ⟨RX11, "done", "(I)Z"⟩
abbrev cX11_type : ByteArray := prog_1_method_6_code
def yX11_type : MethodName := ⟨RX11, "type", "(I)Z"⟩
abbrev cX11_process : ByteArray := prog_1_method_7_code
def yX11_process : MethodName := ⟨RX11, "process", "(II)I"⟩
abbrev cX11_job : ByteArray := prog_1_method_8_code
def yX11_job : MethodName := ⟨RX11, "job", "(II)I"⟩
abbrev cX11_paper : ByteArray := prog_1_method_9_code
def yX11_paper : MethodName := ⟨RX11, "paper", "(II)I"⟩
abbrev cX11_word : ByteArray := prog_1_method_10_code
def yX11_word : MethodName := ⟨RX11, "word", "(II)I"⟩
abbrev cX11_frame : ByteArray := prog_1_method_11_code
def yX11_frame : MethodName := ⟨RX11, "frame", "(II)I"⟩
abbrev cX11_about : ByteArray := prog_1_method_12_code
def yX11_about : MethodName := ⟨RX11, "about", "(I)I"⟩
abbrev cX11_octet : ByteArray := prog_1_method_13_code
def yX11_octet : MethodName := ⟨RX11, "octet", "(I)I"⟩
abbrev cX11_systemStep : ByteArray := prog_1_method_14_code
def yX11_systemStep : MethodName := ⟨RX11, "systemStep", "(I)V"⟩
abbrev cX11_vacantJob : ByteArray := prog_1_method_15_code
def yX11_vacantJob : MethodName := ⟨RX11, "vacantJob", "()LDrumLayers$Job;"⟩
abbrev cX11_isDeck : ByteArray := prog_1_method_16_code
def yX11_isDeck : MethodName := ⟨RX11, "isDeck", "(III)Z"⟩
abbrev cX11_jobAt : ByteArray := prog_1_method_17_code
def yX11_jobAt : MethodName := ⟨RX11, "jobAt", "([LDrumLayers$Job;I)LDrumLayers$Job;"⟩
abbrev cX11_within : ByteArray := prog_1_method_18_code
def yX11_within : MethodName := ⟨RX11, "within", "(III)I"⟩
abbrev cX11_asNumber : ByteArray := prog_1_method_19_code
def yX11_asNumber : MethodName := ⟨RX11, "asNumber", "(Z)I"⟩
def RX12 : String := "DrumLayersModel"
def TX12 : u_T := fun k => match k with
  | 0 => ("DrumLayersModel", "frames", "I", true)
  | 1 => ("DrumLayersModel", "pages", "I", true)
  | 2 => ("DrumLayersModel", "quantum", "I", true)
  | 3 => ("DrumLayersModel", "tape", "[I", true)
  | 4 => ("DrumLayersModel", "taped", "I", false)
  | 5 => ("DrumLayersModel", "tick", "I", false)
  | 6 => ("DrumLayersModel", "readyMany", "I", false)
  | 7 => ("DrumLayersModel", "turn", "I", false)
  | 8 => ("DrumLayersModel", "ready", "[I", true)
  | 9 => ("DrumLayersModel", "out", "[Z", true)
  | 10 => ("DrumLayersModel", "waits", "[I", true)
  | 11 => ("DrumLayersModel", "signal", "[I", true)
  | 12 => ("DrumLayersModel", "stage", "[I", true)
  | 13 => ("DrumLayersModel", "counted", "[I", true)
  | 14 => ("DrumLayersModel", "state", "[I", true)
  | 15 => ("DrumLayersModel", "outcome", "[I", true)
  | 16 => ("DrumLayersModel", "ends", "[I", true)
  | 17 => ("DrumLayersModel", "steps", "[I", true)
  | 18 => ("DrumLayersModel", "place", "[I", true)
  | 19 => ("DrumLayersModel", "a", "[I", true)
  | 20 => ("DrumLayersModel", "x", "[I", true)
  | 21 => ("DrumLayersModel", "limit", "[I", true)
  | 22 => ("DrumLayersModel", "segments", "[I", true)
  | 23 => ("DrumLayersModel", "serial", "[I", true)
  | 24 => ("DrumLayersModel", "cancelled", "[Z", true)
  | 25 => ("DrumLayersModel", "submitted", "I", false)
  | 26 => ("DrumLayersModel", "claims", "[I", true)
  | 27 => ("DrumLayersModel", "holds", "[I", true)
  | 28 => ("DrumLayersModel", "free", "[I", true)
  | 29 => ("DrumLayersModel", "wants", "[I", true)
  | 30 => ("DrumLayersModel", "cards", "[I", true)
  | 31 => ("DrumLayersModel", "cardsMany", "[I", true)
  | 32 => ("DrumLayersModel", "cardsRead", "[I", true)
  | 33 => ("DrumLayersModel", "lines", "[I", true)
  | 34 => ("DrumLayersModel", "linesMany", "[I", true)
  | 35 => ("DrumLayersModel", "paper", "[I", true)
  | 36 => ("DrumLayersModel", "paperMany", "[I", true)
  | 37 => ("DrumLayersModel", "drum", "[I", true)
  | 38 => ("DrumLayersModel", "core", "[I", true)
  | 39 => ("DrumLayersModel", "frameJob", "[I", true)
  | 40 => ("DrumLayersModel", "frameSegment", "[I", true)
  | 41 => ("DrumLayersModel", "used", "[I", true)
  | 42 => ("DrumLayersModel", "changed", "[Z", true)
  | 43 => ("DrumLayersModel", "pinned", "[Z", true)
  | 44 => ("DrumLayersModel", "brought", "I", false)
  | 45 => ("DrumLayersModel", "drumDoes", "I", false)
  | 46 => ("DrumLayersModel", "chosen", "I", false)
  | 47 => ("DrumLayersModel", "takenJob", "I", false)
  | 48 => ("DrumLayersModel", "takenSegment", "I", false)
  | 49 => ("DrumLayersModel", "writtenJob", "I", false)
  | 50 => ("DrumLayersModel", "writtenSegment", "I", false)
  | 51 => ("DrumLayersModel", "writtenSerial", "I", false)
  | 52 => ("DrumLayersModel", "readerWorks", "Z", false)
  | 53 => ("DrumLayersModel", "printerWorks", "Z", false)
  | 54 => ("DrumLayersModel", "readingJob", "I", false)
  | 55 => ("DrumLayersModel", "printingJob", "I", false)
  | 56 => ("DrumLayersModel", "askedJob", "[I", true)
  | 57 => ("DrumLayersModel", "askedSegment", "[I", true)
  | 58 => ("DrumLayersModel", "cardRow", "[I", true)
  | 59 => ("DrumLayersModel", "getRow", "[I", true)
  | 60 => ("DrumLayersModel", "askedMany", "I", false)
  | 61 => ("DrumLayersModel", "cardRowMany", "I", false)
  | 62 => ("DrumLayersModel", "getRowMany", "I", false)
  | 63 => ("DrumLayersModel", "typed", "[I", true)
  | 64 => ("DrumLayersModel", "rowText", "[I", true)
  | 65 => ("DrumLayersModel", "rowLong", "[I", true)
  | 66 => ("DrumLayersModel", "said", "[I", true)
  | 67 => ("DrumLayersModel", "typedLong", "I", false)
  | 68 => ("DrumLayersModel", "rowMany", "I", false)
  | 69 => ("DrumLayersModel", "saidMany", "I", false)
  | _ => ("DrumLayersModel", "sets", "[Z", true)
def tyX12 : Nat → FieldType := fun k => match k with
  | 0 => .int
  | 1 => .int
  | 2 => .int
  | 3 => .array .int
  | 4 => .int
  | 5 => .int
  | 6 => .int
  | 7 => .int
  | 8 => .array .int
  | 9 => .array .boolean
  | 10 => .array .int
  | 11 => .array .int
  | 12 => .array .int
  | 13 => .array .int
  | 14 => .array .int
  | 15 => .array .int
  | 16 => .array .int
  | 17 => .array .int
  | 18 => .array .int
  | 19 => .array .int
  | 20 => .array .int
  | 21 => .array .int
  | 22 => .array .int
  | 23 => .array .int
  | 24 => .array .boolean
  | 25 => .int
  | 26 => .array .int
  | 27 => .array .int
  | 28 => .array .int
  | 29 => .array .int
  | 30 => .array .int
  | 31 => .array .int
  | 32 => .array .int
  | 33 => .array .int
  | 34 => .array .int
  | 35 => .array .int
  | 36 => .array .int
  | 37 => .array .int
  | 38 => .array .int
  | 39 => .array .int
  | 40 => .array .int
  | 41 => .array .int
  | 42 => .array .boolean
  | 43 => .array .boolean
  | 44 => .int
  | 45 => .int
  | 46 => .int
  | 47 => .int
  | 48 => .int
  | 49 => .int
  | 50 => .int
  | 51 => .int
  | 52 => .boolean
  | 53 => .boolean
  | 54 => .int
  | 55 => .int
  | 56 => .array .int
  | 57 => .array .int
  | 58 => .array .int
  | 59 => .array .int
  | 60 => .int
  | 61 => .int
  | 62 => .int
  | 63 => .array .int
  | 64 => .array .int
  | 65 => .array .int
  | 66 => .array .int
  | 67 => .int
  | 68 => .int
  | 69 => .int
  | _ => .array .boolean
abbrev wsX120 : List Cond := u_ws RX12 TX12 71
theorem nmX12 : ∀ a, a < 71 → ∀ b, b < 71 → a ≠ b → (TX12 a).2.1 ≠ (TX12 b).2.1 := by decide +kernel
theorem tyX12_ok : ∀ k, k < 71 → parseFieldDescriptor (TX12 k).2.2.1 = some (tyX12 k) := by decide +kernel
abbrev cX12_init : ByteArray := prog_14_method_1_code
def yX12_init : MethodName := ⟨RX12, "<init>", "(III)V"⟩
abbrev cX12_between : ByteArray := prog_14_method_2_code
def yX12_between : MethodName := ⟨RX12, "between", "(III)I"⟩
abbrev cX12_wake : ByteArray := prog_14_method_3_code
def yX12_wake : MethodName := ⟨RX12, "wake", "(I)V"⟩
abbrev cX12_raise : ByteArray := prog_14_method_4_code
def yX12_raise : MethodName := ⟨RX12, "raise", "(I)V"⟩
abbrev cX12_waitFor : ByteArray := prog_14_method_5_code
def yX12_waitFor : MethodName := ⟨RX12, "waitFor", "(III)V"⟩
abbrev cX12_pause : ByteArray := prog_14_method_6_code
def yX12_pause : MethodName := ⟨RX12, "pause", "(II)V"⟩
abbrev cX12_oneTick : ByteArray := prog_14_method_7_code
def yX12_oneTick : MethodName := ⟨RX12, "oneTick", "()V"⟩
abbrev cX12_frameOf : ByteArray := prog_14_method_8_code
def yX12_frameOf : MethodName := ⟨RX12, "frameOf", "(II)I"⟩
abbrev cX12_unpin : ByteArray := prog_14_method_9_code
def yX12_unpin : MethodName := ⟨RX12, "unpin", "(I)V"⟩
abbrev cX12_finish : ByteArray := prog_14_method_10_code
def yX12_finish : MethodName := ⟨RX12, "finish", "(I)V"⟩
abbrev cX12_want : ByteArray := prog_14_method_11_code
def yX12_want : MethodName := ⟨RX12, "want", "(II)V"⟩
abbrev cX12_jobStep : ByteArray := prog_14_method_12_code
def yX12_jobStep : MethodName := ⟨RX12, "jobStep", "(I)V"⟩
abbrev cX12_instruction : ByteArray := prog_14_method_13_code
def yX12_instruction : MethodName := ⟨RX12, "instruction", "(I)V"⟩
abbrev cX12_withWord : ByteArray := prog_14_method_14_code
def yX12_withWord : MethodName := ⟨RX12, "withWord", "(IIII)V"⟩
abbrev cX12_without : ByteArray := prog_14_method_15_code
def yX12_without : MethodName := ⟨RX12, "without", "(III)V"⟩
abbrev cX12_choose : ByteArray := prog_14_method_16_code
def yX12_choose : MethodName := ⟨RX12, "choose", "()I"⟩
abbrev cX12_segmentsStep : ByteArray := prog_14_method_17_code
def yX12_segmentsStep : MethodName := ⟨RX12, "segmentsStep", "()V"⟩
abbrev cX12_isWritten : ByteArray := prog_14_method_18_code
def yX12_isWritten : MethodName := ⟨RX12, "isWritten", "(I)Z"⟩
abbrev cX12_drumIsDone : ByteArray := prog_14_method_19_code
def yX12_drumIsDone : MethodName := ⟨RX12, "drumIsDone", "()V"⟩
abbrev cX12_claimed : ByteArray := prog_14_method_20_code
def yX12_claimed : MethodName := ⟨RX12, "claimed", "(II)I"⟩
abbrev cX12_isSafe : ByteArray := prog_14_method_21_code
def yX12_isSafe : MethodName := ⟨RX12, "isSafe", "()Z"⟩
abbrev cX12_isNext : ByteArray := prog_14_method_22_code
def yX12_isNext : MethodName := ⟨RX12, "isNext", "(II)Z"⟩
abbrev cX12_grants : ByteArray := prog_14_method_23_code
def yX12_grants : MethodName := ⟨RX12, "grants", "(II)Z"⟩
abbrev cX12_get : ByteArray := prog_14_method_24_code
def yX12_get : MethodName := ⟨RX12, "get", "(II)V"⟩
abbrev cX12_leaveGets : ByteArray := prog_14_method_25_code
def yX12_leaveGets : MethodName := ⟨RX12, "leaveGets", "(I)V"⟩
abbrev cX12_goThroughGets : ByteArray := prog_14_method_26_code
def yX12_goThroughGets : MethodName := ⟨RX12, "goThroughGets", "()V"⟩
abbrev cX12_give : ByteArray := prog_14_method_27_code
def yX12_give : MethodName := ⟨RX12, "give", "(II)V"⟩
abbrev cX12_read : ByteArray := prog_14_method_28_code
def yX12_read : MethodName := ⟨RX12, "read", "(I)V"⟩
abbrev cX12_readingStep : ByteArray := prog_14_method_29_code
def yX12_readingStep : MethodName := ⟨RX12, "readingStep", "()V"⟩
abbrev cX12_print : ByteArray := prog_14_method_30_code
def yX12_print : MethodName := ⟨RX12, "print", "(I)V"⟩
abbrev cX12_printingStep : ByteArray := prog_14_method_31_code
def yX12_printingStep : MethodName := ⟨RX12, "printingStep", "()V"⟩
abbrev cX12_say : ByteArray := prog_14_method_32_code
def yX12_say : MethodName := ⟨RX12, "say", "(I)V"⟩
abbrev cX12_consoleStep : ByteArray := prog_14_method_33_code
def yX12_consoleStep : MethodName := ⟨RX12, "consoleStep", "()V"⟩
abbrev cX12_isDigit : ByteArray := prog_14_method_34_code
def yX12_isDigit : MethodName := ⟨RX12, "isDigit", "(I)Z"⟩
abbrev cX12_obeys : ByteArray := prog_14_method_35_code
def yX12_obeys : MethodName := ⟨RX12, "obeys", "()Z"⟩
abbrev cX12_admitted : ByteArray := prog_14_method_36_code
def yX12_admitted : MethodName := ⟨RX12, "admitted", "()I"⟩
abbrev cX12_admits : ByteArray := prog_14_method_37_code
def yX12_admits : MethodName := ⟨RX12, "admits", "(I)Z"⟩
abbrev cX12_cancels : ByteArray := prog_14_method_38_code
def yX12_cancels : MethodName := ⟨RX12, "cancels", "(I)Z"⟩
abbrev cX12_replies : ByteArray := prog_14_method_39_code
def yX12_replies : MethodName := ⟨RX12, "replies", "(II)Z"⟩
abbrev cX12_endingStep : ByteArray := prog_14_method_40_code
def yX12_endingStep : MethodName := ⟨RX12, "endingStep", "(I)V"⟩
abbrev cX12_feed : ByteArray := prog_14_method_41_code
def yX12_feed : MethodName := ⟨RX12, "feed", "(IIII)I"⟩
abbrev cX12_submit : ByteArray := prog_14_method_42_code
def yX12_submit : MethodName := ⟨RX12, "submit", "(IIIII)I"⟩
abbrev cX12_tick : ByteArray := prog_14_method_43_code
def yX12_tick : MethodName := ⟨RX12, "tick", "(I)I"⟩
abbrev cX12_done : ByteArray := prog_14_method_44_code
def yX12_done : MethodName := ⟨RX12, "done", "(I)Z"⟩
abbrev cX12_type : ByteArray := prog_14_method_45_code
def yX12_type : MethodName := ⟨RX12, "type", "(I)Z"⟩
abbrev cX12_process : ByteArray := prog_14_method_46_code
def yX12_process : MethodName := ⟨RX12, "process", "(II)I"⟩
abbrev cX12_job : ByteArray := prog_14_method_47_code
def yX12_job : MethodName := ⟨RX12, "job", "(II)I"⟩
abbrev cX12_paper : ByteArray := prog_14_method_48_code
def yX12_paper : MethodName := ⟨RX12, "paper", "(II)I"⟩
abbrev cX12_word : ByteArray := prog_14_method_49_code
def yX12_word : MethodName := ⟨RX12, "word", "(II)I"⟩
abbrev cX12_frame : ByteArray := prog_14_method_50_code
def yX12_frame : MethodName := ⟨RX12, "frame", "(II)I"⟩
abbrev cX12_about : ByteArray := prog_14_method_51_code
def yX12_about : MethodName := ⟨RX12, "about", "(I)I"⟩
abbrev cX12_octet : ByteArray := prog_14_method_52_code
def yX12_octet : MethodName := ⟨RX12, "octet", "(I)I"⟩
def RJx145de : String := "java/io/Serializable"
def TJx145de : u_T := fun k => match k with
  | _ => ("", "", "", false)
def tyJx145de : Nat → FieldType := fun k => match k with
  | _ => .int
abbrev wsJx145de0 : List Cond := u_ws RJx145de TJx145de 0
theorem nmJx145de : ∀ a, a < 0 → ∀ b, b < 0 → a ≠ b → (TJx145de a).2.1 ≠ (TJx145de b).2.1 := by decide +kernel
theorem tyJx145de_ok : ∀ k, k < 0 → parseFieldDescriptor (TJx145de k).2.2.1 = some (tyJx145de k) := by decide +kernel
def RJx8e188 : String := "java/lang/Cloneable"
def TJx8e188 : u_T := fun k => match k with
  | _ => ("", "", "", false)
def tyJx8e188 : Nat → FieldType := fun k => match k with
  | _ => .int
abbrev wsJx8e1880 : List Cond := u_ws RJx8e188 TJx8e188 0
theorem nmJx8e188 : ∀ a, a < 0 → ∀ b, b < 0 → a ≠ b → (TJx8e188 a).2.1 ≠ (TJx8e188 b).2.1 := by decide +kernel
theorem tyJx8e188_ok : ∀ k, k < 0 → parseFieldDescriptor (TJx8e188 k).2.2.1 = some (tyJx8e188 k) := by decide +kernel
def RJxab1ab : String := "java/lang/Iterable"
def TJxab1ab : u_T := fun k => match k with
  | _ => ("", "", "", false)
def tyJxab1ab : Nat → FieldType := fun k => match k with
  | _ => .int
abbrev wsJxab1ab0 : List Cond := u_ws RJxab1ab TJxab1ab 0
theorem nmJxab1ab : ∀ a, a < 0 → ∀ b, b < 0 → a ≠ b → (TJxab1ab a).2.1 ≠ (TJxab1ab b).2.1 := by decide +kernel
theorem tyJxab1ab_ok : ∀ k, k < 0 → parseFieldDescriptor (TJxab1ab k).2.2.1 = some (tyJxab1ab k) := by decide +kernel
def RJ9 : String := "java/lang/Math"
def TJ9 : u_T := fun k => match k with
  | _ => ("", "", "", false)
def tyJ9 : Nat → FieldType := fun k => match k with
  | _ => .int
abbrev wsJ90 : List Cond := u_ws RJ9 TJ9 0
theorem nmJ9 : ∀ a, a < 0 → ∀ b, b < 0 → a ≠ b → (TJ9 a).2.1 ≠ (TJ9 b).2.1 := by decide +kernel
theorem tyJ9_ok : ∀ k, k < 0 → parseFieldDescriptor (TJ9 k).2.2.1 = some (tyJ9 k) := by decide +kernel
abbrev cJ9_floorMod_7cf53 : ByteArray := prog_18_method_50_code
def yJ9_floorMod_7cf53 : MethodName := ⟨RJ9, "floorMod", "(II)I"⟩
abbrev cJ9_max_7cf53 : ByteArray := prog_18_method_65_code
def yJ9_max_7cf53 : MethodName := ⟨RJ9, "max", "(II)I"⟩
abbrev cJ9_min_7cf53 : ByteArray := prog_18_method_69_code
def yJ9_min_7cf53 : MethodName := ⟨RJ9, "min", "(II)I"⟩
def RJ10 : String := "java/lang/System"
def TJ10 : u_T := fun k => match k with
  | _ => ("", "", "", false)
def tyJ10 : Nat → FieldType := fun k => match k with
  | _ => .int
abbrev wsJ100 : List Cond := u_ws RJ10 TJ10 0
theorem nmJ10 : ∀ a, a < 0 → ∀ b, b < 0 → a ≠ b → (TJ10 a).2.1 ≠ (TJ10 b).2.1 := by decide +kernel
theorem tyJ10_ok : ∀ k, k < 0 → parseFieldDescriptor (TJ10 k).2.2.1 = some (tyJ10 k) := by decide +kernel
def RJxa1e45 : String := "java/util/AbstractCollection"
def TJxa1e45 : u_T := fun k => match k with
  | _ => ("", "", "", false)
def tyJxa1e45 : Nat → FieldType := fun k => match k with
  | _ => .int
abbrev wsJxa1e450 : List Cond := u_ws RJxa1e45 TJxa1e45 0
theorem nmJxa1e45 : ∀ a, a < 0 → ∀ b, b < 0 → a ≠ b → (TJxa1e45 a).2.1 ≠ (TJxa1e45 b).2.1 := by decide +kernel
theorem tyJxa1e45_ok : ∀ k, k < 0 → parseFieldDescriptor (TJxa1e45 k).2.2.1 = some (tyJxa1e45 k) := by decide +kernel
abbrev cJxa1e45_init_da8c8 : ByteArray := prog_20_method_1_code
def yJxa1e45_init_da8c8 : MethodName := ⟨RJxa1e45, "<init>", "()V"⟩
def RJxc12de : String := "java/util/AbstractList"
def TJxc12de : u_T := fun k => match k with
  | _ => ("", "", "", false)
def tyJxc12de : Nat → FieldType := fun k => match k with
  | _ => .int
abbrev wsJxc12de0 : List Cond := u_ws RJxc12de TJxc12de 0
theorem nmJxc12de : ∀ a, a < 0 → ∀ b, b < 0 → a ≠ b → (TJxc12de a).2.1 ≠ (TJxc12de b).2.1 := by decide +kernel
theorem tyJxc12de_ok : ∀ k, k < 0 → parseFieldDescriptor (TJxc12de k).2.2.1 = some (tyJxc12de k) := by decide +kernel
abbrev cJxc12de_init_da8c8 : ByteArray := prog_21_method_1_code
def yJxc12de_init_da8c8 : MethodName := ⟨RJxc12de, "<init>", "()V"⟩
def RJx4a65c : String := "java/util/ArrayList"
def TJx4a65c : u_T := fun k => match k with
  | 0 => ("java/util/AbstractList", "modCount", "I", false)
  | 1 => ("java/util/ArrayList", "elementData", "[Ljava/lang/Object;", false)
  | _ => ("java/util/ArrayList", "size", "I", false)
def tyJx4a65c : Nat → FieldType := fun k => match k with
  | 0 => .int
  | 1 => .array (.object "java/lang/Object")
  | _ => .int
abbrev wsJx4a65c0 : List Cond := u_ws RJx4a65c TJx4a65c 3
theorem nmJx4a65c : ∀ a, a < 3 → ∀ b, b < 3 → a ≠ b → (TJx4a65c a).2.1 ≠ (TJx4a65c b).2.1 := by decide +kernel
theorem tyJx4a65c_ok : ∀ k, k < 3 → parseFieldDescriptor (TJx4a65c k).2.2.1 = some (tyJx4a65c k) := by decide +kernel
abbrev cJx4a65c_init_da8c8 : ByteArray := prog_22_method_2_code
def yJx4a65c_init_da8c8 : MethodName := ⟨RJx4a65c, "<init>", "()V"⟩
abbrev cJx4a65c_grow_92f84 : ByteArray := prog_22_method_6_code
def yJx4a65c_grow_92f84 : MethodName := ⟨RJx4a65c, "grow", "(I)[Ljava/lang/Object;"⟩
abbrev cJx4a65c_grow_d5877 : ByteArray := prog_22_method_7_code
def yJx4a65c_grow_d5877 : MethodName := ⟨RJx4a65c, "grow", "()[Ljava/lang/Object;"⟩
abbrev cJx4a65c_size_8abf5 : ByteArray := prog_22_method_8_code
def yJx4a65c_size_8abf5 : MethodName := ⟨RJx4a65c, "size", "()I"⟩
abbrev cJx4a65c_isEmpty_aae02 : ByteArray := prog_22_method_9_code
def yJx4a65c_isEmpty_aae02 : MethodName := ⟨RJx4a65c, "isEmpty", "()Z"⟩
abbrev cJx4a65c_elementData_915e3 : ByteArray := prog_22_method_18_code
def yJx4a65c_elementData_915e3 : MethodName := ⟨RJx4a65c, "elementData", "(I)Ljava/lang/Object;"⟩
abbrev cJx4a65c_get_915e3 : ByteArray := prog_22_method_20_code
def yJx4a65c_get_915e3 : MethodName := ⟨RJx4a65c, "get", "(I)Ljava/lang/Object;"⟩
abbrev cJx4a65c_add_72be8 : ByteArray := prog_22_method_24_code
def yJx4a65c_add_72be8 : MethodName := ⟨RJx4a65c, "add", "(Ljava/lang/Object;[Ljava/lang/Object;I)V"⟩
abbrev cJx4a65c_add_9ea2d : ByteArray := prog_22_method_25_code
def yJx4a65c_add_9ea2d : MethodName := ⟨RJx4a65c, "add", "(Ljava/lang/Object;)Z"⟩
abbrev cJx4a65c_remove_915e3 : ByteArray := prog_22_method_29_code
def yJx4a65c_remove_915e3 : MethodName := ⟨RJx4a65c, "remove", "(I)Ljava/lang/Object;"⟩
abbrev cJx4a65c_fastRemove_b59b0 : ByteArray := prog_22_method_39_code
def yJx4a65c_fastRemove_b59b0 : MethodName := ⟨RJx4a65c, "fastRemove", "([Ljava/lang/Object;I)V"⟩
def RJ7 : String := "java/util/Arrays"
def TJ7 : u_T := fun k => match k with
  | _ => ("", "", "", false)
def tyJ7 : Nat → FieldType := fun k => match k with
  | _ => .int
abbrev wsJ70 : List Cond := u_ws RJ7 TJ7 0
theorem nmJ7 : ∀ a, a < 0 → ∀ b, b < 0 → a ≠ b → (TJ7 a).2.1 ≠ (TJ7 b).2.1 := by decide +kernel
theorem tyJ7_ok : ∀ k, k < 0 → parseFieldDescriptor (TJ7 k).2.2.1 = some (tyJ7 k) := by decide +kernel
abbrev cJ7_copyOf_1904c : ByteArray := prog_23_method_119_code
def yJ7_copyOf_1904c : MethodName := ⟨RJ7, "copyOf", "([Ljava/lang/Object;I)[Ljava/lang/Object;"⟩
abbrev cJ7_copyOf_6403c : ByteArray := prog_23_method_120_code
def yJ7_copyOf_6403c : MethodName := ⟨RJ7, "copyOf", "([Ljava/lang/Object;ILjava/lang/Class;)[Ljava/lang/Object;"⟩
def RJx5ef63 : String := "java/util/Collection"
def TJx5ef63 : u_T := fun k => match k with
  | _ => ("", "", "", false)
def tyJx5ef63 : Nat → FieldType := fun k => match k with
  | _ => .int
abbrev wsJx5ef630 : List Cond := u_ws RJx5ef63 TJx5ef63 0
theorem nmJx5ef63 : ∀ a, a < 0 → ∀ b, b < 0 → a ≠ b → (TJx5ef63 a).2.1 ≠ (TJx5ef63 b).2.1 := by decide +kernel
theorem tyJx5ef63_ok : ∀ k, k < 0 → parseFieldDescriptor (TJx5ef63 k).2.2.1 = some (tyJx5ef63 k) := by decide +kernel
def RJxbd725 : String := "java/util/List"
def TJxbd725 : u_T := fun k => match k with
  | _ => ("", "", "", false)
def tyJxbd725 : Nat → FieldType := fun k => match k with
  | _ => .int
abbrev wsJxbd7250 : List Cond := u_ws RJxbd725 TJxbd725 0
theorem nmJxbd725 : ∀ a, a < 0 → ∀ b, b < 0 → a ≠ b → (TJxbd725 a).2.1 ≠ (TJxbd725 b).2.1 := by decide +kernel
theorem tyJxbd725_ok : ∀ k, k < 0 → parseFieldDescriptor (TJxbd725 k).2.2.1 = some (tyJxbd725 k) := by decide +kernel
def RJ15 : String := "java/util/Objects"
def TJ15 : u_T := fun k => match k with
  | _ => ("", "", "", false)
def tyJ15 : Nat → FieldType := fun k => match k with
  | _ => .int
abbrev wsJ150 : List Cond := u_ws RJ15 TJ15 0
theorem nmJ15 : ∀ a, a < 0 → ∀ b, b < 0 → a ≠ b → (TJ15 a).2.1 ≠ (TJ15 b).2.1 := by decide +kernel
theorem tyJ15_ok : ∀ k, k < 0 → parseFieldDescriptor (TJ15 k).2.2.1 = some (tyJ15 k) := by decide +kernel
abbrev cJ15_checkIndex_7cf53 : ByteArray := prog_26_method_17_code
def yJ15_checkIndex_7cf53 : MethodName := ⟨RJ15, "checkIndex", "(II)I"⟩
def RJxf0a74 : String := "java/util/RandomAccess"
def TJxf0a74 : u_T := fun k => match k with
  | _ => ("", "", "", false)
def tyJxf0a74 : Nat → FieldType := fun k => match k with
  | _ => .int
abbrev wsJxf0a740 : List Cond := u_ws RJxf0a74 TJxf0a74 0
theorem nmJxf0a74 : ∀ a, a < 0 → ∀ b, b < 0 → a ≠ b → (TJxf0a74 a).2.1 ≠ (TJxf0a74 b).2.1 := by decide +kernel
theorem tyJxf0a74_ok : ∀ k, k < 0 → parseFieldDescriptor (TJxf0a74 k).2.2.1 = some (tyJxf0a74 k) := by decide +kernel
def RJxa66e6 : String := "java/util/SequencedCollection"
def TJxa66e6 : u_T := fun k => match k with
  | _ => ("", "", "", false)
def tyJxa66e6 : Nat → FieldType := fun k => match k with
  | _ => .int
abbrev wsJxa66e60 : List Cond := u_ws RJxa66e6 TJxa66e6 0
theorem nmJxa66e6 : ∀ a, a < 0 → ∀ b, b < 0 → a ≠ b → (TJxa66e6 a).2.1 ≠ (TJxa66e6 b).2.1 := by decide +kernel
theorem tyJxa66e6_ok : ∀ k, k < 0 → parseFieldDescriptor (TJxa66e6 k).2.2.1 = some (tyJxa66e6 k) := by decide +kernel
def RJ8 : String := "jdk/internal/util/ArraysSupport"
def TJ8 : u_T := fun k => match k with
  | _ => ("", "", "", false)
def tyJ8 : Nat → FieldType := fun k => match k with
  | _ => .int
abbrev wsJ80 : List Cond := u_ws RJ8 TJ8 0
theorem nmJ8 : ∀ a, a < 0 → ∀ b, b < 0 → a ≠ b → (TJ8 a).2.1 ≠ (TJ8 b).2.1 := by decide +kernel
theorem tyJ8_ok : ∀ k, k < 0 → parseFieldDescriptor (TJ8 k).2.2.1 = some (tyJ8 k) := by decide +kernel
abbrev cJ8_newLength_cabcc : ByteArray := prog_29_method_27_code
def yJ8_newLength_cabcc : MethodName := ⟨RJ8, "newLength", "(III)I"⟩
abbrev cJ8_hugeLength_7cf53 : ByteArray := prog_29_method_28_code
def yJ8_hugeLength_7cf53 : MethodName := ⟨RJ8, "hugeLength", "(II)I"⟩
def RJ3 : String := "jdk/internal/util/Preconditions"
def TJ3 : u_T := fun k => match k with
  | _ => ("", "", "", false)
def tyJ3 : Nat → FieldType := fun k => match k with
  | _ => .int
abbrev wsJ30 : List Cond := u_ws RJ3 TJ3 0
theorem nmJ3 : ∀ a, a < 0 → ∀ b, b < 0 → a ≠ b → (TJ3 a).2.1 ≠ (TJ3 b).2.1 := by decide +kernel
theorem tyJ3_ok : ∀ k, k < 0 → parseFieldDescriptor (TJ3 k).2.2.1 = some (tyJ3 k) := by decide +kernel
abbrev cJ3_checkIndex_8e157 : ByteArray := prog_30_method_11_code
def yJ3_checkIndex_8e157 : MethodName := ⟨RJ3, "checkIndex", "(IILjava/util/function/BiFunction;)I"⟩
def RL : String := "DrumLayersLaw"
abbrev cL_cell : ByteArray := method_2_code
def yL_cell : MethodName := ⟨RL, "cell", "([II)I"⟩
abbrev cL_law : ByteArray := code
def yL_law : MethodName := ⟨RL, "law", "([I)Z"⟩
abbrev vwCl : List vw_C := [(RJx4a65c, TJx4a65c, 3), (RX0, TX0, 8), (RX1, TX1, 12), (RX2, TX2, 1), (RX3, TX3, 15), (RX4, TX4, 7), (RX5, TX5, 20), (RX6, TX6, 6), (RX7, TX7, 5), (RX8, TX8, 2), (RX9, TX9, 5), (RX10, TX10, 13), (RX11, TX11, 10), (RX12, TX12, 71)]
