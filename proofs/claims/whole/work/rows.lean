section
/-- a private method of a class that the tables say can be made, by its rows of tables_1 -/
def lw_okq (q : MethodName × Nat) : Prop := (q.1.cls ≠ "java/lang/invoke/MethodHandle" ∧ q.1.cls ≠ "java/lang/invoke/VarHandle") ∧ Cond.instantiable q.1.cls q.2 ∈ tables_1 ∧ Cond.privateMethod q.1 ∈ tables_1 ∧ Cond.instanceMethod q.1 ∈ tables_1
theorem lw_p0 : lw_okq (⟨"RackPlanner", "listForPacking", "()V"⟩, 7) := ⟨⟨by decide +kernel, by decide +kernel⟩, List.mem_of_getElem? (i := 30) (by decide +kernel), List.mem_of_getElem? (i := 160) (by decide +kernel), List.mem_of_getElem? (i := 161) (by decide +kernel)⟩
theorem lw_p1 : lw_okq (⟨"java/util/ArrayList", "rangeCheckForAdd", "(I)V"⟩, 3) := ⟨⟨by decide +kernel, by decide +kernel⟩, List.mem_of_getElem? (i := 44) (by decide +kernel), List.mem_of_getElem? (i := 191) (by decide +kernel), List.mem_of_getElem? (i := 192) (by decide +kernel)⟩
theorem lw_p2 : lw_okq (⟨"java/lang/Throwable", "fillInStackTrace", "(I)Ljava/lang/Throwable;"⟩, 6) := ⟨⟨by decide +kernel, by decide +kernel⟩, List.mem_of_getElem? (i := 233) (by decide +kernel), List.mem_of_getElem? (i := 231) (by decide +kernel), List.mem_of_getElem? (i := 232) (by decide +kernel)⟩
theorem lw_p3 : lw_okq (⟨"java/util/ArrayList", "outOfBoundsMsg", "(I)Ljava/lang/String;"⟩, 3) := ⟨⟨by decide +kernel, by decide +kernel⟩, List.mem_of_getElem? (i := 44) (by decide +kernel), List.mem_of_getElem? (i := 236) (by decide +kernel), List.mem_of_getElem? (i := 237) (by decide +kernel)⟩
theorem lw_p4 : lw_okq (⟨"java/util/ArrayList", "grow", "()[Ljava/lang/Object;"⟩, 3) := ⟨⟨by decide +kernel, by decide +kernel⟩, List.mem_of_getElem? (i := 44) (by decide +kernel), List.mem_of_getElem? (i := 525) (by decide +kernel), List.mem_of_getElem? (i := 526) (by decide +kernel)⟩
theorem lw_p5 : lw_okq (⟨"java/util/ArrayList", "grow", "(I)[Ljava/lang/Object;"⟩, 3) := ⟨⟨by decide +kernel, by decide +kernel⟩, List.mem_of_getElem? (i := 44) (by decide +kernel), List.mem_of_getElem? (i := 529) (by decide +kernel), List.mem_of_getElem? (i := 530) (by decide +kernel)⟩
theorem lw_p6 : lw_okq (⟨"RackPlanner$Layout", "bears", "(ILRackPlanner$Machine;)Z"⟩, 5) := ⟨⟨by decide +kernel, by decide +kernel⟩, List.mem_of_getElem? (i := 97) (by decide +kernel), List.mem_of_getElem? (i := 575) (by decide +kernel), List.mem_of_getElem? (i := 576) (by decide +kernel)⟩
theorem lw_p7 : lw_okq (⟨"RackPlanner$Layout", "sumInRow", "(I[I)I"⟩, 5) := ⟨⟨by decide +kernel, by decide +kernel⟩, List.mem_of_getElem? (i := 97) (by decide +kernel), List.mem_of_getElem? (i := 585) (by decide +kernel), List.mem_of_getElem? (i := 586) (by decide +kernel)⟩
theorem lw_p8 : lw_okq (⟨"RackPlanner$Layout", "bearsMore", "(III)Z"⟩, 5) := ⟨⟨by decide +kernel, by decide +kernel⟩, List.mem_of_getElem? (i := 97) (by decide +kernel), List.mem_of_getElem? (i := 604) (by decide +kernel), List.mem_of_getElem? (i := 605) (by decide +kernel)⟩
theorem lw_p9 : lw_okq (⟨"RackPlanner$Layout", "lowestFree", "(II)I"⟩, 5) := ⟨⟨by decide +kernel, by decide +kernel⟩, List.mem_of_getElem? (i := 97) (by decide +kernel), List.mem_of_getElem? (i := 612) (by decide +kernel), List.mem_of_getElem? (i := 613) (by decide +kernel)⟩
theorem lw_p10 : lw_okq (⟨"RackPlanner$Layout", "fillCells", "(III)V"⟩, 5) := ⟨⟨by decide +kernel, by decide +kernel⟩, List.mem_of_getElem? (i := 97) (by decide +kernel), List.mem_of_getElem? (i := 623) (by decide +kernel), List.mem_of_getElem? (i := 624) (by decide +kernel)⟩
theorem lw_p11 : lw_okq (⟨"RackPlanner$Layout", "addLoads", "(ILRackPlanner$Machine;I)V"⟩, 5) := ⟨⟨by decide +kernel, by decide +kernel⟩, List.mem_of_getElem? (i := 97) (by decide +kernel), List.mem_of_getElem? (i := 630) (by decide +kernel), List.mem_of_getElem? (i := 631) (by decide +kernel)⟩
theorem lw_p12 : lw_okq (⟨"RackPlanner", "swapLayouts", "()V"⟩, 7) := ⟨⟨by decide +kernel, by decide +kernel⟩, List.mem_of_getElem? (i := 30) (by decide +kernel), List.mem_of_getElem? (i := 634) (by decide +kernel), List.mem_of_getElem? (i := 635) (by decide +kernel)⟩
theorem lw_p13 : lw_okq (⟨"RackPlanner", "moveToPacked", "()I"⟩, 7) := ⟨⟨by decide +kernel, by decide +kernel⟩, List.mem_of_getElem? (i := 30) (by decide +kernel), List.mem_of_getElem? (i := 638) (by decide +kernel), List.mem_of_getElem? (i := 639) (by decide +kernel)⟩
theorem lw_p14 : lw_okq (⟨"java/util/ArrayList", "add", "(Ljava/lang/Object;[Ljava/lang/Object;I)V"⟩, 3) := ⟨⟨by decide +kernel, by decide +kernel⟩, List.mem_of_getElem? (i := 44) (by decide +kernel), List.mem_of_getElem? (i := 706) (by decide +kernel), List.mem_of_getElem? (i := 707) (by decide +kernel)⟩
theorem lw_p15 : lw_okq (⟨"RackPlanner", "hasNoFeed", "(LRackPlanner$Machine;)Z"⟩, 7) := ⟨⟨by decide +kernel, by decide +kernel⟩, List.mem_of_getElem? (i := 30) (by decide +kernel), List.mem_of_getElem? (i := 739) (by decide +kernel), List.mem_of_getElem? (i := 740) (by decide +kernel)⟩
def lw_privs_1 : List (MethodName × Nat) := [(⟨"RackPlanner", "listForPacking", "()V"⟩, 7), (⟨"java/util/ArrayList", "rangeCheckForAdd", "(I)V"⟩, 3), (⟨"java/lang/Throwable", "fillInStackTrace", "(I)Ljava/lang/Throwable;"⟩, 6), (⟨"java/util/ArrayList", "outOfBoundsMsg", "(I)Ljava/lang/String;"⟩, 3), (⟨"java/util/ArrayList", "grow", "()[Ljava/lang/Object;"⟩, 3), (⟨"java/util/ArrayList", "grow", "(I)[Ljava/lang/Object;"⟩, 3), (⟨"RackPlanner$Layout", "bears", "(ILRackPlanner$Machine;)Z"⟩, 5), (⟨"RackPlanner$Layout", "sumInRow", "(I[I)I"⟩, 5), (⟨"RackPlanner$Layout", "bearsMore", "(III)Z"⟩, 5), (⟨"RackPlanner$Layout", "lowestFree", "(II)I"⟩, 5), (⟨"RackPlanner$Layout", "fillCells", "(III)V"⟩, 5), (⟨"RackPlanner$Layout", "addLoads", "(ILRackPlanner$Machine;I)V"⟩, 5), (⟨"RackPlanner", "swapLayouts", "()V"⟩, 7), (⟨"RackPlanner", "moveToPacked", "()I"⟩, 7), (⟨"java/util/ArrayList", "add", "(Ljava/lang/Object;[Ljava/lang/Object;I)V"⟩, 3), (⟨"RackPlanner", "hasNoFeed", "(LRackPlanner$Machine;)Z"⟩, 7)]
theorem lw_r1 : ∀ q ∈ lw_privs_1, lw_okq q := List.forall_mem_cons.mpr ⟨lw_p0, List.forall_mem_cons.mpr ⟨lw_p1, List.forall_mem_cons.mpr ⟨lw_p2, List.forall_mem_cons.mpr ⟨lw_p3, List.forall_mem_cons.mpr ⟨lw_p4, List.forall_mem_cons.mpr ⟨lw_p5, List.forall_mem_cons.mpr ⟨lw_p6, List.forall_mem_cons.mpr ⟨lw_p7, List.forall_mem_cons.mpr ⟨lw_p8, List.forall_mem_cons.mpr ⟨lw_p9, List.forall_mem_cons.mpr ⟨lw_p10, List.forall_mem_cons.mpr ⟨lw_p11, List.forall_mem_cons.mpr ⟨lw_p12, List.forall_mem_cons.mpr ⟨lw_p13, List.forall_mem_cons.mpr ⟨lw_p14, List.forall_mem_cons.mpr ⟨lw_p15, fun _ h => absurd h List.not_mem_nil⟩⟩⟩⟩⟩⟩⟩⟩⟩⟩⟩⟩⟩⟩⟩⟩
theorem lw_p16 : lw_okq (⟨"RackPlanner", "newMachine", "(IIII)LRackPlanner$Machine;"⟩, 7) := ⟨⟨by decide +kernel, by decide +kernel⟩, List.mem_of_getElem? (i := 30) (by decide +kernel), List.mem_of_getElem? (i := 761) (by decide +kernel), List.mem_of_getElem? (i := 762) (by decide +kernel)⟩
theorem lw_p17 : lw_okq (⟨"RackPlanner", "indexOfPlaced", "(I)I"⟩, 7) := ⟨⟨by decide +kernel, by decide +kernel⟩, List.mem_of_getElem? (i := 30) (by decide +kernel), List.mem_of_getElem? (i := 814) (by decide +kernel), List.mem_of_getElem? (i := 815) (by decide +kernel)⟩
theorem lw_p18 : lw_okq (⟨"java/util/ArrayList", "fastRemove", "([Ljava/lang/Object;I)V"⟩, 3) := ⟨⟨by decide +kernel, by decide +kernel⟩, List.mem_of_getElem? (i := 44) (by decide +kernel), List.mem_of_getElem? (i := 829) (by decide +kernel), List.mem_of_getElem? (i := 830) (by decide +kernel)⟩
theorem lw_p19 : lw_okq (⟨"RackPlanner", "requireMachine", "(I)LRackPlanner$Machine;"⟩, 7) := ⟨⟨by decide +kernel, by decide +kernel⟩, List.mem_of_getElem? (i := 30) (by decide +kernel), List.mem_of_getElem? (i := 841) (by decide +kernel), List.mem_of_getElem? (i := 842) (by decide +kernel)⟩
theorem lw_p20 : lw_okq (⟨"RackPlanner", "requireRack", "(I)LRackPlanner$Rack;"⟩, 7) := ⟨⟨by decide +kernel, by decide +kernel⟩, List.mem_of_getElem? (i := 30) (by decide +kernel), List.mem_of_getElem? (i := 883) (by decide +kernel), List.mem_of_getElem? (i := 884) (by decide +kernel)⟩
theorem lw_p21 : lw_okq (⟨"RackPlanner", "powerNow", "(LRackPlanner$Machine;I)I"⟩, 7) := ⟨⟨by decide +kernel, by decide +kernel⟩, List.mem_of_getElem? (i := 30) (by decide +kernel), List.mem_of_getElem? (i := 908) (by decide +kernel), List.mem_of_getElem? (i := 909) (by decide +kernel)⟩
theorem lw_p22 : lw_okq (⟨"RackPlanner", "rowOfMachine", "(LRackPlanner$Machine;)I"⟩, 7) := ⟨⟨by decide +kernel, by decide +kernel⟩, List.mem_of_getElem? (i := 30) (by decide +kernel), List.mem_of_getElem? (i := 933) (by decide +kernel), List.mem_of_getElem? (i := 934) (by decide +kernel)⟩
theorem lw_p23 : lw_okq (⟨"RackPlanner$Layout", "countForRack", "(ILRackPlanner$Machine;)I"⟩, 5) := ⟨⟨by decide +kernel, by decide +kernel⟩, List.mem_of_getElem? (i := 97) (by decide +kernel), List.mem_of_getElem? (i := 985) (by decide +kernel), List.mem_of_getElem? (i := 986) (by decide +kernel)⟩
theorem lw_p24 : lw_okq (⟨"RackPlanner$Layout", "countBySlots", "(II)I"⟩, 5) := ⟨⟨by decide +kernel, by decide +kernel⟩, List.mem_of_getElem? (i := 97) (by decide +kernel), List.mem_of_getElem? (i := 989) (by decide +kernel), List.mem_of_getElem? (i := 990) (by decide +kernel)⟩
theorem lw_p25 : lw_okq (⟨"RackPlannerModel", "isFine", "(I)Z"⟩, 21) := ⟨⟨by decide +kernel, by decide +kernel⟩, List.mem_of_getElem? (i := 999) (by decide +kernel), List.mem_of_getElem? (i := 1080) (by decide +kernel), List.mem_of_getElem? (i := 1081) (by decide +kernel)⟩
theorem lw_p26 : lw_okq (⟨"RackPlannerModel", "rowHeats", "(I)I"⟩, 21) := ⟨⟨by decide +kernel, by decide +kernel⟩, List.mem_of_getElem? (i := 999) (by decide +kernel), List.mem_of_getElem? (i := 1088) (by decide +kernel), List.mem_of_getElem? (i := 1089) (by decide +kernel)⟩
theorem lw_p27 : lw_okq (⟨"RackPlannerModel", "rowWeighs", "(I)I"⟩, 21) := ⟨⟨by decide +kernel, by decide +kernel⟩, List.mem_of_getElem? (i := 999) (by decide +kernel), List.mem_of_getElem? (i := 1092) (by decide +kernel), List.mem_of_getElem? (i := 1093) (by decide +kernel)⟩
theorem lw_p28 : lw_okq (⟨"RackPlannerModel", "weighs", "(I)I"⟩, 21) := ⟨⟨by decide +kernel, by decide +kernel⟩, List.mem_of_getElem? (i := 999) (by decide +kernel), List.mem_of_getElem? (i := 1096) (by decide +kernel), List.mem_of_getElem? (i := 1097) (by decide +kernel)⟩
theorem lw_p29 : lw_okq (⟨"RackPlannerModel", "worst", "(II)I"⟩, 21) := ⟨⟨by decide +kernel, by decide +kernel⟩, List.mem_of_getElem? (i := 999) (by decide +kernel), List.mem_of_getElem? (i := 1104) (by decide +kernel), List.mem_of_getElem? (i := 1105) (by decide +kernel)⟩
theorem lw_p30 : lw_okq (⟨"RackPlannerModel", "isDarkAt", "(I)Z"⟩, 21) := ⟨⟨by decide +kernel, by decide +kernel⟩, List.mem_of_getElem? (i := 999) (by decide +kernel), List.mem_of_getElem? (i := 1115) (by decide +kernel), List.mem_of_getElem? (i := 1116) (by decide +kernel)⟩
theorem lw_p31 : lw_okq (⟨"RackPlannerModel", "puts", "(I)I"⟩, 21) := ⟨⟨by decide +kernel, by decide +kernel⟩, List.mem_of_getElem? (i := 999) (by decide +kernel), List.mem_of_getElem? (i := 1134) (by decide +kernel), List.mem_of_getElem? (i := 1135) (by decide +kernel)⟩
def lw_privs_2 : List (MethodName × Nat) := [(⟨"RackPlanner", "newMachine", "(IIII)LRackPlanner$Machine;"⟩, 7), (⟨"RackPlanner", "indexOfPlaced", "(I)I"⟩, 7), (⟨"java/util/ArrayList", "fastRemove", "([Ljava/lang/Object;I)V"⟩, 3), (⟨"RackPlanner", "requireMachine", "(I)LRackPlanner$Machine;"⟩, 7), (⟨"RackPlanner", "requireRack", "(I)LRackPlanner$Rack;"⟩, 7), (⟨"RackPlanner", "powerNow", "(LRackPlanner$Machine;I)I"⟩, 7), (⟨"RackPlanner", "rowOfMachine", "(LRackPlanner$Machine;)I"⟩, 7), (⟨"RackPlanner$Layout", "countForRack", "(ILRackPlanner$Machine;)I"⟩, 5), (⟨"RackPlanner$Layout", "countBySlots", "(II)I"⟩, 5), (⟨"RackPlannerModel", "isFine", "(I)Z"⟩, 21), (⟨"RackPlannerModel", "rowHeats", "(I)I"⟩, 21), (⟨"RackPlannerModel", "rowWeighs", "(I)I"⟩, 21), (⟨"RackPlannerModel", "weighs", "(I)I"⟩, 21), (⟨"RackPlannerModel", "worst", "(II)I"⟩, 21), (⟨"RackPlannerModel", "isDarkAt", "(I)Z"⟩, 21), (⟨"RackPlannerModel", "puts", "(I)I"⟩, 21)]
theorem lw_r2 : ∀ q ∈ lw_privs_2, lw_okq q := List.forall_mem_cons.mpr ⟨lw_p16, List.forall_mem_cons.mpr ⟨lw_p17, List.forall_mem_cons.mpr ⟨lw_p18, List.forall_mem_cons.mpr ⟨lw_p19, List.forall_mem_cons.mpr ⟨lw_p20, List.forall_mem_cons.mpr ⟨lw_p21, List.forall_mem_cons.mpr ⟨lw_p22, List.forall_mem_cons.mpr ⟨lw_p23, List.forall_mem_cons.mpr ⟨lw_p24, List.forall_mem_cons.mpr ⟨lw_p25, List.forall_mem_cons.mpr ⟨lw_p26, List.forall_mem_cons.mpr ⟨lw_p27, List.forall_mem_cons.mpr ⟨lw_p28, List.forall_mem_cons.mpr ⟨lw_p29, List.forall_mem_cons.mpr ⟨lw_p30, List.forall_mem_cons.mpr ⟨lw_p31, fun _ h => absurd h List.not_mem_nil⟩⟩⟩⟩⟩⟩⟩⟩⟩⟩⟩⟩⟩⟩⟩⟩
theorem lw_p32 : lw_okq (⟨"RackPlannerModel", "slotIn", "(IIIII)I"⟩, 21) := ⟨⟨by decide +kernel, by decide +kernel⟩, List.mem_of_getElem? (i := 999) (by decide +kernel), List.mem_of_getElem? (i := 1138) (by decide +kernel), List.mem_of_getElem? (i := 1139) (by decide +kernel)⟩
theorem lw_p33 : lw_okq (⟨"RackPlannerModel", "isBorne", "(IIII)Z"⟩, 21) := ⟨⟨by decide +kernel, by decide +kernel⟩, List.mem_of_getElem? (i := 999) (by decide +kernel), List.mem_of_getElem? (i := 1142) (by decide +kernel), List.mem_of_getElem? (i := 1143) (by decide +kernel)⟩
theorem lw_p34 : lw_okq (⟨"RackPlannerModel", "isFree", "(III)Z"⟩, 21) := ⟨⟨by decide +kernel, by decide +kernel⟩, List.mem_of_getElem? (i := 999) (by decide +kernel), List.mem_of_getElem? (i := 1146) (by decide +kernel), List.mem_of_getElem? (i := 1147) (by decide +kernel)⟩
theorem lw_p35 : lw_okq (⟨"RackPlannerModel", "inSlot", "(II)I"⟩, 21) := ⟨⟨by decide +kernel, by decide +kernel⟩, List.mem_of_getElem? (i := 999) (by decide +kernel), List.mem_of_getElem? (i := 1150) (by decide +kernel), List.mem_of_getElem? (i := 1151) (by decide +kernel)⟩
theorem lw_p36 : lw_okq (⟨"RackPlannerModel", "find", "(I)I"⟩, 21) := ⟨⟨by decide +kernel, by decide +kernel⟩, List.mem_of_getElem? (i := 999) (by decide +kernel), List.mem_of_getElem? (i := 1158) (by decide +kernel), List.mem_of_getElem? (i := 1159) (by decide +kernel)⟩
theorem lw_p37 : lw_okq (⟨"RackPlannerModel", "nextToPack", "()I"⟩, 21) := ⟨⟨by decide +kernel, by decide +kernel⟩, List.mem_of_getElem? (i := 999) (by decide +kernel), List.mem_of_getElem? (i := 1170) (by decide +kernel), List.mem_of_getElem? (i := 1171) (by decide +kernel)⟩
theorem lw_p38 : lw_okq (⟨"RackPlannerModel", "isAhead", "(II)Z"⟩, 21) := ⟨⟨by decide +kernel, by decide +kernel⟩, List.mem_of_getElem? (i := 999) (by decide +kernel), List.mem_of_getElem? (i := 1174) (by decide +kernel), List.mem_of_getElem? (i := 1175) (by decide +kernel)⟩
theorem lw_p39 : lw_okq (⟨"RackPlannerModel", "isRack", "(I)Z"⟩, 21) := ⟨⟨by decide +kernel, by decide +kernel⟩, List.mem_of_getElem? (i := 999) (by decide +kernel), List.mem_of_getElem? (i := 1198) (by decide +kernel), List.mem_of_getElem? (i := 1199) (by decide +kernel)⟩
theorem lw_p40 : lw_okq (⟨"RackPlannerModel", "way", "(I)I"⟩, 21) := ⟨⟨by decide +kernel, by decide +kernel⟩, List.mem_of_getElem? (i := 999) (by decide +kernel), List.mem_of_getElem? (i := 1206) (by decide +kernel), List.mem_of_getElem? (i := 1207) (by decide +kernel)⟩
theorem lw_p41 : lw_okq (⟨"RackPlannerModel", "takes", "(II)I"⟩, 21) := ⟨⟨by decide +kernel, by decide +kernel⟩, List.mem_of_getElem? (i := 999) (by decide +kernel), List.mem_of_getElem? (i := 1214) (by decide +kernel), List.mem_of_getElem? (i := 1215) (by decide +kernel)⟩
theorem lw_p42 : lw_okq (⟨"RackPlannerModel", "roomIn", "(IIIII)I"⟩, 21) := ⟨⟨by decide +kernel, by decide +kernel⟩, List.mem_of_getElem? (i := 999) (by decide +kernel), List.mem_of_getElem? (i := 1242) (by decide +kernel), List.mem_of_getElem? (i := 1243) (by decide +kernel)⟩
def lw_privs_3 : List (MethodName × Nat) := [(⟨"RackPlannerModel", "slotIn", "(IIIII)I"⟩, 21), (⟨"RackPlannerModel", "isBorne", "(IIII)Z"⟩, 21), (⟨"RackPlannerModel", "isFree", "(III)Z"⟩, 21), (⟨"RackPlannerModel", "inSlot", "(II)I"⟩, 21), (⟨"RackPlannerModel", "find", "(I)I"⟩, 21), (⟨"RackPlannerModel", "nextToPack", "()I"⟩, 21), (⟨"RackPlannerModel", "isAhead", "(II)Z"⟩, 21), (⟨"RackPlannerModel", "isRack", "(I)Z"⟩, 21), (⟨"RackPlannerModel", "way", "(I)I"⟩, 21), (⟨"RackPlannerModel", "takes", "(II)I"⟩, 21), (⟨"RackPlannerModel", "roomIn", "(IIIII)I"⟩, 21)]
theorem lw_r3 : ∀ q ∈ lw_privs_3, lw_okq q := List.forall_mem_cons.mpr ⟨lw_p32, List.forall_mem_cons.mpr ⟨lw_p33, List.forall_mem_cons.mpr ⟨lw_p34, List.forall_mem_cons.mpr ⟨lw_p35, List.forall_mem_cons.mpr ⟨lw_p36, List.forall_mem_cons.mpr ⟨lw_p37, List.forall_mem_cons.mpr ⟨lw_p38, List.forall_mem_cons.mpr ⟨lw_p39, List.forall_mem_cons.mpr ⟨lw_p40, List.forall_mem_cons.mpr ⟨lw_p41, List.forall_mem_cons.mpr ⟨lw_p42, fun _ h => absurd h List.not_mem_nil⟩⟩⟩⟩⟩⟩⟩⟩⟩⟩⟩
def lw_privs : List (MethodName × Nat) := lw_privs_1 ++ (lw_privs_2 ++ (lw_privs_3))
def lw_tbl : List Cond := k2_sels lw_privs ++ tables_1
theorem lw_privs_ok : ∀ q ∈ lw_privs, lw_okq q := by
  show ∀ q ∈ lw_privs_1 ++ (lw_privs_2 ++ (lw_privs_3)), lw_okq q
  exact List.forall_mem_append.mpr ⟨lw_r1, List.forall_mem_append.mpr ⟨lw_r2, lw_r3⟩⟩
end
section
def va_AOA (t : FieldType) (U : State) : Prop := (Cond.arrayOver (.array t)).before #[] U = true
theorem va_AOA.use {t : FieldType} {A : Array Value} {U : State} (h : va_AOA t U) : (Cond.arrayOver (.array t)).before A U = true := h
/-! ===== BEGIN words of one list among another's, by their places ===== -/
theorem goodIn_r {big : List Cond} (ws : List Cond) (ps : List Nat) (hp : ws = ps.filterMap (fun i => big[i]?)) (h : ws.all goodWord = true) : GoodIn big ws := by
  intro w hw
  have h1 := List.all_eq_true.mp h w hw
  rw [hp] at hw
  obtain ⟨i, -, hi⟩ := List.mem_filterMap.mp hw
  have hm : w ∈ big := by first | exact List.mem_of_getElem? hi | exact List.getElem?_mem hi
  exact ⟨hm, good_of_word h1⟩
theorem goodIn_app {big a b : List Cond} (ha : GoodIn big a) (hb : GoodIn big b) : GoodIn big (a ++ b) := fun w h => (List.mem_append.mp h).elim (ha w) (hb w)
theorem goodIn_ca {big a b : List Cond} {c : Cond} (ha : GoodIn big (c :: a)) (hb : GoodIn big b) : GoodIn big (c :: (a ++ b)) := fun w h => (List.mem_cons.mp h).elim (fun e => ha w (List.mem_cons.mpr (Or.inl e))) (fun h => (List.mem_append.mp h).elim (fun h => ha w (List.mem_cons.mpr (Or.inr h))) (hb w))
theorem goodIn_sub {big ws : List Cond} (hm : ∀ w ∈ ws, w ∈ big) (h : ws.all goodWord = true) : GoodIn big ws := fun w hw => ⟨hm w hw, good_of_word (List.all_eq_true.mp h w hw)⟩
/-! ===== END ===== -/

/-! ===== BEGIN new T[n][m]: the outer array a place, the inner ones among the pooled ===== -/
/-- f, but v at every address of l -/
def vr_up {α : Type} (f : Nat → α) (l : List Nat) (v : α) : Nat → α := fun a => if a ∈ l then v else f a
theorem vr_up_in {α : Type} {f : Nat → α} {l : List Nat} {v : α} {a : Nat} (h : a ∈ l) : vr_up f l v a = v := if_pos h
theorem vr_up_ne {α : Type} {f : Nat → α} {l : List Nat} {v : α} {a : Nat} (h : a ∉ l) : vr_up f l v a = f a := if_neg h
theorem vr_rows {L l : List Nat} {f : Nat → va_E} {e : va_E} (h : ∀ a, a ∈ l → a ∉ L) : va_pl L f ++ l.map (fun a => (a, e)) = va_pl (L ++ l) (vr_up f l e) := by
  unfold va_pl
  rw [List.map_append]
  congr 1
  · apply List.map_congr_left
    intro a ha
    rw [vr_up_ne (fun q => h a q ha)]
  · apply List.map_congr_left
    intro a ha
    rw [vr_up_in ha]
theorem vr_lay {X rows : va_W} {x : Nat × va_E} {pl : va_W} {D : va_G} {cl : List vw_C} {H : Heap} (hP : va_P D cl (((X ++ pl) ++ [x]) ++ rows) H) : va_P D cl ((X ++ [x]) ++ (pl ++ rows)) H := by
  rw [List.append_assoc (X ++ pl)] at hP
  have h := va_P.swap hP
  rw [← List.append_assoc X] at h
  have h2 := va_P.swap h
  rw [List.append_assoc (X ++ [x])] at h2
  exact h2
theorem vr_layD {X rows : va_W} {x : Nat × va_E} {pl : va_W} {A : Nat → Prop} (hD : va_D A (((X ++ pl) ++ [x]) ++ rows)) : va_D A ((X ++ [x]) ++ (pl ++ rows)) := by
  rw [List.append_assoc (X ++ pl)] at hD
  have h := va_D.swap hD
  rw [← List.append_assoc X] at h
  have h2 := va_D.swap h
  rw [List.append_assoc (X ++ [x])] at h2
  exact h2
theorem vr_outer (c : ClassId) (N h0 : Nat) : ∀ i : Nat, Jvm.Free.Multi.outerC c N h0 i = arrV c N (fun j => va_rf (if j < i then some (h0 + 1 + j) else none))
  | 0 => by
    show ({ cls := c, slots := Array.replicate N .null, vm := .none } : Cell) = _
    rw [arrV_new]
    refine congrArg (arrV c N) (funext fun j => ?_)
    simp [va_rf]
  | i + 1 => by
    show (Jvm.Free.Multi.outerC c N h0 i).setSlot i (.ref (h0 + 1 + i)) = _
    rw [vr_outer c N h0 i, arrV_store]
    refine congrArg (arrV c N) (funext fun j => ?_)
    by_cases e : j = i
    · subst e
      simp [updV, va_rf]
    · by_cases h : j < i
      · simp [updV, e, h, Nat.lt_succ_of_lt h]
      · simp [updV, e, h, show ¬ j < i + 1 by omega]
section VGM
variable {p : Program} {l : Launch} {e : Env} {R : Room} {s : State} {m : MethodId} {args : Array Value} {below : List Frame} {meth : Method} {c : Code} {H : Heap} {locs : List Loc} {cells slots : Nat} {Q : State → Prop}
variable {cc : ByteArray} {pc : Nat} {ls : Array Slot} {rest : List Value} {D : va_G} {cl : List vw_C} {A : Nat → Prop} {a : Nat} {tys : List (ClassId × FieldType)} {ws : va_W} {H0 : Heap}
theorem va_mna {X : va_W} {L : List Nat} {f : Nat → va_E} {cc : ByteArray} (hexec : p.tables.exec = Jvm.exec) (hb : c.code = cc) {own : String} {index : Nat} {ty : FieldType} {cy : ClassId} (hown : s.vm.findClass own = some m.cls) (hclink : (Cond.classLink own index ("[" ++ (FieldType.array ty).toString)).before args s = true) (hover : va_AOA ty s) (harr : (Cond.arrayClass ty).before args s = true) (hcy : s.vm.findClass (FieldType.array ty).toString = some cy)
    (hK : va_K D cl tys s) (hP : va_P D cl (X ++ va_pl L f) H) (hD : va_D A (X ++ va_pl L f)) (hS : va_S A H0 H locs) (hA : ∀ q, H0.size ≤ q → A q) {n k : Int32} {N' K' : Nat} {z : vp_A} (hn : ¬ n < 0) (hk : ¬ k < 0) (hN : n.toNatClampNeg = N') (hM : k.toNatClampNeg = K')
    (hb1 : N' * 4 ≤ 536870912) (hb2 : K' * componentBytes ty ≤ 536870912) (hb3 : K' ≤ 536870912) (hdf : fits ty (defaultValue ty) = true) (hdd : (defaultValue ty).isDefault = true) (hcells : cells + (1 + N') ≤ R.cells) (hslots : slots + (N' + N' * K') ≤ R.slots) (hz : ∀ c : ClassId, Jvm.Free.Multi.innerC c K' (defaultValue ty) = vp_cell c z) (hdg : decode cc pc = .ok (.multianewarray index 2, 4))
    (kk : ∀ (q : Nat) (r : Nat → Nat) (cA : ClassId) (H1 : Heap), (∀ i j : Nat, i < N' → j < N' → r i = r j → i = j) → (∀ i : Nat, i < N' → r i ∉ L) → va_K D cl (tys ++ [(cA, .array ty)]) s →
      va_P D cl ((X ++ [(q, .inl (cA, N', .inr (.inr (.inr (.inr (fun i => if i < N' then some (r i) else none))))))]) ++ va_pl (L ++ (List.range N').map r) (vr_up f ((List.range N').map r) (.inl (cy, z)))) H1 → va_D A ((X ++ [(q, .inl (cA, N', .inr (.inr (.inr (.inr (fun i => if i < N' then some (r i) else none))))))]) ++ va_pl (L ++ (List.range N').map r) (vr_up f ((List.range N').map r) (.inl (cy, z)))) → va_S A H0 H1 locs →
      W p l e R s m args below meth c H1 locs (cells + 1 + N') (slots + N' + N' * K') Q (F0 m (pc + 4) ls (.ref q :: rest))) : W p l e R s m args below meth c H locs cells slots Q (F0 m pc ls (.int k :: .int n :: rest)) := by
  subst hN
  subst hM
  intro T hT Xs
  obtain ⟨vm₁, cA, comp, -, fA, fC, hO, -, X', step⟩ := Xs.multianewarray2F hexec hown hclink (va_AOA.use hover) harr (g := F0 m pc ls (.int k :: .int n :: rest)) rfl (by rw [hb]; exact hdg) rfl hn hk hb1 hb2 hb3 hdf hdd hcells hslots
  have ec : some cy = some comp := hcy.symm.trans fC
  cases ec
  generalize hF : Jvm.Free.Multi.fill (T.setVm vm₁) cA cy n.toNatClampNeg k.toNatClampNeg (defaultValue ty) n.toNatClampNeg = F at X' step
  have hTh : (T.setVm vm₁).heap = H := hT
  obtain ⟨f1, f2, -, -⟩ := Jvm.Free.Multi.fill_facts (T.setVm vm₁) cA cy n.toNatClampNeg k.toNatClampNeg (defaultValue ty) n.toNatClampNeg
  rw [hF, hTh] at f1 f2
  have hold : ∀ x : Nat, x < H.size → F.heap[x]? = H[x]? := fun x hx => by
    have := Jvm.Free.Multi.fill_old (T.setVm vm₁) cA cy n.toNatClampNeg k.toNatClampNeg (defaultValue ty) (a := x) (by rw [hTh]; exact hx) n.toNatClampNeg
    rw [hF, hTh] at this
    exact this
  have hrow : ∀ j : Nat, j < n.toNatClampNeg → F.heap[H.size + 1 + j]? = some (vp_cell cy z) := fun j hj => by
    have := Jvm.Free.Multi.fill_inner (T.setVm vm₁) cA cy n.toNatClampNeg k.toNatClampNeg (defaultValue ty) n.toNatClampNeg j hj
    rw [hF, hTh, hz] at this
    exact this
  have hout : Jvm.Free.Multi.outerC cA n.toNatClampNeg H.size n.toNatClampNeg = vp_cell cA (n.toNatClampNeg, .inr (.inr (.inr (.inr (fun i => if i < n.toNatClampNeg then some (H.size + 1 + i) else none))))) := by
    rw [vp_cell_q]
    exact vr_outer cA n.toNatClampNeg H.size n.toNatClampNeg
  rw [hout] at f2
  have hlt : ∀ a, a ∈ L → a < H.size := fun a ha => by
    obtain ⟨k9, hk9⟩ := va_pl_get (X := X) (f := f) ha
    exact (hP k9 _ hk9).lt
  have hnl : ∀ i : Nat, i < n.toNatClampNeg → H.size + 1 + i ∉ L := fun i _ h => by
    have := hlt _ h
    omega
  have hnm : ∀ a, a ∈ (List.range n.toNatClampNeg).map (fun i => H.size + 1 + i) → a ∉ L := fun a ha h => by
    obtain ⟨i, -, rfl⟩ := List.mem_map.mp ha
    have := hlt _ h
    omega
  have hP0 : va_P D cl (X ++ va_pl L f) F.heap := hP.kept (fun k9 x hx => hold x.1 ((hP k9 x hx).lt))
  have hP1 : va_P D cl ((X ++ va_pl L f) ++ [(H.size, .inl (cA, n.toNatClampNeg, .inr (.inr (.inr (.inr (fun i => if i < n.toNatClampNeg then some (H.size + 1 + i) else none))))))]) F.heap := hP0.app (fun k9 x hx => by
    have h0 : k9 < 1 := (List.getElem?_eq_some_iff.mp hx).1
    rw [show k9 = 0 by omega] at hx
    cases hx
    exact f2)
  have hP2 : va_P D cl (((X ++ va_pl L f) ++ [(H.size, .inl (cA, n.toNatClampNeg, .inr (.inr (.inr (.inr (fun i => if i < n.toNatClampNeg then some (H.size + 1 + i) else none))))))]) ++ ((List.range n.toNatClampNeg).map (fun i => H.size + 1 + i)).map (fun a => (a, .inl (cy, z)))) F.heap := hP1.app (fun k9 x hx => by
    obtain ⟨a, ha, rfl⟩ := List.mem_map.mp (List.mem_of_getElem? hx)
    obtain ⟨i, hi, rfl⟩ := List.mem_map.mp ha
    exact hrow i (List.mem_range.mp hi))
  have hD2 : va_D A (((X ++ va_pl L f) ++ [(H.size, .inl (cA, n.toNatClampNeg, .inr (.inr (.inr (.inr (fun i => if i < n.toNatClampNeg then some (H.size + 1 + i) else none))))))]) ++ ((List.range n.toNatClampNeg).map (fun i => H.size + 1 + i)).map (fun a => (a, .inl (cy, z)))) := by
    have hD1 := hD.push (e := .inl (cA, n.toNatClampNeg, .inr (.inr (.inr (.inr (fun i => if i < n.toNatClampNeg then some (H.size + 1 + i) else none)))))) hP rfl (hA _ hS.1)
    generalize hW1 : (X ++ va_pl L f) ++ [(H.size, .inl (cA, n.toNatClampNeg, .inr (.inr (.inr (.inr (fun i => if i < n.toNatClampNeg then some (H.size + 1 + i) else none))))))] = W1 at hD1 hP1 ⊢
    have hle : ∀ (k9 : Nat) (x : Nat × va_E), W1[k9]? = some x → x.1 ≤ H.size := fun k9 x hx => by
      rw [← hW1] at hx
      by_cases hl : k9 < (X ++ va_pl L f).length
      · rw [List.getElem?_append_left hl] at hx
        exact Nat.le_of_lt ((hP k9 x hx).lt)
      · rw [List.getElem?_append_right (by omega)] at hx
        have h0 : k9 - (X ++ va_pl L f).length < 1 := (List.getElem?_eq_some_iff.mp hx).1
        rw [show k9 - (X ++ va_pl L f).length = 0 by omega] at hx
        cases hx
        exact Nat.le_refl _
    have hr : ∀ (k9 : Nat) (x : Nat × va_E), (((List.range n.toNatClampNeg).map (fun i => H.size + 1 + i)).map (fun a => ((a, .inl (cy, z)) : Nat × va_E)))[k9]? = some x → x.1 = H.size + 1 + k9 := fun k9 x hx => by
      rw [List.getElem?_map, List.getElem?_map] at hx
      by_cases h9 : k9 < n.toNatClampNeg
      · rw [List.getElem?_range h9] at hx
        cases hx
        rfl
      · have hn0 : (List.range n.toNatClampNeg)[k9]? = none := List.getElem?_eq_none (by rw [List.length_range]; omega)
        rw [hn0] at hx
        cases hx
    refine ⟨fun i j x y hi hj hxy => ?_, fun k9 x hx => ?_⟩
    · by_cases h1 : i < W1.length <;> by_cases h2 : j < W1.length
      · rw [List.getElem?_append_left h1] at hi
        rw [List.getElem?_append_left h2] at hj
        exact hD1.1 i j x y hi hj hxy
      · rw [List.getElem?_append_left h1] at hi
        rw [List.getElem?_append_right (by omega)] at hj
        have := hle _ _ hi
        have := hr _ _ hj
        omega
      · rw [List.getElem?_append_right (by omega)] at hi
        rw [List.getElem?_append_left h2] at hj
        have := hle _ _ hj
        have := hr _ _ hi
        omega
      · rw [List.getElem?_append_right (by omega)] at hi hj
        have := hr _ _ hi
        have := hr _ _ hj
        omega
    · by_cases h1 : k9 < W1.length
      · rw [List.getElem?_append_left h1] at hx
        exact hD1.2 k9 x hx
      · rw [List.getElem?_append_right (by omega)] at hx
        have := hr _ _ hx
        exact hA _ (by have := hS.1; omega)
  have hAr : ArrOfT s cA (.array ty) := fun N9 z9 => by
    obtain ⟨-, k9, hk9, cm9, hkk9⟩ := (hO 0 0 0).1
    exact ⟨(fun q hq => by cases hq), k9, hk9, cm9, hkk9⟩
  have hK2 : va_K D cl (tys ++ [(cA, .array ty)]) s := ⟨hK.1, fun k9 x hx => by
    by_cases hl : k9 < tys.length
    · rw [List.getElem?_append_left hl] at hx
      exact hK.2 k9 x hx
    · rw [List.getElem?_append_right (by omega)] at hx
      have h0 : k9 - tys.length < 1 := (List.getElem?_eq_some_iff.mp hx).1
      rw [show k9 - tys.length = 0 by omega] at hx
      cases hx
      exact ⟨hAr, fA⟩⟩
  obtain ⟨t, a1, b1⟩ := kk H.size (fun i => H.size + 1 + i) cA F.heap (fun i j _ _ h => by have h9 : H.size + 1 + i = H.size + 1 + j := h; omega) hnl hK2 (by rw [← vr_rows hnm]; exact vr_lay hP2) (by rw [← vr_rows hnm]; exact vr_layD hD2) ⟨by rw [f1]; have := hS.1; omega, fun x h1 h2 => (hold x (Nat.lt_of_lt_of_le h1 hS.1)).trans (hS.2.1 x h1 h2), hS.2.2⟩ F rfl X'
  refine ⟨t, step t ?_, b1⟩
  have e : T.heap.size = H.size := by rw [hT]
  rw [e]
  exact a1
end VGM
/-! ===== END ===== -/

/-! ===== BEGIN exceptions that leave a method, and their catching by the caller (launches without stack traces) ===== -/
section VXA
/-! The laws vx_back, vx_callV, vx_callS, vx_callSW, vx_throw0, vx_throwS follow proofs of the library, with one case more: JvmDerived/Free/Laws.lean (Back.of_free), Shelf42/LK1.lean (callV, callS), Shelf/KitTraced.lean (throwNew0V, throwNewS). -/
/-- where a method has thrown q: the class by its name, the cell, what was written, the world -/
def vx_T (XC : String → State → State → Prop) (st : State) (q : Addr) (t : State) (mc ms : Nat) (free : Addr → Prop) : Prop :=
  ∃ (E : String) (ce : Cell) (L : List Loc), XC E st t ∧ t.heap[q]? = some ce ∧ ce.vm = .none ∧ st.vm.findClass E = some ce.cls ∧ st.WarmedH t.vm ∧ st.sameButNew ({ t with vm := st.vm } : State) L mc ms ∧ ∀ z ∈ L, free z.base
def vx_Q (Qc : Array Value → State → Outcome → State → Prop) (XC : String → State → State → Prop) (mc ms : Nat) (free : Addr → Prop) : Array Value → State → Outcome → State → Prop := fun a st o t =>
  (Qc a st o t ∧ ∃ L, FrameEnd st o t L mc ms ∧ ∀ q ∈ L, free q.base) ∨ ∃ q, o = .threw q ∧ vx_T XC st q t mc ms free
/-- a callee that returns or throws -/
def vx_Met (l : Launch) (y : MethodName) (ws : List Cond) (rm : Room) (Pc : Array Value → State → Prop) (Qc : Array Value → State → Outcome → State → Prop) (XC : String → State → State → Prop) (mc ms : Nat) (free : Addr → Prop) : Prop :=
  MetFree l y (headSpec ws rm) Pc (fun _ _ _ _ _ => True) (vx_Q Qc XC mc ms free)
def vx_Post (XC : String → State → State → Prop) (mc ms : Nat) (free : Addr → Prop) : Pt → Array Value → Addr → Pt → Prop := fun A a q B =>
  ∃ (g : JFrame) (mk : MethodId) (t : State) (L : List Loc) (E : String) (ce : Cell), B.U.heap = t.heap ∧ B.U.vm = t.vm ∧ XC E (A.U.calling g mk a) t ∧ t.heap[q]? = some ce ∧ ce.vm = .none ∧ A.U.vm.findClass E = some ce.cls ∧ B.locs = A.locs ++ L ∧ (∀ z ∈ L, free z.base) ∧ B.cells = A.cells + mc ∧ B.slots = A.slots + ms
def vx_Back (l : Launch) (R : Room) (p : Program) (e : Env) (below : List Frame) (s : State) (sargs : Array Value) (y : MethodName) (len W9 : Nat)
    (Pre : Pt → Array Value → Prop) (Post : Pt → Array Value → Option Value → Pt → Prop) (PostX : Pt → Array Value → Addr → Pt → Prop) : Prop :=
  ∀ (m : MethodId) (meth : Method) (c : Code) (A : Pt) (g : JFrame) (ig : Instr) (mk : MethodId) (a : Array Value),
    Stand p l e R s m sargs below meth c A.U A.locs A.cells A.slots → g.method = m → g.locals.size = c.maxLocals → decode c.code g.pc = .ok (ig, len) →
    2 * g.monitorRoom + (g.stack.map fun v => v.category).sum ≤ W9 → A.U.methodNamed? y = some mk → Pre A a →
    (∃ (v : Option Value) (B : Pt), Stand p l e R s m sargs below meth c B.U B.locs B.cells B.slots ∧ Post A a v B ∧
      Steps p.tables e below (doInvoke e (A.U.setTop g) [] mk a).1 (B.U.setTop { g with pc := g.pc + len, stack := v.toList ++ g.stack })) ∨
    (∃ (q : Addr) (B : Pt), Stand p l e R s m sargs below meth c B.U B.locs B.cells B.slots ∧ PostX A a q B ∧
      Steps p.tables e below (doInvoke e (A.U.setTop g) [] mk a).1 ((B.U.setTop g).pushFrame (.throwing q)))
section Payer
variable {l : Launch} {R : Room} {p : Program} {e : Env} {below : List Frame} {s : State} {sargs : Array Value} {y : MethodName} {len W9 : Nat}
theorem vx_back {ws : List Cond} {rm : Room} {Pc : Array Value → State → Prop} {Qc : Array Value → State → Outcome → State → Prop} {XC : String → State → State → Prop} {mc ms : Nat} {free : Addr → Prop} {bytes : ByteArray} {maxL : Nat} {ret : Option FieldType}
    (hM : vx_Met l y ws rm Pc Qc XC mc ms free) (hblind : FrameBlind Pc) (hrc : rm.cells = mc) (hrs : rm.slots = ms)
    (hframes : rm.frames + 1 ≤ R.frames) (hlocals : W9 + (maxL + 11) + rm.locals ≤ R.locals)
    (hws : ∀ w ∈ ws, ∀ a' U, s.WarmedH U.vm → w.before a' U = true) (hcode : Cond.code y bytes maxL ret ∈ ws) (hinit : ∀ a' U, s.WarmedH U.vm → (Cond.initialized y.cls).before a' U = true) :
    vx_Back l R p e below s sargs y len W9 (PreOf R mc ms Pc) (PostOf Qc mc ms free) (vx_Post XC mc ms free) := by
  intro m meth c A g ig mk a X hg hsize hdg hW hn hp
  have h1 : (headSpec ws rm).pre.before a A.U = true := atoms_intro fun w hw => hws w hw _ _ X.warmed
  have h2 : (Cond.code y bytes maxL ret).before a A.U = true := hws _ hcode _ _ X.warmed
  have h3 : (Cond.initialized y.cls).before a A.U = true := hinit _ _ X.warmed
  have h4 : A.cells + (headSpec ws rm).room.cells ≤ R.cells := by rw [show (headSpec ws rm).room.cells = mc from hrc]; exact hp.1
  have h5 : A.slots + (headSpec ws rm).room.slots ≤ R.slots := by rw [show (headSpec ws rm).room.slots = ms from hrs]; exact hp.2.1
  have hPc : Pc a (A.U.calling g mk a) := hblind _ _ _ _ hp.2.2
  obtain ⟨U, Ls, c0, s0⟩ := A
  dsimp only [Pt.U, Pt.locs, Pt.cells, Pt.slots] at h1 h2 h3 h4 h5 X hn hPc ⊢
  obtain ⟨methY, cY, hmY, hcY, -, hlY, -, -, -, -⟩ := Cond.code_spec hn h2
  obtain ⟨kY, hkY, -⟩ := className_of_methodNamed hn
  have hinitY : kY.init = .initialized := Cond.initialized_spec (findClass_of_methodNamed hn) hkY h3
  have h : At U g.method c below := by rw [hg]; exact X.here
  have hlocals9 : W9 + (maxL + 11) + (headSpec ws rm).room.locals ≤ R.locals := hlocals
  have happ : (headSpec ws rm).appliesLoose y e.platform (U.calling g mk a) = true :=
    Spec.appliesLoose_calling (g := g) h hdg hn hkY hinitY
      (X.room_calling (g := g) (R' := (headSpec ws rm).room) hsize hmY hcY hframes (by rw [hlY]; omega) h4 h5) h1
  obtain ⟨mid, hmid⟩ := h.above
  have hfr : (U.setTop g).frames = (.java g :: mid) ++ below := by rw [State.frames_setTop' g h.top, hmid]; rfl
  obtain ⟨o, s₂, hsteps, -, hend, hq⟩ := Steps.callFree hM p X.admits X.cas X.clock (acts := []) hfr happ hPc trivial
  have hq' : vx_Q Qc XC mc ms free a (U.calling g mk a) o s₂ := hq
  rw [State.frames_setTop' g h.top] at hend
  obtain ⟨g₀, hg0⟩ := Option.isSome_iff_exists.mp h.top
  obtain ⟨r, hr⟩ := State.topJava?_eq_some.mp hg0
  have hr' : (({ U with heap := s₂.heap, slotsUsed := s₂.slotsUsed } : State).setVm s₂.vm).frames = .java g₀ :: r := hr
  rcases hq' with ⟨hqc, L, hfe, hL⟩ | ⟨q, rfl, E, ce, L, hx, hce, hcv, hcl, hW₂, hsm, hL⟩
  · obtain ⟨⟨v, rfl⟩, hW₂, e2, q2, q3, q4, q5, q6⟩ := id hfe
    have e3 : s₂ = ({ (U.calling g mk a).setFrames s₂.frames with heap := s₂.heap, slotsUsed := s₂.slotsUsed } : State).setVm s₂.vm := by
      have : s₂ = ({ s₂ with vm := (U.calling g mk a).vm } : State).setVm s₂.vm := rfl
      rw [e2] at this
      exact this
    obtain ⟨c₂, i₂, len₂, hc₂, hd₂, hf₂⟩ := hend
    have hW' : U.WarmedH s₂.vm := hW₂
    have hcc : c₂ = c := by
      have h1 : s₂.code? g.method = U.code? g.method := by
        rw [State.code?_eq, State.code?_eq, hW'.alike.method?]
      exact Option.some.inj (hc₂.symm.trans (h1.trans h.code))
    subst hcc
    have hlen : len₂ = len := by rw [hdg] at hd₂; cases hd₂; rfl
    subst hlen
    have hs₂ : s₂ = (({ U with heap := s₂.heap, slotsUsed := s₂.slotsUsed } : State).setVm s₂.vm).setTop { g with pc := g.pc + len₂, stack := v.toList ++ g.stack } := by
      refine e3.trans ?_
      rw [hf₂, State.calling_eq h.top, State.setFrames_setFrames, State.setTop_of_frames _ hr', hr]
      rfl
    have hsame : U.sameButNew ({ U with heap := s₂.heap, slotsUsed := s₂.slotsUsed } : State) L mc ms := by
      refine ⟨?_, q2, q3, q4, q5, q6⟩
      obtain ⟨t, ht, -⟩ := State.frames_cons hr
      show ({ U with heap := s₂.heap, slotsUsed := s₂.slotsUsed } : State) = { U.setFrames U.frames with heap := s₂.heap, slotsUsed := s₂.slotsUsed }
      rw [State.setFrames_self ht]
    subst hg
    refine Or.inl ⟨v, ⟨(({ U with heap := s₂.heap, slotsUsed := s₂.slotsUsed } : State).setVm s₂.vm), Ls ++ L, c0 + mc, s0 + ms⟩,
      ⟨X.admits, X.cas, X.clock, X.frames, X.room, X.hears, X.method, X.code, (X.here.setHeapUsed s₂.heap s₂.slotsUsed).setVm hW'.alike, X.tail, State.WarmedH.trans X.warmed hW', X.limits, X.bytes, X.same.trans (hsame.setVm s.vm)⟩,
      ⟨g, mk, s₂, L, rfl, rfl, hqc, rfl, hL, rfl, rfl⟩, ?_⟩
    show Steps p.tables e below _ ((({ U with heap := s₂.heap, slotsUsed := s₂.slotsUsed } : State).setVm s₂.vm).setTop { g with pc := g.pc + len₂, stack := v.toList ++ g.stack })
    rw [← hs₂]
    exact hsteps
  · obtain ⟨e2, q2, q3, q4, q5, q6⟩ := id hsm
    have e3 : s₂ = ({ (U.calling g mk a).setFrames s₂.frames with heap := s₂.heap, slotsUsed := s₂.slotsUsed } : State).setVm s₂.vm := by
      have : s₂ = ({ s₂ with vm := (U.calling g mk a).vm } : State).setVm s₂.vm := rfl
      rw [e2] at this
      exact this
    have hf₂ : s₂.frames = .throwing q :: .java g :: U.frames.tail := hend
    have hW' : U.WarmedH s₂.vm := hW₂
    have hs₂ : s₂ = ((({ U with heap := s₂.heap, slotsUsed := s₂.slotsUsed } : State).setVm s₂.vm).setTop g).pushFrame (.throwing q) := by
      refine e3.trans ?_
      rw [hf₂, State.calling_eq h.top, State.setFrames_setFrames, State.pushFrame, State.frames_setTop _ hr', State.setTop_of_frames _ hr', State.setFrames_setFrames, hr]
      rfl
    have hsame : U.sameButNew ({ U with heap := s₂.heap, slotsUsed := s₂.slotsUsed } : State) L mc ms := by
      refine ⟨?_, q2, q3, q4, q5, q6⟩
      obtain ⟨t, ht, -⟩ := State.frames_cons hr
      show ({ U with heap := s₂.heap, slotsUsed := s₂.slotsUsed } : State) = { U.setFrames U.frames with heap := s₂.heap, slotsUsed := s₂.slotsUsed }
      rw [State.setFrames_self ht]
    subst hg
    refine Or.inr ⟨q, ⟨(({ U with heap := s₂.heap, slotsUsed := s₂.slotsUsed } : State).setVm s₂.vm), Ls ++ L, c0 + mc, s0 + ms⟩,
      ⟨X.admits, X.cas, X.clock, X.frames, X.room, X.hears, X.method, X.code, (X.here.setHeapUsed s₂.heap s₂.slotsUsed).setVm hW'.alike, X.tail, State.WarmedH.trans X.warmed hW', X.limits, X.bytes, X.same.trans (hsame.setVm s.vm)⟩,
      ⟨g, mk, s₂, L, E, ce, rfl, rfl, hx, hce, hcv, hcl, rfl, hL, rfl, rfl⟩, ?_⟩
    show Steps p.tables e below _ (((({ U with heap := s₂.heap, slotsUsed := s₂.slotsUsed } : State).setVm s₂.vm).setTop g).pushFrame (.throwing q))
    rw [← hs₂]
    exact hsteps
end Payer
section Calls
variable {p : Program} {l : Launch} {e : Env} {R : Room} {s : State} {m : MethodId} {args : Array Value} {below : List Frame} {meth : Method} {c : Code} {T : State} {locs : List Loc} {cells slots : Nat}
theorem vx_callV (X : Stand p l e R s m args below meth c T locs cells slots) (hexec : p.tables.exec = Jvm.exec) {own C : String} {index : Nat} {y : MethodName} {bytes : ByteArray} {maxL : Nat} {ret : Option FieldType}
    (hown : s.vm.findClass own = some m.cls) (hlink : (Cond.methodLink own index y).before args s = true) (hinst : (Cond.instanceMethod y).before args s = true) (hsel : (Cond.selects C y y).before args s = true)
    (hcode : (Cond.code y bytes maxL ret).before args s = true) (hy : y.cls ≠ "java/lang/invoke/MethodHandle" ∧ y.cls ≠ "java/lang/invoke/VarHandle")
    {W9 : Nat} {Pre : Pt → Array Value → Prop} {Post : Pt → Array Value → Option Value → Pt → Prop} {PostX : Pt → Array Value → Addr → Pt → Prop} (hK : vx_Back l R p e below s args y 3 W9 Pre Post PostX)
    {b : Addr} {cellB : Cell} (hcell : T.heap[b]? = some cellB) (hobj : cellB.vm.isStatics = false) (hcls : s.vm.findClass C = some cellB.cls)
    {g : JFrame} (hg : g.method = m) (hsize : g.locals.size = c.maxLocals) {argsL rest : List Value} (hlen : ∀ sig, parseMethodDescriptor y.desc = some sig → argsL.length = sig.parameters.length)
    (hstack : g.stack = argsL.reverse ++ .ref b :: rest) (hW : 2 * g.monitorRoom + (rest.map fun v => v.category).sum ≤ W9) (hdg : decode c.code g.pc = .ok (.invokevirtual index, 3))
    (hpre : ∀ vm₁, s.WarmedH vm₁ → Pre ⟨T.setVm vm₁, locs, cells, slots⟩ (Value.ref b :: argsL).toArray) :
    (∃ (v : Option Value) (vm₁ : Vm) (B : Pt), s.WarmedH vm₁ ∧ Stand p l e R s m args below meth c B.U B.locs B.cells B.slots ∧ Post ⟨T.setVm vm₁, locs, cells, slots⟩ (Value.ref b :: argsL).toArray v B ∧
      ∀ target, Steps p.tables e below (B.U.setTop { g with pc := g.pc + 3, stack := v.toList ++ rest }) target → Steps p.tables e below (T.setTop g) target) ∨
    (∃ (q : Addr) (vm₁ : Vm) (B : Pt), s.WarmedH vm₁ ∧ Stand p l e R s m args below meth c B.U B.locs B.cells B.slots ∧ PostX ⟨T.setVm vm₁, locs, cells, slots⟩ (Value.ref b :: argsL).toArray q B ∧
      Steps p.tables e below (T.setTop g) ((B.U.setTop { g with stack := rest }).pushFrame (.throwing q))) := by
  obtain ⟨mk, methM, hnamed, hmethM, hstM, habM⟩ := Cond.instanceMethod_spec hinst
  obtain ⟨methM', cM, hmethM', -, -, -, -, -, -, hsigM⟩ := Cond.code_spec hnamed hcode
  cases hmethM.symm.trans hmethM'
  obtain ⟨c2, r2, m2, q1, q2, q3, q4, kP, hkP, hkPi⟩ := Cond.selects_spec hsel
  cases hcls.symm.trans q1
  cases (State.methodFound?_of_named hnamed hy).symm.trans q2
  cases hnamed.symm.trans q3
  have hselP : selectMethod e.platform s.vm cellB.cls mk = .method mk := by rw [Launch.admits_selectMethod X.admits]; exact q4
  obtain ⟨vm₁, X₁, hstep₁⟩ := X.invokevirtual hexec hown hlink hnamed hmethM hstM hkP hkPi hy (a := b) (cell := cellB) hcell
    (fun z h => by rw [h] at hobj; cases hobj) hselP hmethM habM hkP hkPi (g := g) hg (argsL := argsL) (rest := rest) (hlen _ hsigM) hstack hdg
  rcases hK m meth c ⟨T.setVm vm₁, locs, cells, slots⟩ { g with stack := rest } (.invokevirtual index) mk (Value.ref b :: argsL).toArray X₁ hg hsize hdg hW (X₁.named hnamed) (hpre vm₁ X₁.warmed) with ⟨v, B, X', hpost, hsteps⟩ | ⟨q, B, X', hpost, hsteps⟩
  · exact Or.inl ⟨v, vm₁, B, X₁.warmed, X', hpost, fun target h => hstep₁ _ fun acts => by rw [doInvoke_state]; exact hsteps.trans h⟩
  · exact Or.inr ⟨q, vm₁, B, X₁.warmed, X', hpost, hstep₁ _ fun acts => by rw [doInvoke_state]; exact hsteps⟩
theorem vx_callS (X : Stand p l e R s m args below meth c T locs cells slots) (hexec : p.tables.exec = Jvm.exec) {own : String} {index : Nat} {y : MethodName} {bytes : ByteArray} {maxL : Nat} {ret : Option FieldType}
    (hown : s.vm.findClass own = some m.cls) (hlink : (Cond.methodLink own index y).before args s = true) (hstat : (Cond.static y).before args s = true) (hinit : (Cond.initialized y.cls).before args s = true)
    (hcode : (Cond.code y bytes maxL ret).before args s = true) (hy : y.cls ≠ "java/lang/invoke/MethodHandle" ∧ y.cls ≠ "java/lang/invoke/VarHandle")
    {W9 : Nat} {Pre : Pt → Array Value → Prop} {Post : Pt → Array Value → Option Value → Pt → Prop} {PostX : Pt → Array Value → Addr → Pt → Prop} (hK : vx_Back l R p e below s args y 3 W9 Pre Post PostX)
    {g : JFrame} (hg : g.method = m) (hsize : g.locals.size = c.maxLocals) {argsL rest : List Value} (hlen : ∀ sig, parseMethodDescriptor y.desc = some sig → argsL.length = sig.parameters.length)
    (hstack : g.stack = argsL.reverse ++ rest) (hW : 2 * g.monitorRoom + (rest.map fun v => v.category).sum ≤ W9) (hdg : decode c.code g.pc = .ok (.invokestatic index, 3))
    (hpre : ∀ vm₁, s.WarmedH vm₁ → Pre ⟨T.setVm vm₁, locs, cells, slots⟩ argsL.toArray) :
    (∃ (v : Option Value) (vm₁ : Vm) (B : Pt), s.WarmedH vm₁ ∧ Stand p l e R s m args below meth c B.U B.locs B.cells B.slots ∧ Post ⟨T.setVm vm₁, locs, cells, slots⟩ argsL.toArray v B ∧
      ∀ target, Steps p.tables e below (B.U.setTop { g with pc := g.pc + 3, stack := v.toList ++ rest }) target → Steps p.tables e below (T.setTop g) target) ∨
    (∃ (q : Addr) (vm₁ : Vm) (B : Pt), s.WarmedH vm₁ ∧ Stand p l e R s m args below meth c B.U B.locs B.cells B.slots ∧ PostX ⟨T.setVm vm₁, locs, cells, slots⟩ argsL.toArray q B ∧
      Steps p.tables e below (T.setTop g) ((B.U.setTop { g with stack := rest }).pushFrame (.throwing q))) := by
  obtain ⟨mk, hnamed⟩ := Cond.code_named hcode
  obtain ⟨methM, cM, hmethM, -, -, -, -, -, -, hsigM⟩ := Cond.code_spec hnamed hcode
  have hstatic : methM.isStatic = true := Cond.static_spec hnamed hmethM hstat
  obtain ⟨kP, hkP, -⟩ := className_of_methodNamed hnamed
  have hinitP : kP.init = .initialized := Cond.initialized_spec (findClass_of_methodNamed hnamed) hkP hinit
  obtain ⟨vm₁, X₁, hstep₁⟩ := X.invokestatic hexec hown hlink hnamed hmethM hstatic hkP hinitP hy (g := g) hg (argsL := argsL) (rest := rest) (hlen _ hsigM) hstack hdg
  rcases hK m meth c ⟨T.setVm vm₁, locs, cells, slots⟩ { g with stack := rest } (.invokestatic index) mk argsL.toArray X₁ hg hsize hdg hW (X₁.named hnamed) (hpre vm₁ X₁.warmed) with ⟨v, B, X', hpost, hsteps⟩ | ⟨q, B, X', hpost, hsteps⟩
  · exact Or.inl ⟨v, vm₁, B, X₁.warmed, X', hpost, fun target h => hstep₁ _ fun acts => by rw [doInvoke_state]; exact hsteps.trans h⟩
  · exact Or.inr ⟨q, vm₁, B, X₁.warmed, X', hpost, hstep₁ _ fun acts => by rw [doInvoke_state]; exact hsteps⟩
end Calls
theorem vx_cls {s : State} {T : State} {vm₁ : Vm} {E : String} {k : ClassId} (hW : s.WarmedH vm₁) (h : (T.setVm vm₁).vm.findClass E = some k) : s.vm.findClass E = some k := by
  have h1 : vm₁.findClass E = some k := h
  rw [hW.alike.findClass] at h1
  exact h1
/-- the method's frame g, with q thrown over it -/
def vx_W (p : Program) (l : Launch) (e : Env) (R : Room) (s : State) (m : MethodId) (args : Array Value) (below : List Frame) (meth : Method) (c : Code) (H : Heap) (locs : List Loc) (cells slots : Nat) (Q : State → Prop) (g : JFrame) (q : Addr) : Prop :=
  ∀ T : State, T.heap = H → Stand p l e R s m args below meth c T locs cells slots → ∃ t, Steps p.tables e below ((T.setTop g).pushFrame (.throwing q)) t ∧ Q t
def vx_Run (p : Program) (l : Launch) (e : Env) (R : Room) (s : State) (m : MethodId) (args : Array Value) (below : List Frame) (meth : Method) (c : Code) (H : Heap) (locs : List Loc) (cells slots mc ms : Nat) (g : JFrame) (rest : List Value) (Qa : State → Outcome → State → Prop) (XC : String → State → State → Prop) (free : Addr → Prop) : Prop :=
  ∀ T : State, T.heap = H → Stand p l e R s m args below meth c T locs cells slots →
    (∃ (v : Option Value) (st₀ t T' : State) (L : List Loc), st₀.heap = H ∧ Stand p l e R s m args below meth c T' (locs ++ L) (cells + mc) (slots + ms) ∧ (∀ q ∈ L, free q.base) ∧ T'.heap = t.heap ∧ T'.vm = t.vm ∧ Qa st₀ (.returned v) t ∧
      Goes p e below T g T' { g with pc := g.pc + 3, stack := v.toList ++ rest }) ∨
    (∃ (q : Addr) (st₀ t T' : State) (L : List Loc) (E : String) (ce : Cell), st₀.heap = H ∧ Stand p l e R s m args below meth c T' (locs ++ L) (cells + mc) (slots + ms) ∧ (∀ z ∈ L, free z.base) ∧ T'.heap = t.heap ∧ T'.vm = t.vm ∧ XC E st₀ t ∧ t.heap[q]? = some ce ∧ ce.vm = .none ∧ s.vm.findClass E = some ce.cls ∧
      Steps p.tables e below (T.setTop g) ((T'.setTop { g with stack := rest }).pushFrame (.throwing q)))
def vx_X {S : Type} (px : S → Prop) (B : String → S → State → Prop) (A : Nat → Prop) : String → State → State → Prop := fun E st t => ∃ u : S, px u ∧ B E u t ∧ va_F A st t
section Runs
variable {p : Program} {l : Launch} {e : Env} {R : Room} {s : State} {m : MethodId} {args : Array Value} {below : List Frame} {meth : Method} {c : Code} {H : Heap} {locs : List Loc} {cells slots : Nat}
variable {y : MethodName} {bytes cc : ByteArray} {maxL nL mc ms n index : Nat} {ret : Option FieldType} {ws : List Cond} {rm : Room} {Pc : Array Value → State → Prop} {Qc : Array Value → State → Outcome → State → Prop} {XC : String → State → State → Prop} {free : Addr → Prop} {Ts : List Cond} {own C : String} {b : Addr} {As rest : List Value} {g : JFrame}
theorem vx_callBack (cb : CallB R s args own index y bytes maxL ret ws rm mc ms n) (hM : vx_Met l y ws rm Pc Qc XC mc ms free) (hbl : FrameBlind Pc) : vx_Back l R p e below s args y 3 8 (PreOf R mc ms Pc) (PostOf Qc mc ms free) (vx_Post XC mc ms free) := by
  obtain ⟨hrc, hrs, hfr, hlo, hws, hcw, -, hini, -⟩ := cb
  exact vx_back (bytes := bytes) (maxL := maxL) (ret := ret) hM hbl hrc hrs hfr hlo hws hcw (fun a' U hW => word_at hW (Or.inl (by first | rfl | simp [Cond.onTables, Cond.keeps, Cond.steady])) hini)
theorem vx_runV (S : CallFix p m c cc nL s args Ts own) (hM : vx_Met l y ws rm Pc Qc XC mc ms free) (cw : CallW R s args own C index y bytes maxL ret ws rm mc ms n) (hp : PreV s H C b Pc As)
    (hg : g.method = m) (hn : As.length = n) (hsize : g.locals.size = nL) (hstack : g.stack = As.reverse ++ .ref b :: rest) (hW : 2 * g.monitorRoom + (rest.map fun v => v.category).sum ≤ 8) (hdg : decode cc g.pc = .ok (.invokevirtual index, 3)) (hf : cells + mc ≤ R.cells ∧ slots + ms ≤ R.slots) :
    vx_Run p l e R s m args below meth c H locs cells slots mc ms g rest (Qc (Value.ref b :: As).toArray) XC free := by
  have hK : vx_Back l R p e below s args y 3 8 (PreOf R mc ms Pc) (PostOf Qc mc ms free) (vx_Post XC mc ms free) := vx_callBack cw.1 hM hp.1
  obtain ⟨⟨-, -, -, -, -, -, hcode, -, hy, hlen, hl⟩, hin, hse⟩ := cw
  obtain ⟨hx, hb, hml, ho, -⟩ := S
  obtain ⟨-, ⟨cellB, hcB, hoB, hclB⟩, hPc⟩ := hp
  intro T hT X
  rcases vx_callV X hx (C := C) (bytes := bytes) (maxL := maxL) (ret := ret) ho hl hin hse hcode hy hK (by rw [hT]; exact hcB) hoB hclB hg (hsize.trans hml.symm) (argsL := As) (rest := rest) (fun sig h => hn.trans (hlen sig h)) hstack hW (by rw [hb]; exact hdg)
    (fun vm₁ hW₁ => ⟨hf.1, hf.2, hPc (T.setVm vm₁) hT hW₁⟩) with ⟨v, vm₁, ⟨U', l2, c2, s2⟩, hW₁, X', ⟨g', mk, t, L, e1, e2, hq, h1, hL, h2, h3⟩, st⟩ | ⟨q, vm₁, ⟨U', l2, c2, s2⟩, hW₁, X', ⟨g', mk, t, L, E, ce, e1, e2, hq, hce, hcv, hcl, h1, hL, h2, h3⟩, st⟩
  · dsimp only [Pt.U, Pt.locs, Pt.cells, Pt.slots] at X' e1 e2 h1 h2 h3 st
    subst h1; subst h2; subst h3
    exact Or.inl ⟨v, (T.setVm vm₁).calling g' mk (Value.ref b :: As).toArray, t, U', L, hT, X', hL, e1, e2, hq, st⟩
  · dsimp only [Pt.U, Pt.locs, Pt.cells, Pt.slots] at X' e1 e2 h1 h2 h3 st hcl
    subst h1; subst h2; subst h3
    exact Or.inr ⟨q, (T.setVm vm₁).calling g' mk (Value.ref b :: As).toArray, t, U', L, E, ce, hT, X', hL, e1, e2, hq, hce, hcv, vx_cls hW₁ hcl, st⟩
theorem vx_runS (S : CallFix p m c cc nL s args Ts own) (hM : vx_Met l y ws rm Pc Qc XC mc ms free) (cw : CallB R s args own index y bytes maxL ret ws rm mc ms n ∧ (Cond.static y).before args s = true) (hp : PreS s H Pc As)
    (hg : g.method = m) (hn : As.length = n) (hsize : g.locals.size = nL) (hstack : g.stack = As.reverse ++ rest) (hW : 2 * g.monitorRoom + (rest.map fun v => v.category).sum ≤ 8) (hdg : decode cc g.pc = .ok (.invokestatic index, 3)) (hf : cells + mc ≤ R.cells ∧ slots + ms ≤ R.slots) :
    vx_Run p l e R s m args below meth c H locs cells slots mc ms g rest (Qc As.toArray) XC free := by
  have hK : vx_Back l R p e below s args y 3 8 (PreOf R mc ms Pc) (PostOf Qc mc ms free) (vx_Post XC mc ms free) := vx_callBack cw.1 hM hp.1
  obtain ⟨⟨-, -, -, -, -, -, hcode, hini, hy, hlen, hl⟩, hstt⟩ := cw
  obtain ⟨hx, hb, hml, ho, -⟩ := S
  intro T hT X
  rcases vx_callS X hx (bytes := bytes) (maxL := maxL) (ret := ret) ho hl hstt hini hcode hy hK hg (hsize.trans hml.symm) (argsL := As) (rest := rest) (fun sig h => hn.trans (hlen sig h)) hstack hW (by rw [hb]; exact hdg)
    (fun vm₁ hW₁ => ⟨hf.1, hf.2, hp.2 (T.setVm vm₁) hT hW₁⟩) with ⟨v, vm₁, ⟨U', l2, c2, s2⟩, hW₁, X', ⟨g', mk, t, L, e1, e2, hq, h1, hL, h2, h3⟩, st⟩ | ⟨q, vm₁, ⟨U', l2, c2, s2⟩, hW₁, X', ⟨g', mk, t, L, E, ce, e1, e2, hq, hce, hcv, hcl, h1, hL, h2, h3⟩, st⟩
  · dsimp only [Pt.U, Pt.locs, Pt.cells, Pt.slots] at X' e1 e2 h1 h2 h3 st
    subst h1; subst h2; subst h3
    exact Or.inl ⟨v, (T.setVm vm₁).calling g' mk As.toArray, t, U', L, hT, X', hL, e1, e2, hq, st⟩
  · dsimp only [Pt.U, Pt.locs, Pt.cells, Pt.slots] at X' e1 e2 h1 h2 h3 st hcl
    subst h1; subst h2; subst h3
    exact Or.inr ⟨q, (T.setVm vm₁).calling g' mk As.toArray, t, U', L, E, ce, hT, X', hL, e1, e2, hq, hce, hcv, vx_cls hW₁ hcl, st⟩
end Runs
section Rows
variable {p : Program} {l : Launch} {e : Env} {R : Room} {s : State} {m : MethodId} {args : Array Value} {below : List Frame} {meth : Method} {c : Code} {H : Heap} {locs : List Loc} {cells slots : Nat} {Q : State → Prop}
variable {mc ms : Nat} {free : Addr → Prop} {A0 A1 : Nat → Prop} {H0 : Heap} {a : Array Value} {pc : Nat} {ls : Array Slot} {st0 rest : List Value}
theorem vx_keep {st₀ t T' : State} {L : List Loc} (h0 : st₀.heap = H) (e1 : T'.heap = t.heap) (hS : va_S A0 H0 H locs) (hA : ∀ q, q < H.size → A1 q → A0 q) (hf : ∀ q, free q → A0 q) (hL : ∀ q ∈ L, free q.base) (hF : va_F A1 st₀ t) :
    H.size ≤ T'.heap.size ∧ (∀ q : Nat, q < H.size → ¬ A1 q → T'.heap[q]? = H[q]?) ∧ va_S A0 H0 T'.heap (locs ++ L) := by
  obtain ⟨hz, hk⟩ := hF
  rw [h0] at hz hk
  exact ⟨by rw [e1]; exact hz, fun q h1 h2 => by rw [e1]; exact hk q h1 h2,
    ⟨Nat.le_trans hS.1 (by rw [e1]; exact hz), fun q h1 h2 => by rw [e1, hk q (Nat.lt_of_lt_of_le h1 hS.1) (fun z => h2 (hA q (Nat.lt_of_lt_of_le h1 hS.1) z))]; exact hS.2.1 q h1 h2, fun q hq => by
      rcases List.mem_append.mp hq with h | h
      · exact hS.2.2 q h
      · exact hf _ (hL q h)⟩⟩
theorem vx_calli {S SX : Type} {post : Int32 → S → Prop} {px : SX → Prop} {B : S → State → Prop} {BX : String → SX → State → Prop} {AX : Nat → Prop} (hr : vx_Run p l e R s m args below meth c H locs cells slots mc ms (F0 m pc ls st0) rest (va_Qi post B A1 a) (vx_X px BX AX) free) (hS : va_S A0 H0 H locs) (hA : ∀ q, q < H.size → A1 q → A0 q) (hf : ∀ q, free q → A0 q) (hAX : ∀ q, q < H.size → AX q → A0 q)
    (kx : ∀ (E : String) (ce : Cell) (q9 : Addr) (u : SX) (t : State) (H1 : Heap) (locs1 : List Loc), t.heap = H1 → s.vm.Alike t.vm → px u → BX E u t → H.size ≤ H1.size → (∀ q : Nat, q < H.size → ¬ AX q → H1[q]? = H[q]?) → va_S A0 H0 H1 locs1 → H1[q9]? = some ce → ce.vm = .none → s.vm.findClass E = some ce.cls → vx_W p l e R s m args below meth c H1 locs1 (cells + mc) (slots + ms) Q (F0 m pc ls rest) q9)
    (kk : ∀ (r : Int32) (u : S) (t : State) (H1 : Heap) (locs1 : List Loc), t.heap = H1 → s.vm.Alike t.vm → post r u → B u t → H.size ≤ H1.size → (∀ q : Nat, q < H.size → ¬ A1 q → H1[q]? = H[q]?) → va_S A0 H0 H1 locs1 → W p l e R s m args below meth c H1 locs1 (cells + mc) (slots + ms) Q (F0 m (pc + 3) ls (.int r :: rest))) : W p l e R s m args below meth c H locs cells slots Q (F0 m pc ls st0) := by
  intro T hT X
  rcases hr T hT X with ⟨v, st₀, t, T', L, h0, X', hL, e1, e2, ⟨⟨r, u, hv, hp, hb⟩, hF⟩, st⟩ | ⟨q, st₀, t, T', L, E, ce, h0, X', hL, e1, e2, ⟨u, hp, hb, hF⟩, hce, hcv, hcl, st⟩
  · cases hv
    obtain ⟨k1, k2, k3⟩ := vx_keep h0 e1 hS hA hf hL hF
    obtain ⟨t2, a1, b1⟩ := kk r u t T'.heap (locs ++ L) e1.symm (by rw [← e2]; exact X'.warmed.alike) hp hb k1 k2 k3 T' rfl X'
    exact ⟨t2, st t2 a1, b1⟩
  · obtain ⟨k1, k2, k3⟩ := vx_keep h0 e1 hS hAX hf hL hF
    obtain ⟨t2, a1, b1⟩ := kx E ce q u t T'.heap (locs ++ L) e1.symm (by rw [← e2]; exact X'.warmed.alike) hp hb k1 k2 k3 (by rw [e1]; exact hce) hcv hcl T' rfl X'
    exact ⟨t2, st.trans a1, b1⟩
theorem vx_calll {S SX : Type} {post : Int64 → S → Prop} {px : SX → Prop} {B : S → State → Prop} {BX : String → SX → State → Prop} {AX : Nat → Prop} (hr : vx_Run p l e R s m args below meth c H locs cells slots mc ms (F0 m pc ls st0) rest (va_Ql post B A1 a) (vx_X px BX AX) free) (hS : va_S A0 H0 H locs) (hA : ∀ q, q < H.size → A1 q → A0 q) (hf : ∀ q, free q → A0 q) (hAX : ∀ q, q < H.size → AX q → A0 q)
    (kx : ∀ (E : String) (ce : Cell) (q9 : Addr) (u : SX) (t : State) (H1 : Heap) (locs1 : List Loc), t.heap = H1 → s.vm.Alike t.vm → px u → BX E u t → H.size ≤ H1.size → (∀ q : Nat, q < H.size → ¬ AX q → H1[q]? = H[q]?) → va_S A0 H0 H1 locs1 → H1[q9]? = some ce → ce.vm = .none → s.vm.findClass E = some ce.cls → vx_W p l e R s m args below meth c H1 locs1 (cells + mc) (slots + ms) Q (F0 m pc ls rest) q9)
    (kk : ∀ (r : Int64) (u : S) (t : State) (H1 : Heap) (locs1 : List Loc), t.heap = H1 → s.vm.Alike t.vm → post r u → B u t → H.size ≤ H1.size → (∀ q : Nat, q < H.size → ¬ A1 q → H1[q]? = H[q]?) → va_S A0 H0 H1 locs1 → W p l e R s m args below meth c H1 locs1 (cells + mc) (slots + ms) Q (F0 m (pc + 3) ls (.long r :: rest))) : W p l e R s m args below meth c H locs cells slots Q (F0 m pc ls st0) := by
  intro T hT X
  rcases hr T hT X with ⟨v, st₀, t, T', L, h0, X', hL, e1, e2, ⟨⟨r, u, hv, hp, hb⟩, hF⟩, st⟩ | ⟨q, st₀, t, T', L, E, ce, h0, X', hL, e1, e2, ⟨u, hp, hb, hF⟩, hce, hcv, hcl, st⟩
  · cases hv
    obtain ⟨k1, k2, k3⟩ := vx_keep h0 e1 hS hA hf hL hF
    obtain ⟨t2, a1, b1⟩ := kk r u t T'.heap (locs ++ L) e1.symm (by rw [← e2]; exact X'.warmed.alike) hp hb k1 k2 k3 T' rfl X'
    exact ⟨t2, st t2 a1, b1⟩
  · obtain ⟨k1, k2, k3⟩ := vx_keep h0 e1 hS hAX hf hL hF
    obtain ⟨t2, a1, b1⟩ := kx E ce q u t T'.heap (locs ++ L) e1.symm (by rw [← e2]; exact X'.warmed.alike) hp hb k1 k2 k3 (by rw [e1]; exact hce) hcv hcl T' rfl X'
    exact ⟨t2, st.trans a1, b1⟩
theorem vx_callf {S SX : Type} {post : UInt32 → S → Prop} {px : SX → Prop} {B : S → State → Prop} {BX : String → SX → State → Prop} {AX : Nat → Prop} (hr : vx_Run p l e R s m args below meth c H locs cells slots mc ms (F0 m pc ls st0) rest (va_Qf post B A1 a) (vx_X px BX AX) free) (hS : va_S A0 H0 H locs) (hA : ∀ q, q < H.size → A1 q → A0 q) (hf : ∀ q, free q → A0 q) (hAX : ∀ q, q < H.size → AX q → A0 q)
    (kx : ∀ (E : String) (ce : Cell) (q9 : Addr) (u : SX) (t : State) (H1 : Heap) (locs1 : List Loc), t.heap = H1 → s.vm.Alike t.vm → px u → BX E u t → H.size ≤ H1.size → (∀ q : Nat, q < H.size → ¬ AX q → H1[q]? = H[q]?) → va_S A0 H0 H1 locs1 → H1[q9]? = some ce → ce.vm = .none → s.vm.findClass E = some ce.cls → vx_W p l e R s m args below meth c H1 locs1 (cells + mc) (slots + ms) Q (F0 m pc ls rest) q9)
    (kk : ∀ (r : UInt32) (u : S) (t : State) (H1 : Heap) (locs1 : List Loc), t.heap = H1 → s.vm.Alike t.vm → post r u → B u t → H.size ≤ H1.size → (∀ q : Nat, q < H.size → ¬ A1 q → H1[q]? = H[q]?) → va_S A0 H0 H1 locs1 → W p l e R s m args below meth c H1 locs1 (cells + mc) (slots + ms) Q (F0 m (pc + 3) ls (.float r :: rest))) : W p l e R s m args below meth c H locs cells slots Q (F0 m pc ls st0) := by
  intro T hT X
  rcases hr T hT X with ⟨v, st₀, t, T', L, h0, X', hL, e1, e2, ⟨⟨r, u, hv, hp, hb⟩, hF⟩, st⟩ | ⟨q, st₀, t, T', L, E, ce, h0, X', hL, e1, e2, ⟨u, hp, hb, hF⟩, hce, hcv, hcl, st⟩
  · cases hv
    obtain ⟨k1, k2, k3⟩ := vx_keep h0 e1 hS hA hf hL hF
    obtain ⟨t2, a1, b1⟩ := kk r u t T'.heap (locs ++ L) e1.symm (by rw [← e2]; exact X'.warmed.alike) hp hb k1 k2 k3 T' rfl X'
    exact ⟨t2, st t2 a1, b1⟩
  · obtain ⟨k1, k2, k3⟩ := vx_keep h0 e1 hS hAX hf hL hF
    obtain ⟨t2, a1, b1⟩ := kx E ce q u t T'.heap (locs ++ L) e1.symm (by rw [← e2]; exact X'.warmed.alike) hp hb k1 k2 k3 (by rw [e1]; exact hce) hcv hcl T' rfl X'
    exact ⟨t2, st.trans a1, b1⟩
theorem vx_calld {S SX : Type} {post : UInt64 → S → Prop} {px : SX → Prop} {B : S → State → Prop} {BX : String → SX → State → Prop} {AX : Nat → Prop} (hr : vx_Run p l e R s m args below meth c H locs cells slots mc ms (F0 m pc ls st0) rest (va_Qd post B A1 a) (vx_X px BX AX) free) (hS : va_S A0 H0 H locs) (hA : ∀ q, q < H.size → A1 q → A0 q) (hf : ∀ q, free q → A0 q) (hAX : ∀ q, q < H.size → AX q → A0 q)
    (kx : ∀ (E : String) (ce : Cell) (q9 : Addr) (u : SX) (t : State) (H1 : Heap) (locs1 : List Loc), t.heap = H1 → s.vm.Alike t.vm → px u → BX E u t → H.size ≤ H1.size → (∀ q : Nat, q < H.size → ¬ AX q → H1[q]? = H[q]?) → va_S A0 H0 H1 locs1 → H1[q9]? = some ce → ce.vm = .none → s.vm.findClass E = some ce.cls → vx_W p l e R s m args below meth c H1 locs1 (cells + mc) (slots + ms) Q (F0 m pc ls rest) q9)
    (kk : ∀ (r : UInt64) (u : S) (t : State) (H1 : Heap) (locs1 : List Loc), t.heap = H1 → s.vm.Alike t.vm → post r u → B u t → H.size ≤ H1.size → (∀ q : Nat, q < H.size → ¬ A1 q → H1[q]? = H[q]?) → va_S A0 H0 H1 locs1 → W p l e R s m args below meth c H1 locs1 (cells + mc) (slots + ms) Q (F0 m (pc + 3) ls (.double r :: rest))) : W p l e R s m args below meth c H locs cells slots Q (F0 m pc ls st0) := by
  intro T hT X
  rcases hr T hT X with ⟨v, st₀, t, T', L, h0, X', hL, e1, e2, ⟨⟨r, u, hv, hp, hb⟩, hF⟩, st⟩ | ⟨q, st₀, t, T', L, E, ce, h0, X', hL, e1, e2, ⟨u, hp, hb, hF⟩, hce, hcv, hcl, st⟩
  · cases hv
    obtain ⟨k1, k2, k3⟩ := vx_keep h0 e1 hS hA hf hL hF
    obtain ⟨t2, a1, b1⟩ := kk r u t T'.heap (locs ++ L) e1.symm (by rw [← e2]; exact X'.warmed.alike) hp hb k1 k2 k3 T' rfl X'
    exact ⟨t2, st t2 a1, b1⟩
  · obtain ⟨k1, k2, k3⟩ := vx_keep h0 e1 hS hAX hf hL hF
    obtain ⟨t2, a1, b1⟩ := kx E ce q u t T'.heap (locs ++ L) e1.symm (by rw [← e2]; exact X'.warmed.alike) hp hb k1 k2 k3 (by rw [e1]; exact hce) hcv hcl T' rfl X'
    exact ⟨t2, st.trans a1, b1⟩
theorem vx_callv {S SX : Type} {post : S → Prop} {px : SX → Prop} {B : S → State → Prop} {BX : String → SX → State → Prop} {AX : Nat → Prop} (hr : vx_Run p l e R s m args below meth c H locs cells slots mc ms (F0 m pc ls st0) rest (va_Qv post B A1 a) (vx_X px BX AX) free) (hS : va_S A0 H0 H locs) (hA : ∀ q, q < H.size → A1 q → A0 q) (hf : ∀ q, free q → A0 q) (hAX : ∀ q, q < H.size → AX q → A0 q)
    (kx : ∀ (E : String) (ce : Cell) (q9 : Addr) (u : SX) (t : State) (H1 : Heap) (locs1 : List Loc), t.heap = H1 → s.vm.Alike t.vm → px u → BX E u t → H.size ≤ H1.size → (∀ q : Nat, q < H.size → ¬ AX q → H1[q]? = H[q]?) → va_S A0 H0 H1 locs1 → H1[q9]? = some ce → ce.vm = .none → s.vm.findClass E = some ce.cls → vx_W p l e R s m args below meth c H1 locs1 (cells + mc) (slots + ms) Q (F0 m pc ls rest) q9)
    (kk : ∀ (u : S) (t : State) (H1 : Heap) (locs1 : List Loc), t.heap = H1 → s.vm.Alike t.vm → post u → B u t → H.size ≤ H1.size → (∀ q : Nat, q < H.size → ¬ A1 q → H1[q]? = H[q]?) → va_S A0 H0 H1 locs1 → W p l e R s m args below meth c H1 locs1 (cells + mc) (slots + ms) Q (F0 m (pc + 3) ls (rest))) : W p l e R s m args below meth c H locs cells slots Q (F0 m pc ls st0) := by
  intro T hT X
  rcases hr T hT X with ⟨v, st₀, t, T', L, h0, X', hL, e1, e2, ⟨⟨u, hv, hp, hb⟩, hF⟩, st⟩ | ⟨q, st₀, t, T', L, E, ce, h0, X', hL, e1, e2, ⟨u, hp, hb, hF⟩, hce, hcv, hcl, st⟩
  · cases hv
    obtain ⟨k1, k2, k3⟩ := vx_keep h0 e1 hS hA hf hL hF
    obtain ⟨t2, a1, b1⟩ := kk u t T'.heap (locs ++ L) e1.symm (by rw [← e2]; exact X'.warmed.alike) hp hb k1 k2 k3 T' rfl X'
    exact ⟨t2, st t2 a1, b1⟩
  · obtain ⟨k1, k2, k3⟩ := vx_keep h0 e1 hS hAX hf hL hF
    obtain ⟨t2, a1, b1⟩ := kx E ce q u t T'.heap (locs ++ L) e1.symm (by rw [← e2]; exact X'.warmed.alike) hp hb k1 k2 k3 (by rw [e1]; exact hce) hcv hcl T' rfl X'
    exact ⟨t2, st.trans a1, b1⟩
/-- caught by the row x of this method's table; the rows ahead don't take it -/
theorem vx_catch {own name : String} {E : String} {ce : Cell} {q : Addr} (hown : s.vm.findClass own = some m.cls) (pre : List ExceptionTableEntry) (x : ExceptionTableEntry) (suf : List ExceptionTableEntry) (hsplit : c.exceptionTable.toList = pre ++ x :: suf)
    (hpass : ∀ z ∈ pre, covers z pc = false ∨ (z.catchType ≠ 0 ∧ ∃ nm : String, (Cond.classLink own z.catchType nm).before args s = true ∧ va_Nc E nm s)) (hx : covers x pc = true) (h0 : x.catchType ≠ 0)
    (hlink : (Cond.classLink own x.catchType name).before args s = true) (hcast : (Cond.castable E name).before args s = true) (hcell : H[q]? = some ce) (hv : ce.vm = .none) (hcl : s.vm.findClass E = some ce.cls)
    (kk : W p l e R s m args below meth c H locs cells slots Q (F0 m x.handlerPc ls [.ref q])) : vx_W p l e R s m args below meth c H locs cells slots Q (F0 m pc ls rest) q := by
  intro T hT X
  have hpl : e.platform.magicAccessors = ({} : Platform).magicAccessors := by rw [X.admits.platform]
  obtain ⟨c3, c4, hc3, hc4, hasg⟩ := Cond.castable_spec hcast
  cases Option.some.inj (hc3.symm.trans hcl)
  obtain ⟨c5, hc5, hcl5⟩ := Cond.classLink_spec hown hlink e.platform hpl
  cases Option.some.inj (hc4.symm.trans hc5)
  obtain ⟨vm', X', st⟩ := X.thenCaughtThrough q (g := F0 m pc ls rest) rfl (Steps.refl _) (by rw [hT]; exact hcell) (by rw [hv]; rfl) (by obtain ⟨k9, h9, -⟩ := Vm.findClass_spec hcl; exact ⟨k9, h9⟩) pre x suf hsplit
    (fun z hz => by
      rcases hpass z hz with h | ⟨hz0, nm, hl1, hn1⟩
      · exact Or.inl h
      · obtain ⟨c6, hc6, hcl6⟩ := Cond.classLink_spec hown hl1 e.platform hpl
        obtain ⟨a8, b8, h1, h2, h3⟩ := hn1
        cases Option.some.inj (h1.symm.trans hcl)
        cases Option.some.inj (h2.symm.trans hc6)
        exact Or.inr ⟨hz0, _, hcl6, h3⟩) hx (Or.inr ⟨h0, c4, hcl5, hasg⟩)
  obtain ⟨t, a1, b1⟩ := kk (T.setVm vm') hT X'
  exact ⟨t, st.trans a1, b1⟩
end Rows
section Ends
variable {p : Program} {l : Launch} {e : Env} {R : Room} {s : State} {m : MethodId} {args : Array Value} {below : List Frame} {meth : Method} {c : Code} {H : Heap} {locs : List Loc} {cells slots : Nat} {Q : State → Prop}
variable {mc ms : Nat} {free : Addr → Prop} {A0 A1 : Nat → Prop} {H0 : Heap} {a : Array Value} {ls : Array Slot} {st0 rest : List Value}
variable {Qc : Array Value → State → Outcome → State → Prop} {XC : String → State → State → Prop}
/-- what a body that may throw owes at its end -/
def vx_MQ (below : List Frame) (Qc : Array Value → State → Outcome → State → Prop) (XC : String → State → State → Prop) (a : Array Value) (s : State) (mc ms : Nat) (free : Addr → Prop) : State → Prop := fun t =>
  ∃ o, t.status = .running ∧ Ended t below o ∧ vx_Q Qc XC mc ms free a s o t
theorem vx_ret {g : JFrame} {mc ms : Nat} (k : W p l e R s m args below meth c H locs cells slots (MQ below Qc args s mc ms free) g) : W p l e R s m args below meth c H locs cells slots (vx_MQ below Qc XC args s mc ms free) g := by
  intro T hT X
  obtain ⟨t, a1, o, b1, b2, b3, b4⟩ := k T hT X
  exact ⟨t, a1, o, b1, b2, Or.inl ⟨b3, b4⟩⟩
/-- not caught here: it goes on to the caller -/
theorem vx_widen {g : JFrame} {q : Addr} {k n : Nat} (h1 : cells ≤ k) (h2 : slots ≤ n) (kk : vx_W p l e R s m args below meth c H locs k n Q g q) : vx_W p l e R s m args below meth c H locs cells slots Q g q := fun T hT X => kk T hT (stand_widen X h1 h2)
theorem vx_out {pc : Nat} {E : String} {ce : Cell} {q : Addr} {mc ms : Nat} (hout : ∀ x ∈ c.exceptionTable.toList, covers x pc = false) (hlocks : meth.locks = false) (hcell : H[q]? = some ce) (hv : ce.vm = .none) (hcl : s.vm.findClass E = some ce.cls)
    (hx : ∀ t : State, t.heap = H → s.vm.Alike t.vm → XC E s t) (hf : ∀ z ∈ locs, free z.base) (hc : cells ≤ mc) (hs : slots ≤ ms) :
    vx_W p l e R s m args below meth c H locs cells slots (vx_MQ below Qc XC args s mc ms free) (F0 m pc ls rest) q := by
  intro T hT X
  obtain ⟨st1, hrun, hend, hW, hsm⟩ := X.leaveThrown q (g := F0 m pc ls rest) rfl rfl rfl hout hlocks
  have hcell9 : (T.setFrames (.throwing q :: below)).heap[q]? = some ce := by
    show T.heap[q]? = some ce
    rw [hT]; exact hcell
  exact ⟨_, st1, .threw q, hrun, hend, Or.inr ⟨q, rfl, E, ce, locs, hx _ hT hW.alike, hcell9, hv, hcl, hW, hsm.mono hc hs, hf⟩⟩
theorem vx_frame {U : State} {k n : Nat} (h : s.sameButNew ({ U with vm := s.vm } : State) locs k n) : s.heap.size ≤ U.heap.size ∧ ∀ q : Nat, q < s.heap.size → (∀ z ∈ locs, z.base ≠ q) → U.heap[q]? = s.heap[q]? := by
  obtain ⟨-, h2, -, -, -, h6⟩ := h
  refine ⟨h2, fun q hq hz => ?_⟩
  obtain ⟨c9, e1, e2, e3, e4⟩ := h6 q _ (Array.getElem?_eq_getElem hq)
  have hs : c9.slots = (s.heap[q]).slots := Array.ext_getElem? fun i => e4 i fun hm => hz _ hm rfl
  have h9 : c9 = s.heap[q] := by
    rw [hs] at e2
    exact e2
  have e5 : U.heap[q]? = some c9 := e1
  rw [e5, h9, Array.getElem?_eq_getElem hq]
/-- the words of a throw but the four that speak of the heap -/
def vx_no (w : Cond) : Bool := decide (w ≠ .isRef (.static Bundle.tN "UNASSIGNED_STACK" Bundle.steD)) && decide (w ≠ .isRef (.static Bundle.tN "SUPPRESSED_SENTINEL" Bundle.listD)) && decide (w ≠ .laysStatic Bundle.tN "UNASSIGNED_STACK" Bundle.steD) && decide (w ≠ .laysStatic Bundle.tN "SUPPRESSED_SENTINEL" Bundle.listD)
def vx_at0 (own : String) (ic : Nat) (X : String) (names : List String) : List Cond := (Bundle.ownAtoms0 own ic X names).filter vx_no
def vx_atS (own : String) (ic : Nat) (X : String) (names : List String) : List Cond := (Bundle.ownAtoms own ic X names).filter vx_no
/-- a word that the tables alone decide, or a good one -/
def vx_ot (w : Cond) : Bool := w.onTables || goodWord w
theorem vx_ot_at {args a' : Array Value} {s U : State} {w : Cond} (hW : s.WarmedH U.vm) (hvm : s.vm = U.vm) (hg : vx_ot w = true) (h : w.before args s = true) : w.before a' U = true := by
  simp only [vx_ot, Bool.or_eq_true] at hg
  rcases hg with hg | hg
  · exact va_tabs hg hvm h
  · exact word_at hW (good_of_word hg) h
/-- a list's words: the good ones out of the method's own list, the others by premises of their own -/
theorem vx_hat {args : Array Value} {s : State} {L B : List Cond} (h1 : ∀ w ∈ L.filter goodWord, w.before args s = true) (h2 : ∀ w ∈ L.filter (fun w => !goodWord w), w ∈ B) (h3 : ∀ w ∈ B, w.before args s = true) : ∀ w ∈ L, w.before args s = true := by
  intro w hw
  by_cases g : goodWord w = true
  · exact h1 w (List.mem_filter.mpr ⟨hw, g⟩)
  · refine h3 w (h2 w (List.mem_filter.mpr ⟨hw, ?_⟩))
    show (!goodWord w) = true
    cases hgw : goodWord w
    · rfl
    · exact absurd hgw g
theorem vx_c {args : Array Value} {s : State} {w : Cond} {B : List Cond} (h : w.before args s = true) (t : ∀ w ∈ B, w.before args s = true) : ∀ w' ∈ w :: B, w'.before args s = true := fun w' h' => (List.mem_cons.mp h').elim (fun e => by rw [e]; exact h) (t w')
theorem vx_n {args : Array Value} {s : State} : ∀ w ∈ ([] : List Cond), w.before args s = true := fun _ h => nomatch h
theorem vx_own {args : Array Value} {s : State} {L : List Cond} (h1 : ∀ w ∈ L.filter vx_no, w.before args s = true)
    (hU : (Cond.isRef (.static Bundle.tN "UNASSIGNED_STACK" Bundle.steD)).before args s = true) (hN : (Cond.isRef (.static Bundle.tN "SUPPRESSED_SENTINEL" Bundle.listD)).before args s = true)
    (lU : (Cond.laysStatic Bundle.tN "UNASSIGNED_STACK" Bundle.steD).before args s = true) (lN : (Cond.laysStatic Bundle.tN "SUPPRESSED_SENTINEL" Bundle.listD).before args s = true) : ∀ w ∈ L, w.before args s = true := by
  intro w hw
  by_cases e1 : w = .isRef (.static Bundle.tN "UNASSIGNED_STACK" Bundle.steD)
  · rw [e1]; exact hU
  · by_cases e2 : w = .isRef (.static Bundle.tN "SUPPRESSED_SENTINEL" Bundle.listD)
    · rw [e2]; exact hN
    · by_cases e3 : w = .laysStatic Bundle.tN "UNASSIGNED_STACK" Bundle.steD
      · rw [e3]; exact lU
      · by_cases e4 : w = .laysStatic Bundle.tN "SUPPRESSED_SENTINEL" Bundle.listD
        · rw [e4]; exact lN
        · exact h1 w (List.mem_filter.mpr ⟨hw, by unfold vx_no; rw [decide_eq_true e1, decide_eq_true e2, decide_eq_true e3, decide_eq_true e4]; rfl⟩)
/-- where a static field lies, its class's statics cell in H -/
def vx_L (C n d : String) (A : Nat → Prop) (U : State) (H : Heap) : Prop := ∃ (c : ClassId) (k : Class) (i : Nat) (f : Field) (a : Nat) (cell : Cell), U.vm.findClass C = some c ∧ U.fieldFound? C n d = some (c, k, i, f) ∧ f.isStatic = true ∧ k.statics = some a ∧ H[a]? = some cell ∧ cell.vm.isStatics = true ∧ cell.cls = c ∧ f.slot < cell.slots.size ∧ k.staticTypes[f.slot]? = some f.type ∧ ¬ A a
theorem vx_L.moved {C n d : String} {A : Nat → Prop} {u U : State} {H : Heap} (hvm : u.vm.Alike U.vm) (h : vx_L C n d A u H) : vx_L C n d A U H := by
  obtain ⟨c, k, i, f, a, cell, h1, h2, h3, h4, h5, h6, h7, h8, h9, h10⟩ := h
  obtain ⟨k', hi', he⟩ := State.fieldFound?_setVm hvm h2
  exact ⟨c, k', i, f, a, cell, by rw [hvm.findClass]; exact h1, hi', h3, by rw [he]; exact h4, h5, h6, h7, h8, by rw [he]; exact h9, h10⟩
theorem vx_L.kept {C n d : String} {A : Nat → Prop} {U : State} {H H1 : Heap} (h : vx_L C n d A U H) (hq : ∀ a : Nat, a < H.size → ¬ A a → H1[a]? = H[a]?) : vx_L C n d A U H1 := by
  obtain ⟨c, k, i, f, a, cell, h1, h2, h3, h4, h5, h6, h7, h8, h9, h10⟩ := h
  exact ⟨c, k, i, f, a, cell, h1, h2, h3, h4, by rw [hq a (Array.getElem?_eq_some_iff.mp h5).1 h10]; exact h5, h6, h7, h8, h9, h10⟩
theorem vx_L.narrow {C n d : String} {A B : Nat → Prop} {U : State} {H : Heap} (h : vx_L C n d A U H) (hAB : ∀ q, B q → A q) : vx_L C n d B U H := by
  obtain ⟨c, k, i, f, a, cell, h1, h2, h3, h4, h5, h6, h7, h8, h9, h10⟩ := h
  exact ⟨c, k, i, f, a, cell, h1, h2, h3, h4, h5, h6, h7, h8, h9, fun z => h10 (hAB _ z)⟩
theorem vx_L.word {C n d : String} {A : Nat → Prop} {s : State} {args : Array Value} (h : vx_L C n d A s s.heap) : (Cond.laysStatic C n d).before args s = true := by
  obtain ⟨c, k, i, f, a, cell, h1, h2, h3, h4, h5, h6, h7, h8, h9, -⟩ := h
  show (Cond.laysStatic C n d).holds args s none s [] = true
  exact Cond.laysStatic_of h1 h2 h3 h4 h5 h6 h7 h8 h9
/-- .. and what it holds: null or some reference -/
def vx_Zq (C n d : String) (A : Nat → Prop) (U : State) (H : Heap) : Prop := va_Zq C n d A U H ∧ vx_L C n d A U H
theorem vx_Zq.moved {C n d : String} {A : Nat → Prop} {u U : State} {H : Heap} (hvm : u.vm.Alike U.vm) (h : vx_Zq C n d A u H) : vx_Zq C n d A U H := ⟨va_Zq.moved hvm h.1, vx_L.moved hvm h.2⟩
theorem vx_Zq.kept {C n d : String} {A : Nat → Prop} {U : State} {H H1 : Heap} (h : vx_Zq C n d A U H) (hq : ∀ a : Nat, a < H.size → ¬ A a → H1[a]? = H[a]?) : vx_Zq C n d A U H1 := ⟨va_Zq.kept h.1 hq, vx_L.kept h.2 hq⟩
theorem vx_Zq.narrow {C n d : String} {A B : Nat → Prop} {U : State} {H : Heap} (h : vx_Zq C n d A U H) (hAB : ∀ q, B q → A q) : vx_Zq C n d B U H := ⟨va_Zq.narrow h.1 hAB, vx_L.narrow h.2 hAB⟩
theorem vx_Zqof {args : Array Value} {s : State} {C n d : String} {A : Nat → Prop} (hl : (Cond.laysStatic C n d).before args s = true) (hini : (Cond.initialized C).before args s = true) (h : (Cond.isRef (.static C n d)).before args s = true) (hA : ∀ a : Nat, a < s.heap.size → ¬ A a) : vx_Zq C n d A s s.heap := by
  refine ⟨va_Zqof hl hini h hA, ?_⟩
  obtain ⟨c, k, i, f, a, cell, h1, h2, h3, h4, h5, h6, h7, h8, h9⟩ := Cond.laysStatic_spec hl
  exact ⟨c, k, i, f, a, cell, h1, h2, h3, h4, h5, h6, h7, h8, h9, hA a (Array.getElem?_eq_some_iff.mp h5).1⟩
theorem vx_isRef {C n d : String} {v : Value} {A : Nat → Prop} {s : State} {args : Array Value} (h : va_Z C n d v A s s.heap) (hv : v.isRef = true) : (Cond.isRef (.static C n d)).before args s = true := by
  obtain ⟨cf, kf, fi, f, a, cell, h1, h2, h3, h4, h5, h6, h7, -⟩ := h
  have he : (Term.static C n d).eval args s none [] s = some v := by
    simp [Term.eval, State.fieldNamed?, h1, h2, h4, h5, h6, h7]
  simp only [Cond.before, Cond.holds, Cond.value, he]
  cases v <;> simp_all [Value.isRef]
theorem vx_isRefq {C n d : String} {A : Nat → Prop} {s : State} {args : Array Value} (h : va_Zq C n d A s s.heap) : (Cond.isRef (.static C n d)).before args s = true := by
  rcases h with h | ⟨t, h⟩
  · exact vx_isRef h rfl
  · exact vx_isRef h rfl
/-- the same frame, seen from here: as if the method were called anew in this heap -/
theorem vx_rebase {T : State} (X : Stand p l e R s m args below meth c T locs cells slots) {R' : Room} (hf : R'.frames ≤ R.frames) (hl : R'.locals ≤ R.locals) (hc : cells + R'.cells ≤ R.cells) (hs : slots + R'.slots ≤ R.slots) :
    Stand p l e R' ((T.setVm s.vm).setFrames (.invoking m args :: below)) m args below meth c T [] 0 0 := by
  have htop : (T.setVm s.vm).topJava?.isSome := X.here.top
  have hF : ((T.setVm s.vm).setFrames (.invoking m args :: below)).frames = .invoking m args :: below := State.frames_setFrames _ (State.cur_lt_of_top htop)
  obtain ⟨g₀, hg0⟩ := Option.isSome_iff_exists.mp htop
  obtain ⟨r, hr⟩ := State.topJava?_eq_some.mp hg0
  have hl9 : e.platform.stackLimits (T.setVm s.vm).me = e.platform.stackLimits s.me := X.limits
  have hb9 : (T.setVm s.vm).me.stackBytes = s.me.stackBytes := X.bytes
  refine ⟨X.admits, X.cas, X.clock, hF, ?_, X.hears, X.method, X.code, X.here, X.tail, X.warmed, ?_, ?_, ?_⟩
  · have h := X.room
    have hU : ((T.setVm s.vm).setFrames (.invoking m args :: below)).localsInUse = s.localsInUse := by
      rw [State.localsInUse_invoking hF (meth := meth) (c := c) X.method X.code, State.localsInUse_invoking X.frames X.method X.code]
    simp only [State.hasRoom, Bool.and_eq_true, decide_eq_true_eq] at h ⊢
    obtain ⟨⟨⟨⟨h1, h2, h3, h4, h5, h6⟩, h7⟩, h8⟩, h9⟩ := h
    rw [X.frames, List.length_cons] at h2 h3
    have q1 := X.heapSize
    have q2 := X.used
    simp only [hF, hU, List.length_cons, State.stackLimits_setFrames, State.stackBytes_setFrames, hl9, hb9]
    refine ⟨⟨⟨⟨by omega, by omega, by omega, by omega, by omega, h6⟩, ?_⟩, ?_⟩, X.book⟩
    · show T.heap.size + R'.cells ≤ e.platform.maxCells
      omega
    · show T.slotsUsed + R'.slots ≤ e.platform.maxSlots
      omega
  · rw [State.stackLimits_setFrames]; rfl
  · rw [State.stackBytes_setFrames]; rfl
  · refine ⟨?_, Nat.le_refl _, Nat.le_refl _, ?_, ?_, fun a c9 h9 => ⟨c9, h9, rfl, rfl, fun _ _ => rfl⟩⟩
    · obtain ⟨t, ht, -⟩ := State.frames_cons hr
      show T.setVm s.vm = { ((T.setVm s.vm).setFrames (.invoking m args :: below)).setFrames (T.setVm s.vm).frames with heap := T.heap, slotsUsed := T.slotsUsed }
      rw [State.setFrames_setFrames, State.setFrames_self ht]
      rfl
    · show T.slotsUsed = T.slotsUsed + ((T.heap.toList.drop T.heap.size).map (·.slots.size)).sum
      rw [List.drop_eq_nil_of_le (Nat.le_of_eq Array.length_toList)]
      rfl
    · show ((T.heap.toList.drop T.heap.size).map (·.slots.size)).sum ≤ 0
      rw [List.drop_eq_nil_of_le (Nat.le_of_eq Array.length_toList)]
      exact Nat.le_refl _
/-- 'throw new E()': new; dup; invokespecial; athrow -/
theorem vx_throw0 {cc : ByteArray} {pc : Nat} (hexec : p.tables.exec = Jvm.exec) (hb : c.code = cc) (hl : l.stackTraces = false) {own cls : String} {names : List String} {ik ic mc ms : Nat} {A : Nat → Prop}
    (hown : s.vm.findClass own = some m.cls) (hcls : Bundle.fit cls = true) (hnames : ∀ n ∈ names, Bundle.fit n = true)
    (hk : (Cond.classLink own ik cls).before args s = true) (hini : (Cond.initialized cls).before args s = true) (hat : ∀ w ∈ vx_at0 own ic cls names, w.before args s = true)
    (hgood : ∀ w ∈ Cond.classLink own ik cls :: Cond.initialized cls :: vx_at0 own ic cls names, vx_ot w = true)
    (hU : vx_Zq Bundle.tN "UNASSIGNED_STACK" Bundle.steD A s s.heap) (hN : vx_Zq Bundle.tN "SUPPRESSED_SENTINEL" Bundle.listD A s s.heap) (hS : va_S A s.heap H locs) (hsize : ls.size = c.maxLocals)
    (d0 : decode cc pc = .ok (.new ik, 3)) (d3 : decode cc (pc + 3) = .ok (.dup, 1)) (d4 : decode cc (pc + 4) = .ok (.invokespecial ic, 3)) (d7 : decode cc (pc + 7) = .ok (.athrow, 1))
    (hout : ∀ x ∈ c.exceptionTable.toList, covers x (pc + 7) = false)
    (hRframes : names.length + 3 < R.frames) (hRlocals : (rest.map fun v => v.category).sum + (13 * (names.length + 1) + 42) ≤ R.locals) (hRcells : cells + 1 ≤ R.cells) (hRslots : slots + 6 ≤ R.slots) (hlocks : meth.locks = false)
    (hx : ∀ t : State, s.vm.Alike t.vm → H.size ≤ t.heap.size → (∀ q : Nat, q < H.size → t.heap[q]? = H[q]?) → XC cls s t)
    (hf : ∀ z ∈ locs, free z.base) (hc : cells + 1 ≤ mc) (hs : slots + 6 ≤ ms) :
    W p l e R s m args below meth c H locs cells slots (vx_MQ below Qc XC args s mc ms free) (F0 m pc ls rest) := by
  intro T hT X
  have htr : e.platform.stackTraces = false := (show e.platform.stackTraces = l.stackTraces by rw [X.admits.platform]).trans hl
  have Y := vx_rebase X (R' := { frames := R.frames, locals := R.locals, cells := 1, slots := 6 }) (Nat.le_refl _) (Nat.le_refl _) hRcells hRslots
  obtain ⟨s', hA⟩ : ∃ z, z = (T.setVm s.vm).setFrames (.invoking m args :: below) := ⟨_, rfl⟩
  rw [← hA] at Y
  have hvm : s'.vm = s.vm := by rw [hA]; rfl
  have hhp : s'.heap = H := by rw [hA]; exact hT
  have hW0 : s.WarmedH s'.vm := by rw [hvm]; exact State.WarmedH.refl s
  have hat' : ∀ w ∈ vx_at0 own ic cls names, w.before args s' = true := fun w hw => vx_ot_at hW0 hvm.symm (hgood w (List.mem_cons_of_mem _ (List.mem_cons_of_mem _ hw))) (hat w hw)
  have hk' : (Cond.classLink own ik cls).before args s' = true := vx_ot_at hW0 hvm.symm (hgood _ List.mem_cons_self) hk
  have hini' : (Cond.initialized cls).before args s' = true := vx_ot_at hW0 hvm.symm (hgood _ (List.mem_cons_of_mem _ List.mem_cons_self)) hini
  have hU' : vx_Zq Bundle.tN "UNASSIGNED_STACK" Bundle.steD A s' s'.heap := by rw [hhp]; exact vx_Zq.moved hW0.alike (hU.kept hS.2.1)
  have hN' : vx_Zq Bundle.tN "SUPPRESSED_SENTINEL" Bundle.listD A s' s'.heap := by rw [hhp]; exact vx_Zq.moved hW0.alike (hN.kept hS.2.1)
  have h : ∀ w ∈ Bundle.ownAtoms0 own ic cls names, w.before args s' = true := vx_own hat' (vx_isRefq hU'.1) (vx_isRefq hN'.1) hU'.2.word hN'.2.word
  have hown' : s'.vm.findClass own = some m.cls := by rw [hvm]; exact hown
  have hins : (Cond.instantiable cls 6).before args s' = true := h _ (by simp [Bundle.ownAtoms0])
  obtain ⟨vm₁, cX, kX, hfX, hkX, -, -, X₁, st1⟩ := Y.newCold hexec (own := own) (C := cls) (index := ik) (n := 6) hown' hk' hins hini'
    (g := F0 m pc ls rest) rfl (by rw [hb]; exact d0) (Nat.le_refl _) (Nat.le_refl _)
  generalize hT1 : (T.setVm vm₁).pushCell { cls := cX, slots := kX.instanceTypes.map defaultValue, vm := .none } = T1 at X₁ st1
  have hcat : (Value.ref T.heap.size).category = 1 := rfl
  have hcellA : T1.heap[T.heap.size]? = some (freshCell cX kX) := by rw [← hT1]; exact State.heap_pushCell_size _ _
  have d3' : decode c.code (pc + 3) = .ok (.dup, 1) := by rw [hb]; exact d3
  obtain ⟨U, hsteps, hrun, hend, hW, hsame, ce, hce, hO⟩ := X₁.ctorThrow0 hexec htr (own := own) (cls := cls) (names := names) (ic := ic) hown' hcls hnames h (fun x hx => nomatch hx) hfX hkX hcellA (by rw [hhp, hT]; exact Nat.le_refl _)
    (g := { method := m, pc := pc + 4, locals := ls, stack := .ref T.heap.size :: .ref T.heap.size :: rest, locked := none }) rfl hsize rfl rfl (rest := rest) rfl
    (by rw [hb]; exact d4) (by rw [hb]; exact d7) hout hRframes (by simp only [List.map_cons, List.sum_cons, hcat]; omega) hlocks
  obtain ⟨f1, f2⟩ := vx_frame hsame
  rw [hhp] at f1 f2
  have hWs : s.WarmedH U.vm := State.WarmedH.trans hW0 hW
  have hcl : s.vm.findClass cls = some ce.cls := by
    have h9 := hO.cls
    rw [hvm] at h9
    exact h9
  have hall : s.sameButNew ({ U with vm := s.vm } : State) locs mc ms := by
    subst hA
    obtain ⟨e1, e2⟩ := hsame
    rw [State.setFrames_setFrames] at e1
    have h2 : (T.setVm s.vm).sameButNew ({ U with vm := s.vm } : State) [] (0 + 1) (0 + 6) := ⟨e1, e2⟩
    have h3 := X.same.trans h2
    rw [List.append_nil] at h3
    exact h3.mono hc hs
  refine ⟨U, ?_, .threw T.heap.size, hrun, hend, Or.inr ⟨T.heap.size, rfl, cls, ce, locs, hx U hWs.alike f1 (fun q hq => f2 q hq (fun z hz => nomatch hz)), hce, hO.vm, hcl, hWs, hall, hf⟩⟩
  refine st1 _ ?_
  show Steps p.tables e below (T1.setTop { method := m, pc := pc + 3, locals := ls, stack := .ref T.heap.size :: rest, locked := none }) _
  jvm_step X₁.here [X₁.here.top, hexec, d3', Value.category]
  exact hsteps
/-- 'throw new E("text")': new; dup; ldc; invokespecial; athrow -/
theorem vx_throwS {cc : ByteArray} {pc : Nat} (hexec : p.tables.exec = Jvm.exec) (hb : c.code = cc) (hl : l.stackTraces = false) {own cls text : String} {names : List String} {ik is ic mc ms sa : Nat} {A : Nat → Prop}
    (hown : s.vm.findClass own = some m.cls) (hcls : Bundle.fit cls = true) (hnames : ∀ n ∈ names, Bundle.fit n = true)
    (hk : (Cond.classLink own ik cls).before args s = true) (hini : (Cond.initialized cls).before args s = true) (hstr : vk_R own is text sa s) (hat : ∀ w ∈ vx_atS own ic cls names, w.before args s = true)
    (hgood : ∀ w ∈ Cond.classLink own ik cls :: Cond.initialized cls :: vx_atS own ic cls names, vx_ot w = true)
    (hU : vx_Zq Bundle.tN "UNASSIGNED_STACK" Bundle.steD A s s.heap) (hN : vx_Zq Bundle.tN "SUPPRESSED_SENTINEL" Bundle.listD A s s.heap) (hS : va_S A s.heap H locs) (hsize : ls.size = c.maxLocals)
    (d0 : decode cc pc = .ok (.new ik, 3)) (d3 : decode cc (pc + 3) = .ok (.dup, 1)) (d4 : decode cc (pc + 4) = .ok (.ldc is, 2)) (d6 : decode cc (pc + 6) = .ok (.invokespecial ic, 3)) (d9 : decode cc (pc + 9) = .ok (.athrow, 1))
    (hout : ∀ x ∈ c.exceptionTable.toList, covers x (pc + 9) = false)
    (hRframes : names.length + 3 < R.frames) (hRlocals : (rest.map fun v => v.category).sum + (13 * (names.length + 1) + 43) ≤ R.locals) (hRcells : cells + 1 ≤ R.cells) (hRslots : slots + 6 ≤ R.slots) (hlocks : meth.locks = false)
    (hx : ∀ t : State, s.vm.Alike t.vm → H.size ≤ t.heap.size → (∀ q : Nat, q < H.size → t.heap[q]? = H[q]?) → XC cls s t)
    (hf : ∀ z ∈ locs, free z.base) (hc : cells + 1 ≤ mc) (hs : slots + 6 ≤ ms) :
    W p l e R s m args below meth c H locs cells slots (vx_MQ below Qc XC args s mc ms free) (F0 m pc ls rest) := by
  intro T hT X
  have htr : e.platform.stackTraces = false := (show e.platform.stackTraces = l.stackTraces by rw [X.admits.platform]).trans hl
  have Y := vx_rebase X (R' := { frames := R.frames, locals := R.locals, cells := 1, slots := 6 }) (Nat.le_refl _) (Nat.le_refl _) hRcells hRslots
  obtain ⟨s', hA⟩ : ∃ z, z = (T.setVm s.vm).setFrames (.invoking m args :: below) := ⟨_, rfl⟩
  rw [← hA] at Y
  have hvm : s'.vm = s.vm := by rw [hA]; rfl
  have hhp : s'.heap = H := by rw [hA]; exact hT
  have hW0 : s.WarmedH s'.vm := by rw [hvm]; exact State.WarmedH.refl s
  have hat' : ∀ w ∈ vx_atS own ic cls names, w.before args s' = true := fun w hw => vx_ot_at hW0 hvm.symm (hgood w (List.mem_cons_of_mem _ (List.mem_cons_of_mem _ hw))) (hat w hw)
  have hk' : (Cond.classLink own ik cls).before args s' = true := vx_ot_at hW0 hvm.symm (hgood _ List.mem_cons_self) hk
  have hini' : (Cond.initialized cls).before args s' = true := vx_ot_at hW0 hvm.symm (hgood _ (List.mem_cons_of_mem _ List.mem_cons_self)) hini
  have hU' : vx_Zq Bundle.tN "UNASSIGNED_STACK" Bundle.steD A s' s'.heap := by rw [hhp]; exact vx_Zq.moved hW0.alike (hU.kept hS.2.1)
  have hN' : vx_Zq Bundle.tN "SUPPRESSED_SENTINEL" Bundle.listD A s' s'.heap := by rw [hhp]; exact vx_Zq.moved hW0.alike (hN.kept hS.2.1)
  have h : ∀ w ∈ Bundle.ownAtoms own ic cls names, w.before args s' = true := vx_own hat' (vx_isRefq hU'.1) (vx_isRefq hN'.1) hU'.2.word hN'.2.word
  have hown' : s'.vm.findClass own = some m.cls := by rw [hvm]; exact hown
  have hins : (Cond.instantiable cls 6).before args s' = true := h _ (by simp [Bundle.ownAtoms])
  obtain ⟨vm₁, cX, kX, hfX, hkX, -, -, X₁, st1⟩ := Y.newCold hexec (own := own) (C := cls) (index := ik) (n := 6) hown' hk' hins hini'
    (g := F0 m pc ls rest) rfl (by rw [hb]; exact d0) (Nat.le_refl _) (Nat.le_refl _)
  generalize hT1 : (T.setVm vm₁).pushCell { cls := cX, slots := kX.instanceTypes.map defaultValue, vm := .none } = T1 at X₁ st1
  have hcat : (Value.ref T.heap.size).category = 1 := rfl
  have hcellA : T1.heap[T.heap.size]? = some (freshCell cX kX) := by rw [← hT1]; exact State.heap_pushCell_size _ _
  have d3' : decode c.code (pc + 3) = .ok (.dup, 1) := by rw [hb]; exact d3
  have d4' : decode c.code (pc + 4) = .ok (.ldc is, 2) := by rw [hb]; exact d4
  have hstr' : vk_R own is text sa s' := vk_R.warm hW0 hstr
  obtain ⟨U, hsteps, hrun, hend, hW, hsame, ce, hce, hO⟩ := X₁.ctorThrowS hexec htr (own := own) (cls := cls) (names := names) (ic := ic) hown' hcls hnames h (fun x hx => nomatch hx) hfX hkX hcellA (by rw [hhp, hT]; exact Nat.le_refl _) (msg := .ref sa) rfl
    (g := { method := m, pc := pc + 6, locals := ls, stack := .ref sa :: .ref T.heap.size :: .ref T.heap.size :: rest, locked := none }) rfl hsize rfl rfl (rest := rest) rfl
    (by rw [hb]; exact d6) (by rw [hb]; exact d9) hout hRframes (by simp only [List.map_cons, List.sum_cons, hcat]; omega) hlocks
  obtain ⟨f1, f2⟩ := vx_frame hsame
  rw [hhp] at f1 f2
  have hWs : s.WarmedH U.vm := State.WarmedH.trans hW0 hW
  have hcl : s.vm.findClass cls = some ce.cls := by
    have h9 := hO.cls
    rw [hvm] at h9
    exact h9
  have hall : s.sameButNew ({ U with vm := s.vm } : State) locs mc ms := by
    subst hA
    obtain ⟨e1, e2⟩ := hsame
    rw [State.setFrames_setFrames] at e1
    have h2 : (T.setVm s.vm).sameButNew ({ U with vm := s.vm } : State) [] (0 + 1) (0 + 6) := ⟨e1, e2⟩
    have h3 := X.same.trans h2
    rw [List.append_nil] at h3
    exact h3.mono hc hs
  refine ⟨U, ?_, .threw T.heap.size, hrun, hend, Or.inr ⟨T.heap.size, rfl, cls, ce, locs, hx U hWs.alike f1 (fun q hq => f2 q hq (fun z hz => nomatch hz)), hce, hO.vm, hcl, hWs, hall, hf⟩⟩
  refine st1 _ ?_
  show Steps p.tables e below (T1.setTop { method := m, pc := pc + 3, locals := ls, stack := .ref T.heap.size :: rest, locked := none }) _
  jvm_step X₁.here [X₁.here.top, hexec, d3', Value.category]
  exact X₁.ldcString hexec (own := own) (text := text) (index := is) (a := sa) hown' hstr'.1 hstr'.2
    (g := { method := m, pc := pc + 4, locals := ls, stack := .ref T.heap.size :: .ref T.heap.size :: rest, locked := none }) rfl d4' _ hsteps
/-- 'throw new E("text")', the text by a wide index -/
theorem vx_throwSW {cc : ByteArray} {pc : Nat} (hexec : p.tables.exec = Jvm.exec) (hb : c.code = cc) (hl : l.stackTraces = false) {own cls text : String} {names : List String} {ik is ic mc ms sa : Nat} {A : Nat → Prop}
    (hown : s.vm.findClass own = some m.cls) (hcls : Bundle.fit cls = true) (hnames : ∀ n ∈ names, Bundle.fit n = true)
    (hk : (Cond.classLink own ik cls).before args s = true) (hini : (Cond.initialized cls).before args s = true) (hstr : vk_R own is text sa s) (hat : ∀ w ∈ vx_atS own ic cls names, w.before args s = true)
    (hgood : ∀ w ∈ Cond.classLink own ik cls :: Cond.initialized cls :: vx_atS own ic cls names, vx_ot w = true)
    (hU : vx_Zq Bundle.tN "UNASSIGNED_STACK" Bundle.steD A s s.heap) (hN : vx_Zq Bundle.tN "SUPPRESSED_SENTINEL" Bundle.listD A s s.heap) (hS : va_S A s.heap H locs) (hsize : ls.size = c.maxLocals)
    (d0 : decode cc pc = .ok (.new ik, 3)) (d3 : decode cc (pc + 3) = .ok (.dup, 1)) (d4 : decode cc (pc + 4) = .ok (.ldc_w is, 3)) (d7 : decode cc (pc + 7) = .ok (.invokespecial ic, 3)) (d10 : decode cc (pc + 10) = .ok (.athrow, 1))
    (hout : ∀ x ∈ c.exceptionTable.toList, covers x (pc + 10) = false)
    (hRframes : names.length + 3 < R.frames) (hRlocals : (rest.map fun v => v.category).sum + (13 * (names.length + 1) + 43) ≤ R.locals) (hRcells : cells + 1 ≤ R.cells) (hRslots : slots + 6 ≤ R.slots) (hlocks : meth.locks = false)
    (hx : ∀ t : State, s.vm.Alike t.vm → H.size ≤ t.heap.size → (∀ q : Nat, q < H.size → t.heap[q]? = H[q]?) → XC cls s t)
    (hf : ∀ z ∈ locs, free z.base) (hc : cells + 1 ≤ mc) (hs : slots + 6 ≤ ms) :
    W p l e R s m args below meth c H locs cells slots (vx_MQ below Qc XC args s mc ms free) (F0 m pc ls rest) := by
  intro T hT X
  have htr : e.platform.stackTraces = false := (show e.platform.stackTraces = l.stackTraces by rw [X.admits.platform]).trans hl
  have Y := vx_rebase X (R' := { frames := R.frames, locals := R.locals, cells := 1, slots := 6 }) (Nat.le_refl _) (Nat.le_refl _) hRcells hRslots
  obtain ⟨s', hA⟩ : ∃ z, z = (T.setVm s.vm).setFrames (.invoking m args :: below) := ⟨_, rfl⟩
  rw [← hA] at Y
  have hvm : s'.vm = s.vm := by rw [hA]; rfl
  have hhp : s'.heap = H := by rw [hA]; exact hT
  have hW0 : s.WarmedH s'.vm := by rw [hvm]; exact State.WarmedH.refl s
  have hat' : ∀ w ∈ vx_atS own ic cls names, w.before args s' = true := fun w hw => vx_ot_at hW0 hvm.symm (hgood w (List.mem_cons_of_mem _ (List.mem_cons_of_mem _ hw))) (hat w hw)
  have hk' : (Cond.classLink own ik cls).before args s' = true := vx_ot_at hW0 hvm.symm (hgood _ List.mem_cons_self) hk
  have hini' : (Cond.initialized cls).before args s' = true := vx_ot_at hW0 hvm.symm (hgood _ (List.mem_cons_of_mem _ List.mem_cons_self)) hini
  have hU' : vx_Zq Bundle.tN "UNASSIGNED_STACK" Bundle.steD A s' s'.heap := by rw [hhp]; exact vx_Zq.moved hW0.alike (hU.kept hS.2.1)
  have hN' : vx_Zq Bundle.tN "SUPPRESSED_SENTINEL" Bundle.listD A s' s'.heap := by rw [hhp]; exact vx_Zq.moved hW0.alike (hN.kept hS.2.1)
  have h : ∀ w ∈ Bundle.ownAtoms own ic cls names, w.before args s' = true := vx_own hat' (vx_isRefq hU'.1) (vx_isRefq hN'.1) hU'.2.word hN'.2.word
  have hown' : s'.vm.findClass own = some m.cls := by rw [hvm]; exact hown
  have hins : (Cond.instantiable cls 6).before args s' = true := h _ (by simp [Bundle.ownAtoms])
  obtain ⟨vm₁, cX, kX, hfX, hkX, -, -, X₁, st1⟩ := Y.newCold hexec (own := own) (C := cls) (index := ik) (n := 6) hown' hk' hins hini'
    (g := F0 m pc ls rest) rfl (by rw [hb]; exact d0) (Nat.le_refl _) (Nat.le_refl _)
  generalize hT1 : (T.setVm vm₁).pushCell { cls := cX, slots := kX.instanceTypes.map defaultValue, vm := .none } = T1 at X₁ st1
  have hcat : (Value.ref T.heap.size).category = 1 := rfl
  have hcellA : T1.heap[T.heap.size]? = some (freshCell cX kX) := by rw [← hT1]; exact State.heap_pushCell_size _ _
  have d3' : decode c.code (pc + 3) = .ok (.dup, 1) := by rw [hb]; exact d3
  have d4' : decode c.code (pc + 4) = .ok (.ldc_w is, 3) := by rw [hb]; exact d4
  have hstr' : vk_R own is text sa s' := vk_R.warm hW0 hstr
  obtain ⟨U, hsteps, hrun, hend, hW, hsame, ce, hce, hO⟩ := X₁.ctorThrowS hexec htr (own := own) (cls := cls) (names := names) (ic := ic) hown' hcls hnames h (fun x hx => nomatch hx) hfX hkX hcellA (by rw [hhp, hT]; exact Nat.le_refl _) (msg := .ref sa) rfl
    (g := { method := m, pc := pc + 7, locals := ls, stack := .ref sa :: .ref T.heap.size :: .ref T.heap.size :: rest, locked := none }) rfl hsize rfl rfl (rest := rest) rfl
    (by rw [hb]; exact d7) (by rw [hb]; exact d10) hout hRframes (by simp only [List.map_cons, List.sum_cons, hcat]; omega) hlocks
  obtain ⟨f1, f2⟩ := vx_frame hsame
  rw [hhp] at f1 f2
  have hWs : s.WarmedH U.vm := State.WarmedH.trans hW0 hW
  have hcl : s.vm.findClass cls = some ce.cls := by
    have h9 := hO.cls
    rw [hvm] at h9
    exact h9
  have hall : s.sameButNew ({ U with vm := s.vm } : State) locs mc ms := by
    subst hA
    obtain ⟨e1, e2⟩ := hsame
    rw [State.setFrames_setFrames] at e1
    have h2 : (T.setVm s.vm).sameButNew ({ U with vm := s.vm } : State) [] (0 + 1) (0 + 6) := ⟨e1, e2⟩
    have h3 := X.same.trans h2
    rw [List.append_nil] at h3
    exact h3.mono hc hs
  refine ⟨U, ?_, .threw T.heap.size, hrun, hend, Or.inr ⟨T.heap.size, rfl, cls, ce, locs, hx U hWs.alike f1 (fun q hq => f2 q hq (fun z hz => nomatch hz)), hce, hO.vm, hcl, hWs, hall, hf⟩⟩
  refine st1 _ ?_
  show Steps p.tables e below (T1.setTop { method := m, pc := pc + 3, locals := ls, stack := .ref T.heap.size :: rest, locked := none }) _
  jvm_step X₁.here [X₁.here.top, hexec, d3', Value.category]
  exact X₁.ldcStringW hexec (own := own) (text := text) (index := is) (a := sa) hown' hstr'.1 hstr'.2
    (g := { method := m, pc := pc + 4, locals := ls, stack := .ref T.heap.size :: .ref T.heap.size :: rest, locked := none }) rfl d4' _ hsteps
end Ends
section Bodies
variable {l : Launch}
theorem vx_ofW {y : MethodName} {ws ws' : List Cond} {rm : Room} {Pc : Array Value → State → Prop} {Qc : Array Value → State → Outcome → State → Prop} {XC : String → State → State → Prop} {mc ms : Nat} {free : Addr → Prop} {cc : ByteArray} {maxL : Nat} {ret : Option FieldType}
    (hy : plainName y.cls = true) (hw : ws = Cond.code y cc maxL ret :: ws')
    (body : ∀ p e s m args below meth c s₁, BodyLoose p l y (headSpec ws rm) cc maxL ret e s m args below meth c s₁ → c.maxLocals = maxL → (∀ x ∈ c.exceptionTable.toList, False) → Pc args s →
      W p l e (headSpec ws rm).room s m args below meth c s.heap [] 0 0 (vx_MQ below Qc XC args s mc ms free) (entryFrame m args maxL)) : vx_Met l y ws rm Pc Qc XC mc ms free := by
  refine MetFree.of_bodyS (code := cc) (maxLocals := maxL) (ret := ret) hy ?_ ?_
  · intro args s m h hn
    obtain ⟨meth, c, h1, h2, h3, h4, h5, h6, -, -⟩ := Cond.code_spec hn (atoms_spec (ws := ws) h _ (by rw [hw]; exact List.mem_cons_self))
    exact ⟨meth, c, h1, h2, h3, h4, h5, h6⟩
  · intro p e s m args below meth c s₁ B hml hP _
    have hh0 : s₁.heap = s.heap := by rw [B.state]; rfl
    have ht : ∀ x ∈ c.exceptionTable.toList, False := by
      obtain ⟨meth9, c9, h1, h2, -, -, -, -, h7, -⟩ := Cond.code_spec B.named (atoms_spec (ws := ws) B.pre _ (by rw [hw]; exact List.mem_cons_self))
      cases Option.some.inj (h1.symm.trans B.method)
      cases Option.some.inj (h2.symm.trans (Stand.of_body B).code)
      intro x hx
      rw [Array.isEmpty_iff.mp h7] at hx
      cases hx
    obtain ⟨t, a1, o, b1, b2, b3⟩ := body p e s m args below meth c s₁ B hml ht hP s₁ hh0 (Stand.of_body B)
    exact ⟨t, o, a1, b1, b2, b3⟩
/-- the table of a body with handlers -/
theorem vx_table {p : Program} {x y : MethodName} {S : Spec} {cc bytes : ByteArray} {maxL maxL' : Nat} {ret ret' : Option FieldType} {e : Env} {s s₁ : State} {m : MethodId} {args : Array Value} {below : List Frame} {meth : Method} {c : Code} {hh : List (Nat × Nat × Nat × Nat)}
    (B : BodyLoose p l y S cc maxL ret e s m args below meth c s₁) (h : (Cond.codeWith y bytes maxL' ret' hh).before args s = true) : c.exceptionTable.toList = tableOf hh := by
  obtain ⟨m9, meth9, c9, hn9, h1, h2, -, -, h6, -⟩ := Cond.codeWith_spec h
  cases Option.some.inj (hn9.symm.trans B.named)
  cases Option.some.inj (h1.symm.trans B.method)
  cases Option.some.inj (h2.symm.trans (Stand.of_body B).code)
  rw [← h6, table_eq]
end Bodies
end VXA
/-! ===== END ===== -/
/-! ===== BEGIN a static call of a method with an exception table ===== -/
section VXS
variable {p : Program} {l : Launch} {e : Env} {R : Room} {s : State} {m : MethodId} {args : Array Value} {below : List Frame} {meth : Method} {c : Code} {T : State} {H : Heap} {locs : List Loc} {cells slots : Nat}
abbrev vx_CSW (R : Room) (s : State) (args : Array Value) (own : String) (index : Nat) (y : MethodName) (bytes : ByteArray) (maxL : Nat) (ret : Option FieldType) (hh : List (Nat × Nat × Nat × Nat)) (ws : List Cond) (rm : Room) (mc ms n : Nat) : Prop :=
  (rm.cells = mc ∧ rm.slots = ms ∧ rm.frames + 1 ≤ R.frames ∧ 8 + (maxL + 11) + rm.locals ≤ R.locals ∧ (∀ w ∈ ws, ∀ (a' : Array Value) (U : State), s.WarmedH U.vm → w.before a' U = true) ∧ Cond.codeWith y bytes maxL ret hh ∈ ws) ∧
  (Cond.codeWith y bytes maxL ret hh).before args s = true ∧ (Cond.initialized y.cls).before args s = true ∧ (y.cls ≠ "java/lang/invoke/MethodHandle" ∧ y.cls ≠ "java/lang/invoke/VarHandle") ∧
  (∀ sig, parseMethodDescriptor y.desc = some sig → n = sig.parameters.length) ∧ (Cond.methodLink own index y).before args s = true ∧ (Cond.static y).before args s = true
theorem vx_cwSW {own : String} {index maxL mc ms : Nat} {y : MethodName} {bytes : ByteArray} {ret : Option FieldType} {hh : List (Nat × Nat × Nat × Nat)} {Ts ws ws' : List Cond} {rm : Room} (n : Nat) (ht : ∀ w ∈ Ts, w.before args s = true) (hT : GoodIn Ts (va_wsS own index y ws)) (hw : ws = Cond.codeWith y bytes maxL ret hh :: ws') (hrc : rm.cells = mc) (hrs : rm.slots = ms)
    (hd : y.cls ≠ "java/lang/invoke/MethodHandle" ∧ y.cls ≠ "java/lang/invoke/VarHandle" ∧ (parseMethodDescriptor y.desc).map (fun d => d.parameters.length) = some n) (hR : rm.frames + 1 ≤ R.frames ∧ 8 + (maxL + 11) + rm.locals ≤ R.locals) :
    vx_CSW R s args own index y bytes maxL ret hh ws rm mc ms n := by
  have ok : ∀ w ∈ va_wsS own index y ws, w.before args s = true := fun w h => ht w (hT w h).1
  have hG : GoodIn Ts ws := fun w h => hT w (by unfold va_wsS; exact List.mem_append_right _ h)
  have hc : Cond.codeWith y bytes maxL ret hh ∈ ws := by rw [hw]; exact List.mem_cons_self
  refine ⟨⟨hrc, hrs, hR.1, hR.2, pay_in ht hG, hc⟩, ht _ (hG _ hc).1, ok _ (by simp [va_wsS]), ⟨hd.1, hd.2.1⟩, fun sig h => ?_, ok _ (by simp [va_wsS]), ok _ (by simp [va_wsS])⟩
  have h2 := hd.2.2
  rw [h] at h2
  exact (Option.some.inj h2).symm
theorem vx_callSW (X : Stand p l e R s m args below meth c T locs cells slots) (hexec : p.tables.exec = Jvm.exec) {own : String} {index : Nat} {y : MethodName} {bytes : ByteArray} {maxL : Nat} {ret : Option FieldType} {hh : List (Nat × Nat × Nat × Nat)}
    (hown : s.vm.findClass own = some m.cls) (hlink : (Cond.methodLink own index y).before args s = true) (hstat : (Cond.static y).before args s = true) (hinit : (Cond.initialized y.cls).before args s = true)
    (hcode : (Cond.codeWith y bytes maxL ret hh).before args s = true) (hy : y.cls ≠ "java/lang/invoke/MethodHandle" ∧ y.cls ≠ "java/lang/invoke/VarHandle")
    {W9 : Nat} {Pre : Pt → Array Value → Prop} {Post : Pt → Array Value → Option Value → Pt → Prop} (hK : Back l R p e below s args y 3 W9 Pre Post)
    {g : JFrame} (hg : g.method = m) (hsize : g.locals.size = c.maxLocals) {argsL rest : List Value} (hlen : ∀ sig, parseMethodDescriptor y.desc = some sig → argsL.length = sig.parameters.length)
    (hstack : g.stack = argsL.reverse ++ rest) (hW : 2 * g.monitorRoom + (rest.map fun v => v.category).sum ≤ W9) (hdg : decode c.code g.pc = .ok (.invokestatic index, 3))
    (hpre : ∀ vm₁, s.WarmedH vm₁ → Pre ⟨T.setVm vm₁, locs, cells, slots⟩ argsL.toArray) :
    ∃ (v : Option Value) (vm₁ : Vm) (B : Pt), s.WarmedH vm₁ ∧ Stand p l e R s m args below meth c B.U B.locs B.cells B.slots ∧ Post ⟨T.setVm vm₁, locs, cells, slots⟩ argsL.toArray v B ∧
      ∀ target, Steps p.tables e below (B.U.setTop { g with pc := g.pc + 3, stack := v.toList ++ rest }) target → Steps p.tables e below (T.setTop g) target := by
  obtain ⟨mk, methM, cM, hnamed, hmethM, -, -, -, -, -, -, hsigM⟩ := Cond.codeWith_spec hcode
  have hstatic : methM.isStatic = true := Cond.static_spec hnamed hmethM hstat
  obtain ⟨kP, hkP, -⟩ := className_of_methodNamed hnamed
  have hinitP : kP.init = .initialized := Cond.initialized_spec (findClass_of_methodNamed hnamed) hkP hinit
  obtain ⟨vm₁, X₁, hstep₁⟩ := X.invokestatic hexec hown hlink hnamed hmethM hstatic hkP hinitP hy (g := g) hg (argsL := argsL) (rest := rest) (hlen _ hsigM) hstack hdg
  obtain ⟨v, B, X', hpost, hsteps⟩ := hK m meth c ⟨T.setVm vm₁, locs, cells, slots⟩ { g with stack := rest } (.invokestatic index) mk argsL.toArray X₁ hg hsize hdg hW (X₁.named hnamed) (hpre vm₁ X₁.warmed)
  exact ⟨v, vm₁, B, X₁.warmed, X', hpost, fun target h => hstep₁ _ fun acts => by rw [doInvoke_state]; exact hsteps.trans h⟩
theorem vx_runSW {y : MethodName} {bytes cc : ByteArray} {maxL nL mc ms n index : Nat} {ret : Option FieldType} {hh : List (Nat × Nat × Nat × Nat)} {ws : List Cond} {rm : Room} {Pc : Array Value → State → Prop} {Qc : Array Value → State → Outcome → State → Prop} {free : Addr → Prop} {Ts : List Cond} {own : String} {As rest : List Value} {g : JFrame}
    (S : CallFix p m c cc nL s args Ts own) (hM : Met l y ws rm Pc Qc mc ms free) (cw : vx_CSW R s args own index y bytes maxL ret hh ws rm mc ms n) (hp : PreS s H Pc As)
    (hg : g.method = m) (hn : As.length = n) (hsize : g.locals.size = nL) (hstack : g.stack = As.reverse ++ rest) (hW : 2 * g.monitorRoom + (rest.map fun v => v.category).sum ≤ 8) (hdg : decode cc g.pc = .ok (.invokestatic index, 3)) (hf : cells + mc ≤ R.cells ∧ slots + ms ≤ R.slots) :
    va_Run p l e R s m args below meth c H locs cells slots mc ms g rest (Qc As.toArray) (free) := by
  obtain ⟨⟨hrc, hrs, hfr, hlo, hws, hcw⟩, hcode, hini, hy, hlen, hl, hstt⟩ := cw
  have hK : Back l R p e below s args y 3 8 (PreOf R mc ms Pc) (PostOf Qc mc ms free) := va_backW (hh := hh) (bytes := bytes) (maxL := maxL) (ret := ret) hM hp.1 hrc hrs hfr hlo hws hcw (fun a' U hW => word_at hW (Or.inl (by first | rfl | simp [Cond.onTables, Cond.keeps, Cond.steady])) hini)
  obtain ⟨hx, hb, hml, ho, -⟩ := S
  intro T hT X
  obtain ⟨v, vm₁, ⟨U', l2, c2, s2⟩, hW₁, X', ⟨g', mk, t, L, e1, e2, hq, h1, hL, h2, h3⟩, st⟩ := vx_callSW X hx (hh := hh) (bytes := bytes) (maxL := maxL) (ret := ret) ho hl hstt hini hcode hy hK hg (hsize.trans hml.symm) (argsL := As) (rest := rest) (fun sig h => hn.trans (hlen sig h)) hstack hW (by rw [hb]; exact hdg)
    (fun vm₁ hW₁ => ⟨hf.1, hf.2, hp.2 (T.setVm vm₁) hT hW₁⟩)
  dsimp only [Pt.U, Pt.locs, Pt.cells, Pt.slots] at X' e1 e2 h1 h2 h3 st
  subst h1; subst h2; subst h3
  exact ⟨v, (T.setVm vm₁).calling g' mk As.toArray, t, U', L, hT, X', hL, e1, e2, hq, st⟩
/-- not caught here, past rows that name other classes: it goes on to the caller -/
theorem vx_outP {p : Program} {l : Launch} {e : Env} {R : Room} {s : State} {m : MethodId} {args : Array Value} {below : List Frame} {meth : Method} {c : Code} {H : Heap} {locs : List Loc} {cells slots : Nat} {free : Addr → Prop} {ls : Array Slot} {rest : List Value} {Qc : Array Value → State → Outcome → State → Prop} {XC : String → State → State → Prop}
    {pc : Nat} {own E : String} {ce : Cell} {q : Addr} {mc ms : Nat} (hown : s.vm.findClass own = some m.cls) (hlocks : meth.locks = false)
    (hpass : ∀ z ∈ c.exceptionTable.toList, covers z pc = false ∨ (z.catchType ≠ 0 ∧ ∃ nm : String, (Cond.classLink own z.catchType nm).before args s = true ∧ va_Nc E nm s)) (hcell : H[q]? = some ce) (hv : ce.vm = .none) (hcl : s.vm.findClass E = some ce.cls)
    (hx : ∀ t : State, t.heap = H → s.vm.Alike t.vm → XC E s t) (hf : ∀ z ∈ locs, free z.base) (hc : cells ≤ mc) (hs : slots ≤ ms) :
    vx_W p l e R s m args below meth c H locs cells slots (vx_MQ below Qc XC args s mc ms free) (F0 m pc ls rest) q := by
  intro T hT X
  have hpl : e.platform.magicAccessors = ({} : Platform).magicAccessors := by rw [X.admits.platform]
  obtain ⟨vm', hW', X', st⟩ := X.outThrough hlocks q (g := F0 m pc ls rest) rfl rfl rfl (cell := ce) (by rw [hT]; exact hcell) (by rw [hv]; rfl)
    (by obtain ⟨k9, h9, -⟩ := Vm.findClass_spec hcl; exact ⟨k9, h9⟩) (fun z hz => by
      rcases hpass z hz with h | ⟨hz0, nm, hl1, hn1⟩
      · exact Or.inl h
      · obtain ⟨c6, hc6, hcl6⟩ := Cond.classLink_spec hown hl1 e.platform hpl
        obtain ⟨a8, b8, h1, h2, h3⟩ := hn1
        cases Option.some.inj (h1.symm.trans hcl)
        cases Option.some.inj (h2.symm.trans hc6)
        exact Or.inr ⟨hz0, _, hcl6, h3⟩)
  obtain ⟨g₀, hfr⟩ := X'.frames_eq
  have hcell9 : ((T.setVm vm').setFrames (.throwing q :: below)).heap[q]? = some ce := by
    show T.heap[q]? = some ce
    rw [hT]; exact hcell
  have hend : Ended ((T.setVm vm').setFrames (.throwing q :: below)) below (.threw q) := State.frames_setFrames _ (State.cur_lt_of_frames hfr)
  refine ⟨(T.setVm vm').setFrames (.throwing q :: below), ?_, .threw q, X'.here.running, hend, Or.inr ⟨q, rfl, E, ce, locs, hx _ hT (X'.ends _).1.alike, hcell9, hv, hcl, (X'.ends _).1, (X'.ends _).2.mono hc hs, hf⟩⟩
  rw [X.pushThrowing_eq]
  exact st
/-- a thing of a world lies in the heap -/
theorem vx_lt {D : va_G} {cl : List vw_C} {ws : va_W} {H1 : Heap} (h : va_P D cl ws H1) {k : Nat} {q : Nat × va_E} (hk : ws[k]? = some q) : q.1 < H1.size := (h k q hk).lt
end VXS
/-! ===== END ===== -/
/-! ===== BEGIN methods with a table of their own: called by a name, returning or throwing ===== -/
section VXH
/-! vx_backW, vx_callVX, vx_callSX, vx_callVW, vx_runVW, vx_runVX, vx_runSX, vx_ofWH follow the same proofs as their sisters above (Free/Laws.lean, Shelf42/LK1.lean); vx_outP calls Shelf42/NT130.lean (outThrough). -/
section
variable {l : Launch} {R : Room} {p : Program} {e : Env} {below : List Frame} {s : State} {sargs : Array Value} {y : MethodName} {len W9 : Nat}
theorem vx_backW {ws : List Cond} {rm : Room} {Pc : Array Value → State → Prop} {Qc : Array Value → State → Outcome → State → Prop} {XC : String → State → State → Prop} {mc ms : Nat} {free : Addr → Prop} {bytes : ByteArray} {maxL : Nat} {ret : Option FieldType} {hh : List (Nat × Nat × Nat × Nat)}
    (hM : vx_Met l y ws rm Pc Qc XC mc ms free) (hblind : FrameBlind Pc) (hrc : rm.cells = mc) (hrs : rm.slots = ms)
    (hframes : rm.frames + 1 ≤ R.frames) (hlocals : W9 + (maxL + 11) + rm.locals ≤ R.locals)
    (hws : ∀ w ∈ ws, ∀ a' U, s.WarmedH U.vm → w.before a' U = true) (hcode : Cond.codeWith y bytes maxL ret hh ∈ ws) (hinit : ∀ a' U, s.WarmedH U.vm → (Cond.initialized y.cls).before a' U = true) :
    vx_Back l R p e below s sargs y len W9 (PreOf R mc ms Pc) (PostOf Qc mc ms free) (vx_Post XC mc ms free) := by
  intro m meth c A g ig mk a X hg hsize hdg hW hn hp
  have h1 : (headSpec ws rm).pre.before a A.U = true := atoms_intro fun w hw => hws w hw _ _ X.warmed
  have h2 : (Cond.codeWith y bytes maxL ret hh).before a A.U = true := hws _ hcode _ _ X.warmed
  have h3 : (Cond.initialized y.cls).before a A.U = true := hinit _ _ X.warmed
  have h4 : A.cells + (headSpec ws rm).room.cells ≤ R.cells := by rw [show (headSpec ws rm).room.cells = mc from hrc]; exact hp.1
  have h5 : A.slots + (headSpec ws rm).room.slots ≤ R.slots := by rw [show (headSpec ws rm).room.slots = ms from hrs]; exact hp.2.1
  have hPc : Pc a (A.U.calling g mk a) := hblind _ _ _ _ hp.2.2
  obtain ⟨U, Ls, c0, s0⟩ := A
  dsimp only [Pt.U, Pt.locs, Pt.cells, Pt.slots] at h1 h2 h3 h4 h5 X hn hPc ⊢
  obtain ⟨m9, methY, cY, hn9, hmY, hcY, -, hlY, -⟩ := Cond.codeWith_spec h2
  cases Option.some.inj (hn9.symm.trans hn)
  obtain ⟨kY, hkY, -⟩ := className_of_methodNamed hn
  have hinitY : kY.init = .initialized := Cond.initialized_spec (findClass_of_methodNamed hn) hkY h3
  have h : At U g.method c below := by rw [hg]; exact X.here
  have hlocals9 : W9 + (maxL + 11) + (headSpec ws rm).room.locals ≤ R.locals := hlocals
  have happ : (headSpec ws rm).appliesLoose y e.platform (U.calling g mk a) = true :=
    Spec.appliesLoose_calling (g := g) h hdg hn hkY hinitY
      (X.room_calling (g := g) (R' := (headSpec ws rm).room) hsize hmY hcY hframes (by rw [hlY]; omega) h4 h5) h1
  obtain ⟨mid, hmid⟩ := h.above
  have hfr : (U.setTop g).frames = (.java g :: mid) ++ below := by rw [State.frames_setTop' g h.top, hmid]; rfl
  obtain ⟨o, s₂, hsteps, -, hend, hq⟩ := Steps.callFree hM p X.admits X.cas X.clock (acts := []) hfr happ hPc trivial
  have hq' : vx_Q Qc XC mc ms free a (U.calling g mk a) o s₂ := hq
  rw [State.frames_setTop' g h.top] at hend
  obtain ⟨g₀, hg0⟩ := Option.isSome_iff_exists.mp h.top
  obtain ⟨r, hr⟩ := State.topJava?_eq_some.mp hg0
  have hr' : (({ U with heap := s₂.heap, slotsUsed := s₂.slotsUsed } : State).setVm s₂.vm).frames = .java g₀ :: r := hr
  rcases hq' with ⟨hqc, L, hfe, hL⟩ | ⟨q, rfl, E, ce, L, hx, hce, hcv, hcl, hW₂, hsm, hL⟩
  · obtain ⟨⟨v, rfl⟩, hW₂, e2, q2, q3, q4, q5, q6⟩ := id hfe
    have e3 : s₂ = ({ (U.calling g mk a).setFrames s₂.frames with heap := s₂.heap, slotsUsed := s₂.slotsUsed } : State).setVm s₂.vm := by
      have : s₂ = ({ s₂ with vm := (U.calling g mk a).vm } : State).setVm s₂.vm := rfl
      rw [e2] at this
      exact this
    obtain ⟨c₂, i₂, len₂, hc₂, hd₂, hf₂⟩ := hend
    have hW' : U.WarmedH s₂.vm := hW₂
    have hcc : c₂ = c := by
      have h1 : s₂.code? g.method = U.code? g.method := by
        rw [State.code?_eq, State.code?_eq, hW'.alike.method?]
      exact Option.some.inj (hc₂.symm.trans (h1.trans h.code))
    subst hcc
    have hlen : len₂ = len := by rw [hdg] at hd₂; cases hd₂; rfl
    subst hlen
    have hs₂ : s₂ = (({ U with heap := s₂.heap, slotsUsed := s₂.slotsUsed } : State).setVm s₂.vm).setTop { g with pc := g.pc + len₂, stack := v.toList ++ g.stack } := by
      refine e3.trans ?_
      rw [hf₂, State.calling_eq h.top, State.setFrames_setFrames, State.setTop_of_frames _ hr', hr]
      rfl
    have hsame : U.sameButNew ({ U with heap := s₂.heap, slotsUsed := s₂.slotsUsed } : State) L mc ms := by
      refine ⟨?_, q2, q3, q4, q5, q6⟩
      obtain ⟨t, ht, -⟩ := State.frames_cons hr
      show ({ U with heap := s₂.heap, slotsUsed := s₂.slotsUsed } : State) = { U.setFrames U.frames with heap := s₂.heap, slotsUsed := s₂.slotsUsed }
      rw [State.setFrames_self ht]
    subst hg
    refine Or.inl ⟨v, ⟨(({ U with heap := s₂.heap, slotsUsed := s₂.slotsUsed } : State).setVm s₂.vm), Ls ++ L, c0 + mc, s0 + ms⟩,
      ⟨X.admits, X.cas, X.clock, X.frames, X.room, X.hears, X.method, X.code, (X.here.setHeapUsed s₂.heap s₂.slotsUsed).setVm hW'.alike, X.tail, State.WarmedH.trans X.warmed hW', X.limits, X.bytes, X.same.trans (hsame.setVm s.vm)⟩,
      ⟨g, mk, s₂, L, rfl, rfl, hqc, rfl, hL, rfl, rfl⟩, ?_⟩
    show Steps p.tables e below _ ((({ U with heap := s₂.heap, slotsUsed := s₂.slotsUsed } : State).setVm s₂.vm).setTop { g with pc := g.pc + len₂, stack := v.toList ++ g.stack })
    rw [← hs₂]
    exact hsteps
  · obtain ⟨e2, q2, q3, q4, q5, q6⟩ := id hsm
    have e3 : s₂ = ({ (U.calling g mk a).setFrames s₂.frames with heap := s₂.heap, slotsUsed := s₂.slotsUsed } : State).setVm s₂.vm := by
      have : s₂ = ({ s₂ with vm := (U.calling g mk a).vm } : State).setVm s₂.vm := rfl
      rw [e2] at this
      exact this
    have hf₂ : s₂.frames = .throwing q :: .java g :: U.frames.tail := hend
    have hW' : U.WarmedH s₂.vm := hW₂
    have hs₂ : s₂ = ((({ U with heap := s₂.heap, slotsUsed := s₂.slotsUsed } : State).setVm s₂.vm).setTop g).pushFrame (.throwing q) := by
      refine e3.trans ?_
      rw [hf₂, State.calling_eq h.top, State.setFrames_setFrames, State.pushFrame, State.frames_setTop _ hr', State.setTop_of_frames _ hr', State.setFrames_setFrames, hr]
      rfl
    have hsame : U.sameButNew ({ U with heap := s₂.heap, slotsUsed := s₂.slotsUsed } : State) L mc ms := by
      refine ⟨?_, q2, q3, q4, q5, q6⟩
      obtain ⟨t, ht, -⟩ := State.frames_cons hr
      show ({ U with heap := s₂.heap, slotsUsed := s₂.slotsUsed } : State) = { U.setFrames U.frames with heap := s₂.heap, slotsUsed := s₂.slotsUsed }
      rw [State.setFrames_self ht]
    subst hg
    refine Or.inr ⟨q, ⟨(({ U with heap := s₂.heap, slotsUsed := s₂.slotsUsed } : State).setVm s₂.vm), Ls ++ L, c0 + mc, s0 + ms⟩,
      ⟨X.admits, X.cas, X.clock, X.frames, X.room, X.hears, X.method, X.code, (X.here.setHeapUsed s₂.heap s₂.slotsUsed).setVm hW'.alike, X.tail, State.WarmedH.trans X.warmed hW', X.limits, X.bytes, X.same.trans (hsame.setVm s.vm)⟩,
      ⟨g, mk, s₂, L, E, ce, rfl, rfl, hx, hce, hcv, hcl, rfl, hL, rfl, rfl⟩, ?_⟩
    show Steps p.tables e below _ (((({ U with heap := s₂.heap, slotsUsed := s₂.slotsUsed } : State).setVm s₂.vm).setTop g).pushFrame (.throwing q))
    rw [← hs₂]
    exact hsteps
end
variable {p : Program} {l : Launch} {e : Env} {R : Room} {s : State} {m : MethodId} {args : Array Value} {below : List Frame} {meth : Method} {c : Code} {T : State} {H : Heap} {locs : List Loc} {cells slots : Nat}
theorem vx_callVX (X : Stand p l e R s m args below meth c T locs cells slots) (hexec : p.tables.exec = Jvm.exec) {own C : String} {index : Nat} {y : MethodName} {bytes : ByteArray} {maxL : Nat} {ret : Option FieldType} {hh : List (Nat × Nat × Nat × Nat)}
    (hown : s.vm.findClass own = some m.cls) (hlink : (Cond.methodLink own index y).before args s = true) (hinst : (Cond.instanceMethod y).before args s = true) (hsel : (Cond.selects C y y).before args s = true)
    (hcode : (Cond.codeWith y bytes maxL ret hh).before args s = true) (hy : y.cls ≠ "java/lang/invoke/MethodHandle" ∧ y.cls ≠ "java/lang/invoke/VarHandle")
    {W9 : Nat} {Pre : Pt → Array Value → Prop} {Post : Pt → Array Value → Option Value → Pt → Prop} {PostX : Pt → Array Value → Addr → Pt → Prop} (hK : vx_Back l R p e below s args y 3 W9 Pre Post PostX)
    {b : Addr} {cellB : Cell} (hcell : T.heap[b]? = some cellB) (hobj : cellB.vm.isStatics = false) (hcls : s.vm.findClass C = some cellB.cls)
    {g : JFrame} (hg : g.method = m) (hsize : g.locals.size = c.maxLocals) {argsL rest : List Value} (hlen : ∀ sig, parseMethodDescriptor y.desc = some sig → argsL.length = sig.parameters.length)
    (hstack : g.stack = argsL.reverse ++ .ref b :: rest) (hW : 2 * g.monitorRoom + (rest.map fun v => v.category).sum ≤ W9) (hdg : decode c.code g.pc = .ok (.invokevirtual index, 3))
    (hpre : ∀ vm₁, s.WarmedH vm₁ → Pre ⟨T.setVm vm₁, locs, cells, slots⟩ (Value.ref b :: argsL).toArray) :
    (∃ (v : Option Value) (vm₁ : Vm) (B : Pt), s.WarmedH vm₁ ∧ Stand p l e R s m args below meth c B.U B.locs B.cells B.slots ∧ Post ⟨T.setVm vm₁, locs, cells, slots⟩ (Value.ref b :: argsL).toArray v B ∧
      ∀ target, Steps p.tables e below (B.U.setTop { g with pc := g.pc + 3, stack := v.toList ++ rest }) target → Steps p.tables e below (T.setTop g) target) ∨
    (∃ (q : Addr) (vm₁ : Vm) (B : Pt), s.WarmedH vm₁ ∧ Stand p l e R s m args below meth c B.U B.locs B.cells B.slots ∧ PostX ⟨T.setVm vm₁, locs, cells, slots⟩ (Value.ref b :: argsL).toArray q B ∧
      Steps p.tables e below (T.setTop g) ((B.U.setTop { g with stack := rest }).pushFrame (.throwing q))) := by
  obtain ⟨mk, methM, hnamed, hmethM, hstM, habM⟩ := Cond.instanceMethod_spec hinst
  obtain ⟨m8, methM', cM, hn8, hmethM', -, -, -, -, -, -, hsigM⟩ := Cond.codeWith_spec hcode
  cases Option.some.inj (hn8.symm.trans hnamed)
  cases hmethM.symm.trans hmethM'
  obtain ⟨c2, r2, m2, q1, q2, q3, q4, kP, hkP, hkPi⟩ := Cond.selects_spec hsel
  cases hcls.symm.trans q1
  cases (State.methodFound?_of_named hnamed hy).symm.trans q2
  cases hnamed.symm.trans q3
  have hselP : selectMethod e.platform s.vm cellB.cls mk = .method mk := by rw [Launch.admits_selectMethod X.admits]; exact q4
  obtain ⟨vm₁, X₁, hstep₁⟩ := X.invokevirtual hexec hown hlink hnamed hmethM hstM hkP hkPi hy (a := b) (cell := cellB) hcell
    (fun z h => by rw [h] at hobj; cases hobj) hselP hmethM habM hkP hkPi (g := g) hg (argsL := argsL) (rest := rest) (hlen _ hsigM) hstack hdg
  rcases hK m meth c ⟨T.setVm vm₁, locs, cells, slots⟩ { g with stack := rest } (.invokevirtual index) mk (Value.ref b :: argsL).toArray X₁ hg hsize hdg hW (X₁.named hnamed) (hpre vm₁ X₁.warmed) with ⟨v, B, X', hpost, hsteps⟩ | ⟨q, B, X', hpost, hsteps⟩
  · exact Or.inl ⟨v, vm₁, B, X₁.warmed, X', hpost, fun target h => hstep₁ _ fun acts => by rw [doInvoke_state]; exact hsteps.trans h⟩
  · exact Or.inr ⟨q, vm₁, B, X₁.warmed, X', hpost, hstep₁ _ fun acts => by rw [doInvoke_state]; exact hsteps⟩
theorem vx_callSX (X : Stand p l e R s m args below meth c T locs cells slots) (hexec : p.tables.exec = Jvm.exec) {own : String} {index : Nat} {y : MethodName} {bytes : ByteArray} {maxL : Nat} {ret : Option FieldType} {hh : List (Nat × Nat × Nat × Nat)}
    (hown : s.vm.findClass own = some m.cls) (hlink : (Cond.methodLink own index y).before args s = true) (hstat : (Cond.static y).before args s = true) (hinit : (Cond.initialized y.cls).before args s = true)
    (hcode : (Cond.codeWith y bytes maxL ret hh).before args s = true) (hy : y.cls ≠ "java/lang/invoke/MethodHandle" ∧ y.cls ≠ "java/lang/invoke/VarHandle")
    {W9 : Nat} {Pre : Pt → Array Value → Prop} {Post : Pt → Array Value → Option Value → Pt → Prop} {PostX : Pt → Array Value → Addr → Pt → Prop} (hK : vx_Back l R p e below s args y 3 W9 Pre Post PostX)
    {g : JFrame} (hg : g.method = m) (hsize : g.locals.size = c.maxLocals) {argsL rest : List Value} (hlen : ∀ sig, parseMethodDescriptor y.desc = some sig → argsL.length = sig.parameters.length)
    (hstack : g.stack = argsL.reverse ++ rest) (hW : 2 * g.monitorRoom + (rest.map fun v => v.category).sum ≤ W9) (hdg : decode c.code g.pc = .ok (.invokestatic index, 3))
    (hpre : ∀ vm₁, s.WarmedH vm₁ → Pre ⟨T.setVm vm₁, locs, cells, slots⟩ argsL.toArray) :
    (∃ (v : Option Value) (vm₁ : Vm) (B : Pt), s.WarmedH vm₁ ∧ Stand p l e R s m args below meth c B.U B.locs B.cells B.slots ∧ Post ⟨T.setVm vm₁, locs, cells, slots⟩ argsL.toArray v B ∧
      ∀ target, Steps p.tables e below (B.U.setTop { g with pc := g.pc + 3, stack := v.toList ++ rest }) target → Steps p.tables e below (T.setTop g) target) ∨
    (∃ (q : Addr) (vm₁ : Vm) (B : Pt), s.WarmedH vm₁ ∧ Stand p l e R s m args below meth c B.U B.locs B.cells B.slots ∧ PostX ⟨T.setVm vm₁, locs, cells, slots⟩ argsL.toArray q B ∧
      Steps p.tables e below (T.setTop g) ((B.U.setTop { g with stack := rest }).pushFrame (.throwing q))) := by
  obtain ⟨mk, methM, cM, hnamed, hmethM, -, -, -, -, -, -, hsigM⟩ := Cond.codeWith_spec hcode
  have hstatic : methM.isStatic = true := Cond.static_spec hnamed hmethM hstat
  obtain ⟨kP, hkP, -⟩ := className_of_methodNamed hnamed
  have hinitP : kP.init = .initialized := Cond.initialized_spec (findClass_of_methodNamed hnamed) hkP hinit
  obtain ⟨vm₁, X₁, hstep₁⟩ := X.invokestatic hexec hown hlink hnamed hmethM hstatic hkP hinitP hy (g := g) hg (argsL := argsL) (rest := rest) (hlen _ hsigM) hstack hdg
  rcases hK m meth c ⟨T.setVm vm₁, locs, cells, slots⟩ { g with stack := rest } (.invokestatic index) mk argsL.toArray X₁ hg hsize hdg hW (X₁.named hnamed) (hpre vm₁ X₁.warmed) with ⟨v, B, X', hpost, hsteps⟩ | ⟨q, B, X', hpost, hsteps⟩
  · exact Or.inl ⟨v, vm₁, B, X₁.warmed, X', hpost, fun target h => hstep₁ _ fun acts => by rw [doInvoke_state]; exact hsteps.trans h⟩
  · exact Or.inr ⟨q, vm₁, B, X₁.warmed, X', hpost, hstep₁ _ fun acts => by rw [doInvoke_state]; exact hsteps⟩
theorem vx_callVW (X : Stand p l e R s m args below meth c T locs cells slots) (hexec : p.tables.exec = Jvm.exec) {own C : String} {index : Nat} {y : MethodName} {bytes : ByteArray} {maxL : Nat} {ret : Option FieldType} {hh : List (Nat × Nat × Nat × Nat)}
    (hown : s.vm.findClass own = some m.cls) (hlink : (Cond.methodLink own index y).before args s = true) (hinst : (Cond.instanceMethod y).before args s = true) (hsel : (Cond.selects C y y).before args s = true)
    (hcode : (Cond.codeWith y bytes maxL ret hh).before args s = true) (hy : y.cls ≠ "java/lang/invoke/MethodHandle" ∧ y.cls ≠ "java/lang/invoke/VarHandle")
    {W9 : Nat} {Pre : Pt → Array Value → Prop} {Post : Pt → Array Value → Option Value → Pt → Prop} (hK : Back l R p e below s args y 3 W9 Pre Post)
    {b : Addr} {cellB : Cell} (hcell : T.heap[b]? = some cellB) (hobj : cellB.vm.isStatics = false) (hcls : s.vm.findClass C = some cellB.cls)
    {g : JFrame} (hg : g.method = m) (hsize : g.locals.size = c.maxLocals) {argsL rest : List Value} (hlen : ∀ sig, parseMethodDescriptor y.desc = some sig → argsL.length = sig.parameters.length)
    (hstack : g.stack = argsL.reverse ++ .ref b :: rest) (hW : 2 * g.monitorRoom + (rest.map fun v => v.category).sum ≤ W9) (hdg : decode c.code g.pc = .ok (.invokevirtual index, 3))
    (hpre : ∀ vm₁, s.WarmedH vm₁ → Pre ⟨T.setVm vm₁, locs, cells, slots⟩ (Value.ref b :: argsL).toArray) :
    ∃ (v : Option Value) (vm₁ : Vm) (B : Pt), s.WarmedH vm₁ ∧ Stand p l e R s m args below meth c B.U B.locs B.cells B.slots ∧ Post ⟨T.setVm vm₁, locs, cells, slots⟩ (Value.ref b :: argsL).toArray v B ∧
      ∀ target, Steps p.tables e below (B.U.setTop { g with pc := g.pc + 3, stack := v.toList ++ rest }) target → Steps p.tables e below (T.setTop g) target := by
  obtain ⟨mk, methM, hnamed, hmethM, hstM, habM⟩ := Cond.instanceMethod_spec hinst
  obtain ⟨m8, methM', cM, hn8, hmethM', -, -, -, -, -, -, hsigM⟩ := Cond.codeWith_spec hcode
  cases Option.some.inj (hn8.symm.trans hnamed)
  cases hmethM.symm.trans hmethM'
  obtain ⟨c2, r2, m2, q1, q2, q3, q4, kP, hkP, hkPi⟩ := Cond.selects_spec hsel
  cases hcls.symm.trans q1
  cases (State.methodFound?_of_named hnamed hy).symm.trans q2
  cases hnamed.symm.trans q3
  have hselP : selectMethod e.platform s.vm cellB.cls mk = .method mk := by rw [Launch.admits_selectMethod X.admits]; exact q4
  obtain ⟨vm₁, X₁, hstep₁⟩ := X.invokevirtual hexec hown hlink hnamed hmethM hstM hkP hkPi hy (a := b) (cell := cellB) hcell
    (fun z h => by rw [h] at hobj; cases hobj) hselP hmethM habM hkP hkPi (g := g) hg (argsL := argsL) (rest := rest) (hlen _ hsigM) hstack hdg
  obtain ⟨v, B, X', hpost, hsteps⟩ := hK m meth c ⟨T.setVm vm₁, locs, cells, slots⟩ { g with stack := rest } (.invokevirtual index) mk (Value.ref b :: argsL).toArray X₁ hg hsize hdg hW (X₁.named hnamed) (hpre vm₁ X₁.warmed)
  exact ⟨v, vm₁, B, X₁.warmed, X', hpost, fun target h => hstep₁ _ fun acts => by rw [doInvoke_state]; exact hsteps.trans h⟩
abbrev vx_CVW (R : Room) (s : State) (args : Array Value) (own C : String) (index : Nat) (y : MethodName) (bytes : ByteArray) (maxL : Nat) (ret : Option FieldType) (hh : List (Nat × Nat × Nat × Nat)) (ws : List Cond) (rm : Room) (mc ms n : Nat) : Prop :=
  (rm.cells = mc ∧ rm.slots = ms ∧ rm.frames + 1 ≤ R.frames ∧ 8 + (maxL + 11) + rm.locals ≤ R.locals ∧ (∀ w ∈ ws, ∀ (a' : Array Value) (U : State), s.WarmedH U.vm → w.before a' U = true) ∧ Cond.codeWith y bytes maxL ret hh ∈ ws) ∧
  (Cond.codeWith y bytes maxL ret hh).before args s = true ∧ (Cond.initialized y.cls).before args s = true ∧ (y.cls ≠ "java/lang/invoke/MethodHandle" ∧ y.cls ≠ "java/lang/invoke/VarHandle") ∧
  (∀ sig, parseMethodDescriptor y.desc = some sig → n = sig.parameters.length) ∧ (Cond.methodLink own index y).before args s = true ∧ (Cond.instanceMethod y).before args s = true ∧ (Cond.selects C y y).before args s = true
theorem vx_cwVW {own C : String} {index maxL mc ms : Nat} {y : MethodName} {bytes : ByteArray} {ret : Option FieldType} {hh : List (Nat × Nat × Nat × Nat)} {Ts ws ws' : List Cond} {rm : Room} (n : Nat) (ht : ∀ w ∈ Ts, w.before args s = true) (hT : GoodIn Ts (wsV own index C y ws)) (hw : ws = Cond.codeWith y bytes maxL ret hh :: ws') (hrc : rm.cells = mc) (hrs : rm.slots = ms)
    (hd : y.cls = C ∧ y.cls ≠ "java/lang/invoke/MethodHandle" ∧ y.cls ≠ "java/lang/invoke/VarHandle" ∧ (parseMethodDescriptor y.desc).map (fun d => d.parameters.length) = some n) (hR : rm.frames + 1 ≤ R.frames ∧ 8 + (maxL + 11) + rm.locals ≤ R.locals) :
    vx_CVW R s args own C index y bytes maxL ret hh ws rm mc ms n := by
  obtain ⟨hC, hd⟩ := hd
  subst hC
  have ok : ∀ w ∈ wsV own index y.cls y ws, w.before args s = true := fun w h => ht w (hT w h).1
  have hG : GoodIn Ts ws := fun w h => hT w (by unfold wsV; exact List.mem_append_right _ h)
  have hc : Cond.codeWith y bytes maxL ret hh ∈ ws := by rw [hw]; exact List.mem_cons_self
  refine ⟨⟨hrc, hrs, hR.1, hR.2, pay_in ht hG, hc⟩, ht _ (hG _ hc).1, ok _ (by simp [wsV]), ⟨hd.1, hd.2.1⟩, fun sig h => ?_, ok _ (by simp [wsV]), ok _ (by simp [wsV]), ok _ (by simp [wsV])⟩
  have h2 := hd.2.2
  rw [h] at h2
  exact (Option.some.inj h2).symm
theorem vx_runVW {y : MethodName} {bytes cc : ByteArray} {maxL nL mc ms n index : Nat} {ret : Option FieldType} {hh : List (Nat × Nat × Nat × Nat)} {ws : List Cond} {rm : Room} {Pc : Array Value → State → Prop} {Qc : Array Value → State → Outcome → State → Prop} {free : Addr → Prop} {Ts : List Cond} {own C : String} {b : Addr} {As rest : List Value} {g : JFrame}
    (S : CallFix p m c cc nL s args Ts own) (hM : Met l y ws rm Pc Qc mc ms free) (cw : vx_CVW R s args own C index y bytes maxL ret hh ws rm mc ms n) (hp : PreV s H C b Pc As)
    (hg : g.method = m) (hn : As.length = n) (hsize : g.locals.size = nL) (hstack : g.stack = As.reverse ++ .ref b :: rest) (hW : 2 * g.monitorRoom + (rest.map fun v => v.category).sum ≤ 8) (hdg : decode cc g.pc = .ok (.invokevirtual index, 3)) (hf : cells + mc ≤ R.cells ∧ slots + ms ≤ R.slots) :
    va_Run p l e R s m args below meth c H locs cells slots mc ms g rest (Qc (Value.ref b :: As).toArray) free := by
  obtain ⟨⟨hrc, hrs, hfr, hlo, hws, hcw⟩, hcode, hini, hy, hlen, hl, hin, hse⟩ := cw
  have hK : Back l R p e below s args y 3 8 (PreOf R mc ms Pc) (PostOf Qc mc ms free) := va_backW (hh := hh) (bytes := bytes) (maxL := maxL) (ret := ret) hM hp.1 hrc hrs hfr hlo hws hcw (fun a' U hW => word_at hW (Or.inl (by first | rfl | simp [Cond.onTables, Cond.keeps, Cond.steady])) hini)
  obtain ⟨hx, hb, hml, ho, -⟩ := S
  obtain ⟨-, ⟨cellB, hcB, hoB, hclB⟩, hPc⟩ := hp
  intro T hT X
  obtain ⟨v, vm₁, ⟨U', l2, c2, s2⟩, hW₁, X', ⟨g', mk, t, L, e1, e2, hq, h1, hL, h2, h3⟩, st⟩ := vx_callVW X hx (C := C) (hh := hh) (bytes := bytes) (maxL := maxL) (ret := ret) ho hl hin hse hcode hy hK (by rw [hT]; exact hcB) hoB hclB hg (hsize.trans hml.symm) (argsL := As) (rest := rest) (fun sig h => hn.trans (hlen sig h)) hstack hW (by rw [hb]; exact hdg)
    (fun vm₁ hW₁ => ⟨hf.1, hf.2, hPc (T.setVm vm₁) hT hW₁⟩)
  dsimp only [Pt.U, Pt.locs, Pt.cells, Pt.slots] at X' e1 e2 h1 h2 h3 st
  subst h1; subst h2; subst h3
  exact ⟨v, (T.setVm vm₁).calling g' mk (Value.ref b :: As).toArray, t, U', L, hT, X', hL, e1, e2, hq, st⟩
section
variable {y : MethodName} {bytes cc : ByteArray} {maxL nL mc ms n index : Nat} {ret : Option FieldType} {ws : List Cond} {rm : Room} {Pc : Array Value → State → Prop} {Qc : Array Value → State → Outcome → State → Prop} {XC : String → State → State → Prop} {free : Addr → Prop} {Ts : List Cond} {own C : String} {b : Addr} {As rest : List Value} {g : JFrame}
theorem vx_runVX {hh : List (Nat × Nat × Nat × Nat)} (S : CallFix p m c cc nL s args Ts own) (hM : vx_Met l y ws rm Pc Qc XC mc ms free) (cw : vx_CVW R s args own C index y bytes maxL ret hh ws rm mc ms n) (hp : PreV s H C b Pc As)
    (hg : g.method = m) (hn : As.length = n) (hsize : g.locals.size = nL) (hstack : g.stack = As.reverse ++ .ref b :: rest) (hW : 2 * g.monitorRoom + (rest.map fun v => v.category).sum ≤ 8) (hdg : decode cc g.pc = .ok (.invokevirtual index, 3)) (hf : cells + mc ≤ R.cells ∧ slots + ms ≤ R.slots) :
    vx_Run p l e R s m args below meth c H locs cells slots mc ms g rest (Qc (Value.ref b :: As).toArray) XC free := by
  obtain ⟨⟨hrc, hrs, hfr, hlo, hws, hcw⟩, hcode, hini, hy, hlen, hl, hin, hse⟩ := cw
  have hK : vx_Back l R p e below s args y 3 8 (PreOf R mc ms Pc) (PostOf Qc mc ms free) (vx_Post XC mc ms free) := vx_backW (hh := hh) (bytes := bytes) (maxL := maxL) (ret := ret) hM hp.1 hrc hrs hfr hlo hws hcw (fun a' U hW => word_at hW (Or.inl (by first | rfl | simp [Cond.onTables, Cond.keeps, Cond.steady])) hini)
  obtain ⟨hx, hb, hml, ho, -⟩ := S
  obtain ⟨-, ⟨cellB, hcB, hoB, hclB⟩, hPc⟩ := hp
  intro T hT X
  rcases vx_callVX X hx (C := C) (hh := hh) (bytes := bytes) (maxL := maxL) (ret := ret) ho hl hin hse hcode hy hK (by rw [hT]; exact hcB) hoB hclB hg (hsize.trans hml.symm) (argsL := As) (rest := rest) (fun sig h => hn.trans (hlen sig h)) hstack hW (by rw [hb]; exact hdg)
    (fun vm₁ hW₁ => ⟨hf.1, hf.2, hPc (T.setVm vm₁) hT hW₁⟩) with ⟨v, vm₁, ⟨U', l2, c2, s2⟩, hW₁, X', ⟨g', mk, t, L, e1, e2, hq, h1, hL, h2, h3⟩, st⟩ | ⟨q, vm₁, ⟨U', l2, c2, s2⟩, hW₁, X', ⟨g', mk, t, L, E, ce, e1, e2, hq, hce, hcv, hcl, h1, hL, h2, h3⟩, st⟩
  · dsimp only [Pt.U, Pt.locs, Pt.cells, Pt.slots] at X' e1 e2 h1 h2 h3 st
    subst h1; subst h2; subst h3
    exact Or.inl ⟨v, (T.setVm vm₁).calling g' mk (Value.ref b :: As).toArray, t, U', L, hT, X', hL, e1, e2, hq, st⟩
  · dsimp only [Pt.U, Pt.locs, Pt.cells, Pt.slots] at X' e1 e2 h1 h2 h3 st hcl
    subst h1; subst h2; subst h3
    exact Or.inr ⟨q, (T.setVm vm₁).calling g' mk (Value.ref b :: As).toArray, t, U', L, E, ce, hT, X', hL, e1, e2, hq, hce, hcv, vx_cls hW₁ hcl, st⟩
theorem vx_runSX {hh : List (Nat × Nat × Nat × Nat)} (S : CallFix p m c cc nL s args Ts own) (hM : vx_Met l y ws rm Pc Qc XC mc ms free) (cw : vx_CSW R s args own index y bytes maxL ret hh ws rm mc ms n) (hp : PreS s H Pc As)
    (hg : g.method = m) (hn : As.length = n) (hsize : g.locals.size = nL) (hstack : g.stack = As.reverse ++ rest) (hW : 2 * g.monitorRoom + (rest.map fun v => v.category).sum ≤ 8) (hdg : decode cc g.pc = .ok (.invokestatic index, 3)) (hf : cells + mc ≤ R.cells ∧ slots + ms ≤ R.slots) :
    vx_Run p l e R s m args below meth c H locs cells slots mc ms g rest (Qc As.toArray) XC free := by
  obtain ⟨⟨hrc, hrs, hfr, hlo, hws, hcw⟩, hcode, hini, hy, hlen, hl, hstt⟩ := cw
  have hK : vx_Back l R p e below s args y 3 8 (PreOf R mc ms Pc) (PostOf Qc mc ms free) (vx_Post XC mc ms free) := vx_backW (hh := hh) (bytes := bytes) (maxL := maxL) (ret := ret) hM hp.1 hrc hrs hfr hlo hws hcw (fun a' U hW => word_at hW (Or.inl (by first | rfl | simp [Cond.onTables, Cond.keeps, Cond.steady])) hini)
  obtain ⟨hx, hb, hml, ho, -⟩ := S
  intro T hT X
  rcases vx_callSX X hx (hh := hh) (bytes := bytes) (maxL := maxL) (ret := ret) ho hl hstt hini hcode hy hK hg (hsize.trans hml.symm) (argsL := As) (rest := rest) (fun sig h => hn.trans (hlen sig h)) hstack hW (by rw [hb]; exact hdg)
    (fun vm₁ hW₁ => ⟨hf.1, hf.2, hp.2 (T.setVm vm₁) hT hW₁⟩) with ⟨v, vm₁, ⟨U', l2, c2, s2⟩, hW₁, X', ⟨g', mk, t, L, e1, e2, hq, h1, hL, h2, h3⟩, st⟩ | ⟨q, vm₁, ⟨U', l2, c2, s2⟩, hW₁, X', ⟨g', mk, t, L, E, ce, e1, e2, hq, hce, hcv, hcl, h1, hL, h2, h3⟩, st⟩
  · dsimp only [Pt.U, Pt.locs, Pt.cells, Pt.slots] at X' e1 e2 h1 h2 h3 st
    subst h1; subst h2; subst h3
    exact Or.inl ⟨v, (T.setVm vm₁).calling g' mk As.toArray, t, U', L, hT, X', hL, e1, e2, hq, st⟩
  · dsimp only [Pt.U, Pt.locs, Pt.cells, Pt.slots] at X' e1 e2 h1 h2 h3 st hcl
    subst h1; subst h2; subst h3
    exact Or.inr ⟨q, (T.setVm vm₁).calling g' mk As.toArray, t, U', L, E, ce, hT, X', hL, e1, e2, hq, hce, hcv, vx_cls hW₁ hcl, st⟩
end
end VXH
theorem vx_ofWH {l : Launch} {y : MethodName} {ws ws' : List Cond} {rm : Room} {Pc : Array Value → State → Prop} {Qc : Array Value → State → Outcome → State → Prop} {XC : String → State → State → Prop} {mc ms : Nat} {free : Addr → Prop} {cc : ByteArray} {maxL : Nat} {ret : Option FieldType} {hh : List (Nat × Nat × Nat × Nat)}
    (hy : plainName y.cls = true) (hw : ws = Cond.codeWith y cc maxL ret hh :: ws')
    (body : ∀ p e s m args below meth c s₁, BodyLoose p l y (headSpec ws rm) cc maxL ret e s m args below meth c s₁ → c.maxLocals = maxL → Pc args s →
      W p l e (headSpec ws rm).room s m args below meth c s.heap [] 0 0 (vx_MQ below Qc XC args s mc ms free) (entryFrame m args maxL)) : vx_Met l y ws rm Pc Qc XC mc ms free := by
  refine MetFree.of_bodyS (code := cc) (maxLocals := maxL) (ret := ret) hy ?_ ?_
  · intro args s m h hn
    obtain ⟨m9, meth, c, hn9, h1, h2, h3, h4, -, h5, h6, -⟩ := Cond.codeWith_spec (atoms_spec (ws := ws) h _ (by rw [hw]; exact List.mem_cons_self))
    cases hn.symm.trans hn9
    exact ⟨meth, c, h1, h2, h3, h4, h5, h6⟩
  · intro p e s m args below meth c s₁ B hml hP _
    have hh0 : s₁.heap = s.heap := by rw [B.state]; rfl
    obtain ⟨t, a1, o, b1, b2, b3⟩ := body p e s m args below meth c s₁ B hml hP s₁ hh0 (Stand.of_body B)
    exact ⟨t, o, a1, b1, b2, b3⟩
/-! ===== END ===== -/
end
section
def RX0 : String := "RackPlanner$Layout"
def TX0 : u_T := fun k => match k with
  | 0 => ("RackPlanner$Layout", "site", "LRackPlanner$Site;", true)
  | 1 => ("RackPlanner$Layout", "inCell", "[I", true)
  | 2 => ("RackPlanner$Layout", "weight", "[I", true)
  | 3 => ("RackPlanner$Layout", "heat", "[I", true)
  | _ => ("RackPlanner$Layout", "worst", "[[I", true)
def tyX0 : Nat → FieldType := fun k => match k with
  | 0 => .object "RackPlanner$Site"
  | 1 => .array .int
  | 2 => .array .int
  | 3 => .array .int
  | _ => .array (.array .int)
theorem nmX0 : ∀ a, a < 5 → ∀ b, b < 5 → a ≠ b → (TX0 a).2.1 ≠ (TX0 b).2.1 := by decide +kernel
theorem tyX0_ok : ∀ k, k < 5 → parseFieldDescriptor (TX0 k).2.2.1 = some (tyX0 k) := by decide +kernel
abbrev cX0_init : ByteArray := prog_2_method_1_code
def yX0_init : MethodName := ⟨RX0, "<init>", "(LRackPlanner$Site;)V"⟩
abbrev cX0_clearAll : ByteArray := prog_2_method_2_code
def yX0_clearAll : MethodName := ⟨RX0, "clearAll", "()V"⟩
abbrev cX0_copyFrom : ByteArray := prog_2_method_3_code
def yX0_copyFrom : MethodName := ⟨RX0, "copyFrom", "(LRackPlanner$Layout;)V"⟩
abbrev cX0_put : ByteArray := prog_2_method_4_code
def yX0_put : MethodName := ⟨RX0, "put", "(LRackPlanner$Machine;I)V"⟩
abbrev cX0_clear : ByteArray := prog_2_method_5_code
def yX0_clear : MethodName := ⟨RX0, "clear", "(LRackPlanner$Machine;)V"⟩
abbrev cX0_fillCells : ByteArray := prog_2_method_6_code
def yX0_fillCells : MethodName := ⟨RX0, "fillCells", "(III)V"⟩
abbrev cX0_addLoads : ByteArray := prog_2_method_7_code
def yX0_addLoads : MethodName := ⟨RX0, "addLoads", "(ILRackPlanner$Machine;I)V"⟩
abbrev cX0_changeCords : ByteArray := prog_2_method_8_code
def yX0_changeCords : MethodName := ⟨RX0, "changeCords", "(LRackPlanner$Machine;I)V"⟩
abbrev cX0_firstFrom : ByteArray := prog_2_method_9_code
def yX0_firstFrom : MethodName := ⟨RX0, "firstFrom", "(I)I"⟩
abbrev cX0_weightInRow : ByteArray := prog_2_method_10_code
def yX0_weightInRow : MethodName := ⟨RX0, "weightInRow", "(I)I"⟩
abbrev cX0_heatInRow : ByteArray := prog_2_method_11_code
def yX0_heatInRow : MethodName := ⟨RX0, "heatInRow", "(I)I"⟩
abbrev cX0_sumInRow : ByteArray := prog_2_method_12_code
def yX0_sumInRow : MethodName := ⟨RX0, "sumInRow", "(I[I)I"⟩
abbrev cX0_worstOnFeed : ByteArray := prog_2_method_13_code
def yX0_worstOnFeed : MethodName := ⟨RX0, "worstOnFeed", "(I)I"⟩
abbrev cX0_firstFit : ByteArray := prog_2_method_14_code
def yX0_firstFit : MethodName := ⟨RX0, "firstFit", "(LRackPlanner$Machine;)I"⟩
abbrev cX0_fitIn : ByteArray := prog_2_method_15_code
def yX0_fitIn : MethodName := ⟨RX0, "fitIn", "(ILRackPlanner$Machine;)I"⟩
abbrev cX0_fillUp : ByteArray := prog_2_method_16_code
def yX0_fillUp : MethodName := ⟨RX0, "fillUp", "(ILRackPlanner$Machine;)I"⟩
abbrev cX0_bears : ByteArray := prog_2_method_17_code
def yX0_bears : MethodName := ⟨RX0, "bears", "(ILRackPlanner$Machine;)Z"⟩
abbrev cX0_bearsCords : ByteArray := prog_2_method_18_code
def yX0_bearsCords : MethodName := ⟨RX0, "bearsCords", "(LRackPlanner$Machine;I)Z"⟩
abbrev cX0_bearsMore : ByteArray := prog_2_method_19_code
def yX0_bearsMore : MethodName := ⟨RX0, "bearsMore", "(III)Z"⟩
abbrev cX0_lowestFree : ByteArray := prog_2_method_20_code
def yX0_lowestFree : MethodName := ⟨RX0, "lowestFree", "(II)I"⟩
abbrev cX0_widestGap : ByteArray := prog_2_method_21_code
def yX0_widestGap : MethodName := ⟨RX0, "widestGap", "(I)I"⟩
abbrev cX0_countForRow : ByteArray := prog_2_method_22_code
def yX0_countForRow : MethodName := ⟨RX0, "countForRow", "(ILRackPlanner$Machine;)I"⟩
abbrev cX0_countForRack : ByteArray := prog_2_method_23_code
def yX0_countForRack : MethodName := ⟨RX0, "countForRack", "(ILRackPlanner$Machine;)I"⟩
abbrev cX0_countBySlots : ByteArray := prog_2_method_24_code
def yX0_countBySlots : MethodName := ⟨RX0, "countBySlots", "(II)I"⟩
def RX1 : String := "RackPlanner$Machine"
def TX1 : u_T := fun k => match k with
  | 0 => ("RackPlanner$Machine", "number", "I", true)
  | 1 => ("RackPlanner$Machine", "slots", "I", true)
  | 2 => ("RackPlanner$Machine", "power", "I", true)
  | 3 => ("RackPlanner$Machine", "weight", "I", true)
  | 4 => ("RackPlanner$Machine", "cords", "I", false)
  | 5 => ("RackPlanner$Machine", "cell", "I", false)
  | _ => ("RackPlanner$Machine", "packedCell", "I", false)
def tyX1 : Nat → FieldType := fun k => match k with
  | 0 => .int
  | 1 => .int
  | 2 => .int
  | 3 => .int
  | 4 => .int
  | 5 => .int
  | _ => .int
theorem nmX1 : ∀ a, a < 7 → ∀ b, b < 7 → a ≠ b → (TX1 a).2.1 ≠ (TX1 b).2.1 := by decide +kernel
theorem tyX1_ok : ∀ k, k < 7 → parseFieldDescriptor (TX1 k).2.2.1 = some (tyX1 k) := by decide +kernel
abbrev cX1_init : ByteArray := prog_3_method_1_code
def yX1_init : MethodName := ⟨RX1, "<init>", "(IIIII)V"⟩
abbrev cX1_hasCordTo : ByteArray := prog_3_method_2_code
def yX1_hasCordTo : MethodName := ⟨RX1, "hasCordTo", "(I)Z"⟩
abbrev cX1_worstOn : ByteArray := prog_3_method_3_code
def yX1_worstOn : MethodName := ⟨RX1, "worstOn", "(I)I"⟩
abbrev cX1_worstWith : ByteArray := prog_3_method_4_code
def yX1_worstWith : MethodName := ⟨RX1, "worstWith", "(II)I"⟩
abbrev cX1_leadTo : ByteArray := prog_3_method_5_code
def yX1_leadTo : MethodName := ⟨RX1, "leadTo", "(II)Z"⟩
abbrev cX1_packsAhead : ByteArray := prog_3_method_6_code
def yX1_packsAhead : MethodName := ⟨RX1, "packsAhead", "(LRackPlanner$Machine;)Z"⟩
def RX2 : String := "RackPlanner$Rack"
def TX2 : u_T := fun k => match k with
  | 0 => ("RackPlanner$Rack", "row", "I", true)
  | 1 => ("RackPlanner$Rack", "slots", "I", true)
  | 2 => ("RackPlanner$Rack", "weightLimit", "I", true)
  | _ => ("RackPlanner$Rack", "powerLimit", "I", true)
def tyX2 : Nat → FieldType := fun k => match k with
  | 0 => .int
  | 1 => .int
  | 2 => .int
  | _ => .int
theorem nmX2 : ∀ a, a < 4 → ∀ b, b < 4 → a ≠ b → (TX2 a).2.1 ≠ (TX2 b).2.1 := by decide +kernel
theorem tyX2_ok : ∀ k, k < 4 → parseFieldDescriptor (TX2 k).2.2.1 = some (tyX2 k) := by decide +kernel
abbrev cX2_init : ByteArray := prog_4_method_1_code
def yX2_init : MethodName := ⟨RX2, "<init>", "(IIII)V"⟩
def RX3 : String := "RackPlanner$Site"
def TX3 : u_T := fun k => match k with
  | 0 => ("RackPlanner$Site", "racks", "Ljava/util/ArrayList;", true)
  | 1 => ("RackPlanner$Site", "rowHeat", "[I", true)
  | 2 => ("RackPlanner$Site", "rowWeight", "[I", true)
  | _ => ("RackPlanner$Site", "feedPower", "[I", true)
def tyX3 : Nat → FieldType := fun k => match k with
  | 0 => .object "java/util/ArrayList"
  | 1 => .array .int
  | 2 => .array .int
  | _ => .array .int
theorem nmX3 : ∀ a, a < 4 → ∀ b, b < 4 → a ≠ b → (TX3 a).2.1 ≠ (TX3 b).2.1 := by decide +kernel
theorem tyX3_ok : ∀ k, k < 4 → parseFieldDescriptor (TX3 k).2.2.1 = some (tyX3 k) := by decide +kernel
abbrev cX3_init : ByteArray := prog_5_method_1_code
def yX3_init : MethodName := ⟨RX3, "<init>", "()V"⟩
def RX4 : String := "RackPlanner"
def TX4 : u_T := fun k => match k with
  | 0 => ("RackPlanner", "site", "LRackPlanner$Site;", true)
  | 1 => ("RackPlanner", "failed", "[Z", true)
  | 2 => ("RackPlanner", "placed", "Ljava/util/ArrayList;", true)
  | 3 => ("RackPlanner", "packing", "Ljava/util/ArrayList;", true)
  | 4 => ("RackPlanner", "layout", "LRackPlanner$Layout;", false)
  | 5 => ("RackPlanner", "spare", "LRackPlanner$Layout;", false)
  | _ => ("RackPlanner", "nextNumber", "I", false)
def tyX4 : Nat → FieldType := fun k => match k with
  | 0 => .object "RackPlanner$Site"
  | 1 => .array .boolean
  | 2 => .object "java/util/ArrayList"
  | 3 => .object "java/util/ArrayList"
  | 4 => .object "RackPlanner$Layout"
  | 5 => .object "RackPlanner$Layout"
  | _ => .int
theorem nmX4 : ∀ a, a < 7 → ∀ b, b < 7 → a ≠ b → (TX4 a).2.1 ≠ (TX4 b).2.1 := by decide +kernel
theorem tyX4_ok : ∀ k, k < 7 → parseFieldDescriptor (TX4 k).2.2.1 = some (tyX4 k) := by decide +kernel
abbrev cX4_init : ByteArray := prog_1_method_1_code
def yX4_init : MethodName := ⟨RX4, "<init>", "()V"⟩
abbrev cX4_addRack : ByteArray := prog_1_method_2_code
def yX4_addRack : MethodName := ⟨RX4, "addRack", "(IIII)I"⟩
abbrev cX4_setRow : ByteArray := prog_1_method_3_code
def yX4_setRow : MethodName := ⟨RX4, "setRow", "(III)V"⟩
abbrev cX4_setFeed : ByteArray := prog_1_method_4_code
def yX4_setFeed : MethodName := ⟨RX4, "setFeed", "(II)I"⟩
abbrev cX4_switchFeed : ByteArray := prog_1_method_5_code
def yX4_switchFeed : MethodName := ⟨RX4, "switchFeed", "(I)I"⟩
abbrev cX4_hasFailed : ByteArray := prog_1_method_6_code
def yX4_hasFailed : MethodName := ⟨RX4, "hasFailed", "(I)Z"⟩
abbrev cX4_racks : ByteArray := prog_1_method_7_code
def yX4_racks : MethodName := ⟨RX4, "racks", "()I"⟩
abbrev cX4_place : ByteArray := prog_1_method_8_code
def yX4_place : MethodName := ⟨RX4, "place", "(IIII)I"⟩
abbrev cX4_takeOut : ByteArray := prog_1_method_9_code
def yX4_takeOut : MethodName := ⟨RX4, "takeOut", "(I)I"⟩
abbrev cX4_cord : ByteArray := prog_1_method_10_code
def yX4_cord : MethodName := ⟨RX4, "cord", "(II)I"⟩
abbrev cX4_pack : ByteArray := prog_1_method_11_code
def yX4_pack : MethodName := ⟨RX4, "pack", "()I"⟩
abbrev cX4_machines : ByteArray := prog_1_method_12_code
def yX4_machines : MethodName := ⟨RX4, "machines", "()I"⟩
abbrev cX4_rackOf : ByteArray := prog_1_method_13_code
def yX4_rackOf : MethodName := ⟨RX4, "rackOf", "(I)I"⟩
abbrev cX4_slotOf : ByteArray := prog_1_method_14_code
def yX4_slotOf : MethodName := ⟨RX4, "slotOf", "(I)I"⟩
abbrev cX4_isDark : ByteArray := prog_1_method_15_code
def yX4_isDark : MethodName := ⟨RX4, "isDark", "(I)Z"⟩
abbrev cX4_machineAt : ByteArray := prog_1_method_16_code
def yX4_machineAt : MethodName := ⟨RX4, "machineAt", "(II)I"⟩
abbrev cX4_next : ByteArray := prog_1_method_17_code
def yX4_next : MethodName := ⟨RX4, "next", "(I)I"⟩
abbrev cX4_powerOf : ByteArray := prog_1_method_18_code
def yX4_powerOf : MethodName := ⟨RX4, "powerOf", "(II)I"⟩
abbrev cX4_worstOf : ByteArray := prog_1_method_19_code
def yX4_worstOf : MethodName := ⟨RX4, "worstOf", "(II)I"⟩
abbrev cX4_weightOf : ByteArray := prog_1_method_20_code
def yX4_weightOf : MethodName := ⟨RX4, "weightOf", "(I)I"⟩
abbrev cX4_heatOf : ByteArray := prog_1_method_21_code
def yX4_heatOf : MethodName := ⟨RX4, "heatOf", "(I)I"⟩
abbrev cX4_gap : ByteArray := prog_1_method_22_code
def yX4_gap : MethodName := ⟨RX4, "gap", "(I)I"⟩
abbrev cX4_racksFor : ByteArray := prog_1_method_23_code
def yX4_racksFor : MethodName := ⟨RX4, "racksFor", "(IIII)I"⟩
abbrev cX4_roomFor : ByteArray := prog_1_method_24_code
def yX4_roomFor : MethodName := ⟨RX4, "roomFor", "(IIII)I"⟩
abbrev cX4_roomByCounting : ByteArray := prog_1_method_25_code
def yX4_roomByCounting : MethodName := ⟨RX4, "roomByCounting", "(IIII)I"⟩
abbrev cX4_requireRange : ByteArray := prog_1_method_26_code
def yX4_requireRange : MethodName := ⟨RX4, "requireRange", "(III)V"⟩
abbrev cX4_requireFeed : ByteArray := prog_1_method_27_code
def yX4_requireFeed : MethodName := ⟨RX4, "requireFeed", "(I)V"⟩
abbrev cX4_requireRack : ByteArray := prog_1_method_28_code
def yX4_requireRack : MethodName := ⟨RX4, "requireRack", "(I)LRackPlanner$Rack;"⟩
abbrev cX4_requireMachine : ByteArray := prog_1_method_29_code
def yX4_requireMachine : MethodName := ⟨RX4, "requireMachine", "(I)LRackPlanner$Machine;"⟩
abbrev cX4_indexOfPlaced : ByteArray := prog_1_method_30_code
def yX4_indexOfPlaced : MethodName := ⟨RX4, "indexOfPlaced", "(I)I"⟩
abbrev cX4_newMachine : ByteArray := prog_1_method_31_code
def yX4_newMachine : MethodName := ⟨RX4, "newMachine", "(IIII)LRackPlanner$Machine;"⟩
abbrev cX4_cellAt : ByteArray := prog_1_method_32_code
def yX4_cellAt : MethodName := ⟨RX4, "cellAt", "(II)I"⟩
abbrev cX4_rackOfCell : ByteArray := prog_1_method_33_code
def yX4_rackOfCell : MethodName := ⟨RX4, "rackOfCell", "(I)I"⟩
abbrev cX4_rowOfMachine : ByteArray := prog_1_method_34_code
def yX4_rowOfMachine : MethodName := ⟨RX4, "rowOfMachine", "(LRackPlanner$Machine;)I"⟩
abbrev cX4_hasNoFeed : ByteArray := prog_1_method_35_code
def yX4_hasNoFeed : MethodName := ⟨RX4, "hasNoFeed", "(LRackPlanner$Machine;)Z"⟩
abbrev cX4_powerNow : ByteArray := prog_1_method_36_code
def yX4_powerNow : MethodName := ⟨RX4, "powerNow", "(LRackPlanner$Machine;I)I"⟩
abbrev cX4_listForPacking : ByteArray := prog_1_method_37_code
def yX4_listForPacking : MethodName := ⟨RX4, "listForPacking", "()V"⟩
abbrev cX4_swapLayouts : ByteArray := prog_1_method_38_code
def yX4_swapLayouts : MethodName := ⟨RX4, "swapLayouts", "()V"⟩
abbrev cX4_moveToPacked : ByteArray := prog_1_method_39_code
def yX4_moveToPacked : MethodName := ⟨RX4, "moveToPacked", "()I"⟩
abbrev cX4_atMost : ByteArray := prog_1_method_40_code
def yX4_atMost : MethodName := ⟨RX4, "atMost", "(III)I"⟩
def RX5 : String := "RackPlannerModel"
def TX5 : u_T := fun k => match k with
  | 0 => ("RackPlannerModel", "thrown", "I", false)
  | 1 => ("RackPlannerModel", "rowOf", "[I", true)
  | 2 => ("RackPlannerModel", "slots", "[I", true)
  | 3 => ("RackPlannerModel", "weightLimit", "[I", true)
  | 4 => ("RackPlannerModel", "powerLimit", "[I", true)
  | 5 => ("RackPlannerModel", "racks", "I", false)
  | 6 => ("RackPlannerModel", "rowHeat", "[I", true)
  | 7 => ("RackPlannerModel", "rowWeight", "[I", true)
  | 8 => ("RackPlannerModel", "feedLimit", "[I", true)
  | 9 => ("RackPlannerModel", "isOff", "[Z", true)
  | 10 => ("RackPlannerModel", "number", "[I", true)
  | 11 => ("RackPlannerModel", "size", "[I", true)
  | 12 => ("RackPlannerModel", "power", "[I", true)
  | 13 => ("RackPlannerModel", "weight", "[I", true)
  | 14 => ("RackPlannerModel", "cords", "[I", true)
  | 15 => ("RackPlannerModel", "rack", "[I", true)
  | 16 => ("RackPlannerModel", "slot", "[I", true)
  | 17 => ("RackPlannerModel", "machines", "I", false)
  | 18 => ("RackPlannerModel", "given", "I", false)
  | 19 => ("RackPlannerModel", "oldRack", "[I", true)
  | _ => ("RackPlannerModel", "oldSlot", "[I", true)
def tyX5 : Nat → FieldType := fun k => match k with
  | 0 => .int
  | 1 => .array .int
  | 2 => .array .int
  | 3 => .array .int
  | 4 => .array .int
  | 5 => .int
  | 6 => .array .int
  | 7 => .array .int
  | 8 => .array .int
  | 9 => .array .boolean
  | 10 => .array .int
  | 11 => .array .int
  | 12 => .array .int
  | 13 => .array .int
  | 14 => .array .int
  | 15 => .array .int
  | 16 => .array .int
  | 17 => .int
  | 18 => .int
  | 19 => .array .int
  | _ => .array .int
theorem nmX5 : ∀ a, a < 21 → ∀ b, b < 21 → a ≠ b → (TX5 a).2.1 ≠ (TX5 b).2.1 := by decide +kernel
theorem tyX5_ok : ∀ k, k < 21 → parseFieldDescriptor (TX5 k).2.2.1 = some (tyX5 k) := by decide +kernel
abbrev cX5_init : ByteArray := prog_7_method_1_code
def yX5_init : MethodName := ⟨RX5, "<init>", "()V"⟩
abbrev cX5_thrown : ByteArray := prog_7_method_2_code
def yX5_thrown : MethodName := ⟨RX5, "thrown", "()I"⟩
abbrev cX5_isFine : ByteArray := prog_7_method_3_code
def yX5_isFine : MethodName := ⟨RX5, "isFine", "(I)Z"⟩
abbrev cX5_isIn : ByteArray := prog_7_method_4_code
def yX5_isIn : MethodName := ⟨RX5, "isIn", "(III)Z"⟩
abbrev cX5_isRack : ByteArray := prog_7_method_5_code
def yX5_isRack : MethodName := ⟨RX5, "isRack", "(I)Z"⟩
abbrev cX5_find : ByteArray := prog_7_method_6_code
def yX5_find : MethodName := ⟨RX5, "find", "(I)I"⟩
abbrev cX5_isCorded : ByteArray := prog_7_method_7_code
def yX5_isCorded : MethodName := ⟨RX5, "isCorded", "(II)Z"⟩
abbrev cX5_worst : ByteArray := prog_7_method_8_code
def yX5_worst : MethodName := ⟨RX5, "worst", "(II)I"⟩
abbrev cX5_weighs : ByteArray := prog_7_method_9_code
def yX5_weighs : MethodName := ⟨RX5, "weighs", "(I)I"⟩
abbrev cX5_rowWeighs : ByteArray := prog_7_method_10_code
def yX5_rowWeighs : MethodName := ⟨RX5, "rowWeighs", "(I)I"⟩
abbrev cX5_rowHeats : ByteArray := prog_7_method_11_code
def yX5_rowHeats : MethodName := ⟨RX5, "rowHeats", "(I)I"⟩
abbrev cX5_addRack : ByteArray := prog_7_method_12_code
def yX5_addRack : MethodName := ⟨RX5, "addRack", "(IIII)I"⟩
abbrev cX5_setRow : ByteArray := prog_7_method_13_code
def yX5_setRow : MethodName := ⟨RX5, "setRow", "(III)V"⟩
abbrev cX5_setFeed : ByteArray := prog_7_method_14_code
def yX5_setFeed : MethodName := ⟨RX5, "setFeed", "(II)I"⟩
abbrev cX5_isDarkAt : ByteArray := prog_7_method_15_code
def yX5_isDarkAt : MethodName := ⟨RX5, "isDarkAt", "(I)Z"⟩
abbrev cX5_switchFeed : ByteArray := prog_7_method_16_code
def yX5_switchFeed : MethodName := ⟨RX5, "switchFeed", "(I)I"⟩
abbrev cX5_hasFailed : ByteArray := prog_7_method_17_code
def yX5_hasFailed : MethodName := ⟨RX5, "hasFailed", "(I)Z"⟩
abbrev cX5_racks : ByteArray := prog_7_method_18_code
def yX5_racks : MethodName := ⟨RX5, "racks", "()I"⟩
abbrev cX5_inSlot : ByteArray := prog_7_method_19_code
def yX5_inSlot : MethodName := ⟨RX5, "inSlot", "(II)I"⟩
abbrev cX5_isFree : ByteArray := prog_7_method_20_code
def yX5_isFree : MethodName := ⟨RX5, "isFree", "(III)Z"⟩
abbrev cX5_isBorne : ByteArray := prog_7_method_21_code
def yX5_isBorne : MethodName := ⟨RX5, "isBorne", "(IIII)Z"⟩
abbrev cX5_slotIn : ByteArray := prog_7_method_22_code
def yX5_slotIn : MethodName := ⟨RX5, "slotIn", "(IIIII)I"⟩
abbrev cX5_puts : ByteArray := prog_7_method_23_code
def yX5_puts : MethodName := ⟨RX5, "puts", "(I)I"⟩
abbrev cX5_isKind : ByteArray := prog_7_method_24_code
def yX5_isKind : MethodName := ⟨RX5, "isKind", "(IIII)Z"⟩
abbrev cX5_place : ByteArray := prog_7_method_25_code
def yX5_place : MethodName := ⟨RX5, "place", "(IIII)I"⟩
abbrev cX5_takeOut : ByteArray := prog_7_method_26_code
def yX5_takeOut : MethodName := ⟨RX5, "takeOut", "(I)I"⟩
abbrev cX5_cord : ByteArray := prog_7_method_27_code
def yX5_cord : MethodName := ⟨RX5, "cord", "(II)I"⟩
abbrev cX5_isAhead : ByteArray := prog_7_method_28_code
def yX5_isAhead : MethodName := ⟨RX5, "isAhead", "(II)Z"⟩
abbrev cX5_nextToPack : ByteArray := prog_7_method_29_code
def yX5_nextToPack : MethodName := ⟨RX5, "nextToPack", "()I"⟩
abbrev cX5_pack : ByteArray := prog_7_method_30_code
def yX5_pack : MethodName := ⟨RX5, "pack", "()I"⟩
abbrev cX5_machines : ByteArray := prog_7_method_31_code
def yX5_machines : MethodName := ⟨RX5, "machines", "()I"⟩
abbrev cX5_rackOf : ByteArray := prog_7_method_32_code
def yX5_rackOf : MethodName := ⟨RX5, "rackOf", "(I)I"⟩
abbrev cX5_slotOf : ByteArray := prog_7_method_33_code
def yX5_slotOf : MethodName := ⟨RX5, "slotOf", "(I)I"⟩
abbrev cX5_isDark : ByteArray := prog_7_method_34_code
def yX5_isDark : MethodName := ⟨RX5, "isDark", "(I)Z"⟩
abbrev cX5_machineAt : ByteArray := prog_7_method_35_code
def yX5_machineAt : MethodName := ⟨RX5, "machineAt", "(II)I"⟩
abbrev cX5_way : ByteArray := prog_7_method_36_code
def yX5_way : MethodName := ⟨RX5, "way", "(I)I"⟩
abbrev cX5_next : ByteArray := prog_7_method_37_code
def yX5_next : MethodName := ⟨RX5, "next", "(I)I"⟩
abbrev cX5_takes : ByteArray := prog_7_method_38_code
def yX5_takes : MethodName := ⟨RX5, "takes", "(II)I"⟩
abbrev cX5_powerOf : ByteArray := prog_7_method_39_code
def yX5_powerOf : MethodName := ⟨RX5, "powerOf", "(II)I"⟩
abbrev cX5_worstOf : ByteArray := prog_7_method_40_code
def yX5_worstOf : MethodName := ⟨RX5, "worstOf", "(II)I"⟩
abbrev cX5_weightOf : ByteArray := prog_7_method_41_code
def yX5_weightOf : MethodName := ⟨RX5, "weightOf", "(I)I"⟩
abbrev cX5_heatOf : ByteArray := prog_7_method_42_code
def yX5_heatOf : MethodName := ⟨RX5, "heatOf", "(I)I"⟩
abbrev cX5_gap : ByteArray := prog_7_method_43_code
def yX5_gap : MethodName := ⟨RX5, "gap", "(I)I"⟩
abbrev cX5_racksFor : ByteArray := prog_7_method_44_code
def yX5_racksFor : MethodName := ⟨RX5, "racksFor", "(IIII)I"⟩
abbrev cX5_within : ByteArray := prog_7_method_45_code
def yX5_within : MethodName := ⟨RX5, "within", "(III)I"⟩
abbrev cX5_roomIn : ByteArray := prog_7_method_46_code
def yX5_roomIn : MethodName := ⟨RX5, "roomIn", "(IIIII)I"⟩
abbrev cX5_roomByCounting : ByteArray := prog_7_method_47_code
def yX5_roomByCounting : MethodName := ⟨RX5, "roomByCounting", "(IIII)I"⟩
abbrev cX5_roomFor : ByteArray := prog_7_method_48_code
def yX5_roomFor : MethodName := ⟨RX5, "roomFor", "(IIII)I"⟩
def RJx145de : String := "java/io/Serializable"
def TJx145de : u_T := fun k => match k with
  | _ => ("", "", "", false)
def tyJx145de : Nat → FieldType := fun k => match k with
  | _ => .int
theorem nmJx145de : ∀ a, a < 0 → ∀ b, b < 0 → a ≠ b → (TJx145de a).2.1 ≠ (TJx145de b).2.1 := by decide +kernel
theorem tyJx145de_ok : ∀ k, k < 0 → parseFieldDescriptor (TJx145de k).2.2.1 = some (tyJx145de k) := by decide +kernel
def RJ5 : String := "java/lang/AbstractStringBuilder"
def TJ5 : u_T := fun k => match k with
  | _ => ("", "", "", false)
def tyJ5 : Nat → FieldType := fun k => match k with
  | _ => .int
theorem nmJ5 : ∀ a, a < 0 → ∀ b, b < 0 → a ≠ b → (TJ5 a).2.1 ≠ (TJ5 b).2.1 := by decide +kernel
theorem tyJ5_ok : ∀ k, k < 0 → parseFieldDescriptor (TJ5 k).2.2.1 = some (tyJ5 k) := by decide +kernel
abbrev cJ5_init_d00df : ByteArray := prog_9_method_2_code
def yJ5_init_d00df : MethodName := ⟨RJ5, "<init>", "(I)V"⟩
abbrev cJ5_length_8abf5 : ByteArray := prog_9_method_6_code
def yJ5_length_8abf5 : MethodName := ⟨RJ5, "length", "()I"⟩
abbrev cJ5_ensureCapacityInternal_d00df : ByteArray := prog_9_method_9_code
def yJ5_ensureCapacityInternal_d00df : MethodName := ⟨RJ5, "ensureCapacityInternal", "(I)V"⟩
abbrev cJ5_newCapacity_0f7a4 : ByteArray := prog_9_method_10_code
def yJ5_newCapacity_0f7a4 : MethodName := ⟨RJ5, "newCapacity", "(I)I"⟩
abbrev cJ5_inflate_da8c8 : ByteArray := prog_9_method_11_code
def yJ5_inflate_da8c8 : MethodName := ⟨RJ5, "inflate", "()V"⟩
abbrev cJ5_append_cf1ce : ByteArray := prog_9_method_22_code
def yJ5_append_cf1ce : MethodName := ⟨RJ5, "append", "(Ljava/lang/String;)Ljava/lang/AbstractStringBuilder;"⟩
abbrev cJ5_appendNull_278bc : ByteArray := prog_9_method_26_code
def yJ5_appendNull_278bc : MethodName := ⟨RJ5, "appendNull", "()Ljava/lang/AbstractStringBuilder;"⟩
abbrev cJ5_append_c97b9 : ByteArray := prog_9_method_32_code
def yJ5_append_c97b9 : MethodName := ⟨RJ5, "append", "(I)Ljava/lang/AbstractStringBuilder;"⟩
abbrev cJ5_getValue_6d5f1 : ByteArray := prog_9_method_64_code
def yJ5_getValue_6d5f1 : MethodName := ⟨RJ5, "getValue", "()[B"⟩
abbrev cJ5_isLatin1_aae02 : ByteArray := prog_9_method_68_code
def yJ5_isLatin1_aae02 : MethodName := ⟨RJ5, "isLatin1", "()Z"⟩
abbrev cJ5_inflateIfNeededFor_a7421 : ByteArray := prog_9_method_71_code
def yJ5_inflateIfNeededFor_a7421 : MethodName := ⟨RJ5, "inflateIfNeededFor", "(Ljava/lang/String;)V"⟩
abbrev cJ5_putStringAt_47b60 : ByteArray := prog_9_method_73_code
def yJ5_putStringAt_47b60 : MethodName := ⟨RJ5, "putStringAt", "(ILjava/lang/String;)V"⟩
def RJx2cfe8 : String := "java/lang/Appendable"
def TJx2cfe8 : u_T := fun k => match k with
  | _ => ("", "", "", false)
def tyJx2cfe8 : Nat → FieldType := fun k => match k with
  | _ => .int
theorem nmJx2cfe8 : ∀ a, a < 0 → ∀ b, b < 0 → a ≠ b → (TJx2cfe8 a).2.1 ≠ (TJx2cfe8 b).2.1 := by decide +kernel
theorem tyJx2cfe8_ok : ∀ k, k < 0 → parseFieldDescriptor (TJx2cfe8 k).2.2.1 = some (tyJx2cfe8 k) := by decide +kernel
def RJx9f9b0 : String := "java/lang/CharSequence"
def TJx9f9b0 : u_T := fun k => match k with
  | _ => ("", "", "", false)
def tyJx9f9b0 : Nat → FieldType := fun k => match k with
  | _ => .int
theorem nmJx9f9b0 : ∀ a, a < 0 → ∀ b, b < 0 → a ≠ b → (TJx9f9b0 a).2.1 ≠ (TJx9f9b0 b).2.1 := by decide +kernel
theorem tyJx9f9b0_ok : ∀ k, k < 0 → parseFieldDescriptor (TJx9f9b0 k).2.2.1 = some (tyJx9f9b0 k) := by decide +kernel
def RJx8e188 : String := "java/lang/Cloneable"
def TJx8e188 : u_T := fun k => match k with
  | _ => ("", "", "", false)
def tyJx8e188 : Nat → FieldType := fun k => match k with
  | _ => .int
theorem nmJx8e188 : ∀ a, a < 0 → ∀ b, b < 0 → a ≠ b → (TJx8e188 a).2.1 ≠ (TJx8e188 b).2.1 := by decide +kernel
theorem tyJx8e188_ok : ∀ k, k < 0 → parseFieldDescriptor (TJx8e188 k).2.2.1 = some (tyJx8e188 k) := by decide +kernel
def RJxb160c : String := "java/lang/Comparable"
def TJxb160c : u_T := fun k => match k with
  | _ => ("", "", "", false)
def tyJxb160c : Nat → FieldType := fun k => match k with
  | _ => .int
theorem nmJxb160c : ∀ a, a < 0 → ∀ b, b < 0 → a ≠ b → (TJxb160c a).2.1 ≠ (TJxb160c b).2.1 := by decide +kernel
theorem tyJxb160c_ok : ∀ k, k < 0 → parseFieldDescriptor (TJxb160c k).2.2.1 = some (tyJxb160c k) := by decide +kernel
def RJ6 : String := "java/lang/Integer"
def TJ6 : u_T := fun k => match k with
  | _ => ("", "", "", false)
def tyJ6 : Nat → FieldType := fun k => match k with
  | _ => .int
theorem nmJ6 : ∀ a, a < 0 → ∀ b, b < 0 → a ≠ b → (TJ6 a).2.1 ≠ (TJ6 b).2.1 := by decide +kernel
theorem tyJ6_ok : ∀ k, k < 0 → parseFieldDescriptor (TJ6 k).2.2.1 = some (tyJ6 k) := by decide +kernel
abbrev cJ6_getChars_ba4f3 : ByteArray := prog_18_method_12_code
def yJ6_getChars_ba4f3 : MethodName := ⟨RJ6, "getChars", "(II[B)I"⟩
abbrev cJ6_stringSize_0f7a4 : ByteArray := prog_18_method_13_code
def yJ6_stringSize_0f7a4 : MethodName := ⟨RJ6, "stringSize", "(I)I"⟩
def RJxab1ab : String := "java/lang/Iterable"
def TJxab1ab : u_T := fun k => match k with
  | _ => ("", "", "", false)
def tyJxab1ab : Nat → FieldType := fun k => match k with
  | _ => .int
theorem nmJxab1ab : ∀ a, a < 0 → ∀ b, b < 0 → a ≠ b → (TJxab1ab a).2.1 ≠ (TJxab1ab b).2.1 := by decide +kernel
theorem tyJxab1ab_ok : ∀ k, k < 0 → parseFieldDescriptor (TJxab1ab k).2.2.1 = some (tyJxab1ab k) := by decide +kernel
def RJ9 : String := "java/lang/Math"
def TJ9 : u_T := fun k => match k with
  | _ => ("", "", "", false)
def tyJ9 : Nat → FieldType := fun k => match k with
  | _ => .int
theorem nmJ9 : ∀ a, a < 0 → ∀ b, b < 0 → a ≠ b → (TJ9 a).2.1 ≠ (TJ9 b).2.1 := by decide +kernel
theorem tyJ9_ok : ∀ k, k < 0 → parseFieldDescriptor (TJ9 k).2.2.1 = some (tyJ9 k) := by decide +kernel
abbrev cJ9_max_7cf53 : ByteArray := prog_20_method_65_code
def yJ9_max_7cf53 : MethodName := ⟨RJ9, "max", "(II)I"⟩
abbrev cJ9_min_7cf53 : ByteArray := prog_20_method_69_code
def yJ9_min_7cf53 : MethodName := ⟨RJ9, "min", "(II)I"⟩
def RJxd2413 : String := "java/lang/Number"
def TJxd2413 : u_T := fun k => match k with
  | _ => ("", "", "", false)
def tyJxd2413 : Nat → FieldType := fun k => match k with
  | _ => .int
theorem nmJxd2413 : ∀ a, a < 0 → ∀ b, b < 0 → a ≠ b → (TJxd2413 a).2.1 ≠ (TJxd2413 b).2.1 := by decide +kernel
theorem tyJxd2413_ok : ∀ k, k < 0 → parseFieldDescriptor (TJxd2413 k).2.2.1 = some (tyJxd2413 k) := by decide +kernel
def RJ0 : String := "java/lang/String"
def TJ0 : u_T := fun k => match k with
  | 0 => ("java/lang/String", "value", "[B", true)
  | 1 => ("java/lang/String", "coder", "B", true)
  | 2 => ("java/lang/String", "hash", "I", false)
  | _ => ("java/lang/String", "hashIsZero", "Z", false)
def tyJ0 : Nat → FieldType := fun k => match k with
  | 0 => .array .byte
  | 1 => .byte
  | 2 => .int
  | _ => .boolean
theorem nmJ0 : ∀ a, a < 4 → ∀ b, b < 4 → a ≠ b → (TJ0 a).2.1 ≠ (TJ0 b).2.1 := by decide +kernel
theorem tyJ0_ok : ∀ k, k < 4 → parseFieldDescriptor (TJ0 k).2.2.1 = some (tyJ0 k) := by decide +kernel
abbrev cJ0_init_81219 : ByteArray := prog_23_method_53_code
def yJ0_init_81219 : MethodName := ⟨RJ0, "<init>", "(Ljava/lang/StringBuilder;)V"⟩
abbrev cJ0_length_8abf5 : ByteArray := prog_23_method_54_code
def yJ0_length_8abf5 : MethodName := ⟨RJ0, "length", "()I"⟩
abbrev cJ0_getBytes_840e7 : ByteArray := prog_23_method_147_code
def yJ0_getBytes_840e7 : MethodName := ⟨RJ0, "getBytes", "([BIB)V"⟩
abbrev cJ0_init_db425 : ByteArray := prog_23_method_150_code
def yJ0_init_db425 : MethodName := ⟨RJ0, "<init>", "(Ljava/lang/AbstractStringBuilder;Ljava/lang/Void;)V"⟩
abbrev cJ0_coder_7d493 : ByteArray := prog_23_method_152_code
def yJ0_coder_7d493 : MethodName := ⟨RJ0, "coder", "()B"⟩
abbrev cJ0_checkBoundsOffCount_cabcc : ByteArray := prog_23_method_157_code
def yJ0_checkBoundsOffCount_cabcc : MethodName := ⟨RJ0, "checkBoundsOffCount", "(III)I"⟩
abbrev cJ0_checkBoundsBeginEnd_23922 : ByteArray := prog_23_method_158_code
def yJ0_checkBoundsBeginEnd_23922 : MethodName := ⟨RJ0, "checkBoundsBeginEnd", "(III)V"⟩
def RJ4 : String := "java/lang/StringBuilder"
def TJ4 : u_T := fun k => match k with
  | 0 => ("java/lang/AbstractStringBuilder", "value", "[B", false)
  | 1 => ("java/lang/AbstractStringBuilder", "coder", "B", false)
  | 2 => ("java/lang/AbstractStringBuilder", "maybeLatin1", "Z", false)
  | _ => ("java/lang/AbstractStringBuilder", "count", "I", false)
def tyJ4 : Nat → FieldType := fun k => match k with
  | 0 => .array .byte
  | 1 => .byte
  | 2 => .boolean
  | _ => .int
theorem nmJ4 : ∀ a, a < 4 → ∀ b, b < 4 → a ≠ b → (TJ4 a).2.1 ≠ (TJ4 b).2.1 := by decide +kernel
theorem tyJ4_ok : ∀ k, k < 4 → parseFieldDescriptor (TJ4 k).2.2.1 = some (tyJ4 k) := by decide +kernel
abbrev cJ4_init_da8c8 : ByteArray := prog_24_method_1_code
def yJ4_init_da8c8 : MethodName := ⟨RJ4, "<init>", "()V"⟩
abbrev cJ4_append_15ec4 : ByteArray := prog_24_method_7_code
def yJ4_append_15ec4 : MethodName := ⟨RJ4, "append", "(Ljava/lang/String;)Ljava/lang/StringBuilder;"⟩
abbrev cJ4_append_bf812 : ByteArray := prog_24_method_15_code
def yJ4_append_bf812 : MethodName := ⟨RJ4, "append", "(I)Ljava/lang/StringBuilder;"⟩
abbrev cJ4_toString_0e30d : ByteArray := prog_24_method_42_code
def yJ4_toString_0e30d : MethodName := ⟨RJ4, "toString", "()Ljava/lang/String;"⟩
abbrev cJ4_length_8abf5 : ByteArray := prog_24_method_93_code
def yJ4_length_8abf5 : MethodName := ⟨RJ4, "length", "()I"⟩
def RJ1 : String := "java/lang/StringLatin1"
def TJ1 : u_T := fun k => match k with
  | _ => ("", "", "", false)
def tyJ1 : Nat → FieldType := fun k => match k with
  | _ => .int
theorem nmJ1 : ∀ a, a < 0 → ∀ b, b < 0 → a ≠ b → (TJ1 a).2.1 ≠ (TJ1 b).2.1 := by decide +kernel
theorem tyJ1_ok : ∀ k, k < 0 → parseFieldDescriptor (TJ1 k).2.2.1 = some (tyJ1 k) := by decide +kernel
abbrev cJ1_inflate_0e8fd : ByteArray := prog_25_method_50_code
def yJ1_inflate_0e8fd : MethodName := ⟨RJ1, "inflate", "([BI[BII)V"⟩
def RJ2 : String := "java/lang/StringUTF16"
def TJ2 : u_T := fun k => match k with
  | _ => ("", "", "", false)
def tyJ2 : Nat → FieldType := fun k => match k with
  | _ => .int
theorem nmJ2 : ∀ a, a < 0 → ∀ b, b < 0 → a ≠ b → (TJ2 a).2.1 ≠ (TJ2 b).2.1 := by decide +kernel
theorem tyJ2_ok : ∀ k, k < 0 → parseFieldDescriptor (TJ2 k).2.2.1 = some (tyJ2 k) := by decide +kernel
abbrev cJ2_newBytesFor_77867 : ByteArray := prog_26_method_2_code
def yJ2_newBytesFor_77867 : MethodName := ⟨RJ2, "newBytesFor", "(I)[B"⟩
abbrev cJ2_newBytesLength_0f7a4 : ByteArray := prog_26_method_3_code
def yJ2_newBytesLength_0f7a4 : MethodName := ⟨RJ2, "newBytesLength", "(I)I"⟩
abbrev cJ2_putChar_b72d1 : ByteArray := prog_26_method_4_code
def yJ2_putChar_b72d1 : MethodName := ⟨RJ2, "putChar", "([BII)V"⟩
abbrev cJ2_getChar_3b067 : ByteArray := prog_26_method_5_code
def yJ2_getChar_3b067 : MethodName := ⟨RJ2, "getChar", "([BI)C"⟩
abbrev cJ2_length_9d52b : ByteArray := prog_26_method_6_code
def yJ2_length_9d52b : MethodName := ⟨RJ2, "length", "([B)I"⟩
abbrev cJ2_coderFromArrayLen_85cad : ByteArray := prog_26_method_15_code
def yJ2_coderFromArrayLen_85cad : MethodName := ⟨RJ2, "coderFromArrayLen", "([BI)B"⟩
abbrev cJ2_compress_39247 : ByteArray := prog_26_method_17_code
def yJ2_compress_39247 : MethodName := ⟨RJ2, "compress", "([BII)[B"⟩
abbrev cJ2_compress_5af95 : ByteArray := prog_26_method_22_code
def yJ2_compress_5af95 : MethodName := ⟨RJ2, "compress", "([BI[BII)I"⟩
abbrev cJ2_getChars_46870 : ByteArray := prog_26_method_77_code
def yJ2_getChars_46870 : MethodName := ⟨RJ2, "getChars", "(III[B)I"⟩
abbrev cJ2_putCharsAt_cd4e5 : ByteArray := prog_26_method_81_code
def yJ2_putCharsAt_cd4e5 : MethodName := ⟨RJ2, "putCharsAt", "([BICCCC)I"⟩
abbrev cJ2_inflate_0e8fd : ByteArray := prog_26_method_86_code
def yJ2_inflate_0e8fd : MethodName := ⟨RJ2, "inflate", "([BI[BII)V"⟩
abbrev cJ2_getChars_ba4f3 : ByteArray := prog_26_method_89_code
def yJ2_getChars_ba4f3 : MethodName := ⟨RJ2, "getChars", "(II[B)I"⟩
abbrev cJ2_checkBoundsBeginEnd_d044e : ByteArray := prog_26_method_93_code
def yJ2_checkBoundsBeginEnd_d044e : MethodName := ⟨RJ2, "checkBoundsBeginEnd", "(II[B)V"⟩
abbrev cJ2_checkBoundsOffCount_d044e : ByteArray := prog_26_method_94_code
def yJ2_checkBoundsOffCount_d044e : MethodName := ⟨RJ2, "checkBoundsOffCount", "(II[B)V"⟩
def RJ10 : String := "java/lang/System"
def TJ10 : u_T := fun k => match k with
  | _ => ("", "", "", false)
def tyJ10 : Nat → FieldType := fun k => match k with
  | _ => .int
theorem nmJ10 : ∀ a, a < 0 → ∀ b, b < 0 → a ≠ b → (TJ10 a).2.1 ≠ (TJ10 b).2.1 := by decide +kernel
theorem tyJ10_ok : ∀ k, k < 0 → parseFieldDescriptor (TJ10 k).2.2.1 = some (tyJ10 k) := by decide +kernel
def RJxfd54e : String := "java/lang/constant/Constable"
def TJxfd54e : u_T := fun k => match k with
  | _ => ("", "", "", false)
def tyJxfd54e : Nat → FieldType := fun k => match k with
  | _ => .int
theorem nmJxfd54e : ∀ a, a < 0 → ∀ b, b < 0 → a ≠ b → (TJxfd54e a).2.1 ≠ (TJxfd54e b).2.1 := by decide +kernel
theorem tyJxfd54e_ok : ∀ k, k < 0 → parseFieldDescriptor (TJxfd54e k).2.2.1 = some (tyJxfd54e k) := by decide +kernel
def RJx3cf43 : String := "java/lang/constant/ConstantDesc"
def TJx3cf43 : u_T := fun k => match k with
  | _ => ("", "", "", false)
def tyJx3cf43 : Nat → FieldType := fun k => match k with
  | _ => .int
theorem nmJx3cf43 : ∀ a, a < 0 → ∀ b, b < 0 → a ≠ b → (TJx3cf43 a).2.1 ≠ (TJx3cf43 b).2.1 := by decide +kernel
theorem tyJx3cf43_ok : ∀ k, k < 0 → parseFieldDescriptor (TJx3cf43 k).2.2.1 = some (tyJx3cf43 k) := by decide +kernel
def RJxa1e45 : String := "java/util/AbstractCollection"
def TJxa1e45 : u_T := fun k => match k with
  | _ => ("", "", "", false)
def tyJxa1e45 : Nat → FieldType := fun k => match k with
  | _ => .int
theorem nmJxa1e45 : ∀ a, a < 0 → ∀ b, b < 0 → a ≠ b → (TJxa1e45 a).2.1 ≠ (TJxa1e45 b).2.1 := by decide +kernel
theorem tyJxa1e45_ok : ∀ k, k < 0 → parseFieldDescriptor (TJxa1e45 k).2.2.1 = some (tyJxa1e45 k) := by decide +kernel
abbrev cJxa1e45_init_da8c8 : ByteArray := prog_31_method_1_code
def yJxa1e45_init_da8c8 : MethodName := ⟨RJxa1e45, "<init>", "()V"⟩
def RJxc12de : String := "java/util/AbstractList"
def TJxc12de : u_T := fun k => match k with
  | _ => ("", "", "", false)
def tyJxc12de : Nat → FieldType := fun k => match k with
  | _ => .int
theorem nmJxc12de : ∀ a, a < 0 → ∀ b, b < 0 → a ≠ b → (TJxc12de a).2.1 ≠ (TJxc12de b).2.1 := by decide +kernel
theorem tyJxc12de_ok : ∀ k, k < 0 → parseFieldDescriptor (TJxc12de k).2.2.1 = some (tyJxc12de k) := by decide +kernel
abbrev cJxc12de_init_da8c8 : ByteArray := prog_32_method_1_code
def yJxc12de_init_da8c8 : MethodName := ⟨RJxc12de, "<init>", "()V"⟩
def RJx4a65c : String := "java/util/ArrayList"
def TJx4a65c : u_T := fun k => match k with
  | 0 => ("java/util/AbstractList", "modCount", "I", false)
  | 1 => ("java/util/ArrayList", "elementData", "[Ljava/lang/Object;", false)
  | _ => ("java/util/ArrayList", "size", "I", false)
def tyJx4a65c : Nat → FieldType := fun k => match k with
  | 0 => .int
  | 1 => .array (.object "java/lang/Object")
  | _ => .int
theorem nmJx4a65c : ∀ a, a < 3 → ∀ b, b < 3 → a ≠ b → (TJx4a65c a).2.1 ≠ (TJx4a65c b).2.1 := by decide +kernel
theorem tyJx4a65c_ok : ∀ k, k < 3 → parseFieldDescriptor (TJx4a65c k).2.2.1 = some (tyJx4a65c k) := by decide +kernel
abbrev cJx4a65c_init_da8c8 : ByteArray := prog_33_method_2_code
def yJx4a65c_init_da8c8 : MethodName := ⟨RJx4a65c, "<init>", "()V"⟩
abbrev cJx4a65c_grow_92f84 : ByteArray := prog_33_method_6_code
def yJx4a65c_grow_92f84 : MethodName := ⟨RJx4a65c, "grow", "(I)[Ljava/lang/Object;"⟩
abbrev cJx4a65c_grow_d5877 : ByteArray := prog_33_method_7_code
def yJx4a65c_grow_d5877 : MethodName := ⟨RJx4a65c, "grow", "()[Ljava/lang/Object;"⟩
abbrev cJx4a65c_size_8abf5 : ByteArray := prog_33_method_8_code
def yJx4a65c_size_8abf5 : MethodName := ⟨RJx4a65c, "size", "()I"⟩
abbrev cJx4a65c_elementData_915e3 : ByteArray := prog_33_method_18_code
def yJx4a65c_elementData_915e3 : MethodName := ⟨RJx4a65c, "elementData", "(I)Ljava/lang/Object;"⟩
abbrev cJx4a65c_get_915e3 : ByteArray := prog_33_method_20_code
def yJx4a65c_get_915e3 : MethodName := ⟨RJx4a65c, "get", "(I)Ljava/lang/Object;"⟩
abbrev cJx4a65c_add_72be8 : ByteArray := prog_33_method_24_code
def yJx4a65c_add_72be8 : MethodName := ⟨RJx4a65c, "add", "(Ljava/lang/Object;[Ljava/lang/Object;I)V"⟩
abbrev cJx4a65c_add_9ea2d : ByteArray := prog_33_method_25_code
def yJx4a65c_add_9ea2d : MethodName := ⟨RJx4a65c, "add", "(Ljava/lang/Object;)Z"⟩
abbrev cJx4a65c_add_7a177 : ByteArray := prog_33_method_26_code
def yJx4a65c_add_7a177 : MethodName := ⟨RJx4a65c, "add", "(ILjava/lang/Object;)V"⟩
abbrev cJx4a65c_remove_915e3 : ByteArray := prog_33_method_29_code
def yJx4a65c_remove_915e3 : MethodName := ⟨RJx4a65c, "remove", "(I)Ljava/lang/Object;"⟩
abbrev cJx4a65c_fastRemove_b59b0 : ByteArray := prog_33_method_39_code
def yJx4a65c_fastRemove_b59b0 : MethodName := ⟨RJx4a65c, "fastRemove", "([Ljava/lang/Object;I)V"⟩
abbrev cJx4a65c_clear_da8c8 : ByteArray := prog_33_method_40_code
def yJx4a65c_clear_da8c8 : MethodName := ⟨RJx4a65c, "clear", "()V"⟩
abbrev cJx4a65c_rangeCheckForAdd_d00df : ByteArray := prog_33_method_45_code
def yJx4a65c_rangeCheckForAdd_d00df : MethodName := ⟨RJx4a65c, "rangeCheckForAdd", "(I)V"⟩
abbrev cJx4a65c_outOfBoundsMsg_b52d3 : ByteArray := prog_33_method_46_code
def yJx4a65c_outOfBoundsMsg_b52d3 : MethodName := ⟨RJx4a65c, "outOfBoundsMsg", "(I)Ljava/lang/String;"⟩
def RJ7 : String := "java/util/Arrays"
def TJ7 : u_T := fun k => match k with
  | _ => ("", "", "", false)
def tyJ7 : Nat → FieldType := fun k => match k with
  | _ => .int
theorem nmJ7 : ∀ a, a < 0 → ∀ b, b < 0 → a ≠ b → (TJ7 a).2.1 ≠ (TJ7 b).2.1 := by decide +kernel
theorem tyJ7_ok : ∀ k, k < 0 → parseFieldDescriptor (TJ7 k).2.2.1 = some (tyJ7 k) := by decide +kernel
abbrev cJ7_fill_53178 : ByteArray := prog_34_method_103_code
def yJ7_fill_53178 : MethodName := ⟨RJ7, "fill", "([II)V"⟩
abbrev cJ7_copyOf_1904c : ByteArray := prog_34_method_119_code
def yJ7_copyOf_1904c : MethodName := ⟨RJ7, "copyOf", "([Ljava/lang/Object;I)[Ljava/lang/Object;"⟩
abbrev cJ7_copyOf_6403c : ByteArray := prog_34_method_120_code
def yJ7_copyOf_6403c : MethodName := ⟨RJ7, "copyOf", "([Ljava/lang/Object;ILjava/lang/Class;)[Ljava/lang/Object;"⟩
abbrev cJ7_copyOf_9075b : ByteArray := prog_34_method_121_code
def yJ7_copyOf_9075b : MethodName := ⟨RJ7, "copyOf", "([BI)[B"⟩
abbrev cJ7_checkLength_df160 : ByteArray := prog_34_method_131_code
def yJ7_checkLength_df160 : MethodName := ⟨RJ7, "checkLength", "(II)V"⟩
abbrev cJ7_copyOfRange_39247 : ByteArray := prog_34_method_132_code
def yJ7_copyOfRange_39247 : MethodName := ⟨RJ7, "copyOfRange", "([BII)[B"⟩
abbrev cJ7_copyOfRangeByte_39247 : ByteArray := prog_34_method_133_code
def yJ7_copyOfRangeByte_39247 : MethodName := ⟨RJ7, "copyOfRangeByte", "([BII)[B"⟩
def RJx5ef63 : String := "java/util/Collection"
def TJx5ef63 : u_T := fun k => match k with
  | _ => ("", "", "", false)
def tyJx5ef63 : Nat → FieldType := fun k => match k with
  | _ => .int
theorem nmJx5ef63 : ∀ a, a < 0 → ∀ b, b < 0 → a ≠ b → (TJx5ef63 a).2.1 ≠ (TJx5ef63 b).2.1 := by decide +kernel
theorem tyJx5ef63_ok : ∀ k, k < 0 → parseFieldDescriptor (TJx5ef63 k).2.2.1 = some (tyJx5ef63 k) := by decide +kernel
def RJxbd725 : String := "java/util/List"
def TJxbd725 : u_T := fun k => match k with
  | _ => ("", "", "", false)
def tyJxbd725 : Nat → FieldType := fun k => match k with
  | _ => .int
theorem nmJxbd725 : ∀ a, a < 0 → ∀ b, b < 0 → a ≠ b → (TJxbd725 a).2.1 ≠ (TJxbd725 b).2.1 := by decide +kernel
theorem tyJxbd725_ok : ∀ k, k < 0 → parseFieldDescriptor (TJxbd725 k).2.2.1 = some (tyJxbd725 k) := by decide +kernel
def RJ15 : String := "java/util/Objects"
def TJ15 : u_T := fun k => match k with
  | _ => ("", "", "", false)
def tyJ15 : Nat → FieldType := fun k => match k with
  | _ => .int
theorem nmJ15 : ∀ a, a < 0 → ∀ b, b < 0 → a ≠ b → (TJ15 a).2.1 ≠ (TJ15 b).2.1 := by decide +kernel
theorem tyJ15_ok : ∀ k, k < 0 → parseFieldDescriptor (TJ15 k).2.2.1 = some (tyJ15 k) := by decide +kernel
abbrev cJ15_checkIndex_7cf53 : ByteArray := prog_37_method_17_code
def yJ15_checkIndex_7cf53 : MethodName := ⟨RJ15, "checkIndex", "(II)I"⟩
def RJxf0a74 : String := "java/util/RandomAccess"
def TJxf0a74 : u_T := fun k => match k with
  | _ => ("", "", "", false)
def tyJxf0a74 : Nat → FieldType := fun k => match k with
  | _ => .int
theorem nmJxf0a74 : ∀ a, a < 0 → ∀ b, b < 0 → a ≠ b → (TJxf0a74 a).2.1 ≠ (TJxf0a74 b).2.1 := by decide +kernel
theorem tyJxf0a74_ok : ∀ k, k < 0 → parseFieldDescriptor (TJxf0a74 k).2.2.1 = some (tyJxf0a74 k) := by decide +kernel
def RJxa66e6 : String := "java/util/SequencedCollection"
def TJxa66e6 : u_T := fun k => match k with
  | _ => ("", "", "", false)
def tyJxa66e6 : Nat → FieldType := fun k => match k with
  | _ => .int
theorem nmJxa66e6 : ∀ a, a < 0 → ∀ b, b < 0 → a ≠ b → (TJxa66e6 a).2.1 ≠ (TJxa66e6 b).2.1 := by decide +kernel
theorem tyJxa66e6_ok : ∀ k, k < 0 → parseFieldDescriptor (TJxa66e6 k).2.2.1 = some (tyJxa66e6 k) := by decide +kernel
def RJ8 : String := "jdk/internal/util/ArraysSupport"
def TJ8 : u_T := fun k => match k with
  | _ => ("", "", "", false)
def tyJ8 : Nat → FieldType := fun k => match k with
  | _ => .int
theorem nmJ8 : ∀ a, a < 0 → ∀ b, b < 0 → a ≠ b → (TJ8 a).2.1 ≠ (TJ8 b).2.1 := by decide +kernel
theorem tyJ8_ok : ∀ k, k < 0 → parseFieldDescriptor (TJ8 k).2.2.1 = some (tyJ8 k) := by decide +kernel
abbrev cJ8_newLength_cabcc : ByteArray := prog_40_method_27_code
def yJ8_newLength_cabcc : MethodName := ⟨RJ8, "newLength", "(III)I"⟩
abbrev cJ8_hugeLength_7cf53 : ByteArray := prog_40_method_28_code
def yJ8_hugeLength_7cf53 : MethodName := ⟨RJ8, "hugeLength", "(II)I"⟩
def RJ3 : String := "jdk/internal/util/Preconditions"
def TJ3 : u_T := fun k => match k with
  | _ => ("", "", "", false)
def tyJ3 : Nat → FieldType := fun k => match k with
  | _ => .int
theorem nmJ3 : ∀ a, a < 0 → ∀ b, b < 0 → a ≠ b → (TJ3 a).2.1 ≠ (TJ3 b).2.1 := by decide +kernel
theorem tyJ3_ok : ∀ k, k < 0 → parseFieldDescriptor (TJ3 k).2.2.1 = some (tyJ3 k) := by decide +kernel
abbrev cJ3_checkIndex_8e157 : ByteArray := prog_41_method_11_code
def yJ3_checkIndex_8e157 : MethodName := ⟨RJ3, "checkIndex", "(IILjava/util/function/BiFunction;)I"⟩
abbrev cJ3_checkFromToIndex_8c36e : ByteArray := prog_41_method_12_code
def yJ3_checkFromToIndex_8c36e : MethodName := ⟨RJ3, "checkFromToIndex", "(IIILjava/util/function/BiFunction;)I"⟩
abbrev cJ3_checkFromIndexSize_8c36e : ByteArray := prog_41_method_13_code
def yJ3_checkFromIndexSize_8c36e : MethodName := ⟨RJ3, "checkFromIndexSize", "(IIILjava/util/function/BiFunction;)I"⟩
def RL : String := "RackPlannerLaw"
abbrev cL_addRack : ByteArray := method_3_code
def yL_addRack : MethodName := ⟨RL, "addRack", "(LRackPlanner;IIII[J)I"⟩
abbrev cL_setRow : ByteArray := method_4_code
def yL_setRow : MethodName := ⟨RL, "setRow", "(LRackPlanner;III)I"⟩
abbrev cL_setFeed : ByteArray := method_5_code
def yL_setFeed : MethodName := ⟨RL, "setFeed", "(LRackPlanner;II[J)I"⟩
abbrev cL_switchFeed : ByteArray := method_6_code
def yL_switchFeed : MethodName := ⟨RL, "switchFeed", "(LRackPlanner;I[J)I"⟩
abbrev cL_hasFailed : ByteArray := method_7_code
def yL_hasFailed : MethodName := ⟨RL, "hasFailed", "(LRackPlanner;I[J)I"⟩
abbrev cL_place : ByteArray := method_8_code
def yL_place : MethodName := ⟨RL, "place", "(LRackPlanner;IIII[J)I"⟩
abbrev cL_takeOut : ByteArray := method_9_code
def yL_takeOut : MethodName := ⟨RL, "takeOut", "(LRackPlanner;I[J)I"⟩
abbrev cL_cord : ByteArray := method_10_code
def yL_cord : MethodName := ⟨RL, "cord", "(LRackPlanner;II[J)I"⟩
abbrev cL_rackOf : ByteArray := method_11_code
def yL_rackOf : MethodName := ⟨RL, "rackOf", "(LRackPlanner;I[J)I"⟩
abbrev cL_slotOf : ByteArray := method_12_code
def yL_slotOf : MethodName := ⟨RL, "slotOf", "(LRackPlanner;I[J)I"⟩
abbrev cL_isDark : ByteArray := method_13_code
def yL_isDark : MethodName := ⟨RL, "isDark", "(LRackPlanner;I[J)I"⟩
abbrev cL_machineAt : ByteArray := method_14_code
def yL_machineAt : MethodName := ⟨RL, "machineAt", "(LRackPlanner;II[J)I"⟩
abbrev cL_next : ByteArray := method_15_code
def yL_next : MethodName := ⟨RL, "next", "(LRackPlanner;I[J)I"⟩
abbrev cL_powerOf : ByteArray := method_16_code
def yL_powerOf : MethodName := ⟨RL, "powerOf", "(LRackPlanner;II[J)I"⟩
abbrev cL_worstOf : ByteArray := method_17_code
def yL_worstOf : MethodName := ⟨RL, "worstOf", "(LRackPlanner;II[J)I"⟩
abbrev cL_weightOf : ByteArray := method_18_code
def yL_weightOf : MethodName := ⟨RL, "weightOf", "(LRackPlanner;I[J)I"⟩
abbrev cL_heatOf : ByteArray := method_19_code
def yL_heatOf : MethodName := ⟨RL, "heatOf", "(LRackPlanner;I[J)I"⟩
abbrev cL_gap : ByteArray := method_20_code
def yL_gap : MethodName := ⟨RL, "gap", "(LRackPlanner;I[J)I"⟩
abbrev cL_racksFor : ByteArray := method_21_code
def yL_racksFor : MethodName := ⟨RL, "racksFor", "(LRackPlanner;IIII[J)I"⟩
abbrev cL_roomFor : ByteArray := method_22_code
def yL_roomFor : MethodName := ⟨RL, "roomFor", "(LRackPlanner;IIII[J)I"⟩
abbrev cL_roomByCounting : ByteArray := method_23_code
def yL_roomByCounting : MethodName := ⟨RL, "roomByCounting", "(LRackPlanner;IIII[J)I"⟩
abbrev cL_law : ByteArray := code
def yL_law : MethodName := ⟨RL, "law", "([I)Z"⟩
set_option maxRecDepth 20000 in
set_option maxRecDepth 20000 in
set_option maxRecDepth 20000 in
set_option maxRecDepth 20000 in
set_option maxRecDepth 20000 in
set_option maxRecDepth 20000 in
set_option maxRecDepth 20000 in
set_option maxRecDepth 20000 in
set_option maxRecDepth 20000 in
set_option maxRecDepth 20000 in
set_option maxRecDepth 20000 in
set_option maxRecDepth 20000 in
set_option maxRecDepth 20000 in
set_option maxRecDepth 20000 in
set_option maxRecDepth 20000 in
set_option maxRecDepth 20000 in
set_option maxRecDepth 20000 in
set_option maxRecDepth 20000 in
set_option maxRecDepth 20000 in
set_option maxRecDepth 20000 in
set_option maxRecDepth 20000 in
set_option maxRecDepth 20000 in
set_option maxRecDepth 20000 in
set_option maxRecDepth 20000 in
set_option maxRecDepth 20000 in
set_option maxRecDepth 20000 in
set_option maxRecDepth 20000 in
set_option maxRecDepth 20000 in
set_option maxRecDepth 20000 in
set_option maxRecDepth 20000 in
set_option maxRecDepth 20000 in
set_option maxRecDepth 20000 in
set_option maxRecDepth 20000 in
set_option maxRecDepth 20000 in
set_option maxRecDepth 20000 in
set_option maxRecDepth 20000 in
set_option maxRecDepth 20000 in
set_option maxRecDepth 20000 in
set_option maxRecDepth 20000 in
set_option maxRecDepth 20000 in
set_option maxRecDepth 20000 in
set_option maxRecDepth 20000 in
set_option maxRecDepth 20000 in
set_option maxRecDepth 20000 in
set_option maxRecDepth 20000 in
set_option maxRecDepth 20000 in
set_option maxRecDepth 20000 in
set_option maxRecDepth 20000 in
set_option maxRecDepth 20000 in
set_option maxRecDepth 20000 in
set_option maxRecDepth 20000 in
set_option maxRecDepth 20000 in
set_option maxRecDepth 20000 in
set_option maxRecDepth 20000 in
set_option maxRecDepth 20000 in
set_option maxRecDepth 20000 in
set_option maxRecDepth 20000 in
set_option maxRecDepth 20000 in
set_option maxRecDepth 20000 in
set_option maxRecDepth 20000 in
set_option maxRecDepth 20000 in
set_option maxRecDepth 20000 in
set_option maxRecDepth 20000 in
set_option maxRecDepth 20000 in
set_option maxRecDepth 20000 in
set_option maxRecDepth 20000 in
set_option maxRecDepth 20000 in
set_option maxRecDepth 20000 in
set_option maxRecDepth 20000 in
set_option maxRecDepth 20000 in
set_option maxRecDepth 20000 in
set_option maxRecDepth 20000 in
set_option maxRecDepth 20000 in
set_option maxRecDepth 20000 in
set_option maxRecDepth 20000 in
set_option maxRecDepth 20000 in
set_option maxRecDepth 20000 in
set_option maxRecDepth 20000 in
set_option maxRecDepth 20000 in
set_option maxRecDepth 20000 in
set_option maxRecDepth 20000 in
set_option maxRecDepth 20000 in
set_option maxRecDepth 20000 in
set_option maxRecDepth 20000 in
set_option maxRecDepth 20000 in
set_option maxRecDepth 20000 in
set_option maxRecDepth 20000 in
set_option maxRecDepth 20000 in
set_option maxRecDepth 20000 in
set_option maxRecDepth 20000 in
set_option maxRecDepth 20000 in
set_option maxRecDepth 20000 in
set_option maxRecDepth 20000 in
set_option maxRecDepth 20000 in
set_option maxRecDepth 20000 in
set_option maxRecDepth 20000 in
set_option maxRecDepth 20000 in
set_option maxRecDepth 20000 in
set_option maxRecDepth 20000 in
set_option maxRecDepth 20000 in
set_option maxRecDepth 20000 in
set_option maxRecDepth 20000 in
set_option maxRecDepth 20000 in
set_option maxRecDepth 20000 in
set_option maxRecDepth 20000 in
set_option maxRecDepth 20000 in
set_option maxRecDepth 20000 in
set_option maxRecDepth 20000 in
set_option maxRecDepth 20000 in
set_option maxRecDepth 20000 in
set_option maxRecDepth 20000 in
set_option maxRecDepth 20000 in
set_option maxRecDepth 20000 in
set_option maxRecDepth 20000 in
set_option maxRecDepth 20000 in
set_option maxRecDepth 20000 in
set_option maxRecDepth 20000 in
set_option maxRecDepth 20000 in
set_option maxRecDepth 20000 in
set_option maxRecDepth 20000 in
set_option maxRecDepth 20000 in
set_option maxRecDepth 20000 in
set_option maxRecDepth 20000 in
set_option maxRecDepth 20000 in
set_option maxRecDepth 20000 in
set_option maxRecDepth 20000 in
set_option maxRecDepth 20000 in
set_option maxRecDepth 20000 in
set_option maxRecDepth 20000 in
set_option maxRecDepth 20000 in
set_option maxRecDepth 20000 in
set_option maxRecDepth 20000 in
set_option maxRecDepth 20000 in
set_option maxRecDepth 20000 in
set_option maxRecDepth 20000 in
set_option maxRecDepth 20000 in
set_option maxRecDepth 20000 in
set_option maxRecDepth 20000 in
set_option maxRecDepth 20000 in
set_option maxRecDepth 20000 in
set_option maxRecDepth 20000 in
set_option maxRecDepth 20000 in
set_option maxRecDepth 20000 in
set_option maxRecDepth 20000 in
set_option maxRecDepth 20000 in
set_option maxRecDepth 20000 in
set_option maxRecDepth 20000 in
set_option maxRecDepth 20000 in
set_option maxRecDepth 20000 in
set_option maxRecDepth 20000 in
set_option maxRecDepth 20000 in
set_option maxRecDepth 20000 in
set_option maxRecDepth 20000 in
set_option maxRecDepth 20000 in
set_option maxRecDepth 20000 in
set_option maxRecDepth 20000 in
set_option maxRecDepth 20000 in
set_option maxRecDepth 20000 in
set_option maxRecDepth 20000 in
set_option maxRecDepth 20000 in
set_option maxRecDepth 20000 in
set_option maxRecDepth 20000 in
set_option maxRecDepth 20000 in
set_option maxRecDepth 20000 in
set_option maxRecDepth 20000 in
set_option maxRecDepth 20000 in
set_option maxRecDepth 20000 in
set_option maxRecDepth 20000 in
set_option maxRecDepth 20000 in
set_option maxRecDepth 20000 in
set_option maxRecDepth 20000 in
set_option maxRecDepth 20000 in
set_option maxRecDepth 20000 in
set_option maxRecDepth 20000 in
set_option maxRecDepth 20000 in
set_option maxRecDepth 20000 in
set_option maxRecDepth 20000 in
set_option maxRecDepth 20000 in
set_option maxRecDepth 20000 in
set_option maxRecDepth 20000 in
set_option maxRecDepth 20000 in
set_option maxRecDepth 20000 in
set_option maxRecDepth 20000 in
set_option maxRecDepth 20000 in
set_option maxRecDepth 20000 in
set_option maxRecDepth 20000 in
set_option maxRecDepth 20000 in
set_option maxRecDepth 20000 in
set_option maxRecDepth 20000 in
set_option maxRecDepth 20000 in
set_option maxRecDepth 20000 in
set_option maxRecDepth 20000 in
set_option maxRecDepth 20000 in
set_option maxRecDepth 20000 in
set_option maxRecDepth 20000 in
set_option maxRecDepth 20000 in
set_option maxRecDepth 20000 in
set_option maxRecDepth 20000 in
set_option maxRecDepth 20000 in
set_option maxRecDepth 20000 in
set_option maxRecDepth 20000 in
set_option maxRecDepth 20000 in
set_option maxRecDepth 20000 in
set_option maxRecDepth 20000 in
set_option maxRecDepth 20000 in
set_option maxRecDepth 20000 in
set_option maxRecDepth 20000 in
set_option maxRecDepth 20000 in
set_option maxRecDepth 20000 in
set_option maxRecDepth 20000 in
set_option maxRecDepth 20000 in
set_option maxRecDepth 20000 in
set_option maxRecDepth 20000 in
set_option maxRecDepth 20000 in
set_option maxRecDepth 20000 in
set_option maxRecDepth 20000 in
set_option maxRecDepth 20000 in
set_option maxRecDepth 20000 in
set_option maxRecDepth 20000 in
set_option maxRecDepth 20000 in
set_option maxRecDepth 20000 in
set_option maxRecDepth 20000 in
set_option maxRecDepth 20000 in
set_option maxRecDepth 20000 in
set_option maxRecDepth 20000 in
set_option maxRecDepth 20000 in
set_option maxRecDepth 20000 in
set_option maxRecDepth 20000 in
set_option maxRecDepth 20000 in
set_option maxRecDepth 20000 in
set_option maxRecDepth 20000 in
set_option maxRecDepth 20000 in
set_option maxRecDepth 20000 in
set_option maxRecDepth 20000 in
set_option maxRecDepth 20000 in
set_option maxRecDepth 20000 in
set_option maxRecDepth 20000 in
set_option maxRecDepth 20000 in
set_option maxRecDepth 20000 in
set_option maxRecDepth 20000 in
set_option maxRecDepth 20000 in
set_option maxRecDepth 20000 in
set_option maxRecDepth 20000 in
set_option maxRecDepth 20000 in
set_option maxRecDepth 20000 in
set_option maxRecDepth 20000 in
set_option maxRecDepth 20000 in
set_option maxRecDepth 20000 in
set_option maxRecDepth 20000 in
set_option maxRecDepth 20000 in
set_option maxRecDepth 20000 in
set_option maxRecDepth 20000 in
set_option maxRecDepth 20000 in
set_option maxRecDepth 20000 in
set_option maxRecDepth 20000 in
set_option maxRecDepth 20000 in
set_option maxRecDepth 20000 in
set_option maxRecDepth 20000 in
set_option maxRecDepth 20000 in
set_option maxRecDepth 20000 in
set_option maxRecDepth 20000 in
set_option maxRecDepth 20000 in
set_option maxRecDepth 20000 in
set_option maxRecDepth 20000 in
set_option maxRecDepth 20000 in
set_option maxRecDepth 20000 in
set_option maxRecDepth 20000 in
set_option maxRecDepth 20000 in
set_option maxRecDepth 20000 in
set_option maxRecDepth 20000 in
set_option maxRecDepth 20000 in
set_option maxRecDepth 20000 in
set_option maxRecDepth 20000 in
set_option maxRecDepth 20000 in
set_option maxRecDepth 20000 in
set_option maxRecDepth 20000 in
set_option maxRecDepth 20000 in
set_option maxRecDepth 20000 in
set_option maxRecDepth 20000 in
set_option maxRecDepth 20000 in
set_option maxRecDepth 20000 in
set_option maxRecDepth 20000 in
set_option maxRecDepth 20000 in
set_option maxRecDepth 20000 in
set_option maxRecDepth 20000 in
set_option maxRecDepth 20000 in
set_option maxRecDepth 20000 in
set_option maxRecDepth 20000 in
set_option maxRecDepth 20000 in
set_option maxRecDepth 20000 in
set_option maxRecDepth 20000 in
set_option maxRecDepth 20000 in
set_option maxRecDepth 20000 in
set_option maxRecDepth 20000 in
set_option maxRecDepth 20000 in
set_option maxRecDepth 20000 in
set_option maxRecDepth 20000 in
set_option maxRecDepth 20000 in
set_option maxRecDepth 20000 in
set_option maxRecDepth 20000 in
set_option maxRecDepth 20000 in
set_option maxRecDepth 20000 in
set_option maxRecDepth 20000 in
set_option maxRecDepth 20000 in
set_option maxRecDepth 20000 in
set_option maxRecDepth 20000 in
set_option maxRecDepth 20000 in
set_option maxRecDepth 20000 in
set_option maxRecDepth 20000 in
set_option maxRecDepth 20000 in
set_option maxRecDepth 20000 in
set_option maxRecDepth 20000 in
set_option maxRecDepth 20000 in
set_option maxRecDepth 20000 in
set_option maxRecDepth 20000 in
set_option maxRecDepth 20000 in
set_option maxRecDepth 20000 in
set_option maxRecDepth 20000 in
set_option maxRecDepth 20000 in
set_option maxRecDepth 20000 in
set_option maxRecDepth 20000 in
set_option maxRecDepth 20000 in
set_option maxRecDepth 20000 in
set_option maxRecDepth 20000 in
set_option maxRecDepth 20000 in
set_option maxRecDepth 20000 in
set_option maxRecDepth 20000 in
set_option maxRecDepth 20000 in
set_option maxRecDepth 20000 in
set_option maxRecDepth 20000 in
set_option maxRecDepth 20000 in
set_option maxRecDepth 20000 in
set_option maxRecDepth 20000 in
set_option maxRecDepth 20000 in
set_option maxRecDepth 20000 in
set_option maxRecDepth 20000 in
set_option maxRecDepth 20000 in
set_option maxRecDepth 20000 in
set_option maxRecDepth 20000 in
set_option maxRecDepth 20000 in
set_option maxRecDepth 20000 in
set_option maxRecDepth 20000 in
set_option maxRecDepth 20000 in
set_option maxRecDepth 20000 in
set_option maxRecDepth 20000 in
set_option maxRecDepth 20000 in
set_option maxRecDepth 20000 in
set_option maxRecDepth 20000 in
set_option maxRecDepth 20000 in
set_option maxRecDepth 20000 in
set_option maxRecDepth 20000 in
set_option maxRecDepth 20000 in
set_option maxRecDepth 20000 in
set_option maxRecDepth 20000 in
set_option maxRecDepth 20000 in
set_option maxRecDepth 20000 in
set_option maxRecDepth 20000 in
set_option maxRecDepth 20000 in
set_option maxRecDepth 20000 in
set_option maxRecDepth 20000 in
set_option maxRecDepth 20000 in
set_option maxRecDepth 20000 in
set_option maxRecDepth 20000 in
set_option maxRecDepth 20000 in
set_option maxRecDepth 20000 in
set_option maxRecDepth 20000 in
set_option maxRecDepth 20000 in
set_option maxRecDepth 20000 in
set_option maxRecDepth 20000 in
set_option maxRecDepth 20000 in
set_option maxRecDepth 20000 in
set_option maxRecDepth 20000 in
set_option maxRecDepth 20000 in
set_option maxRecDepth 20000 in
set_option maxRecDepth 20000 in
set_option maxRecDepth 20000 in
set_option maxRecDepth 20000 in
set_option maxRecDepth 20000 in
set_option maxRecDepth 20000 in
set_option maxRecDepth 20000 in
set_option maxRecDepth 20000 in
set_option maxRecDepth 20000 in
set_option maxRecDepth 20000 in
set_option maxRecDepth 20000 in
set_option maxRecDepth 20000 in
set_option maxRecDepth 20000 in
set_option maxRecDepth 20000 in
set_option maxRecDepth 20000 in
set_option maxRecDepth 20000 in
set_option maxRecDepth 20000 in
set_option maxRecDepth 20000 in
set_option maxRecDepth 20000 in
set_option maxRecDepth 20000 in
set_option maxRecDepth 20000 in
set_option maxRecDepth 20000 in
set_option maxRecDepth 20000 in
set_option maxRecDepth 20000 in
set_option maxRecDepth 20000 in
set_option maxRecDepth 20000 in
set_option maxRecDepth 20000 in
set_option maxRecDepth 20000 in
set_option maxRecDepth 20000 in
set_option maxRecDepth 20000 in
set_option maxRecDepth 20000 in
set_option maxRecDepth 20000 in
set_option maxRecDepth 20000 in
set_option maxRecDepth 20000 in
set_option maxRecDepth 20000 in
set_option maxRecDepth 20000 in
set_option maxRecDepth 20000 in
set_option maxRecDepth 20000 in
set_option maxRecDepth 20000 in
set_option maxRecDepth 20000 in
set_option maxRecDepth 20000 in
set_option maxRecDepth 20000 in
set_option maxRecDepth 20000 in
set_option maxRecDepth 20000 in
set_option maxRecDepth 20000 in
set_option maxRecDepth 20000 in
set_option maxRecDepth 20000 in
set_option maxRecDepth 20000 in
set_option maxRecDepth 20000 in
set_option maxRecDepth 20000 in
set_option maxRecDepth 20000 in
set_option maxRecDepth 20000 in
set_option maxRecDepth 20000 in
set_option maxRecDepth 20000 in
set_option maxRecDepth 20000 in
set_option maxRecDepth 20000 in
set_option maxRecDepth 20000 in
set_option maxRecDepth 20000 in
set_option maxRecDepth 20000 in
set_option maxRecDepth 20000 in
set_option maxRecDepth 20000 in
set_option maxRecDepth 20000 in
set_option maxRecDepth 20000 in
set_option maxRecDepth 20000 in
set_option maxRecDepth 20000 in
set_option maxRecDepth 20000 in
set_option maxRecDepth 20000 in
set_option maxRecDepth 20000 in
set_option maxRecDepth 20000 in
set_option maxRecDepth 20000 in
set_option maxRecDepth 20000 in
set_option maxRecDepth 20000 in
set_option maxRecDepth 20000 in
set_option maxRecDepth 20000 in
set_option maxRecDepth 20000 in
set_option maxRecDepth 20000 in
set_option maxRecDepth 20000 in
set_option maxRecDepth 20000 in
set_option maxRecDepth 20000 in
set_option maxRecDepth 20000 in
set_option maxRecDepth 20000 in
set_option maxRecDepth 20000 in
set_option maxRecDepth 20000 in
set_option maxRecDepth 20000 in
set_option maxRecDepth 20000 in
set_option maxRecDepth 20000 in
set_option maxRecDepth 20000 in
set_option maxRecDepth 20000 in
set_option maxRecDepth 20000 in
set_option maxRecDepth 20000 in
set_option maxRecDepth 20000 in
set_option maxRecDepth 20000 in
set_option maxRecDepth 20000 in
set_option maxRecDepth 20000 in
set_option maxRecDepth 20000 in
set_option maxRecDepth 20000 in
set_option maxRecDepth 20000 in
set_option maxRecDepth 20000 in
set_option maxRecDepth 20000 in
set_option maxRecDepth 20000 in
set_option maxRecDepth 20000 in
set_option maxRecDepth 20000 in
set_option maxRecDepth 20000 in
set_option maxRecDepth 20000 in
set_option maxRecDepth 20000 in
set_option maxRecDepth 20000 in
set_option maxRecDepth 20000 in
set_option maxRecDepth 20000 in
set_option maxRecDepth 20000 in
set_option maxRecDepth 20000 in
set_option maxRecDepth 20000 in
set_option maxRecDepth 20000 in
set_option maxRecDepth 20000 in
set_option maxRecDepth 20000 in
set_option maxRecDepth 20000 in
set_option maxRecDepth 20000 in
set_option maxRecDepth 20000 in
set_option maxRecDepth 20000 in
set_option maxRecDepth 20000 in
set_option maxRecDepth 20000 in
set_option maxRecDepth 20000 in
set_option maxRecDepth 20000 in
set_option maxRecDepth 20000 in
set_option maxRecDepth 20000 in
set_option maxRecDepth 20000 in
set_option maxRecDepth 20000 in
set_option maxRecDepth 20000 in
set_option maxRecDepth 20000 in
set_option maxRecDepth 20000 in
set_option maxRecDepth 20000 in
set_option maxRecDepth 20000 in
set_option maxRecDepth 20000 in
set_option maxRecDepth 20000 in
set_option maxRecDepth 20000 in
set_option maxRecDepth 20000 in
set_option maxRecDepth 20000 in
set_option maxRecDepth 20000 in
set_option maxRecDepth 20000 in
set_option maxRecDepth 20000 in
set_option maxRecDepth 20000 in
set_option maxRecDepth 20000 in
set_option maxRecDepth 20000 in
set_option maxRecDepth 20000 in
set_option maxRecDepth 20000 in
set_option maxRecDepth 20000 in
set_option maxRecDepth 20000 in
set_option maxRecDepth 20000 in
set_option maxRecDepth 20000 in
set_option maxRecDepth 20000 in
set_option maxRecDepth 20000 in
set_option maxRecDepth 20000 in
set_option maxRecDepth 20000 in
set_option maxRecDepth 20000 in
set_option maxRecDepth 20000 in
set_option maxRecDepth 20000 in
set_option maxRecDepth 20000 in
set_option maxRecDepth 20000 in
set_option maxRecDepth 20000 in
set_option maxRecDepth 20000 in
set_option maxRecDepth 20000 in
set_option maxRecDepth 20000 in
set_option maxRecDepth 20000 in
set_option maxRecDepth 20000 in
set_option maxRecDepth 20000 in
set_option maxRecDepth 20000 in
set_option maxRecDepth 20000 in
set_option maxRecDepth 20000 in
set_option maxRecDepth 20000 in
set_option maxRecDepth 20000 in
set_option maxRecDepth 20000 in
set_option maxRecDepth 20000 in
set_option maxRecDepth 20000 in
set_option maxRecDepth 20000 in
set_option maxRecDepth 20000 in
set_option maxRecDepth 20000 in
set_option maxRecDepth 20000 in
set_option maxRecDepth 20000 in
set_option maxRecDepth 20000 in
set_option maxRecDepth 20000 in
set_option maxRecDepth 20000 in
set_option maxRecDepth 20000 in
set_option maxRecDepth 20000 in
set_option maxRecDepth 20000 in
set_option maxRecDepth 20000 in
set_option maxRecDepth 20000 in
set_option maxRecDepth 20000 in
set_option maxRecDepth 20000 in
set_option maxRecDepth 20000 in
set_option maxRecDepth 20000 in
set_option maxRecDepth 20000 in
set_option maxRecDepth 20000 in
set_option maxRecDepth 20000 in
set_option maxRecDepth 20000 in
set_option maxRecDepth 20000 in
set_option maxRecDepth 20000 in
set_option maxRecDepth 20000 in
set_option maxRecDepth 20000 in
set_option maxRecDepth 20000 in
set_option maxRecDepth 20000 in
set_option maxRecDepth 20000 in
set_option maxRecDepth 20000 in
set_option maxRecDepth 20000 in
set_option maxRecDepth 20000 in
set_option maxRecDepth 20000 in
set_option maxRecDepth 20000 in
set_option maxRecDepth 20000 in
set_option maxRecDepth 20000 in
set_option maxRecDepth 20000 in
set_option maxRecDepth 20000 in
set_option maxRecDepth 20000 in
set_option maxRecDepth 20000 in
set_option maxRecDepth 20000 in
set_option maxRecDepth 20000 in
set_option maxRecDepth 20000 in
set_option maxRecDepth 20000 in
set_option maxRecDepth 20000 in
set_option maxRecDepth 20000 in
set_option maxRecDepth 20000 in
set_option maxRecDepth 20000 in
set_option maxRecDepth 20000 in
set_option maxRecDepth 20000 in
set_option maxRecDepth 20000 in
set_option maxRecDepth 20000 in
set_option maxRecDepth 20000 in
set_option maxRecDepth 20000 in
set_option maxRecDepth 20000 in
set_option maxRecDepth 20000 in
set_option maxRecDepth 20000 in
set_option maxRecDepth 20000 in
set_option maxRecDepth 20000 in
set_option maxRecDepth 20000 in
set_option maxRecDepth 20000 in
set_option maxRecDepth 20000 in
set_option maxRecDepth 20000 in
set_option maxRecDepth 20000 in
set_option maxRecDepth 20000 in
set_option maxRecDepth 20000 in
set_option maxRecDepth 20000 in
set_option maxRecDepth 20000 in
set_option maxRecDepth 20000 in
set_option maxRecDepth 20000 in
set_option maxRecDepth 20000 in
set_option maxRecDepth 20000 in
set_option maxRecDepth 20000 in
set_option maxRecDepth 20000 in
set_option maxRecDepth 20000 in
set_option maxRecDepth 20000 in
set_option maxRecDepth 20000 in
set_option maxRecDepth 20000 in
set_option maxRecDepth 20000 in
set_option maxRecDepth 20000 in
set_option maxRecDepth 20000 in
set_option maxRecDepth 20000 in
set_option maxRecDepth 20000 in
set_option maxRecDepth 20000 in
set_option maxRecDepth 20000 in
set_option maxRecDepth 20000 in
set_option maxRecDepth 20000 in
set_option maxRecDepth 20000 in
set_option maxRecDepth 20000 in
set_option maxRecDepth 20000 in
set_option maxRecDepth 20000 in
set_option maxRecDepth 20000 in
set_option maxRecDepth 20000 in
set_option maxRecDepth 20000 in
set_option maxRecDepth 20000 in
set_option maxRecDepth 20000 in
set_option maxRecDepth 20000 in
set_option maxRecDepth 20000 in
set_option maxRecDepth 20000 in
set_option maxRecDepth 20000 in
set_option maxRecDepth 20000 in
set_option maxRecDepth 20000 in
set_option maxRecDepth 20000 in
set_option maxRecDepth 20000 in
set_option maxRecDepth 20000 in
set_option maxRecDepth 20000 in
set_option maxRecDepth 20000 in
set_option maxRecDepth 20000 in
set_option maxRecDepth 20000 in
set_option maxRecDepth 20000 in
set_option maxRecDepth 20000 in
set_option maxRecDepth 20000 in
set_option maxRecDepth 20000 in
set_option maxRecDepth 20000 in
set_option maxRecDepth 20000 in
set_option maxRecDepth 20000 in
set_option maxRecDepth 20000 in
set_option maxRecDepth 20000 in
set_option maxRecDepth 20000 in
set_option maxRecDepth 20000 in
set_option maxRecDepth 20000 in
set_option maxRecDepth 20000 in
set_option maxRecDepth 20000 in
set_option maxRecDepth 20000 in
set_option maxRecDepth 20000 in
set_option maxRecDepth 20000 in
set_option maxRecDepth 20000 in
set_option maxRecDepth 20000 in
set_option maxRecDepth 20000 in
set_option maxRecDepth 20000 in
set_option maxRecDepth 20000 in
set_option maxRecDepth 20000 in
set_option maxRecDepth 20000 in
set_option maxRecDepth 20000 in
set_option maxRecDepth 20000 in
set_option maxRecDepth 20000 in
set_option maxRecDepth 20000 in
set_option maxRecDepth 20000 in
set_option maxRecDepth 20000 in
set_option maxRecDepth 20000 in
set_option maxRecDepth 20000 in
set_option maxRecDepth 20000 in
set_option maxRecDepth 20000 in
set_option maxRecDepth 20000 in
set_option maxRecDepth 20000 in
set_option maxRecDepth 20000 in
set_option maxRecDepth 20000 in
set_option maxRecDepth 20000 in
set_option maxRecDepth 20000 in
set_option maxRecDepth 20000 in
set_option maxRecDepth 20000 in
set_option maxRecDepth 20000 in
set_option maxRecDepth 20000 in
set_option maxRecDepth 20000 in
set_option maxRecDepth 20000 in
set_option maxRecDepth 20000 in
set_option maxRecDepth 20000 in
set_option maxRecDepth 20000 in
set_option maxRecDepth 20000 in
set_option maxRecDepth 20000 in
set_option maxRecDepth 20000 in
set_option maxRecDepth 20000 in
set_option maxRecDepth 20000 in
set_option maxRecDepth 20000 in
set_option maxRecDepth 20000 in
set_option maxRecDepth 20000 in
set_option maxRecDepth 20000 in
set_option maxRecDepth 20000 in
set_option maxRecDepth 20000 in
set_option maxRecDepth 20000 in
set_option maxRecDepth 20000 in
set_option maxRecDepth 20000 in
set_option maxRecDepth 20000 in
set_option maxRecDepth 20000 in
set_option maxRecDepth 20000 in
set_option maxRecDepth 20000 in
set_option maxRecDepth 20000 in
set_option maxRecDepth 20000 in
set_option maxRecDepth 20000 in
set_option maxRecDepth 20000 in
set_option maxRecDepth 20000 in
set_option maxRecDepth 20000 in
set_option maxRecDepth 20000 in
set_option maxRecDepth 20000 in
set_option maxRecDepth 20000 in
set_option maxRecDepth 20000 in
set_option maxRecDepth 20000 in
set_option maxRecDepth 20000 in
set_option maxRecDepth 20000 in
set_option maxRecDepth 20000 in
set_option maxRecDepth 20000 in
set_option maxRecDepth 20000 in
set_option maxRecDepth 20000 in
set_option maxRecDepth 20000 in
set_option maxRecDepth 20000 in
set_option maxRecDepth 20000 in
set_option maxRecDepth 20000 in
set_option maxRecDepth 20000 in
set_option maxRecDepth 20000 in
set_option maxRecDepth 20000 in
set_option maxRecDepth 20000 in
set_option maxRecDepth 20000 in
set_option maxRecDepth 20000 in
set_option maxRecDepth 20000 in
set_option maxRecDepth 20000 in
set_option maxRecDepth 20000 in
set_option maxRecDepth 20000 in
set_option maxRecDepth 20000 in
set_option maxRecDepth 20000 in
set_option maxRecDepth 20000 in
set_option maxRecDepth 20000 in
set_option maxRecDepth 20000 in
set_option maxRecDepth 20000 in
set_option maxRecDepth 20000 in
set_option maxRecDepth 20000 in
set_option maxRecDepth 20000 in
set_option maxRecDepth 20000 in
set_option maxRecDepth 20000 in
set_option maxRecDepth 20000 in
set_option maxRecDepth 20000 in
set_option maxRecDepth 20000 in
set_option maxRecDepth 20000 in
set_option maxRecDepth 20000 in
set_option maxRecDepth 20000 in
set_option maxRecDepth 20000 in
set_option maxRecDepth 20000 in
set_option maxRecDepth 20000 in
set_option maxRecDepth 20000 in
set_option maxRecDepth 20000 in
set_option maxRecDepth 20000 in
set_option maxRecDepth 20000 in
set_option maxRecDepth 20000 in
set_option maxRecDepth 20000 in
set_option maxRecDepth 20000 in
set_option maxRecDepth 20000 in
set_option maxRecDepth 20000 in
set_option maxRecDepth 20000 in
set_option maxRecDepth 20000 in
set_option maxRecDepth 20000 in
set_option maxRecDepth 20000 in
set_option maxRecDepth 20000 in
set_option maxRecDepth 20000 in
set_option maxRecDepth 20000 in
set_option maxRecDepth 20000 in
set_option maxRecDepth 20000 in
set_option maxRecDepth 20000 in
set_option maxRecDepth 20000 in
set_option maxRecDepth 20000 in
set_option maxRecDepth 20000 in
set_option maxRecDepth 20000 in
set_option maxRecDepth 20000 in
set_option maxRecDepth 20000 in
set_option maxRecDepth 20000 in
abbrev vwCl : List vw_C := [(RJ0, TJ0, 4), (RJ4, TJ4, 4), (RJx4a65c, TJx4a65c, 3), (RX0, TX0, 5), (RX1, TX1, 7), (RX2, TX2, 4), (RX3, TX3, 4), (RX4, TX4, 7), (RX5, TX5, 21)]
end
section
theorem dJ9_max_7cf53_0 : decode cJ9_max_7cf53 0 = .ok (.iload_n 0, 1) := by decide +kernel
theorem dJ9_max_7cf53_1 : decode cJ9_max_7cf53 1 = .ok (.iload_n 1, 1) := by decide +kernel
theorem dJ9_max_7cf53_2 : decode cJ9_max_7cf53 2 = .ok (.if_icmp .lt 7, 3) := by decide +kernel
theorem dJ9_max_7cf53_5 : decode cJ9_max_7cf53 5 = .ok (.iload_n 0, 1) := by decide +kernel
theorem dJ9_max_7cf53_6 : decode cJ9_max_7cf53 6 = .ok (.goto 4, 3) := by decide +kernel
theorem dJ9_max_7cf53_9 : decode cJ9_max_7cf53 9 = .ok (.iload_n 1, 1) := by decide +kernel
theorem dJ9_max_7cf53_10 : decode cJ9_max_7cf53 10 = .ok (.ireturn, 1) := by decide +kernel
theorem dJ9_min_7cf53_0 : decode cJ9_min_7cf53 0 = .ok (.iload_n 0, 1) := by decide +kernel
theorem dJ9_min_7cf53_1 : decode cJ9_min_7cf53 1 = .ok (.iload_n 1, 1) := by decide +kernel
theorem dJ9_min_7cf53_2 : decode cJ9_min_7cf53 2 = .ok (.if_icmp .gt 7, 3) := by decide +kernel
theorem dJ9_min_7cf53_5 : decode cJ9_min_7cf53 5 = .ok (.iload_n 0, 1) := by decide +kernel
theorem dJ9_min_7cf53_6 : decode cJ9_min_7cf53 6 = .ok (.goto 4, 3) := by decide +kernel
theorem dJ9_min_7cf53_9 : decode cJ9_min_7cf53 9 = .ok (.iload_n 1, 1) := by decide +kernel
theorem dJ9_min_7cf53_10 : decode cJ9_min_7cf53 10 = .ok (.ireturn, 1) := by decide +kernel
theorem dJxa1e45_init_da8c8_0 : decode cJxa1e45_init_da8c8 0 = .ok (.aload_n 0, 1) := by decide +kernel
theorem dJxa1e45_init_da8c8_1 : decode cJxa1e45_init_da8c8 1 = .ok (.invokespecial 1, 3) := by decide +kernel
theorem dJxa1e45_init_da8c8_4 : decode cJxa1e45_init_da8c8 4 = .ok (.return_, 1) := by decide +kernel
theorem dJxc12de_init_da8c8_0 : decode cJxc12de_init_da8c8 0 = .ok (.aload_n 0, 1) := by decide +kernel
theorem dJxc12de_init_da8c8_1 : decode cJxc12de_init_da8c8 1 = .ok (.invokespecial 1, 3) := by decide +kernel
theorem dJxc12de_init_da8c8_4 : decode cJxc12de_init_da8c8 4 = .ok (.aload_n 0, 1) := by decide +kernel
theorem dJxc12de_init_da8c8_5 : decode cJxc12de_init_da8c8 5 = .ok (.iconst 0, 1) := by decide +kernel
theorem dJxc12de_init_da8c8_6 : decode cJxc12de_init_da8c8 6 = .ok (.putfield 7, 3) := by decide +kernel
theorem dJxc12de_init_da8c8_9 : decode cJxc12de_init_da8c8 9 = .ok (.return_, 1) := by decide +kernel
theorem dJx4a65c_init_da8c8_0 : decode cJx4a65c_init_da8c8 0 = .ok (.aload_n 0, 1) := by decide +kernel
theorem dJx4a65c_init_da8c8_1 : decode cJx4a65c_init_da8c8 1 = .ok (.invokespecial 1, 3) := by decide +kernel
theorem dJx4a65c_init_da8c8_4 : decode cJx4a65c_init_da8c8 4 = .ok (.aload_n 0, 1) := by decide +kernel
theorem dJx4a65c_init_da8c8_5 : decode cJx4a65c_init_da8c8 5 = .ok (.getstatic 39, 3) := by decide +kernel
theorem dJx4a65c_init_da8c8_8 : decode cJx4a65c_init_da8c8 8 = .ok (.putfield 9, 3) := by decide +kernel
theorem dJx4a65c_init_da8c8_11 : decode cJx4a65c_init_da8c8 11 = .ok (.return_, 1) := by decide +kernel
theorem dJx4a65c_grow_92f84_0 : decode cJx4a65c_grow_92f84 0 = .ok (.aload_n 0, 1) := by decide +kernel
theorem dJx4a65c_grow_92f84_1 : decode cJx4a65c_grow_92f84 1 = .ok (.getfield 9, 3) := by decide +kernel
theorem dJx4a65c_grow_92f84_4 : decode cJx4a65c_grow_92f84 4 = .ok (.arraylength, 1) := by decide +kernel
theorem dJx4a65c_grow_92f84_5 : decode cJx4a65c_grow_92f84 5 = .ok (.istore_n 2, 1) := by decide +kernel
theorem dJx4a65c_grow_92f84_6 : decode cJx4a65c_grow_92f84 6 = .ok (.iload_n 2, 1) := by decide +kernel
theorem dJx4a65c_grow_92f84_7 : decode cJx4a65c_grow_92f84 7 = .ok (.ifCond .gt 13, 3) := by decide +kernel
theorem dJx4a65c_grow_92f84_10 : decode cJx4a65c_grow_92f84 10 = .ok (.aload_n 0, 1) := by decide +kernel
theorem dJx4a65c_grow_92f84_11 : decode cJx4a65c_grow_92f84 11 = .ok (.getfield 9, 3) := by decide +kernel
theorem dJx4a65c_grow_92f84_14 : decode cJx4a65c_grow_92f84 14 = .ok (.getstatic 39, 3) := by decide +kernel
theorem dJx4a65c_grow_92f84_17 : decode cJx4a65c_grow_92f84 17 = .ok (.if_acmp .eq 28, 3) := by decide +kernel
theorem dJx4a65c_grow_92f84_20 : decode cJx4a65c_grow_92f84 20 = .ok (.iload_n 2, 1) := by decide +kernel
theorem dJx4a65c_grow_92f84_21 : decode cJx4a65c_grow_92f84 21 = .ok (.iload_n 1, 1) := by decide +kernel
theorem dJx4a65c_grow_92f84_22 : decode cJx4a65c_grow_92f84 22 = .ok (.iload_n 2, 1) := by decide +kernel
theorem dJx4a65c_grow_92f84_23 : decode cJx4a65c_grow_92f84 23 = .ok (.isub, 1) := by decide +kernel
theorem dJx4a65c_grow_92f84_24 : decode cJx4a65c_grow_92f84 24 = .ok (.iload_n 2, 1) := by decide +kernel
theorem dJx4a65c_grow_92f84_25 : decode cJx4a65c_grow_92f84 25 = .ok (.iconst 1, 1) := by decide +kernel
theorem dJx4a65c_grow_92f84_26 : decode cJx4a65c_grow_92f84 26 = .ok (.ishr, 1) := by decide +kernel
theorem dJx4a65c_grow_92f84_27 : decode cJx4a65c_grow_92f84 27 = .ok (.invokestatic 73, 3) := by decide +kernel
theorem dJx4a65c_grow_92f84_30 : decode cJx4a65c_grow_92f84 30 = .ok (.istore_n 3, 1) := by decide +kernel
theorem dJx4a65c_grow_92f84_31 : decode cJx4a65c_grow_92f84 31 = .ok (.aload_n 0, 1) := by decide +kernel
theorem dJx4a65c_grow_92f84_32 : decode cJx4a65c_grow_92f84 32 = .ok (.aload_n 0, 1) := by decide +kernel
theorem dJx4a65c_grow_92f84_33 : decode cJx4a65c_grow_92f84 33 = .ok (.getfield 9, 3) := by decide +kernel
theorem dJx4a65c_grow_92f84_36 : decode cJx4a65c_grow_92f84 36 = .ok (.iload_n 3, 1) := by decide +kernel
theorem dJx4a65c_grow_92f84_37 : decode cJx4a65c_grow_92f84 37 = .ok (.invokestatic 66, 3) := by decide +kernel
theorem dJx4a65c_grow_92f84_40 : decode cJx4a65c_grow_92f84 40 = .ok (.dup_x1, 1) := by decide +kernel
theorem dJx4a65c_grow_92f84_41 : decode cJx4a65c_grow_92f84 41 = .ok (.putfield 9, 3) := by decide +kernel
theorem dJx4a65c_grow_92f84_44 : decode cJx4a65c_grow_92f84 44 = .ok (.areturn, 1) := by decide +kernel
theorem dJx4a65c_grow_92f84_45 : decode cJx4a65c_grow_92f84 45 = .ok (.aload_n 0, 1) := by decide +kernel
theorem dJx4a65c_grow_92f84_46 : decode cJx4a65c_grow_92f84 46 = .ok (.bipush 10, 2) := by decide +kernel
theorem dJx4a65c_grow_92f84_48 : decode cJx4a65c_grow_92f84 48 = .ok (.iload_n 1, 1) := by decide +kernel
theorem dJx4a65c_grow_92f84_49 : decode cJx4a65c_grow_92f84 49 = .ok (.invokestatic 79, 3) := by decide +kernel
theorem dJx4a65c_grow_92f84_52 : decode cJx4a65c_grow_92f84 52 = .ok (.anewarray 7, 3) := by decide +kernel
theorem dJx4a65c_grow_92f84_55 : decode cJx4a65c_grow_92f84 55 = .ok (.dup_x1, 1) := by decide +kernel
theorem dJx4a65c_grow_92f84_56 : decode cJx4a65c_grow_92f84 56 = .ok (.putfield 9, 3) := by decide +kernel
theorem dJx4a65c_grow_92f84_59 : decode cJx4a65c_grow_92f84 59 = .ok (.areturn, 1) := by decide +kernel
theorem dJx4a65c_grow_d5877_0 : decode cJx4a65c_grow_d5877 0 = .ok (.aload_n 0, 1) := by decide +kernel
theorem dJx4a65c_grow_d5877_1 : decode cJx4a65c_grow_d5877 1 = .ok (.aload_n 0, 1) := by decide +kernel
theorem dJx4a65c_grow_d5877_2 : decode cJx4a65c_grow_d5877 2 = .ok (.getfield 48, 3) := by decide +kernel
theorem dJx4a65c_grow_d5877_5 : decode cJx4a65c_grow_d5877 5 = .ok (.iconst 1, 1) := by decide +kernel
theorem dJx4a65c_grow_d5877_6 : decode cJx4a65c_grow_d5877 6 = .ok (.iadd, 1) := by decide +kernel
theorem dJx4a65c_grow_d5877_7 : decode cJx4a65c_grow_d5877 7 = .ok (.invokevirtual 69, 3) := by decide +kernel
theorem dJx4a65c_grow_d5877_10 : decode cJx4a65c_grow_d5877 10 = .ok (.areturn, 1) := by decide +kernel
theorem dJx4a65c_size_8abf5_0 : decode cJx4a65c_size_8abf5 0 = .ok (.aload_n 0, 1) := by decide +kernel
theorem dJx4a65c_size_8abf5_1 : decode cJx4a65c_size_8abf5 1 = .ok (.getfield 48, 3) := by decide +kernel
theorem dJx4a65c_size_8abf5_4 : decode cJx4a65c_size_8abf5 4 = .ok (.ireturn, 1) := by decide +kernel
theorem dJx4a65c_elementData_915e3_0 : decode cJx4a65c_elementData_915e3 0 = .ok (.aload_n 0, 1) := by decide +kernel
theorem dJx4a65c_elementData_915e3_1 : decode cJx4a65c_elementData_915e3 1 = .ok (.getfield 9, 3) := by decide +kernel
theorem dJx4a65c_elementData_915e3_4 : decode cJx4a65c_elementData_915e3 4 = .ok (.iload_n 1, 1) := by decide +kernel
theorem dJx4a65c_elementData_915e3_5 : decode cJx4a65c_elementData_915e3 5 = .ok (.aaload, 1) := by decide +kernel
theorem dJx4a65c_elementData_915e3_6 : decode cJx4a65c_elementData_915e3 6 = .ok (.areturn, 1) := by decide +kernel
theorem dJx4a65c_get_915e3_0 : decode cJx4a65c_get_915e3 0 = .ok (.iload_n 1, 1) := by decide +kernel
theorem dJx4a65c_get_915e3_1 : decode cJx4a65c_get_915e3 1 = .ok (.aload_n 0, 1) := by decide +kernel
theorem dJx4a65c_get_915e3_2 : decode cJx4a65c_get_915e3 2 = .ok (.getfield 48, 3) := by decide +kernel
theorem dJx4a65c_get_915e3_5 : decode cJx4a65c_get_915e3 5 = .ok (.invokestatic 118, 3) := by decide +kernel
theorem dJx4a65c_get_915e3_8 : decode cJx4a65c_get_915e3 8 = .ok (.pop, 1) := by decide +kernel
theorem dJx4a65c_get_915e3_9 : decode cJx4a65c_get_915e3 9 = .ok (.aload_n 0, 1) := by decide +kernel
theorem dJx4a65c_get_915e3_10 : decode cJx4a65c_get_915e3 10 = .ok (.iload_n 1, 1) := by decide +kernel
theorem dJx4a65c_get_915e3_11 : decode cJx4a65c_get_915e3 11 = .ok (.invokevirtual 123, 3) := by decide +kernel
theorem dJx4a65c_get_915e3_14 : decode cJx4a65c_get_915e3 14 = .ok (.areturn, 1) := by decide +kernel
theorem dJx4a65c_add_72be8_0 : decode cJx4a65c_add_72be8 0 = .ok (.iload_n 3, 1) := by decide +kernel
theorem dJx4a65c_add_72be8_1 : decode cJx4a65c_add_72be8 1 = .ok (.aload_n 2, 1) := by decide +kernel
theorem dJx4a65c_add_72be8_2 : decode cJx4a65c_add_72be8 2 = .ok (.arraylength, 1) := by decide +kernel
theorem dJx4a65c_add_72be8_3 : decode cJx4a65c_add_72be8 3 = .ok (.if_icmp .ne 8, 3) := by decide +kernel
theorem dJx4a65c_add_72be8_6 : decode cJx4a65c_add_72be8 6 = .ok (.aload_n 0, 1) := by decide +kernel
theorem dJx4a65c_add_72be8_7 : decode cJx4a65c_add_72be8 7 = .ok (.invokevirtual 129, 3) := by decide +kernel
theorem dJx4a65c_add_72be8_10 : decode cJx4a65c_add_72be8 10 = .ok (.astore_n 2, 1) := by decide +kernel
theorem dJx4a65c_add_72be8_11 : decode cJx4a65c_add_72be8 11 = .ok (.aload_n 2, 1) := by decide +kernel
theorem dJx4a65c_add_72be8_12 : decode cJx4a65c_add_72be8 12 = .ok (.iload_n 3, 1) := by decide +kernel
theorem dJx4a65c_add_72be8_13 : decode cJx4a65c_add_72be8 13 = .ok (.aload_n 1, 1) := by decide +kernel
theorem dJx4a65c_add_72be8_14 : decode cJx4a65c_add_72be8 14 = .ok (.aastore, 1) := by decide +kernel
theorem dJx4a65c_add_72be8_15 : decode cJx4a65c_add_72be8 15 = .ok (.aload_n 0, 1) := by decide +kernel
theorem dJx4a65c_add_72be8_16 : decode cJx4a65c_add_72be8 16 = .ok (.iload_n 3, 1) := by decide +kernel
theorem dJx4a65c_add_72be8_17 : decode cJx4a65c_add_72be8 17 = .ok (.iconst 1, 1) := by decide +kernel
theorem dJx4a65c_add_72be8_18 : decode cJx4a65c_add_72be8 18 = .ok (.iadd, 1) := by decide +kernel
theorem dJx4a65c_add_72be8_19 : decode cJx4a65c_add_72be8 19 = .ok (.putfield 48, 3) := by decide +kernel
theorem dJx4a65c_add_72be8_22 : decode cJx4a65c_add_72be8 22 = .ok (.return_, 1) := by decide +kernel
theorem dJx4a65c_add_9ea2d_0 : decode cJx4a65c_add_9ea2d 0 = .ok (.aload_n 0, 1) := by decide +kernel
theorem dJx4a65c_add_9ea2d_1 : decode cJx4a65c_add_9ea2d 1 = .ok (.dup, 1) := by decide +kernel
theorem dJx4a65c_add_9ea2d_2 : decode cJx4a65c_add_9ea2d 2 = .ok (.getfield 63, 3) := by decide +kernel
theorem dJx4a65c_add_9ea2d_5 : decode cJx4a65c_add_9ea2d 5 = .ok (.iconst 1, 1) := by decide +kernel
theorem dJx4a65c_add_9ea2d_6 : decode cJx4a65c_add_9ea2d 6 = .ok (.iadd, 1) := by decide +kernel
theorem dJx4a65c_add_9ea2d_7 : decode cJx4a65c_add_9ea2d 7 = .ok (.putfield 63, 3) := by decide +kernel
theorem dJx4a65c_add_9ea2d_10 : decode cJx4a65c_add_9ea2d 10 = .ok (.aload_n 0, 1) := by decide +kernel
theorem dJx4a65c_add_9ea2d_11 : decode cJx4a65c_add_9ea2d 11 = .ok (.aload_n 1, 1) := by decide +kernel
theorem dJx4a65c_add_9ea2d_12 : decode cJx4a65c_add_9ea2d 12 = .ok (.aload_n 0, 1) := by decide +kernel
theorem dJx4a65c_add_9ea2d_13 : decode cJx4a65c_add_9ea2d 13 = .ok (.getfield 9, 3) := by decide +kernel
theorem dJx4a65c_add_9ea2d_16 : decode cJx4a65c_add_9ea2d 16 = .ok (.aload_n 0, 1) := by decide +kernel
theorem dJx4a65c_add_9ea2d_17 : decode cJx4a65c_add_9ea2d 17 = .ok (.getfield 48, 3) := by decide +kernel
theorem dJx4a65c_add_9ea2d_20 : decode cJx4a65c_add_9ea2d 20 = .ok (.invokevirtual 131, 3) := by decide +kernel
theorem dJx4a65c_add_9ea2d_23 : decode cJx4a65c_add_9ea2d 23 = .ok (.iconst 1, 1) := by decide +kernel
theorem dJx4a65c_add_9ea2d_24 : decode cJx4a65c_add_9ea2d 24 = .ok (.ireturn, 1) := by decide +kernel
theorem dJx4a65c_add_7a177_0 : decode cJx4a65c_add_7a177 0 = .ok (.aload_n 0, 1) := by decide +kernel
theorem dJx4a65c_add_7a177_1 : decode cJx4a65c_add_7a177 1 = .ok (.iload_n 1, 1) := by decide +kernel
theorem dJx4a65c_add_7a177_2 : decode cJx4a65c_add_7a177 2 = .ok (.invokevirtual 135, 3) := by decide +kernel
theorem dJx4a65c_add_7a177_5 : decode cJx4a65c_add_7a177 5 = .ok (.aload_n 0, 1) := by decide +kernel
theorem dJx4a65c_add_7a177_6 : decode cJx4a65c_add_7a177 6 = .ok (.dup, 1) := by decide +kernel
theorem dJx4a65c_add_7a177_7 : decode cJx4a65c_add_7a177 7 = .ok (.getfield 63, 3) := by decide +kernel
theorem dJx4a65c_add_7a177_10 : decode cJx4a65c_add_7a177 10 = .ok (.iconst 1, 1) := by decide +kernel
theorem dJx4a65c_add_7a177_11 : decode cJx4a65c_add_7a177 11 = .ok (.iadd, 1) := by decide +kernel
theorem dJx4a65c_add_7a177_12 : decode cJx4a65c_add_7a177 12 = .ok (.putfield 63, 3) := by decide +kernel
theorem dJx4a65c_add_7a177_15 : decode cJx4a65c_add_7a177 15 = .ok (.aload_n 0, 1) := by decide +kernel
theorem dJx4a65c_add_7a177_16 : decode cJx4a65c_add_7a177 16 = .ok (.getfield 48, 3) := by decide +kernel
theorem dJx4a65c_add_7a177_19 : decode cJx4a65c_add_7a177 19 = .ok (.dup, 1) := by decide +kernel
theorem dJx4a65c_add_7a177_20 : decode cJx4a65c_add_7a177 20 = .ok (.istore_n 3, 1) := by decide +kernel
theorem dJx4a65c_add_7a177_21 : decode cJx4a65c_add_7a177 21 = .ok (.aload_n 0, 1) := by decide +kernel
theorem dJx4a65c_add_7a177_22 : decode cJx4a65c_add_7a177 22 = .ok (.getfield 9, 3) := by decide +kernel
theorem dJx4a65c_add_7a177_25 : decode cJx4a65c_add_7a177 25 = .ok (.dup, 1) := by decide +kernel
theorem dJx4a65c_add_7a177_26 : decode cJx4a65c_add_7a177 26 = .ok (.astore 4, 2) := by decide +kernel
theorem dJx4a65c_add_7a177_28 : decode cJx4a65c_add_7a177 28 = .ok (.arraylength, 1) := by decide +kernel
theorem dJx4a65c_add_7a177_29 : decode cJx4a65c_add_7a177 29 = .ok (.if_icmp .ne 9, 3) := by decide +kernel
theorem dJx4a65c_add_7a177_32 : decode cJx4a65c_add_7a177 32 = .ok (.aload_n 0, 1) := by decide +kernel
theorem dJx4a65c_add_7a177_33 : decode cJx4a65c_add_7a177 33 = .ok (.invokevirtual 129, 3) := by decide +kernel
theorem dJx4a65c_add_7a177_36 : decode cJx4a65c_add_7a177 36 = .ok (.astore 4, 2) := by decide +kernel
theorem dJx4a65c_add_7a177_38 : decode cJx4a65c_add_7a177 38 = .ok (.aload 4, 2) := by decide +kernel
theorem dJx4a65c_add_7a177_40 : decode cJx4a65c_add_7a177 40 = .ok (.iload_n 1, 1) := by decide +kernel
theorem dJx4a65c_add_7a177_41 : decode cJx4a65c_add_7a177 41 = .ok (.aload 4, 2) := by decide +kernel
theorem dJx4a65c_add_7a177_43 : decode cJx4a65c_add_7a177 43 = .ok (.iload_n 1, 1) := by decide +kernel
theorem dJx4a65c_add_7a177_44 : decode cJx4a65c_add_7a177 44 = .ok (.iconst 1, 1) := by decide +kernel
theorem dJx4a65c_add_7a177_45 : decode cJx4a65c_add_7a177 45 = .ok (.iadd, 1) := by decide +kernel
theorem dJx4a65c_add_7a177_46 : decode cJx4a65c_add_7a177 46 = .ok (.iload_n 3, 1) := by decide +kernel
theorem dJx4a65c_add_7a177_47 : decode cJx4a65c_add_7a177 47 = .ok (.iload_n 1, 1) := by decide +kernel
theorem dJx4a65c_add_7a177_48 : decode cJx4a65c_add_7a177 48 = .ok (.isub, 1) := by decide +kernel
theorem dJx4a65c_add_7a177_49 : decode cJx4a65c_add_7a177 49 = .ok (.invokestatic 112, 3) := by decide +kernel
theorem dJx4a65c_add_7a177_52 : decode cJx4a65c_add_7a177 52 = .ok (.aload 4, 2) := by decide +kernel
theorem dJx4a65c_add_7a177_54 : decode cJx4a65c_add_7a177 54 = .ok (.iload_n 1, 1) := by decide +kernel
theorem dJx4a65c_add_7a177_55 : decode cJx4a65c_add_7a177 55 = .ok (.aload_n 2, 1) := by decide +kernel
theorem dJx4a65c_add_7a177_56 : decode cJx4a65c_add_7a177 56 = .ok (.aastore, 1) := by decide +kernel
theorem dJx4a65c_add_7a177_57 : decode cJx4a65c_add_7a177 57 = .ok (.aload_n 0, 1) := by decide +kernel
theorem dJx4a65c_add_7a177_58 : decode cJx4a65c_add_7a177 58 = .ok (.iload_n 3, 1) := by decide +kernel
theorem dJx4a65c_add_7a177_59 : decode cJx4a65c_add_7a177 59 = .ok (.iconst 1, 1) := by decide +kernel
theorem dJx4a65c_add_7a177_60 : decode cJx4a65c_add_7a177 60 = .ok (.iadd, 1) := by decide +kernel
theorem dJx4a65c_add_7a177_61 : decode cJx4a65c_add_7a177 61 = .ok (.putfield 48, 3) := by decide +kernel
theorem dJx4a65c_add_7a177_64 : decode cJx4a65c_add_7a177 64 = .ok (.return_, 1) := by decide +kernel
theorem dJx4a65c_remove_915e3_0 : decode cJx4a65c_remove_915e3 0 = .ok (.iload_n 1, 1) := by decide +kernel
theorem dJx4a65c_remove_915e3_1 : decode cJx4a65c_remove_915e3 1 = .ok (.aload_n 0, 1) := by decide +kernel
theorem dJx4a65c_remove_915e3_2 : decode cJx4a65c_remove_915e3 2 = .ok (.getfield 48, 3) := by decide +kernel
theorem dJx4a65c_remove_915e3_5 : decode cJx4a65c_remove_915e3 5 = .ok (.invokestatic 118, 3) := by decide +kernel
theorem dJx4a65c_remove_915e3_8 : decode cJx4a65c_remove_915e3 8 = .ok (.pop, 1) := by decide +kernel
theorem dJx4a65c_remove_915e3_9 : decode cJx4a65c_remove_915e3 9 = .ok (.aload_n 0, 1) := by decide +kernel
theorem dJx4a65c_remove_915e3_10 : decode cJx4a65c_remove_915e3 10 = .ok (.getfield 9, 3) := by decide +kernel
theorem dJx4a65c_remove_915e3_13 : decode cJx4a65c_remove_915e3 13 = .ok (.astore_n 2, 1) := by decide +kernel
theorem dJx4a65c_remove_915e3_14 : decode cJx4a65c_remove_915e3 14 = .ok (.aload_n 2, 1) := by decide +kernel
theorem dJx4a65c_remove_915e3_15 : decode cJx4a65c_remove_915e3 15 = .ok (.iload_n 1, 1) := by decide +kernel
theorem dJx4a65c_remove_915e3_16 : decode cJx4a65c_remove_915e3 16 = .ok (.aaload, 1) := by decide +kernel
theorem dJx4a65c_remove_915e3_17 : decode cJx4a65c_remove_915e3 17 = .ok (.astore_n 3, 1) := by decide +kernel
theorem dJx4a65c_remove_915e3_18 : decode cJx4a65c_remove_915e3 18 = .ok (.aload_n 0, 1) := by decide +kernel
theorem dJx4a65c_remove_915e3_19 : decode cJx4a65c_remove_915e3 19 = .ok (.aload_n 2, 1) := by decide +kernel
theorem dJx4a65c_remove_915e3_20 : decode cJx4a65c_remove_915e3 20 = .ok (.iload_n 1, 1) := by decide +kernel
theorem dJx4a65c_remove_915e3_21 : decode cJx4a65c_remove_915e3 21 = .ok (.invokevirtual 144, 3) := by decide +kernel
theorem dJx4a65c_remove_915e3_24 : decode cJx4a65c_remove_915e3 24 = .ok (.aload_n 3, 1) := by decide +kernel
theorem dJx4a65c_remove_915e3_25 : decode cJx4a65c_remove_915e3 25 = .ok (.areturn, 1) := by decide +kernel
theorem dJx4a65c_fastRemove_b59b0_0 : decode cJx4a65c_fastRemove_b59b0 0 = .ok (.aload_n 0, 1) := by decide +kernel
theorem dJx4a65c_fastRemove_b59b0_1 : decode cJx4a65c_fastRemove_b59b0 1 = .ok (.dup, 1) := by decide +kernel
theorem dJx4a65c_fastRemove_b59b0_2 : decode cJx4a65c_fastRemove_b59b0 2 = .ok (.getfield 63, 3) := by decide +kernel
theorem dJx4a65c_fastRemove_b59b0_5 : decode cJx4a65c_fastRemove_b59b0 5 = .ok (.iconst 1, 1) := by decide +kernel
theorem dJx4a65c_fastRemove_b59b0_6 : decode cJx4a65c_fastRemove_b59b0 6 = .ok (.iadd, 1) := by decide +kernel
theorem dJx4a65c_fastRemove_b59b0_7 : decode cJx4a65c_fastRemove_b59b0 7 = .ok (.putfield 63, 3) := by decide +kernel
theorem dJx4a65c_fastRemove_b59b0_10 : decode cJx4a65c_fastRemove_b59b0 10 = .ok (.aload_n 0, 1) := by decide +kernel
theorem dJx4a65c_fastRemove_b59b0_11 : decode cJx4a65c_fastRemove_b59b0 11 = .ok (.getfield 48, 3) := by decide +kernel
theorem dJx4a65c_fastRemove_b59b0_14 : decode cJx4a65c_fastRemove_b59b0 14 = .ok (.iconst 1, 1) := by decide +kernel
theorem dJx4a65c_fastRemove_b59b0_15 : decode cJx4a65c_fastRemove_b59b0 15 = .ok (.isub, 1) := by decide +kernel
theorem dJx4a65c_fastRemove_b59b0_16 : decode cJx4a65c_fastRemove_b59b0 16 = .ok (.dup, 1) := by decide +kernel
theorem dJx4a65c_fastRemove_b59b0_17 : decode cJx4a65c_fastRemove_b59b0 17 = .ok (.istore_n 3, 1) := by decide +kernel
theorem dJx4a65c_fastRemove_b59b0_18 : decode cJx4a65c_fastRemove_b59b0 18 = .ok (.iload_n 2, 1) := by decide +kernel
theorem dJx4a65c_fastRemove_b59b0_19 : decode cJx4a65c_fastRemove_b59b0 19 = .ok (.if_icmp .le 15, 3) := by decide +kernel
theorem dJx4a65c_fastRemove_b59b0_22 : decode cJx4a65c_fastRemove_b59b0 22 = .ok (.aload_n 1, 1) := by decide +kernel
theorem dJx4a65c_fastRemove_b59b0_23 : decode cJx4a65c_fastRemove_b59b0 23 = .ok (.iload_n 2, 1) := by decide +kernel
theorem dJx4a65c_fastRemove_b59b0_24 : decode cJx4a65c_fastRemove_b59b0 24 = .ok (.iconst 1, 1) := by decide +kernel
theorem dJx4a65c_fastRemove_b59b0_25 : decode cJx4a65c_fastRemove_b59b0 25 = .ok (.iadd, 1) := by decide +kernel
theorem dJx4a65c_fastRemove_b59b0_26 : decode cJx4a65c_fastRemove_b59b0 26 = .ok (.aload_n 1, 1) := by decide +kernel
theorem dJx4a65c_fastRemove_b59b0_27 : decode cJx4a65c_fastRemove_b59b0 27 = .ok (.iload_n 2, 1) := by decide +kernel
theorem dJx4a65c_fastRemove_b59b0_28 : decode cJx4a65c_fastRemove_b59b0 28 = .ok (.iload_n 3, 1) := by decide +kernel
theorem dJx4a65c_fastRemove_b59b0_29 : decode cJx4a65c_fastRemove_b59b0 29 = .ok (.iload_n 2, 1) := by decide +kernel
theorem dJx4a65c_fastRemove_b59b0_30 : decode cJx4a65c_fastRemove_b59b0 30 = .ok (.isub, 1) := by decide +kernel
theorem dJx4a65c_fastRemove_b59b0_31 : decode cJx4a65c_fastRemove_b59b0 31 = .ok (.invokestatic 112, 3) := by decide +kernel
theorem dJx4a65c_fastRemove_b59b0_34 : decode cJx4a65c_fastRemove_b59b0 34 = .ok (.aload_n 1, 1) := by decide +kernel
theorem dJx4a65c_fastRemove_b59b0_35 : decode cJx4a65c_fastRemove_b59b0 35 = .ok (.aload_n 0, 1) := by decide +kernel
theorem dJx4a65c_fastRemove_b59b0_36 : decode cJx4a65c_fastRemove_b59b0 36 = .ok (.iload_n 3, 1) := by decide +kernel
theorem dJx4a65c_fastRemove_b59b0_37 : decode cJx4a65c_fastRemove_b59b0 37 = .ok (.dup_x1, 1) := by decide +kernel
theorem dJx4a65c_fastRemove_b59b0_38 : decode cJx4a65c_fastRemove_b59b0 38 = .ok (.putfield 48, 3) := by decide +kernel
theorem dJx4a65c_fastRemove_b59b0_41 : decode cJx4a65c_fastRemove_b59b0 41 = .ok (.aconst_null, 1) := by decide +kernel
theorem dJx4a65c_fastRemove_b59b0_42 : decode cJx4a65c_fastRemove_b59b0 42 = .ok (.aastore, 1) := by decide +kernel
theorem dJx4a65c_fastRemove_b59b0_43 : decode cJx4a65c_fastRemove_b59b0 43 = .ok (.return_, 1) := by decide +kernel
theorem dJx4a65c_clear_da8c8_0 : decode cJx4a65c_clear_da8c8 0 = .ok (.aload_n 0, 1) := by decide +kernel
theorem dJx4a65c_clear_da8c8_1 : decode cJx4a65c_clear_da8c8 1 = .ok (.dup, 1) := by decide +kernel
theorem dJx4a65c_clear_da8c8_2 : decode cJx4a65c_clear_da8c8 2 = .ok (.getfield 63, 3) := by decide +kernel
theorem dJx4a65c_clear_da8c8_5 : decode cJx4a65c_clear_da8c8 5 = .ok (.iconst 1, 1) := by decide +kernel
theorem dJx4a65c_clear_da8c8_6 : decode cJx4a65c_clear_da8c8 6 = .ok (.iadd, 1) := by decide +kernel
theorem dJx4a65c_clear_da8c8_7 : decode cJx4a65c_clear_da8c8 7 = .ok (.putfield 63, 3) := by decide +kernel
theorem dJx4a65c_clear_da8c8_10 : decode cJx4a65c_clear_da8c8 10 = .ok (.aload_n 0, 1) := by decide +kernel
theorem dJx4a65c_clear_da8c8_11 : decode cJx4a65c_clear_da8c8 11 = .ok (.getfield 9, 3) := by decide +kernel
theorem dJx4a65c_clear_da8c8_14 : decode cJx4a65c_clear_da8c8 14 = .ok (.astore_n 1, 1) := by decide +kernel
theorem dJx4a65c_clear_da8c8_15 : decode cJx4a65c_clear_da8c8 15 = .ok (.aload_n 0, 1) := by decide +kernel
theorem dJx4a65c_clear_da8c8_16 : decode cJx4a65c_clear_da8c8 16 = .ok (.getfield 48, 3) := by decide +kernel
theorem dJx4a65c_clear_da8c8_19 : decode cJx4a65c_clear_da8c8 19 = .ok (.istore_n 2, 1) := by decide +kernel
theorem dJx4a65c_clear_da8c8_20 : decode cJx4a65c_clear_da8c8 20 = .ok (.aload_n 0, 1) := by decide +kernel
theorem dJx4a65c_clear_da8c8_21 : decode cJx4a65c_clear_da8c8 21 = .ok (.iconst 0, 1) := by decide +kernel
theorem dJx4a65c_clear_da8c8_22 : decode cJx4a65c_clear_da8c8 22 = .ok (.dup_x1, 1) := by decide +kernel
theorem dJx4a65c_clear_da8c8_23 : decode cJx4a65c_clear_da8c8 23 = .ok (.putfield 48, 3) := by decide +kernel
theorem dJx4a65c_clear_da8c8_26 : decode cJx4a65c_clear_da8c8 26 = .ok (.istore_n 3, 1) := by decide +kernel
theorem dJx4a65c_clear_da8c8_27 : decode cJx4a65c_clear_da8c8 27 = .ok (.iload_n 3, 1) := by decide +kernel
theorem dJx4a65c_clear_da8c8_28 : decode cJx4a65c_clear_da8c8 28 = .ok (.iload_n 2, 1) := by decide +kernel
theorem dJx4a65c_clear_da8c8_29 : decode cJx4a65c_clear_da8c8 29 = .ok (.if_icmp .ge 13, 3) := by decide +kernel
theorem dJx4a65c_clear_da8c8_32 : decode cJx4a65c_clear_da8c8 32 = .ok (.aload_n 1, 1) := by decide +kernel
theorem dJx4a65c_clear_da8c8_33 : decode cJx4a65c_clear_da8c8 33 = .ok (.iload_n 3, 1) := by decide +kernel
theorem dJx4a65c_clear_da8c8_34 : decode cJx4a65c_clear_da8c8 34 = .ok (.aconst_null, 1) := by decide +kernel
theorem dJx4a65c_clear_da8c8_35 : decode cJx4a65c_clear_da8c8 35 = .ok (.aastore, 1) := by decide +kernel
theorem dJx4a65c_clear_da8c8_36 : decode cJx4a65c_clear_da8c8 36 = .ok (.iinc 3 1, 3) := by decide +kernel
theorem dJx4a65c_clear_da8c8_39 : decode cJx4a65c_clear_da8c8 39 = .ok (.goto (-12), 3) := by decide +kernel
theorem dJx4a65c_clear_da8c8_42 : decode cJx4a65c_clear_da8c8 42 = .ok (.return_, 1) := by decide +kernel
theorem dJx4a65c_rangeCheckForAdd_d00df_0 : decode cJx4a65c_rangeCheckForAdd_d00df 0 = .ok (.iload_n 1, 1) := by decide +kernel
theorem dJx4a65c_rangeCheckForAdd_d00df_1 : decode cJx4a65c_rangeCheckForAdd_d00df 1 = .ok (.aload_n 0, 1) := by decide +kernel
theorem dJx4a65c_rangeCheckForAdd_d00df_2 : decode cJx4a65c_rangeCheckForAdd_d00df 2 = .ok (.getfield 48, 3) := by decide +kernel
theorem dJx4a65c_rangeCheckForAdd_d00df_5 : decode cJx4a65c_rangeCheckForAdd_d00df 5 = .ok (.if_icmp .gt 7, 3) := by decide +kernel
theorem dJx4a65c_rangeCheckForAdd_d00df_8 : decode cJx4a65c_rangeCheckForAdd_d00df 8 = .ok (.iload_n 1, 1) := by decide +kernel
theorem dJx4a65c_rangeCheckForAdd_d00df_9 : decode cJx4a65c_rangeCheckForAdd_d00df 9 = .ok (.ifCond .ge 16, 3) := by decide +kernel
theorem dJx4a65c_rangeCheckForAdd_d00df_12 : decode cJx4a65c_rangeCheckForAdd_d00df 12 = .ok (.new 187, 3) := by decide +kernel
theorem dJx4a65c_rangeCheckForAdd_d00df_15 : decode cJx4a65c_rangeCheckForAdd_d00df 15 = .ok (.dup, 1) := by decide +kernel
theorem dJx4a65c_rangeCheckForAdd_d00df_16 : decode cJx4a65c_rangeCheckForAdd_d00df 16 = .ok (.aload_n 0, 1) := by decide +kernel
theorem dJx4a65c_rangeCheckForAdd_d00df_17 : decode cJx4a65c_rangeCheckForAdd_d00df 17 = .ok (.iload_n 1, 1) := by decide +kernel
theorem dJx4a65c_rangeCheckForAdd_d00df_18 : decode cJx4a65c_rangeCheckForAdd_d00df 18 = .ok (.invokevirtual 198, 3) := by decide +kernel
theorem dJx4a65c_rangeCheckForAdd_d00df_21 : decode cJx4a65c_rangeCheckForAdd_d00df 21 = .ok (.invokespecial 193, 3) := by decide +kernel
theorem dJx4a65c_rangeCheckForAdd_d00df_24 : decode cJx4a65c_rangeCheckForAdd_d00df 24 = .ok (.athrow, 1) := by decide +kernel
theorem dJx4a65c_rangeCheckForAdd_d00df_25 : decode cJx4a65c_rangeCheckForAdd_d00df 25 = .ok (.return_, 1) := by decide +kernel
theorem dJx4a65c_outOfBoundsMsg_b52d3_0 : decode cJx4a65c_outOfBoundsMsg_b52d3 0 = .ok (.new 20, 3) := by decide +kernel
theorem dJx4a65c_outOfBoundsMsg_b52d3_3 : decode cJx4a65c_outOfBoundsMsg_b52d3 3 = .ok (.dup, 1) := by decide +kernel
theorem dJx4a65c_outOfBoundsMsg_b52d3_4 : decode cJx4a65c_outOfBoundsMsg_b52d3 4 = .ok (.invokespecial 22, 3) := by decide +kernel
theorem dJx4a65c_outOfBoundsMsg_b52d3_7 : decode cJx4a65c_outOfBoundsMsg_b52d3 7 = .ok (.ldc 201, 2) := by decide +kernel
theorem dJx4a65c_outOfBoundsMsg_b52d3_9 : decode cJx4a65c_outOfBoundsMsg_b52d3 9 = .ok (.invokevirtual 25, 3) := by decide +kernel
theorem dJx4a65c_outOfBoundsMsg_b52d3_12 : decode cJx4a65c_outOfBoundsMsg_b52d3 12 = .ok (.iload_n 1, 1) := by decide +kernel
theorem dJx4a65c_outOfBoundsMsg_b52d3_13 : decode cJx4a65c_outOfBoundsMsg_b52d3 13 = .ok (.invokevirtual 29, 3) := by decide +kernel
theorem dJx4a65c_outOfBoundsMsg_b52d3_16 : decode cJx4a65c_outOfBoundsMsg_b52d3 16 = .ok (.ldc 203, 2) := by decide +kernel
theorem dJx4a65c_outOfBoundsMsg_b52d3_18 : decode cJx4a65c_outOfBoundsMsg_b52d3 18 = .ok (.invokevirtual 25, 3) := by decide +kernel
theorem dJx4a65c_outOfBoundsMsg_b52d3_21 : decode cJx4a65c_outOfBoundsMsg_b52d3 21 = .ok (.aload_n 0, 1) := by decide +kernel
theorem dJx4a65c_outOfBoundsMsg_b52d3_22 : decode cJx4a65c_outOfBoundsMsg_b52d3 22 = .ok (.getfield 48, 3) := by decide +kernel
theorem dJx4a65c_outOfBoundsMsg_b52d3_25 : decode cJx4a65c_outOfBoundsMsg_b52d3 25 = .ok (.invokevirtual 29, 3) := by decide +kernel
theorem dJx4a65c_outOfBoundsMsg_b52d3_28 : decode cJx4a65c_outOfBoundsMsg_b52d3 28 = .ok (.invokevirtual 32, 3) := by decide +kernel
theorem dJx4a65c_outOfBoundsMsg_b52d3_31 : decode cJx4a65c_outOfBoundsMsg_b52d3 31 = .ok (.areturn, 1) := by decide +kernel
theorem dJ7_fill_53178_0 : decode cJ7_fill_53178 0 = .ok (.iconst 0, 1) := by decide +kernel
theorem dJ7_fill_53178_1 : decode cJ7_fill_53178 1 = .ok (.istore_n 2, 1) := by decide +kernel
theorem dJ7_fill_53178_2 : decode cJ7_fill_53178 2 = .ok (.aload_n 0, 1) := by decide +kernel
theorem dJ7_fill_53178_3 : decode cJ7_fill_53178 3 = .ok (.arraylength, 1) := by decide +kernel
theorem dJ7_fill_53178_4 : decode cJ7_fill_53178 4 = .ok (.istore_n 3, 1) := by decide +kernel
theorem dJ7_fill_53178_5 : decode cJ7_fill_53178 5 = .ok (.iload_n 2, 1) := by decide +kernel
theorem dJ7_fill_53178_6 : decode cJ7_fill_53178 6 = .ok (.iload_n 3, 1) := by decide +kernel
theorem dJ7_fill_53178_7 : decode cJ7_fill_53178 7 = .ok (.if_icmp .ge 13, 3) := by decide +kernel
theorem dJ7_fill_53178_10 : decode cJ7_fill_53178 10 = .ok (.aload_n 0, 1) := by decide +kernel
theorem dJ7_fill_53178_11 : decode cJ7_fill_53178 11 = .ok (.iload_n 2, 1) := by decide +kernel
theorem dJ7_fill_53178_12 : decode cJ7_fill_53178 12 = .ok (.iload_n 1, 1) := by decide +kernel
theorem dJ7_fill_53178_13 : decode cJ7_fill_53178 13 = .ok (.iastore, 1) := by decide +kernel
theorem dJ7_fill_53178_14 : decode cJ7_fill_53178 14 = .ok (.iinc 2 1, 3) := by decide +kernel
theorem dJ7_fill_53178_17 : decode cJ7_fill_53178 17 = .ok (.goto (-12), 3) := by decide +kernel
theorem dJ7_fill_53178_20 : decode cJ7_fill_53178 20 = .ok (.return_, 1) := by decide +kernel
theorem dJ7_copyOf_1904c_0 : decode cJ7_copyOf_1904c 0 = .ok (.aload_n 0, 1) := by decide +kernel
theorem dJ7_copyOf_1904c_1 : decode cJ7_copyOf_1904c 1 = .ok (.iload_n 1, 1) := by decide +kernel
theorem dJ7_copyOf_1904c_2 : decode cJ7_copyOf_1904c 2 = .ok (.aload_n 0, 1) := by decide +kernel
theorem dJ7_copyOf_1904c_3 : decode cJ7_copyOf_1904c 3 = .ok (.invokevirtual 86, 3) := by decide +kernel
theorem dJ7_copyOf_1904c_6 : decode cJ7_copyOf_1904c 6 = .ok (.invokestatic 300, 3) := by decide +kernel
theorem dJ7_copyOf_1904c_9 : decode cJ7_copyOf_1904c 9 = .ok (.areturn, 1) := by decide +kernel
theorem dJ7_copyOf_6403c_0 : decode cJ7_copyOf_6403c 0 = .ok (.aload_n 2, 1) := by decide +kernel
theorem dJ7_copyOf_6403c_1 : decode cJ7_copyOf_6403c 1 = .ok (.ldc 110, 2) := by decide +kernel
theorem dJ7_copyOf_6403c_3 : decode cJ7_copyOf_6403c 3 = .ok (.if_acmp .ne 10, 3) := by decide +kernel
theorem dJ7_copyOf_6403c_6 : decode cJ7_copyOf_6403c 6 = .ok (.iload_n 1, 1) := by decide +kernel
theorem dJ7_copyOf_6403c_7 : decode cJ7_copyOf_6403c 7 = .ok (.anewarray 2, 3) := by decide +kernel
theorem dJ7_copyOf_6403c_10 : decode cJ7_copyOf_6403c 10 = .ok (.goto 14, 3) := by decide +kernel
theorem dJ7_copyOf_6403c_13 : decode cJ7_copyOf_6403c 13 = .ok (.aload_n 2, 1) := by decide +kernel
theorem dJ7_copyOf_6403c_14 : decode cJ7_copyOf_6403c 14 = .ok (.invokevirtual 90, 3) := by decide +kernel
theorem dJ7_copyOf_6403c_17 : decode cJ7_copyOf_6403c 17 = .ok (.iload_n 1, 1) := by decide +kernel
theorem dJ7_copyOf_6403c_18 : decode cJ7_copyOf_6403c 18 = .ok (.invokestatic 95, 3) := by decide +kernel
theorem dJ7_copyOf_6403c_21 : decode cJ7_copyOf_6403c 21 = .ok (.checkcast 110, 3) := by decide +kernel
theorem dJ7_copyOf_6403c_24 : decode cJ7_copyOf_6403c 24 = .ok (.astore_n 3, 1) := by decide +kernel
theorem dJ7_copyOf_6403c_25 : decode cJ7_copyOf_6403c 25 = .ok (.aload_n 0, 1) := by decide +kernel
theorem dJ7_copyOf_6403c_26 : decode cJ7_copyOf_6403c 26 = .ok (.iconst 0, 1) := by decide +kernel
theorem dJ7_copyOf_6403c_27 : decode cJ7_copyOf_6403c 27 = .ok (.aload_n 3, 1) := by decide +kernel
theorem dJ7_copyOf_6403c_28 : decode cJ7_copyOf_6403c 28 = .ok (.iconst 0, 1) := by decide +kernel
theorem dJ7_copyOf_6403c_29 : decode cJ7_copyOf_6403c 29 = .ok (.aload_n 0, 1) := by decide +kernel
theorem dJ7_copyOf_6403c_30 : decode cJ7_copyOf_6403c 30 = .ok (.arraylength, 1) := by decide +kernel
theorem dJ7_copyOf_6403c_31 : decode cJ7_copyOf_6403c 31 = .ok (.iload_n 1, 1) := by decide +kernel
theorem dJ7_copyOf_6403c_32 : decode cJ7_copyOf_6403c 32 = .ok (.invokestatic 304, 3) := by decide +kernel
theorem dJ7_copyOf_6403c_35 : decode cJ7_copyOf_6403c 35 = .ok (.invokestatic 150, 3) := by decide +kernel
theorem dJ7_copyOf_6403c_38 : decode cJ7_copyOf_6403c 38 = .ok (.aload_n 3, 1) := by decide +kernel
theorem dJ7_copyOf_6403c_39 : decode cJ7_copyOf_6403c 39 = .ok (.areturn, 1) := by decide +kernel
theorem dJ15_checkIndex_7cf53_0 : decode cJ15_checkIndex_7cf53 0 = .ok (.iload_n 0, 1) := by decide +kernel
theorem dJ15_checkIndex_7cf53_1 : decode cJ15_checkIndex_7cf53 1 = .ok (.iload_n 1, 1) := by decide +kernel
theorem dJ15_checkIndex_7cf53_2 : decode cJ15_checkIndex_7cf53 2 = .ok (.aconst_null, 1) := by decide +kernel
theorem dJ15_checkIndex_7cf53_3 : decode cJ15_checkIndex_7cf53 3 = .ok (.invokestatic 105, 3) := by decide +kernel
theorem dJ15_checkIndex_7cf53_6 : decode cJ15_checkIndex_7cf53 6 = .ok (.ireturn, 1) := by decide +kernel
theorem dJ8_newLength_cabcc_0 : decode cJ8_newLength_cabcc 0 = .ok (.iload_n 0, 1) := by decide +kernel
theorem dJ8_newLength_cabcc_1 : decode cJ8_newLength_cabcc 1 = .ok (.iload_n 1, 1) := by decide +kernel
theorem dJ8_newLength_cabcc_2 : decode cJ8_newLength_cabcc 2 = .ok (.iload_n 2, 1) := by decide +kernel
theorem dJ8_newLength_cabcc_3 : decode cJ8_newLength_cabcc 3 = .ok (.invokestatic 194, 3) := by decide +kernel
theorem dJ8_newLength_cabcc_6 : decode cJ8_newLength_cabcc 6 = .ok (.iadd, 1) := by decide +kernel
theorem dJ8_newLength_cabcc_7 : decode cJ8_newLength_cabcc 7 = .ok (.istore_n 3, 1) := by decide +kernel
theorem dJ8_newLength_cabcc_8 : decode cJ8_newLength_cabcc 8 = .ok (.iconst 0, 1) := by decide +kernel
theorem dJ8_newLength_cabcc_9 : decode cJ8_newLength_cabcc 9 = .ok (.iload_n 3, 1) := by decide +kernel
theorem dJ8_newLength_cabcc_10 : decode cJ8_newLength_cabcc 10 = .ok (.if_icmp .ge 11, 3) := by decide +kernel
theorem dJ8_newLength_cabcc_13 : decode cJ8_newLength_cabcc 13 = .ok (.iload_n 3, 1) := by decide +kernel
theorem dJ8_newLength_cabcc_14 : decode cJ8_newLength_cabcc 14 = .ok (.ldc 200, 2) := by decide +kernel
theorem dJ8_newLength_cabcc_16 : decode cJ8_newLength_cabcc 16 = .ok (.if_icmp .gt 5, 3) := by decide +kernel
theorem dJ8_newLength_cabcc_19 : decode cJ8_newLength_cabcc 19 = .ok (.iload_n 3, 1) := by decide +kernel
theorem dJ8_newLength_cabcc_20 : decode cJ8_newLength_cabcc 20 = .ok (.ireturn, 1) := by decide +kernel
theorem dJ8_newLength_cabcc_21 : decode cJ8_newLength_cabcc 21 = .ok (.iload_n 0, 1) := by decide +kernel
theorem dJ8_newLength_cabcc_22 : decode cJ8_newLength_cabcc 22 = .ok (.iload_n 1, 1) := by decide +kernel
theorem dJ8_newLength_cabcc_23 : decode cJ8_newLength_cabcc 23 = .ok (.invokestatic 201, 3) := by decide +kernel
theorem dJ8_newLength_cabcc_26 : decode cJ8_newLength_cabcc 26 = .ok (.ireturn, 1) := by decide +kernel
theorem dJ3_checkIndex_8e157_0 : decode cJ3_checkIndex_8e157 0 = .ok (.iload_n 0, 1) := by decide +kernel
theorem dJ3_checkIndex_8e157_1 : decode cJ3_checkIndex_8e157 1 = .ok (.ifCond .lt 8, 3) := by decide +kernel
theorem dJ3_checkIndex_8e157_4 : decode cJ3_checkIndex_8e157 4 = .ok (.iload_n 0, 1) := by decide +kernel
theorem dJ3_checkIndex_8e157_5 : decode cJ3_checkIndex_8e157 5 = .ok (.iload_n 1, 1) := by decide +kernel
theorem dJ3_checkIndex_8e157_6 : decode cJ3_checkIndex_8e157 6 = .ok (.if_icmp .lt 10, 3) := by decide +kernel
theorem dJ3_checkIndex_8e157_9 : decode cJ3_checkIndex_8e157 9 = .ok (.aload_n 2, 1) := by decide +kernel
theorem dJ3_checkIndex_8e157_10 : decode cJ3_checkIndex_8e157 10 = .ok (.iload_n 0, 1) := by decide +kernel
theorem dJ3_checkIndex_8e157_11 : decode cJ3_checkIndex_8e157 11 = .ok (.iload_n 1, 1) := by decide +kernel
theorem dJ3_checkIndex_8e157_12 : decode cJ3_checkIndex_8e157 12 = .ok (.invokestatic 95, 3) := by decide +kernel
theorem dJ3_checkIndex_8e157_15 : decode cJ3_checkIndex_8e157 15 = .ok (.athrow, 1) := by decide +kernel
theorem dJ3_checkIndex_8e157_16 : decode cJ3_checkIndex_8e157 16 = .ok (.iload_n 0, 1) := by decide +kernel
theorem dJ3_checkIndex_8e157_17 : decode cJ3_checkIndex_8e157 17 = .ok (.ireturn, 1) := by decide +kernel
end
section
theorem dX0_init_0 : decode cX0_init 0 = .ok (.aload_n 0, 1) := by decide +kernel
theorem dX0_init_1 : decode cX0_init 1 = .ok (.invokespecial 3, 3) := by decide +kernel
theorem dX0_init_4 : decode cX0_init 4 = .ok (.aload_n 0, 1) := by decide +kernel
theorem dX0_init_5 : decode cX0_init 5 = .ok (.sipush 160, 3) := by decide +kernel
theorem dX0_init_8 : decode cX0_init 8 = .ok (.newarray .int, 2) := by decide +kernel
theorem dX0_init_10 : decode cX0_init 10 = .ok (.putfield 9, 3) := by decide +kernel
theorem dX0_init_13 : decode cX0_init 13 = .ok (.aload_n 0, 1) := by decide +kernel
theorem dX0_init_14 : decode cX0_init 14 = .ok (.bipush 8, 2) := by decide +kernel
theorem dX0_init_16 : decode cX0_init 16 = .ok (.newarray .int, 2) := by decide +kernel
theorem dX0_init_18 : decode cX0_init 18 = .ok (.putfield 15, 3) := by decide +kernel
theorem dX0_init_21 : decode cX0_init 21 = .ok (.aload_n 0, 1) := by decide +kernel
theorem dX0_init_22 : decode cX0_init 22 = .ok (.bipush 8, 2) := by decide +kernel
theorem dX0_init_24 : decode cX0_init 24 = .ok (.newarray .int, 2) := by decide +kernel
theorem dX0_init_26 : decode cX0_init 26 = .ok (.putfield 18, 3) := by decide +kernel
theorem dX0_init_29 : decode cX0_init 29 = .ok (.aload_n 0, 1) := by decide +kernel
theorem dX0_init_30 : decode cX0_init 30 = .ok (.iconst 2, 1) := by decide +kernel
theorem dX0_init_31 : decode cX0_init 31 = .ok (.bipush 8, 2) := by decide +kernel
theorem dX0_init_33 : decode cX0_init 33 = .ok (.multianewarray 21 2, 4) := by decide +kernel
theorem dX0_init_37 : decode cX0_init 37 = .ok (.putfield 23, 3) := by decide +kernel
theorem dX0_init_40 : decode cX0_init 40 = .ok (.aload_n 0, 1) := by decide +kernel
theorem dX0_init_41 : decode cX0_init 41 = .ok (.aload_n 1, 1) := by decide +kernel
theorem dX0_init_42 : decode cX0_init 42 = .ok (.putfield 26, 3) := by decide +kernel
theorem dX0_init_45 : decode cX0_init 45 = .ok (.aload_n 0, 1) := by decide +kernel
theorem dX0_init_46 : decode cX0_init 46 = .ok (.getfield 9, 3) := by decide +kernel
theorem dX0_init_49 : decode cX0_init 49 = .ok (.iconst (-1), 1) := by decide +kernel
theorem dX0_init_50 : decode cX0_init 50 = .ok (.invokestatic 30, 3) := by decide +kernel
theorem dX0_init_53 : decode cX0_init 53 = .ok (.return_, 1) := by decide +kernel
theorem dX0_clearAll_0 : decode cX0_clearAll 0 = .ok (.aload_n 0, 1) := by decide +kernel
theorem dX0_clearAll_1 : decode cX0_clearAll 1 = .ok (.getfield 9, 3) := by decide +kernel
theorem dX0_clearAll_4 : decode cX0_clearAll 4 = .ok (.iconst (-1), 1) := by decide +kernel
theorem dX0_clearAll_5 : decode cX0_clearAll 5 = .ok (.invokestatic 30, 3) := by decide +kernel
theorem dX0_clearAll_8 : decode cX0_clearAll 8 = .ok (.aload_n 0, 1) := by decide +kernel
theorem dX0_clearAll_9 : decode cX0_clearAll 9 = .ok (.getfield 15, 3) := by decide +kernel
theorem dX0_clearAll_12 : decode cX0_clearAll 12 = .ok (.iconst 0, 1) := by decide +kernel
theorem dX0_clearAll_13 : decode cX0_clearAll 13 = .ok (.invokestatic 30, 3) := by decide +kernel
theorem dX0_clearAll_16 : decode cX0_clearAll 16 = .ok (.aload_n 0, 1) := by decide +kernel
theorem dX0_clearAll_17 : decode cX0_clearAll 17 = .ok (.getfield 18, 3) := by decide +kernel
theorem dX0_clearAll_20 : decode cX0_clearAll 20 = .ok (.iconst 0, 1) := by decide +kernel
theorem dX0_clearAll_21 : decode cX0_clearAll 21 = .ok (.invokestatic 30, 3) := by decide +kernel
theorem dX0_clearAll_24 : decode cX0_clearAll 24 = .ok (.iconst 0, 1) := by decide +kernel
theorem dX0_clearAll_25 : decode cX0_clearAll 25 = .ok (.istore_n 1, 1) := by decide +kernel
theorem dX0_clearAll_26 : decode cX0_clearAll 26 = .ok (.iload_n 1, 1) := by decide +kernel
theorem dX0_clearAll_27 : decode cX0_clearAll 27 = .ok (.iconst 2, 1) := by decide +kernel
theorem dX0_clearAll_28 : decode cX0_clearAll 28 = .ok (.if_icmp .ge 19, 3) := by decide +kernel
theorem dX0_clearAll_31 : decode cX0_clearAll 31 = .ok (.aload_n 0, 1) := by decide +kernel
theorem dX0_clearAll_32 : decode cX0_clearAll 32 = .ok (.getfield 23, 3) := by decide +kernel
theorem dX0_clearAll_35 : decode cX0_clearAll 35 = .ok (.iload_n 1, 1) := by decide +kernel
theorem dX0_clearAll_36 : decode cX0_clearAll 36 = .ok (.aaload, 1) := by decide +kernel
theorem dX0_clearAll_37 : decode cX0_clearAll 37 = .ok (.iconst 0, 1) := by decide +kernel
theorem dX0_clearAll_38 : decode cX0_clearAll 38 = .ok (.invokestatic 30, 3) := by decide +kernel
theorem dX0_clearAll_41 : decode cX0_clearAll 41 = .ok (.iinc 1 1, 3) := by decide +kernel
theorem dX0_clearAll_44 : decode cX0_clearAll 44 = .ok (.goto (-18), 3) := by decide +kernel
theorem dX0_clearAll_47 : decode cX0_clearAll 47 = .ok (.return_, 1) := by decide +kernel
theorem dX0_copyFrom_0 : decode cX0_copyFrom 0 = .ok (.aload_n 1, 1) := by decide +kernel
theorem dX0_copyFrom_1 : decode cX0_copyFrom 1 = .ok (.getfield 9, 3) := by decide +kernel
theorem dX0_copyFrom_4 : decode cX0_copyFrom 4 = .ok (.iconst 0, 1) := by decide +kernel
theorem dX0_copyFrom_5 : decode cX0_copyFrom 5 = .ok (.aload_n 0, 1) := by decide +kernel
theorem dX0_copyFrom_6 : decode cX0_copyFrom 6 = .ok (.getfield 9, 3) := by decide +kernel
theorem dX0_copyFrom_9 : decode cX0_copyFrom 9 = .ok (.iconst 0, 1) := by decide +kernel
theorem dX0_copyFrom_10 : decode cX0_copyFrom 10 = .ok (.sipush 160, 3) := by decide +kernel
theorem dX0_copyFrom_13 : decode cX0_copyFrom 13 = .ok (.invokestatic 36, 3) := by decide +kernel
theorem dX0_copyFrom_16 : decode cX0_copyFrom 16 = .ok (.aload_n 1, 1) := by decide +kernel
theorem dX0_copyFrom_17 : decode cX0_copyFrom 17 = .ok (.getfield 15, 3) := by decide +kernel
theorem dX0_copyFrom_20 : decode cX0_copyFrom 20 = .ok (.iconst 0, 1) := by decide +kernel
theorem dX0_copyFrom_21 : decode cX0_copyFrom 21 = .ok (.aload_n 0, 1) := by decide +kernel
theorem dX0_copyFrom_22 : decode cX0_copyFrom 22 = .ok (.getfield 15, 3) := by decide +kernel
theorem dX0_copyFrom_25 : decode cX0_copyFrom 25 = .ok (.iconst 0, 1) := by decide +kernel
theorem dX0_copyFrom_26 : decode cX0_copyFrom 26 = .ok (.bipush 8, 2) := by decide +kernel
theorem dX0_copyFrom_28 : decode cX0_copyFrom 28 = .ok (.invokestatic 36, 3) := by decide +kernel
theorem dX0_copyFrom_31 : decode cX0_copyFrom 31 = .ok (.aload_n 1, 1) := by decide +kernel
theorem dX0_copyFrom_32 : decode cX0_copyFrom 32 = .ok (.getfield 18, 3) := by decide +kernel
theorem dX0_copyFrom_35 : decode cX0_copyFrom 35 = .ok (.iconst 0, 1) := by decide +kernel
theorem dX0_copyFrom_36 : decode cX0_copyFrom 36 = .ok (.aload_n 0, 1) := by decide +kernel
theorem dX0_copyFrom_37 : decode cX0_copyFrom 37 = .ok (.getfield 18, 3) := by decide +kernel
theorem dX0_copyFrom_40 : decode cX0_copyFrom 40 = .ok (.iconst 0, 1) := by decide +kernel
theorem dX0_copyFrom_41 : decode cX0_copyFrom 41 = .ok (.bipush 8, 2) := by decide +kernel
theorem dX0_copyFrom_43 : decode cX0_copyFrom 43 = .ok (.invokestatic 36, 3) := by decide +kernel
theorem dX0_copyFrom_46 : decode cX0_copyFrom 46 = .ok (.iconst 0, 1) := by decide +kernel
theorem dX0_copyFrom_47 : decode cX0_copyFrom 47 = .ok (.istore_n 2, 1) := by decide +kernel
theorem dX0_copyFrom_48 : decode cX0_copyFrom 48 = .ok (.iload_n 2, 1) := by decide +kernel
theorem dX0_copyFrom_49 : decode cX0_copyFrom 49 = .ok (.iconst 2, 1) := by decide +kernel
theorem dX0_copyFrom_50 : decode cX0_copyFrom 50 = .ok (.if_icmp .ge 28, 3) := by decide +kernel
theorem dX0_copyFrom_53 : decode cX0_copyFrom 53 = .ok (.aload_n 1, 1) := by decide +kernel
theorem dX0_copyFrom_54 : decode cX0_copyFrom 54 = .ok (.getfield 23, 3) := by decide +kernel
theorem dX0_copyFrom_57 : decode cX0_copyFrom 57 = .ok (.iload_n 2, 1) := by decide +kernel
theorem dX0_copyFrom_58 : decode cX0_copyFrom 58 = .ok (.aaload, 1) := by decide +kernel
theorem dX0_copyFrom_59 : decode cX0_copyFrom 59 = .ok (.iconst 0, 1) := by decide +kernel
theorem dX0_copyFrom_60 : decode cX0_copyFrom 60 = .ok (.aload_n 0, 1) := by decide +kernel
theorem dX0_copyFrom_61 : decode cX0_copyFrom 61 = .ok (.getfield 23, 3) := by decide +kernel
theorem dX0_copyFrom_64 : decode cX0_copyFrom 64 = .ok (.iload_n 2, 1) := by decide +kernel
theorem dX0_copyFrom_65 : decode cX0_copyFrom 65 = .ok (.aaload, 1) := by decide +kernel
theorem dX0_copyFrom_66 : decode cX0_copyFrom 66 = .ok (.iconst 0, 1) := by decide +kernel
theorem dX0_copyFrom_67 : decode cX0_copyFrom 67 = .ok (.bipush 8, 2) := by decide +kernel
theorem dX0_copyFrom_69 : decode cX0_copyFrom 69 = .ok (.invokestatic 36, 3) := by decide +kernel
theorem dX0_copyFrom_72 : decode cX0_copyFrom 72 = .ok (.iinc 2 1, 3) := by decide +kernel
theorem dX0_copyFrom_75 : decode cX0_copyFrom 75 = .ok (.goto (-27), 3) := by decide +kernel
theorem dX0_copyFrom_78 : decode cX0_copyFrom 78 = .ok (.return_, 1) := by decide +kernel
theorem dX0_put_0 : decode cX0_put 0 = .ok (.aload_n 0, 1) := by decide +kernel
theorem dX0_put_1 : decode cX0_put 1 = .ok (.iload_n 2, 1) := by decide +kernel
theorem dX0_put_2 : decode cX0_put 2 = .ok (.aload_n 1, 1) := by decide +kernel
theorem dX0_put_3 : decode cX0_put 3 = .ok (.getfield 42, 3) := by decide +kernel
theorem dX0_put_6 : decode cX0_put 6 = .ok (.aload_n 1, 1) := by decide +kernel
theorem dX0_put_7 : decode cX0_put 7 = .ok (.getfield 48, 3) := by decide +kernel
theorem dX0_put_10 : decode cX0_put 10 = .ok (.invokevirtual 51, 3) := by decide +kernel
theorem dX0_put_13 : decode cX0_put 13 = .ok (.aload_n 0, 1) := by decide +kernel
theorem dX0_put_14 : decode cX0_put 14 = .ok (.iload_n 2, 1) := by decide +kernel
theorem dX0_put_15 : decode cX0_put 15 = .ok (.invokestatic 55, 3) := by decide +kernel
theorem dX0_put_18 : decode cX0_put 18 = .ok (.aload_n 1, 1) := by decide +kernel
theorem dX0_put_19 : decode cX0_put 19 = .ok (.iconst 1, 1) := by decide +kernel
theorem dX0_put_20 : decode cX0_put 20 = .ok (.invokevirtual 59, 3) := by decide +kernel
theorem dX0_put_23 : decode cX0_put 23 = .ok (.return_, 1) := by decide +kernel
theorem dX0_clear_0 : decode cX0_clear 0 = .ok (.aload_n 0, 1) := by decide +kernel
theorem dX0_clear_1 : decode cX0_clear 1 = .ok (.aload_n 1, 1) := by decide +kernel
theorem dX0_clear_2 : decode cX0_clear 2 = .ok (.getfield 63, 3) := by decide +kernel
theorem dX0_clear_5 : decode cX0_clear 5 = .ok (.aload_n 1, 1) := by decide +kernel
theorem dX0_clear_6 : decode cX0_clear 6 = .ok (.getfield 42, 3) := by decide +kernel
theorem dX0_clear_9 : decode cX0_clear 9 = .ok (.iconst (-1), 1) := by decide +kernel
theorem dX0_clear_10 : decode cX0_clear 10 = .ok (.invokevirtual 51, 3) := by decide +kernel
theorem dX0_clear_13 : decode cX0_clear 13 = .ok (.aload_n 0, 1) := by decide +kernel
theorem dX0_clear_14 : decode cX0_clear 14 = .ok (.aload_n 1, 1) := by decide +kernel
theorem dX0_clear_15 : decode cX0_clear 15 = .ok (.getfield 63, 3) := by decide +kernel
theorem dX0_clear_18 : decode cX0_clear 18 = .ok (.invokestatic 55, 3) := by decide +kernel
theorem dX0_clear_21 : decode cX0_clear 21 = .ok (.aload_n 1, 1) := by decide +kernel
theorem dX0_clear_22 : decode cX0_clear 22 = .ok (.iconst (-1), 1) := by decide +kernel
theorem dX0_clear_23 : decode cX0_clear 23 = .ok (.invokevirtual 59, 3) := by decide +kernel
theorem dX0_clear_26 : decode cX0_clear 26 = .ok (.return_, 1) := by decide +kernel
theorem dX0_fillCells_0 : decode cX0_fillCells 0 = .ok (.iload_n 1, 1) := by decide +kernel
theorem dX0_fillCells_1 : decode cX0_fillCells 1 = .ok (.istore 4, 2) := by decide +kernel
theorem dX0_fillCells_3 : decode cX0_fillCells 3 = .ok (.iload 4, 2) := by decide +kernel
theorem dX0_fillCells_5 : decode cX0_fillCells 5 = .ok (.iload_n 1, 1) := by decide +kernel
theorem dX0_fillCells_6 : decode cX0_fillCells 6 = .ok (.iload_n 2, 1) := by decide +kernel
theorem dX0_fillCells_7 : decode cX0_fillCells 7 = .ok (.iadd, 1) := by decide +kernel
theorem dX0_fillCells_8 : decode cX0_fillCells 8 = .ok (.if_icmp .ge 17, 3) := by decide +kernel
theorem dX0_fillCells_11 : decode cX0_fillCells 11 = .ok (.aload_n 0, 1) := by decide +kernel
theorem dX0_fillCells_12 : decode cX0_fillCells 12 = .ok (.getfield 9, 3) := by decide +kernel
theorem dX0_fillCells_15 : decode cX0_fillCells 15 = .ok (.iload 4, 2) := by decide +kernel
theorem dX0_fillCells_17 : decode cX0_fillCells 17 = .ok (.iload_n 3, 1) := by decide +kernel
theorem dX0_fillCells_18 : decode cX0_fillCells 18 = .ok (.iastore, 1) := by decide +kernel
theorem dX0_fillCells_19 : decode cX0_fillCells 19 = .ok (.iinc 4 1, 3) := by decide +kernel
theorem dX0_fillCells_22 : decode cX0_fillCells 22 = .ok (.goto (-19), 3) := by decide +kernel
theorem dX0_fillCells_25 : decode cX0_fillCells 25 = .ok (.return_, 1) := by decide +kernel
theorem dX0_addLoads_0 : decode cX0_addLoads 0 = .ok (.aload_n 0, 1) := by decide +kernel
theorem dX0_addLoads_1 : decode cX0_addLoads 1 = .ok (.getfield 15, 3) := by decide +kernel
theorem dX0_addLoads_4 : decode cX0_addLoads 4 = .ok (.iload_n 1, 1) := by decide +kernel
theorem dX0_addLoads_5 : decode cX0_addLoads 5 = .ok (.dup2, 1) := by decide +kernel
theorem dX0_addLoads_6 : decode cX0_addLoads 6 = .ok (.iaload, 1) := by decide +kernel
theorem dX0_addLoads_7 : decode cX0_addLoads 7 = .ok (.iload_n 3, 1) := by decide +kernel
theorem dX0_addLoads_8 : decode cX0_addLoads 8 = .ok (.aload_n 2, 1) := by decide +kernel
theorem dX0_addLoads_9 : decode cX0_addLoads 9 = .ok (.getfield 66, 3) := by decide +kernel
theorem dX0_addLoads_12 : decode cX0_addLoads 12 = .ok (.imul, 1) := by decide +kernel
theorem dX0_addLoads_13 : decode cX0_addLoads 13 = .ok (.iadd, 1) := by decide +kernel
theorem dX0_addLoads_14 : decode cX0_addLoads 14 = .ok (.iastore, 1) := by decide +kernel
theorem dX0_addLoads_15 : decode cX0_addLoads 15 = .ok (.aload_n 0, 1) := by decide +kernel
theorem dX0_addLoads_16 : decode cX0_addLoads 16 = .ok (.getfield 18, 3) := by decide +kernel
theorem dX0_addLoads_19 : decode cX0_addLoads 19 = .ok (.iload_n 1, 1) := by decide +kernel
theorem dX0_addLoads_20 : decode cX0_addLoads 20 = .ok (.dup2, 1) := by decide +kernel
theorem dX0_addLoads_21 : decode cX0_addLoads 21 = .ok (.iaload, 1) := by decide +kernel
theorem dX0_addLoads_22 : decode cX0_addLoads 22 = .ok (.iload_n 3, 1) := by decide +kernel
theorem dX0_addLoads_23 : decode cX0_addLoads 23 = .ok (.aload_n 2, 1) := by decide +kernel
theorem dX0_addLoads_24 : decode cX0_addLoads 24 = .ok (.getfield 68, 3) := by decide +kernel
theorem dX0_addLoads_27 : decode cX0_addLoads 27 = .ok (.imul, 1) := by decide +kernel
theorem dX0_addLoads_28 : decode cX0_addLoads 28 = .ok (.iadd, 1) := by decide +kernel
theorem dX0_addLoads_29 : decode cX0_addLoads 29 = .ok (.iastore, 1) := by decide +kernel
theorem dX0_addLoads_30 : decode cX0_addLoads 30 = .ok (.iconst 0, 1) := by decide +kernel
theorem dX0_addLoads_31 : decode cX0_addLoads 31 = .ok (.istore 4, 2) := by decide +kernel
theorem dX0_addLoads_33 : decode cX0_addLoads 33 = .ok (.iload 4, 2) := by decide +kernel
theorem dX0_addLoads_35 : decode cX0_addLoads 35 = .ok (.iconst 2, 1) := by decide +kernel
theorem dX0_addLoads_36 : decode cX0_addLoads 36 = .ok (.if_icmp .ge 29, 3) := by decide +kernel
theorem dX0_addLoads_39 : decode cX0_addLoads 39 = .ok (.aload_n 0, 1) := by decide +kernel
theorem dX0_addLoads_40 : decode cX0_addLoads 40 = .ok (.getfield 23, 3) := by decide +kernel
theorem dX0_addLoads_43 : decode cX0_addLoads 43 = .ok (.iload 4, 2) := by decide +kernel
theorem dX0_addLoads_45 : decode cX0_addLoads 45 = .ok (.aaload, 1) := by decide +kernel
theorem dX0_addLoads_46 : decode cX0_addLoads 46 = .ok (.iload_n 1, 1) := by decide +kernel
theorem dX0_addLoads_47 : decode cX0_addLoads 47 = .ok (.dup2, 1) := by decide +kernel
theorem dX0_addLoads_48 : decode cX0_addLoads 48 = .ok (.iaload, 1) := by decide +kernel
theorem dX0_addLoads_49 : decode cX0_addLoads 49 = .ok (.iload_n 3, 1) := by decide +kernel
theorem dX0_addLoads_50 : decode cX0_addLoads 50 = .ok (.aload_n 2, 1) := by decide +kernel
theorem dX0_addLoads_51 : decode cX0_addLoads 51 = .ok (.iload 4, 2) := by decide +kernel
theorem dX0_addLoads_53 : decode cX0_addLoads 53 = .ok (.invokevirtual 71, 3) := by decide +kernel
theorem dX0_addLoads_56 : decode cX0_addLoads 56 = .ok (.imul, 1) := by decide +kernel
theorem dX0_addLoads_57 : decode cX0_addLoads 57 = .ok (.iadd, 1) := by decide +kernel
theorem dX0_addLoads_58 : decode cX0_addLoads 58 = .ok (.iastore, 1) := by decide +kernel
theorem dX0_addLoads_59 : decode cX0_addLoads 59 = .ok (.iinc 4 1, 3) := by decide +kernel
theorem dX0_addLoads_62 : decode cX0_addLoads 62 = .ok (.goto (-29), 3) := by decide +kernel
theorem dX0_addLoads_65 : decode cX0_addLoads 65 = .ok (.return_, 1) := by decide +kernel
theorem dX0_changeCords_0 : decode cX0_changeCords 0 = .ok (.aload_n 1, 1) := by decide +kernel
theorem dX0_changeCords_1 : decode cX0_changeCords 1 = .ok (.getfield 63, 3) := by decide +kernel
theorem dX0_changeCords_4 : decode cX0_changeCords 4 = .ok (.invokestatic 55, 3) := by decide +kernel
theorem dX0_changeCords_7 : decode cX0_changeCords 7 = .ok (.istore_n 3, 1) := by decide +kernel
theorem dX0_changeCords_8 : decode cX0_changeCords 8 = .ok (.iconst 0, 1) := by decide +kernel
theorem dX0_changeCords_9 : decode cX0_changeCords 9 = .ok (.istore 4, 2) := by decide +kernel
theorem dX0_changeCords_11 : decode cX0_changeCords 11 = .ok (.iload 4, 2) := by decide +kernel
theorem dX0_changeCords_13 : decode cX0_changeCords 13 = .ok (.iconst 2, 1) := by decide +kernel
theorem dX0_changeCords_14 : decode cX0_changeCords 14 = .ok (.if_icmp .ge 35, 3) := by decide +kernel
theorem dX0_changeCords_17 : decode cX0_changeCords 17 = .ok (.aload_n 0, 1) := by decide +kernel
theorem dX0_changeCords_18 : decode cX0_changeCords 18 = .ok (.getfield 23, 3) := by decide +kernel
theorem dX0_changeCords_21 : decode cX0_changeCords 21 = .ok (.iload 4, 2) := by decide +kernel
theorem dX0_changeCords_23 : decode cX0_changeCords 23 = .ok (.aaload, 1) := by decide +kernel
theorem dX0_changeCords_24 : decode cX0_changeCords 24 = .ok (.iload_n 3, 1) := by decide +kernel
theorem dX0_changeCords_25 : decode cX0_changeCords 25 = .ok (.dup2, 1) := by decide +kernel
theorem dX0_changeCords_26 : decode cX0_changeCords 26 = .ok (.iaload, 1) := by decide +kernel
theorem dX0_changeCords_27 : decode cX0_changeCords 27 = .ok (.aload_n 1, 1) := by decide +kernel
theorem dX0_changeCords_28 : decode cX0_changeCords 28 = .ok (.iload 4, 2) := by decide +kernel
theorem dX0_changeCords_30 : decode cX0_changeCords 30 = .ok (.iload_n 2, 1) := by decide +kernel
theorem dX0_changeCords_31 : decode cX0_changeCords 31 = .ok (.invokevirtual 74, 3) := by decide +kernel
theorem dX0_changeCords_34 : decode cX0_changeCords 34 = .ok (.aload_n 1, 1) := by decide +kernel
theorem dX0_changeCords_35 : decode cX0_changeCords 35 = .ok (.iload 4, 2) := by decide +kernel
theorem dX0_changeCords_37 : decode cX0_changeCords 37 = .ok (.invokevirtual 71, 3) := by decide +kernel
theorem dX0_changeCords_40 : decode cX0_changeCords 40 = .ok (.isub, 1) := by decide +kernel
theorem dX0_changeCords_41 : decode cX0_changeCords 41 = .ok (.iadd, 1) := by decide +kernel
theorem dX0_changeCords_42 : decode cX0_changeCords 42 = .ok (.iastore, 1) := by decide +kernel
theorem dX0_changeCords_43 : decode cX0_changeCords 43 = .ok (.iinc 4 1, 3) := by decide +kernel
theorem dX0_changeCords_46 : decode cX0_changeCords 46 = .ok (.goto (-35), 3) := by decide +kernel
theorem dX0_changeCords_49 : decode cX0_changeCords 49 = .ok (.aload_n 1, 1) := by decide +kernel
theorem dX0_changeCords_50 : decode cX0_changeCords 50 = .ok (.iload_n 2, 1) := by decide +kernel
theorem dX0_changeCords_51 : decode cX0_changeCords 51 = .ok (.putfield 78, 3) := by decide +kernel
theorem dX0_changeCords_54 : decode cX0_changeCords 54 = .ok (.return_, 1) := by decide +kernel
theorem dX0_firstFrom_0 : decode cX0_firstFrom 0 = .ok (.iload_n 1, 1) := by decide +kernel
theorem dX0_firstFrom_1 : decode cX0_firstFrom 1 = .ok (.istore_n 2, 1) := by decide +kernel
theorem dX0_firstFrom_2 : decode cX0_firstFrom 2 = .ok (.iload_n 2, 1) := by decide +kernel
theorem dX0_firstFrom_3 : decode cX0_firstFrom 3 = .ok (.sipush 160, 3) := by decide +kernel
theorem dX0_firstFrom_6 : decode cX0_firstFrom 6 = .ok (.if_icmp .ge 26, 3) := by decide +kernel
theorem dX0_firstFrom_9 : decode cX0_firstFrom 9 = .ok (.aload_n 0, 1) := by decide +kernel
theorem dX0_firstFrom_10 : decode cX0_firstFrom 10 = .ok (.getfield 9, 3) := by decide +kernel
theorem dX0_firstFrom_13 : decode cX0_firstFrom 13 = .ok (.iload_n 2, 1) := by decide +kernel
theorem dX0_firstFrom_14 : decode cX0_firstFrom 14 = .ok (.iaload, 1) := by decide +kernel
theorem dX0_firstFrom_15 : decode cX0_firstFrom 15 = .ok (.iconst (-1), 1) := by decide +kernel
theorem dX0_firstFrom_16 : decode cX0_firstFrom 16 = .ok (.if_icmp .eq 10, 3) := by decide +kernel
theorem dX0_firstFrom_19 : decode cX0_firstFrom 19 = .ok (.aload_n 0, 1) := by decide +kernel
theorem dX0_firstFrom_20 : decode cX0_firstFrom 20 = .ok (.getfield 9, 3) := by decide +kernel
theorem dX0_firstFrom_23 : decode cX0_firstFrom 23 = .ok (.iload_n 2, 1) := by decide +kernel
theorem dX0_firstFrom_24 : decode cX0_firstFrom 24 = .ok (.iaload, 1) := by decide +kernel
theorem dX0_firstFrom_25 : decode cX0_firstFrom 25 = .ok (.ireturn, 1) := by decide +kernel
theorem dX0_firstFrom_26 : decode cX0_firstFrom 26 = .ok (.iinc 2 1, 3) := by decide +kernel
theorem dX0_firstFrom_29 : decode cX0_firstFrom 29 = .ok (.goto (-27), 3) := by decide +kernel
theorem dX0_firstFrom_32 : decode cX0_firstFrom 32 = .ok (.iconst (-1), 1) := by decide +kernel
theorem dX0_firstFrom_33 : decode cX0_firstFrom 33 = .ok (.ireturn, 1) := by decide +kernel
theorem dX0_weightInRow_0 : decode cX0_weightInRow 0 = .ok (.aload_n 0, 1) := by decide +kernel
theorem dX0_weightInRow_1 : decode cX0_weightInRow 1 = .ok (.iload_n 1, 1) := by decide +kernel
theorem dX0_weightInRow_2 : decode cX0_weightInRow 2 = .ok (.aload_n 0, 1) := by decide +kernel
theorem dX0_weightInRow_3 : decode cX0_weightInRow 3 = .ok (.getfield 15, 3) := by decide +kernel
theorem dX0_weightInRow_6 : decode cX0_weightInRow 6 = .ok (.invokevirtual 81, 3) := by decide +kernel
theorem dX0_weightInRow_9 : decode cX0_weightInRow 9 = .ok (.ireturn, 1) := by decide +kernel
theorem dX0_heatInRow_0 : decode cX0_heatInRow 0 = .ok (.aload_n 0, 1) := by decide +kernel
theorem dX0_heatInRow_1 : decode cX0_heatInRow 1 = .ok (.iload_n 1, 1) := by decide +kernel
theorem dX0_heatInRow_2 : decode cX0_heatInRow 2 = .ok (.aload_n 0, 1) := by decide +kernel
theorem dX0_heatInRow_3 : decode cX0_heatInRow 3 = .ok (.getfield 18, 3) := by decide +kernel
theorem dX0_heatInRow_6 : decode cX0_heatInRow 6 = .ok (.invokevirtual 81, 3) := by decide +kernel
theorem dX0_heatInRow_9 : decode cX0_heatInRow 9 = .ok (.ireturn, 1) := by decide +kernel
theorem dX0_sumInRow_0 : decode cX0_sumInRow 0 = .ok (.iconst 0, 1) := by decide +kernel
theorem dX0_sumInRow_1 : decode cX0_sumInRow 1 = .ok (.istore_n 3, 1) := by decide +kernel
theorem dX0_sumInRow_2 : decode cX0_sumInRow 2 = .ok (.iconst 0, 1) := by decide +kernel
theorem dX0_sumInRow_3 : decode cX0_sumInRow 3 = .ok (.istore 4, 2) := by decide +kernel
theorem dX0_sumInRow_5 : decode cX0_sumInRow 5 = .ok (.iload 4, 2) := by decide +kernel
theorem dX0_sumInRow_7 : decode cX0_sumInRow 7 = .ok (.aload_n 0, 1) := by decide +kernel
theorem dX0_sumInRow_8 : decode cX0_sumInRow 8 = .ok (.getfield 26, 3) := by decide +kernel
theorem dX0_sumInRow_11 : decode cX0_sumInRow 11 = .ok (.getfield 85, 3) := by decide +kernel
theorem dX0_sumInRow_14 : decode cX0_sumInRow 14 = .ok (.invokevirtual 91, 3) := by decide +kernel
theorem dX0_sumInRow_17 : decode cX0_sumInRow 17 = .ok (.if_icmp .ge 38, 3) := by decide +kernel
theorem dX0_sumInRow_20 : decode cX0_sumInRow 20 = .ok (.aload_n 0, 1) := by decide +kernel
theorem dX0_sumInRow_21 : decode cX0_sumInRow 21 = .ok (.getfield 26, 3) := by decide +kernel
theorem dX0_sumInRow_24 : decode cX0_sumInRow 24 = .ok (.getfield 85, 3) := by decide +kernel
theorem dX0_sumInRow_27 : decode cX0_sumInRow 27 = .ok (.iload 4, 2) := by decide +kernel
theorem dX0_sumInRow_29 : decode cX0_sumInRow 29 = .ok (.invokevirtual 97, 3) := by decide +kernel
theorem dX0_sumInRow_32 : decode cX0_sumInRow 32 = .ok (.checkcast 101, 3) := by decide +kernel
theorem dX0_sumInRow_35 : decode cX0_sumInRow 35 = .ok (.getfield 103, 3) := by decide +kernel
theorem dX0_sumInRow_38 : decode cX0_sumInRow 38 = .ok (.iload_n 1, 1) := by decide +kernel
theorem dX0_sumInRow_39 : decode cX0_sumInRow 39 = .ok (.if_icmp .ne 10, 3) := by decide +kernel
theorem dX0_sumInRow_42 : decode cX0_sumInRow 42 = .ok (.iload_n 3, 1) := by decide +kernel
theorem dX0_sumInRow_43 : decode cX0_sumInRow 43 = .ok (.aload_n 2, 1) := by decide +kernel
theorem dX0_sumInRow_44 : decode cX0_sumInRow 44 = .ok (.iload 4, 2) := by decide +kernel
theorem dX0_sumInRow_46 : decode cX0_sumInRow 46 = .ok (.iaload, 1) := by decide +kernel
theorem dX0_sumInRow_47 : decode cX0_sumInRow 47 = .ok (.iadd, 1) := by decide +kernel
theorem dX0_sumInRow_48 : decode cX0_sumInRow 48 = .ok (.istore_n 3, 1) := by decide +kernel
theorem dX0_sumInRow_49 : decode cX0_sumInRow 49 = .ok (.iinc 4 1, 3) := by decide +kernel
theorem dX0_sumInRow_52 : decode cX0_sumInRow 52 = .ok (.goto (-47), 3) := by decide +kernel
theorem dX0_sumInRow_55 : decode cX0_sumInRow 55 = .ok (.iload_n 3, 1) := by decide +kernel
theorem dX0_sumInRow_56 : decode cX0_sumInRow 56 = .ok (.ireturn, 1) := by decide +kernel
theorem dX0_worstOnFeed_0 : decode cX0_worstOnFeed 0 = .ok (.iconst 0, 1) := by decide +kernel
theorem dX0_worstOnFeed_1 : decode cX0_worstOnFeed 1 = .ok (.istore_n 2, 1) := by decide +kernel
theorem dX0_worstOnFeed_2 : decode cX0_worstOnFeed 2 = .ok (.iconst 0, 1) := by decide +kernel
theorem dX0_worstOnFeed_3 : decode cX0_worstOnFeed 3 = .ok (.istore_n 3, 1) := by decide +kernel
theorem dX0_worstOnFeed_4 : decode cX0_worstOnFeed 4 = .ok (.iload_n 3, 1) := by decide +kernel
theorem dX0_worstOnFeed_5 : decode cX0_worstOnFeed 5 = .ok (.aload_n 0, 1) := by decide +kernel
theorem dX0_worstOnFeed_6 : decode cX0_worstOnFeed 6 = .ok (.getfield 26, 3) := by decide +kernel
theorem dX0_worstOnFeed_9 : decode cX0_worstOnFeed 9 = .ok (.getfield 85, 3) := by decide +kernel
theorem dX0_worstOnFeed_12 : decode cX0_worstOnFeed 12 = .ok (.invokevirtual 91, 3) := by decide +kernel
theorem dX0_worstOnFeed_15 : decode cX0_worstOnFeed 15 = .ok (.if_icmp .ge 20, 3) := by decide +kernel
theorem dX0_worstOnFeed_18 : decode cX0_worstOnFeed 18 = .ok (.iload_n 2, 1) := by decide +kernel
theorem dX0_worstOnFeed_19 : decode cX0_worstOnFeed 19 = .ok (.aload_n 0, 1) := by decide +kernel
theorem dX0_worstOnFeed_20 : decode cX0_worstOnFeed 20 = .ok (.getfield 23, 3) := by decide +kernel
theorem dX0_worstOnFeed_23 : decode cX0_worstOnFeed 23 = .ok (.iload_n 1, 1) := by decide +kernel
theorem dX0_worstOnFeed_24 : decode cX0_worstOnFeed 24 = .ok (.aaload, 1) := by decide +kernel
theorem dX0_worstOnFeed_25 : decode cX0_worstOnFeed 25 = .ok (.iload_n 3, 1) := by decide +kernel
theorem dX0_worstOnFeed_26 : decode cX0_worstOnFeed 26 = .ok (.iaload, 1) := by decide +kernel
theorem dX0_worstOnFeed_27 : decode cX0_worstOnFeed 27 = .ok (.iadd, 1) := by decide +kernel
theorem dX0_worstOnFeed_28 : decode cX0_worstOnFeed 28 = .ok (.istore_n 2, 1) := by decide +kernel
theorem dX0_worstOnFeed_29 : decode cX0_worstOnFeed 29 = .ok (.iinc 3 1, 3) := by decide +kernel
theorem dX0_worstOnFeed_32 : decode cX0_worstOnFeed 32 = .ok (.goto (-28), 3) := by decide +kernel
theorem dX0_worstOnFeed_35 : decode cX0_worstOnFeed 35 = .ok (.iload_n 2, 1) := by decide +kernel
theorem dX0_worstOnFeed_36 : decode cX0_worstOnFeed 36 = .ok (.ireturn, 1) := by decide +kernel
theorem dX0_firstFit_0 : decode cX0_firstFit 0 = .ok (.iconst 0, 1) := by decide +kernel
theorem dX0_firstFit_1 : decode cX0_firstFit 1 = .ok (.istore_n 2, 1) := by decide +kernel
theorem dX0_firstFit_2 : decode cX0_firstFit 2 = .ok (.iload_n 2, 1) := by decide +kernel
theorem dX0_firstFit_3 : decode cX0_firstFit 3 = .ok (.aload_n 0, 1) := by decide +kernel
theorem dX0_firstFit_4 : decode cX0_firstFit 4 = .ok (.getfield 26, 3) := by decide +kernel
theorem dX0_firstFit_7 : decode cX0_firstFit 7 = .ok (.getfield 85, 3) := by decide +kernel
theorem dX0_firstFit_10 : decode cX0_firstFit 10 = .ok (.invokevirtual 91, 3) := by decide +kernel
theorem dX0_firstFit_13 : decode cX0_firstFit 13 = .ok (.if_icmp .ge 23, 3) := by decide +kernel
theorem dX0_firstFit_16 : decode cX0_firstFit 16 = .ok (.aload_n 0, 1) := by decide +kernel
theorem dX0_firstFit_17 : decode cX0_firstFit 17 = .ok (.iload_n 2, 1) := by decide +kernel
theorem dX0_firstFit_18 : decode cX0_firstFit 18 = .ok (.aload_n 1, 1) := by decide +kernel
theorem dX0_firstFit_19 : decode cX0_firstFit 19 = .ok (.invokevirtual 106, 3) := by decide +kernel
theorem dX0_firstFit_22 : decode cX0_firstFit 22 = .ok (.istore_n 3, 1) := by decide +kernel
theorem dX0_firstFit_23 : decode cX0_firstFit 23 = .ok (.iload_n 3, 1) := by decide +kernel
theorem dX0_firstFit_24 : decode cX0_firstFit 24 = .ok (.iconst (-1), 1) := by decide +kernel
theorem dX0_firstFit_25 : decode cX0_firstFit 25 = .ok (.if_icmp .eq 5, 3) := by decide +kernel
theorem dX0_firstFit_28 : decode cX0_firstFit 28 = .ok (.iload_n 3, 1) := by decide +kernel
theorem dX0_firstFit_29 : decode cX0_firstFit 29 = .ok (.ireturn, 1) := by decide +kernel
theorem dX0_firstFit_30 : decode cX0_firstFit 30 = .ok (.iinc 2 1, 3) := by decide +kernel
theorem dX0_firstFit_33 : decode cX0_firstFit 33 = .ok (.goto (-31), 3) := by decide +kernel
theorem dX0_firstFit_36 : decode cX0_firstFit 36 = .ok (.iconst (-1), 1) := by decide +kernel
theorem dX0_firstFit_37 : decode cX0_firstFit 37 = .ok (.ireturn, 1) := by decide +kernel
theorem dX0_fitIn_0 : decode cX0_fitIn 0 = .ok (.aload_n 0, 1) := by decide +kernel
theorem dX0_fitIn_1 : decode cX0_fitIn 1 = .ok (.iload_n 1, 1) := by decide +kernel
theorem dX0_fitIn_2 : decode cX0_fitIn 2 = .ok (.aload_n 2, 1) := by decide +kernel
theorem dX0_fitIn_3 : decode cX0_fitIn 3 = .ok (.invokevirtual 110, 3) := by decide +kernel
theorem dX0_fitIn_6 : decode cX0_fitIn 6 = .ok (.ifCond .eq 15, 3) := by decide +kernel
theorem dX0_fitIn_9 : decode cX0_fitIn 9 = .ok (.aload_n 0, 1) := by decide +kernel
theorem dX0_fitIn_10 : decode cX0_fitIn 10 = .ok (.iload_n 1, 1) := by decide +kernel
theorem dX0_fitIn_11 : decode cX0_fitIn 11 = .ok (.aload_n 2, 1) := by decide +kernel
theorem dX0_fitIn_12 : decode cX0_fitIn 12 = .ok (.getfield 42, 3) := by decide +kernel
theorem dX0_fitIn_15 : decode cX0_fitIn 15 = .ok (.invokevirtual 114, 3) := by decide +kernel
theorem dX0_fitIn_18 : decode cX0_fitIn 18 = .ok (.goto 4, 3) := by decide +kernel
theorem dX0_fitIn_21 : decode cX0_fitIn 21 = .ok (.iconst (-1), 1) := by decide +kernel
theorem dX0_fitIn_22 : decode cX0_fitIn 22 = .ok (.ireturn, 1) := by decide +kernel
theorem dX0_fillUp_0 : decode cX0_fillUp 0 = .ok (.iconst 0, 1) := by decide +kernel
theorem dX0_fillUp_1 : decode cX0_fillUp 1 = .ok (.istore_n 3, 1) := by decide +kernel
theorem dX0_fillUp_2 : decode cX0_fillUp 2 = .ok (.iload_n 3, 1) := by decide +kernel
theorem dX0_fillUp_3 : decode cX0_fillUp 3 = .ok (.bipush 20, 2) := by decide +kernel
theorem dX0_fillUp_5 : decode cX0_fillUp 5 = .ok (.if_icmp .ge 32, 3) := by decide +kernel
theorem dX0_fillUp_8 : decode cX0_fillUp 8 = .ok (.aload_n 0, 1) := by decide +kernel
theorem dX0_fillUp_9 : decode cX0_fillUp 9 = .ok (.iload_n 1, 1) := by decide +kernel
theorem dX0_fillUp_10 : decode cX0_fillUp 10 = .ok (.aload_n 2, 1) := by decide +kernel
theorem dX0_fillUp_11 : decode cX0_fillUp 11 = .ok (.invokevirtual 106, 3) := by decide +kernel
theorem dX0_fillUp_14 : decode cX0_fillUp 14 = .ok (.istore 4, 2) := by decide +kernel
theorem dX0_fillUp_16 : decode cX0_fillUp 16 = .ok (.iload 4, 2) := by decide +kernel
theorem dX0_fillUp_18 : decode cX0_fillUp 18 = .ok (.iconst (-1), 1) := by decide +kernel
theorem dX0_fillUp_19 : decode cX0_fillUp 19 = .ok (.if_icmp .ne 5, 3) := by decide +kernel
theorem dX0_fillUp_22 : decode cX0_fillUp 22 = .ok (.iload_n 3, 1) := by decide +kernel
theorem dX0_fillUp_23 : decode cX0_fillUp 23 = .ok (.ireturn, 1) := by decide +kernel
theorem dX0_fillUp_24 : decode cX0_fillUp 24 = .ok (.aload_n 0, 1) := by decide +kernel
theorem dX0_fillUp_25 : decode cX0_fillUp 25 = .ok (.aload_n 2, 1) := by decide +kernel
theorem dX0_fillUp_26 : decode cX0_fillUp 26 = .ok (.iload 4, 2) := by decide +kernel
theorem dX0_fillUp_28 : decode cX0_fillUp 28 = .ok (.invokevirtual 117, 3) := by decide +kernel
theorem dX0_fillUp_31 : decode cX0_fillUp 31 = .ok (.iinc 3 1, 3) := by decide +kernel
theorem dX0_fillUp_34 : decode cX0_fillUp 34 = .ok (.goto (-32), 3) := by decide +kernel
theorem dX0_fillUp_37 : decode cX0_fillUp 37 = .ok (.bipush 20, 2) := by decide +kernel
theorem dX0_fillUp_39 : decode cX0_fillUp 39 = .ok (.ireturn, 1) := by decide +kernel
theorem dX0_bears_0 : decode cX0_bears 0 = .ok (.aload_n 0, 1) := by decide +kernel
theorem dX0_bears_1 : decode cX0_bears 1 = .ok (.getfield 26, 3) := by decide +kernel
theorem dX0_bears_4 : decode cX0_bears 4 = .ok (.getfield 85, 3) := by decide +kernel
theorem dX0_bears_7 : decode cX0_bears 7 = .ok (.iload_n 1, 1) := by decide +kernel
theorem dX0_bears_8 : decode cX0_bears 8 = .ok (.invokevirtual 97, 3) := by decide +kernel
theorem dX0_bears_11 : decode cX0_bears 11 = .ok (.checkcast 101, 3) := by decide +kernel
theorem dX0_bears_14 : decode cX0_bears 14 = .ok (.astore_n 3, 1) := by decide +kernel
theorem dX0_bears_15 : decode cX0_bears 15 = .ok (.aload_n 3, 1) := by decide +kernel
theorem dX0_bears_16 : decode cX0_bears 16 = .ok (.getfield 103, 3) := by decide +kernel
theorem dX0_bears_19 : decode cX0_bears 19 = .ok (.istore 4, 2) := by decide +kernel
theorem dX0_bears_21 : decode cX0_bears 21 = .ok (.aload_n 0, 1) := by decide +kernel
theorem dX0_bears_22 : decode cX0_bears 22 = .ok (.getfield 15, 3) := by decide +kernel
theorem dX0_bears_25 : decode cX0_bears 25 = .ok (.iload_n 1, 1) := by decide +kernel
theorem dX0_bears_26 : decode cX0_bears 26 = .ok (.iaload, 1) := by decide +kernel
theorem dX0_bears_27 : decode cX0_bears 27 = .ok (.aload_n 2, 1) := by decide +kernel
theorem dX0_bears_28 : decode cX0_bears 28 = .ok (.getfield 66, 3) := by decide +kernel
theorem dX0_bears_31 : decode cX0_bears 31 = .ok (.iadd, 1) := by decide +kernel
theorem dX0_bears_32 : decode cX0_bears 32 = .ok (.aload_n 3, 1) := by decide +kernel
theorem dX0_bears_33 : decode cX0_bears 33 = .ok (.getfield 121, 3) := by decide +kernel
theorem dX0_bears_36 : decode cX0_bears 36 = .ok (.if_icmp .gt 83, 3) := by decide +kernel
theorem dX0_bears_39 : decode cX0_bears 39 = .ok (.aload_n 0, 1) := by decide +kernel
theorem dX0_bears_40 : decode cX0_bears 40 = .ok (.iload 4, 2) := by decide +kernel
theorem dX0_bears_42 : decode cX0_bears 42 = .ok (.invokevirtual 124, 3) := by decide +kernel
theorem dX0_bears_45 : decode cX0_bears 45 = .ok (.aload_n 2, 1) := by decide +kernel
theorem dX0_bears_46 : decode cX0_bears 46 = .ok (.getfield 66, 3) := by decide +kernel
theorem dX0_bears_49 : decode cX0_bears 49 = .ok (.iadd, 1) := by decide +kernel
theorem dX0_bears_50 : decode cX0_bears 50 = .ok (.aload_n 0, 1) := by decide +kernel
theorem dX0_bears_51 : decode cX0_bears 51 = .ok (.getfield 26, 3) := by decide +kernel
theorem dX0_bears_54 : decode cX0_bears 54 = .ok (.getfield 127, 3) := by decide +kernel
theorem dX0_bears_57 : decode cX0_bears 57 = .ok (.iload 4, 2) := by decide +kernel
theorem dX0_bears_59 : decode cX0_bears 59 = .ok (.iaload, 1) := by decide +kernel
theorem dX0_bears_60 : decode cX0_bears 60 = .ok (.if_icmp .gt 59, 3) := by decide +kernel
theorem dX0_bears_63 : decode cX0_bears 63 = .ok (.aload_n 0, 1) := by decide +kernel
theorem dX0_bears_64 : decode cX0_bears 64 = .ok (.iload 4, 2) := by decide +kernel
theorem dX0_bears_66 : decode cX0_bears 66 = .ok (.invokevirtual 130, 3) := by decide +kernel
theorem dX0_bears_69 : decode cX0_bears 69 = .ok (.aload_n 2, 1) := by decide +kernel
theorem dX0_bears_70 : decode cX0_bears 70 = .ok (.getfield 68, 3) := by decide +kernel
theorem dX0_bears_73 : decode cX0_bears 73 = .ok (.iadd, 1) := by decide +kernel
theorem dX0_bears_74 : decode cX0_bears 74 = .ok (.aload_n 0, 1) := by decide +kernel
theorem dX0_bears_75 : decode cX0_bears 75 = .ok (.getfield 26, 3) := by decide +kernel
theorem dX0_bears_78 : decode cX0_bears 78 = .ok (.getfield 133, 3) := by decide +kernel
theorem dX0_bears_81 : decode cX0_bears 81 = .ok (.iload 4, 2) := by decide +kernel
theorem dX0_bears_83 : decode cX0_bears 83 = .ok (.iaload, 1) := by decide +kernel
theorem dX0_bears_84 : decode cX0_bears 84 = .ok (.if_icmp .gt 35, 3) := by decide +kernel
theorem dX0_bears_87 : decode cX0_bears 87 = .ok (.aload_n 0, 1) := by decide +kernel
theorem dX0_bears_88 : decode cX0_bears 88 = .ok (.iload_n 1, 1) := by decide +kernel
theorem dX0_bears_89 : decode cX0_bears 89 = .ok (.iconst 0, 1) := by decide +kernel
theorem dX0_bears_90 : decode cX0_bears 90 = .ok (.aload_n 2, 1) := by decide +kernel
theorem dX0_bears_91 : decode cX0_bears 91 = .ok (.iconst 0, 1) := by decide +kernel
theorem dX0_bears_92 : decode cX0_bears 92 = .ok (.invokevirtual 71, 3) := by decide +kernel
theorem dX0_bears_95 : decode cX0_bears 95 = .ok (.invokevirtual 136, 3) := by decide +kernel
theorem dX0_bears_98 : decode cX0_bears 98 = .ok (.ifCond .eq 21, 3) := by decide +kernel
theorem dX0_bears_101 : decode cX0_bears 101 = .ok (.aload_n 0, 1) := by decide +kernel
theorem dX0_bears_102 : decode cX0_bears 102 = .ok (.iload_n 1, 1) := by decide +kernel
theorem dX0_bears_103 : decode cX0_bears 103 = .ok (.iconst 1, 1) := by decide +kernel
theorem dX0_bears_104 : decode cX0_bears 104 = .ok (.aload_n 2, 1) := by decide +kernel
theorem dX0_bears_105 : decode cX0_bears 105 = .ok (.iconst 1, 1) := by decide +kernel
theorem dX0_bears_106 : decode cX0_bears 106 = .ok (.invokevirtual 71, 3) := by decide +kernel
theorem dX0_bears_109 : decode cX0_bears 109 = .ok (.invokevirtual 136, 3) := by decide +kernel
theorem dX0_bears_112 : decode cX0_bears 112 = .ok (.ifCond .eq 7, 3) := by decide +kernel
theorem dX0_bears_115 : decode cX0_bears 115 = .ok (.iconst 1, 1) := by decide +kernel
theorem dX0_bears_116 : decode cX0_bears 116 = .ok (.goto 4, 3) := by decide +kernel
theorem dX0_bears_119 : decode cX0_bears 119 = .ok (.iconst 0, 1) := by decide +kernel
theorem dX0_bears_120 : decode cX0_bears 120 = .ok (.ireturn, 1) := by decide +kernel
theorem dX0_bearsCords_0 : decode cX0_bearsCords 0 = .ok (.aload_n 1, 1) := by decide +kernel
theorem dX0_bearsCords_1 : decode cX0_bearsCords 1 = .ok (.getfield 63, 3) := by decide +kernel
theorem dX0_bearsCords_4 : decode cX0_bearsCords 4 = .ok (.invokestatic 55, 3) := by decide +kernel
theorem dX0_bearsCords_7 : decode cX0_bearsCords 7 = .ok (.istore_n 3, 1) := by decide +kernel
theorem dX0_bearsCords_8 : decode cX0_bearsCords 8 = .ok (.aload_n 0, 1) := by decide +kernel
theorem dX0_bearsCords_9 : decode cX0_bearsCords 9 = .ok (.iload_n 3, 1) := by decide +kernel
theorem dX0_bearsCords_10 : decode cX0_bearsCords 10 = .ok (.iconst 0, 1) := by decide +kernel
theorem dX0_bearsCords_11 : decode cX0_bearsCords 11 = .ok (.aload_n 1, 1) := by decide +kernel
theorem dX0_bearsCords_12 : decode cX0_bearsCords 12 = .ok (.iconst 0, 1) := by decide +kernel
theorem dX0_bearsCords_13 : decode cX0_bearsCords 13 = .ok (.iload_n 2, 1) := by decide +kernel
theorem dX0_bearsCords_14 : decode cX0_bearsCords 14 = .ok (.invokevirtual 74, 3) := by decide +kernel
theorem dX0_bearsCords_17 : decode cX0_bearsCords 17 = .ok (.aload_n 1, 1) := by decide +kernel
theorem dX0_bearsCords_18 : decode cX0_bearsCords 18 = .ok (.iconst 0, 1) := by decide +kernel
theorem dX0_bearsCords_19 : decode cX0_bearsCords 19 = .ok (.invokevirtual 71, 3) := by decide +kernel
theorem dX0_bearsCords_22 : decode cX0_bearsCords 22 = .ok (.isub, 1) := by decide +kernel
theorem dX0_bearsCords_23 : decode cX0_bearsCords 23 = .ok (.invokevirtual 136, 3) := by decide +kernel
theorem dX0_bearsCords_26 : decode cX0_bearsCords 26 = .ok (.ifCond .eq 28, 3) := by decide +kernel
theorem dX0_bearsCords_29 : decode cX0_bearsCords 29 = .ok (.aload_n 0, 1) := by decide +kernel
theorem dX0_bearsCords_30 : decode cX0_bearsCords 30 = .ok (.iload_n 3, 1) := by decide +kernel
theorem dX0_bearsCords_31 : decode cX0_bearsCords 31 = .ok (.iconst 1, 1) := by decide +kernel
theorem dX0_bearsCords_32 : decode cX0_bearsCords 32 = .ok (.aload_n 1, 1) := by decide +kernel
theorem dX0_bearsCords_33 : decode cX0_bearsCords 33 = .ok (.iconst 1, 1) := by decide +kernel
theorem dX0_bearsCords_34 : decode cX0_bearsCords 34 = .ok (.iload_n 2, 1) := by decide +kernel
theorem dX0_bearsCords_35 : decode cX0_bearsCords 35 = .ok (.invokevirtual 74, 3) := by decide +kernel
theorem dX0_bearsCords_38 : decode cX0_bearsCords 38 = .ok (.aload_n 1, 1) := by decide +kernel
theorem dX0_bearsCords_39 : decode cX0_bearsCords 39 = .ok (.iconst 1, 1) := by decide +kernel
theorem dX0_bearsCords_40 : decode cX0_bearsCords 40 = .ok (.invokevirtual 71, 3) := by decide +kernel
theorem dX0_bearsCords_43 : decode cX0_bearsCords 43 = .ok (.isub, 1) := by decide +kernel
theorem dX0_bearsCords_44 : decode cX0_bearsCords 44 = .ok (.invokevirtual 136, 3) := by decide +kernel
theorem dX0_bearsCords_47 : decode cX0_bearsCords 47 = .ok (.ifCond .eq 7, 3) := by decide +kernel
theorem dX0_bearsCords_50 : decode cX0_bearsCords 50 = .ok (.iconst 1, 1) := by decide +kernel
theorem dX0_bearsCords_51 : decode cX0_bearsCords 51 = .ok (.goto 4, 3) := by decide +kernel
theorem dX0_bearsCords_54 : decode cX0_bearsCords 54 = .ok (.iconst 0, 1) := by decide +kernel
theorem dX0_bearsCords_55 : decode cX0_bearsCords 55 = .ok (.ireturn, 1) := by decide +kernel
theorem dX0_bearsMore_0 : decode cX0_bearsMore 0 = .ok (.aload_n 0, 1) := by decide +kernel
theorem dX0_bearsMore_1 : decode cX0_bearsMore 1 = .ok (.getfield 23, 3) := by decide +kernel
theorem dX0_bearsMore_4 : decode cX0_bearsMore 4 = .ok (.iload_n 2, 1) := by decide +kernel
theorem dX0_bearsMore_5 : decode cX0_bearsMore 5 = .ok (.aaload, 1) := by decide +kernel
theorem dX0_bearsMore_6 : decode cX0_bearsMore 6 = .ok (.iload_n 1, 1) := by decide +kernel
theorem dX0_bearsMore_7 : decode cX0_bearsMore 7 = .ok (.iaload, 1) := by decide +kernel
theorem dX0_bearsMore_8 : decode cX0_bearsMore 8 = .ok (.iload_n 3, 1) := by decide +kernel
theorem dX0_bearsMore_9 : decode cX0_bearsMore 9 = .ok (.iadd, 1) := by decide +kernel
theorem dX0_bearsMore_10 : decode cX0_bearsMore 10 = .ok (.aload_n 0, 1) := by decide +kernel
theorem dX0_bearsMore_11 : decode cX0_bearsMore 11 = .ok (.getfield 26, 3) := by decide +kernel
theorem dX0_bearsMore_14 : decode cX0_bearsMore 14 = .ok (.getfield 85, 3) := by decide +kernel
theorem dX0_bearsMore_17 : decode cX0_bearsMore 17 = .ok (.iload_n 1, 1) := by decide +kernel
theorem dX0_bearsMore_18 : decode cX0_bearsMore 18 = .ok (.invokevirtual 97, 3) := by decide +kernel
theorem dX0_bearsMore_21 : decode cX0_bearsMore 21 = .ok (.checkcast 101, 3) := by decide +kernel
theorem dX0_bearsMore_24 : decode cX0_bearsMore 24 = .ok (.getfield 140, 3) := by decide +kernel
theorem dX0_bearsMore_27 : decode cX0_bearsMore 27 = .ok (.if_icmp .gt 26, 3) := by decide +kernel
theorem dX0_bearsMore_30 : decode cX0_bearsMore 30 = .ok (.aload_n 0, 1) := by decide +kernel
theorem dX0_bearsMore_31 : decode cX0_bearsMore 31 = .ok (.iload_n 2, 1) := by decide +kernel
theorem dX0_bearsMore_32 : decode cX0_bearsMore 32 = .ok (.invokevirtual 143, 3) := by decide +kernel
theorem dX0_bearsMore_35 : decode cX0_bearsMore 35 = .ok (.iload_n 3, 1) := by decide +kernel
theorem dX0_bearsMore_36 : decode cX0_bearsMore 36 = .ok (.iadd, 1) := by decide +kernel
theorem dX0_bearsMore_37 : decode cX0_bearsMore 37 = .ok (.aload_n 0, 1) := by decide +kernel
theorem dX0_bearsMore_38 : decode cX0_bearsMore 38 = .ok (.getfield 26, 3) := by decide +kernel
theorem dX0_bearsMore_41 : decode cX0_bearsMore 41 = .ok (.getfield 146, 3) := by decide +kernel
theorem dX0_bearsMore_44 : decode cX0_bearsMore 44 = .ok (.iload_n 2, 1) := by decide +kernel
theorem dX0_bearsMore_45 : decode cX0_bearsMore 45 = .ok (.iaload, 1) := by decide +kernel
theorem dX0_bearsMore_46 : decode cX0_bearsMore 46 = .ok (.if_icmp .gt 7, 3) := by decide +kernel
theorem dX0_bearsMore_49 : decode cX0_bearsMore 49 = .ok (.iconst 1, 1) := by decide +kernel
theorem dX0_bearsMore_50 : decode cX0_bearsMore 50 = .ok (.goto 4, 3) := by decide +kernel
theorem dX0_bearsMore_53 : decode cX0_bearsMore 53 = .ok (.iconst 0, 1) := by decide +kernel
theorem dX0_bearsMore_54 : decode cX0_bearsMore 54 = .ok (.ireturn, 1) := by decide +kernel
theorem dX0_lowestFree_0 : decode cX0_lowestFree 0 = .ok (.iconst 0, 1) := by decide +kernel
theorem dX0_lowestFree_1 : decode cX0_lowestFree 1 = .ok (.istore_n 3, 1) := by decide +kernel
theorem dX0_lowestFree_2 : decode cX0_lowestFree 2 = .ok (.iconst 0, 1) := by decide +kernel
theorem dX0_lowestFree_3 : decode cX0_lowestFree 3 = .ok (.istore 4, 2) := by decide +kernel
theorem dX0_lowestFree_5 : decode cX0_lowestFree 5 = .ok (.iload 4, 2) := by decide +kernel
theorem dX0_lowestFree_7 : decode cX0_lowestFree 7 = .ok (.aload_n 0, 1) := by decide +kernel
theorem dX0_lowestFree_8 : decode cX0_lowestFree 8 = .ok (.getfield 26, 3) := by decide +kernel
theorem dX0_lowestFree_11 : decode cX0_lowestFree 11 = .ok (.getfield 85, 3) := by decide +kernel
theorem dX0_lowestFree_14 : decode cX0_lowestFree 14 = .ok (.iload_n 1, 1) := by decide +kernel
theorem dX0_lowestFree_15 : decode cX0_lowestFree 15 = .ok (.invokevirtual 97, 3) := by decide +kernel
theorem dX0_lowestFree_18 : decode cX0_lowestFree 18 = .ok (.checkcast 101, 3) := by decide +kernel
theorem dX0_lowestFree_21 : decode cX0_lowestFree 21 = .ok (.getfield 149, 3) := by decide +kernel
theorem dX0_lowestFree_24 : decode cX0_lowestFree 24 = .ok (.if_icmp .ge 48, 3) := by decide +kernel
theorem dX0_lowestFree_27 : decode cX0_lowestFree 27 = .ok (.aload_n 0, 1) := by decide +kernel
theorem dX0_lowestFree_28 : decode cX0_lowestFree 28 = .ok (.getfield 9, 3) := by decide +kernel
theorem dX0_lowestFree_31 : decode cX0_lowestFree 31 = .ok (.iload_n 1, 1) := by decide +kernel
theorem dX0_lowestFree_32 : decode cX0_lowestFree 32 = .ok (.iload 4, 2) := by decide +kernel
theorem dX0_lowestFree_34 : decode cX0_lowestFree 34 = .ok (.invokestatic 150, 3) := by decide +kernel
theorem dX0_lowestFree_37 : decode cX0_lowestFree 37 = .ok (.iaload, 1) := by decide +kernel
theorem dX0_lowestFree_38 : decode cX0_lowestFree 38 = .ok (.iconst (-1), 1) := by decide +kernel
theorem dX0_lowestFree_39 : decode cX0_lowestFree 39 = .ok (.if_icmp .ne 9, 3) := by decide +kernel
theorem dX0_lowestFree_42 : decode cX0_lowestFree 42 = .ok (.iload_n 3, 1) := by decide +kernel
theorem dX0_lowestFree_43 : decode cX0_lowestFree 43 = .ok (.iconst 1, 1) := by decide +kernel
theorem dX0_lowestFree_44 : decode cX0_lowestFree 44 = .ok (.iadd, 1) := by decide +kernel
theorem dX0_lowestFree_45 : decode cX0_lowestFree 45 = .ok (.goto 4, 3) := by decide +kernel
theorem dX0_lowestFree_48 : decode cX0_lowestFree 48 = .ok (.iconst 0, 1) := by decide +kernel
theorem dX0_lowestFree_49 : decode cX0_lowestFree 49 = .ok (.istore_n 3, 1) := by decide +kernel
theorem dX0_lowestFree_50 : decode cX0_lowestFree 50 = .ok (.iload_n 3, 1) := by decide +kernel
theorem dX0_lowestFree_51 : decode cX0_lowestFree 51 = .ok (.iload_n 2, 1) := by decide +kernel
theorem dX0_lowestFree_52 : decode cX0_lowestFree 52 = .ok (.if_icmp .ne 14, 3) := by decide +kernel
theorem dX0_lowestFree_55 : decode cX0_lowestFree 55 = .ok (.iload_n 1, 1) := by decide +kernel
theorem dX0_lowestFree_56 : decode cX0_lowestFree 56 = .ok (.iload 4, 2) := by decide +kernel
theorem dX0_lowestFree_58 : decode cX0_lowestFree 58 = .ok (.iload_n 2, 1) := by decide +kernel
theorem dX0_lowestFree_59 : decode cX0_lowestFree 59 = .ok (.isub, 1) := by decide +kernel
theorem dX0_lowestFree_60 : decode cX0_lowestFree 60 = .ok (.iconst 1, 1) := by decide +kernel
theorem dX0_lowestFree_61 : decode cX0_lowestFree 61 = .ok (.iadd, 1) := by decide +kernel
theorem dX0_lowestFree_62 : decode cX0_lowestFree 62 = .ok (.invokestatic 150, 3) := by decide +kernel
theorem dX0_lowestFree_65 : decode cX0_lowestFree 65 = .ok (.ireturn, 1) := by decide +kernel
theorem dX0_lowestFree_66 : decode cX0_lowestFree 66 = .ok (.iinc 4 1, 3) := by decide +kernel
theorem dX0_lowestFree_69 : decode cX0_lowestFree 69 = .ok (.goto (-64), 3) := by decide +kernel
theorem dX0_lowestFree_72 : decode cX0_lowestFree 72 = .ok (.iconst (-1), 1) := by decide +kernel
theorem dX0_lowestFree_73 : decode cX0_lowestFree 73 = .ok (.ireturn, 1) := by decide +kernel
theorem dX0_widestGap_0 : decode cX0_widestGap 0 = .ok (.iconst 0, 1) := by decide +kernel
theorem dX0_widestGap_1 : decode cX0_widestGap 1 = .ok (.istore_n 2, 1) := by decide +kernel
theorem dX0_widestGap_2 : decode cX0_widestGap 2 = .ok (.iconst 0, 1) := by decide +kernel
theorem dX0_widestGap_3 : decode cX0_widestGap 3 = .ok (.istore_n 3, 1) := by decide +kernel
theorem dX0_widestGap_4 : decode cX0_widestGap 4 = .ok (.iconst 0, 1) := by decide +kernel
theorem dX0_widestGap_5 : decode cX0_widestGap 5 = .ok (.istore 4, 2) := by decide +kernel
theorem dX0_widestGap_7 : decode cX0_widestGap 7 = .ok (.iload 4, 2) := by decide +kernel
theorem dX0_widestGap_9 : decode cX0_widestGap 9 = .ok (.aload_n 0, 1) := by decide +kernel
theorem dX0_widestGap_10 : decode cX0_widestGap 10 = .ok (.getfield 26, 3) := by decide +kernel
theorem dX0_widestGap_13 : decode cX0_widestGap 13 = .ok (.getfield 85, 3) := by decide +kernel
theorem dX0_widestGap_16 : decode cX0_widestGap 16 = .ok (.iload_n 1, 1) := by decide +kernel
theorem dX0_widestGap_17 : decode cX0_widestGap 17 = .ok (.invokevirtual 97, 3) := by decide +kernel
theorem dX0_widestGap_20 : decode cX0_widestGap 20 = .ok (.checkcast 101, 3) := by decide +kernel
theorem dX0_widestGap_23 : decode cX0_widestGap 23 = .ok (.getfield 149, 3) := by decide +kernel
theorem dX0_widestGap_26 : decode cX0_widestGap 26 = .ok (.if_icmp .ge 38, 3) := by decide +kernel
theorem dX0_widestGap_29 : decode cX0_widestGap 29 = .ok (.aload_n 0, 1) := by decide +kernel
theorem dX0_widestGap_30 : decode cX0_widestGap 30 = .ok (.getfield 9, 3) := by decide +kernel
theorem dX0_widestGap_33 : decode cX0_widestGap 33 = .ok (.iload_n 1, 1) := by decide +kernel
theorem dX0_widestGap_34 : decode cX0_widestGap 34 = .ok (.iload 4, 2) := by decide +kernel
theorem dX0_widestGap_36 : decode cX0_widestGap 36 = .ok (.invokestatic 150, 3) := by decide +kernel
theorem dX0_widestGap_39 : decode cX0_widestGap 39 = .ok (.iaload, 1) := by decide +kernel
theorem dX0_widestGap_40 : decode cX0_widestGap 40 = .ok (.iconst (-1), 1) := by decide +kernel
theorem dX0_widestGap_41 : decode cX0_widestGap 41 = .ok (.if_icmp .ne 9, 3) := by decide +kernel
theorem dX0_widestGap_44 : decode cX0_widestGap 44 = .ok (.iload_n 3, 1) := by decide +kernel
theorem dX0_widestGap_45 : decode cX0_widestGap 45 = .ok (.iconst 1, 1) := by decide +kernel
theorem dX0_widestGap_46 : decode cX0_widestGap 46 = .ok (.iadd, 1) := by decide +kernel
theorem dX0_widestGap_47 : decode cX0_widestGap 47 = .ok (.goto 4, 3) := by decide +kernel
theorem dX0_widestGap_50 : decode cX0_widestGap 50 = .ok (.iconst 0, 1) := by decide +kernel
theorem dX0_widestGap_51 : decode cX0_widestGap 51 = .ok (.istore_n 3, 1) := by decide +kernel
theorem dX0_widestGap_52 : decode cX0_widestGap 52 = .ok (.iload_n 2, 1) := by decide +kernel
theorem dX0_widestGap_53 : decode cX0_widestGap 53 = .ok (.iload_n 3, 1) := by decide +kernel
theorem dX0_widestGap_54 : decode cX0_widestGap 54 = .ok (.invokestatic 153, 3) := by decide +kernel
theorem dX0_widestGap_57 : decode cX0_widestGap 57 = .ok (.istore_n 2, 1) := by decide +kernel
theorem dX0_widestGap_58 : decode cX0_widestGap 58 = .ok (.iinc 4 1, 3) := by decide +kernel
theorem dX0_widestGap_61 : decode cX0_widestGap 61 = .ok (.goto (-54), 3) := by decide +kernel
theorem dX0_widestGap_64 : decode cX0_widestGap 64 = .ok (.iload_n 2, 1) := by decide +kernel
theorem dX0_widestGap_65 : decode cX0_widestGap 65 = .ok (.ireturn, 1) := by decide +kernel
theorem dX0_countForRow_0 : decode cX0_countForRow 0 = .ok (.iconst 0, 1) := by decide +kernel
theorem dX0_countForRow_1 : decode cX0_countForRow 1 = .ok (.istore_n 3, 1) := by decide +kernel
theorem dX0_countForRow_2 : decode cX0_countForRow 2 = .ok (.iconst 0, 1) := by decide +kernel
theorem dX0_countForRow_3 : decode cX0_countForRow 3 = .ok (.istore 4, 2) := by decide +kernel
theorem dX0_countForRow_5 : decode cX0_countForRow 5 = .ok (.iload 4, 2) := by decide +kernel
theorem dX0_countForRow_7 : decode cX0_countForRow 7 = .ok (.aload_n 0, 1) := by decide +kernel
theorem dX0_countForRow_8 : decode cX0_countForRow 8 = .ok (.getfield 26, 3) := by decide +kernel
theorem dX0_countForRow_11 : decode cX0_countForRow 11 = .ok (.getfield 85, 3) := by decide +kernel
theorem dX0_countForRow_14 : decode cX0_countForRow 14 = .ok (.invokevirtual 91, 3) := by decide +kernel
theorem dX0_countForRow_17 : decode cX0_countForRow 17 = .ok (.if_icmp .ge 41, 3) := by decide +kernel
theorem dX0_countForRow_20 : decode cX0_countForRow 20 = .ok (.aload_n 0, 1) := by decide +kernel
theorem dX0_countForRow_21 : decode cX0_countForRow 21 = .ok (.getfield 26, 3) := by decide +kernel
theorem dX0_countForRow_24 : decode cX0_countForRow 24 = .ok (.getfield 85, 3) := by decide +kernel
theorem dX0_countForRow_27 : decode cX0_countForRow 27 = .ok (.iload 4, 2) := by decide +kernel
theorem dX0_countForRow_29 : decode cX0_countForRow 29 = .ok (.invokevirtual 97, 3) := by decide +kernel
theorem dX0_countForRow_32 : decode cX0_countForRow 32 = .ok (.checkcast 101, 3) := by decide +kernel
theorem dX0_countForRow_35 : decode cX0_countForRow 35 = .ok (.getfield 103, 3) := by decide +kernel
theorem dX0_countForRow_38 : decode cX0_countForRow 38 = .ok (.iload_n 1, 1) := by decide +kernel
theorem dX0_countForRow_39 : decode cX0_countForRow 39 = .ok (.if_icmp .ne 13, 3) := by decide +kernel
theorem dX0_countForRow_42 : decode cX0_countForRow 42 = .ok (.iload_n 3, 1) := by decide +kernel
theorem dX0_countForRow_43 : decode cX0_countForRow 43 = .ok (.aload_n 0, 1) := by decide +kernel
theorem dX0_countForRow_44 : decode cX0_countForRow 44 = .ok (.iload 4, 2) := by decide +kernel
theorem dX0_countForRow_46 : decode cX0_countForRow 46 = .ok (.aload_n 2, 1) := by decide +kernel
theorem dX0_countForRow_47 : decode cX0_countForRow 47 = .ok (.invokevirtual 158, 3) := by decide +kernel
theorem dX0_countForRow_50 : decode cX0_countForRow 50 = .ok (.iadd, 1) := by decide +kernel
theorem dX0_countForRow_51 : decode cX0_countForRow 51 = .ok (.istore_n 3, 1) := by decide +kernel
theorem dX0_countForRow_52 : decode cX0_countForRow 52 = .ok (.iinc 4 1, 3) := by decide +kernel
theorem dX0_countForRow_55 : decode cX0_countForRow 55 = .ok (.goto (-50), 3) := by decide +kernel
theorem dX0_countForRow_58 : decode cX0_countForRow 58 = .ok (.iload_n 3, 1) := by decide +kernel
theorem dX0_countForRow_59 : decode cX0_countForRow 59 = .ok (.aload_n 0, 1) := by decide +kernel
theorem dX0_countForRow_60 : decode cX0_countForRow 60 = .ok (.getfield 26, 3) := by decide +kernel
theorem dX0_countForRow_63 : decode cX0_countForRow 63 = .ok (.getfield 127, 3) := by decide +kernel
theorem dX0_countForRow_66 : decode cX0_countForRow 66 = .ok (.iload_n 1, 1) := by decide +kernel
theorem dX0_countForRow_67 : decode cX0_countForRow 67 = .ok (.iaload, 1) := by decide +kernel
theorem dX0_countForRow_68 : decode cX0_countForRow 68 = .ok (.aload_n 0, 1) := by decide +kernel
theorem dX0_countForRow_69 : decode cX0_countForRow 69 = .ok (.iload_n 1, 1) := by decide +kernel
theorem dX0_countForRow_70 : decode cX0_countForRow 70 = .ok (.invokevirtual 124, 3) := by decide +kernel
theorem dX0_countForRow_73 : decode cX0_countForRow 73 = .ok (.isub, 1) := by decide +kernel
theorem dX0_countForRow_74 : decode cX0_countForRow 74 = .ok (.aload_n 2, 1) := by decide +kernel
theorem dX0_countForRow_75 : decode cX0_countForRow 75 = .ok (.getfield 66, 3) := by decide +kernel
theorem dX0_countForRow_78 : decode cX0_countForRow 78 = .ok (.invokestatic 161, 3) := by decide +kernel
theorem dX0_countForRow_81 : decode cX0_countForRow 81 = .ok (.istore_n 3, 1) := by decide +kernel
theorem dX0_countForRow_82 : decode cX0_countForRow 82 = .ok (.iload_n 3, 1) := by decide +kernel
theorem dX0_countForRow_83 : decode cX0_countForRow 83 = .ok (.aload_n 0, 1) := by decide +kernel
theorem dX0_countForRow_84 : decode cX0_countForRow 84 = .ok (.getfield 26, 3) := by decide +kernel
theorem dX0_countForRow_87 : decode cX0_countForRow 87 = .ok (.getfield 133, 3) := by decide +kernel
theorem dX0_countForRow_90 : decode cX0_countForRow 90 = .ok (.iload_n 1, 1) := by decide +kernel
theorem dX0_countForRow_91 : decode cX0_countForRow 91 = .ok (.iaload, 1) := by decide +kernel
theorem dX0_countForRow_92 : decode cX0_countForRow 92 = .ok (.aload_n 0, 1) := by decide +kernel
theorem dX0_countForRow_93 : decode cX0_countForRow 93 = .ok (.iload_n 1, 1) := by decide +kernel
theorem dX0_countForRow_94 : decode cX0_countForRow 94 = .ok (.invokevirtual 130, 3) := by decide +kernel
theorem dX0_countForRow_97 : decode cX0_countForRow 97 = .ok (.isub, 1) := by decide +kernel
theorem dX0_countForRow_98 : decode cX0_countForRow 98 = .ok (.aload_n 2, 1) := by decide +kernel
theorem dX0_countForRow_99 : decode cX0_countForRow 99 = .ok (.getfield 68, 3) := by decide +kernel
theorem dX0_countForRow_102 : decode cX0_countForRow 102 = .ok (.invokestatic 161, 3) := by decide +kernel
theorem dX0_countForRow_105 : decode cX0_countForRow 105 = .ok (.ireturn, 1) := by decide +kernel
theorem dX0_countForRack_0 : decode cX0_countForRack 0 = .ok (.aload_n 0, 1) := by decide +kernel
theorem dX0_countForRack_1 : decode cX0_countForRack 1 = .ok (.getfield 26, 3) := by decide +kernel
theorem dX0_countForRack_4 : decode cX0_countForRack 4 = .ok (.getfield 85, 3) := by decide +kernel
theorem dX0_countForRack_7 : decode cX0_countForRack 7 = .ok (.iload_n 1, 1) := by decide +kernel
theorem dX0_countForRack_8 : decode cX0_countForRack 8 = .ok (.invokevirtual 97, 3) := by decide +kernel
theorem dX0_countForRack_11 : decode cX0_countForRack 11 = .ok (.checkcast 101, 3) := by decide +kernel
theorem dX0_countForRack_14 : decode cX0_countForRack 14 = .ok (.astore_n 3, 1) := by decide +kernel
theorem dX0_countForRack_15 : decode cX0_countForRack 15 = .ok (.aload_n 0, 1) := by decide +kernel
theorem dX0_countForRack_16 : decode cX0_countForRack 16 = .ok (.iload_n 1, 1) := by decide +kernel
theorem dX0_countForRack_17 : decode cX0_countForRack 17 = .ok (.aload_n 2, 1) := by decide +kernel
theorem dX0_countForRack_18 : decode cX0_countForRack 18 = .ok (.getfield 42, 3) := by decide +kernel
theorem dX0_countForRack_21 : decode cX0_countForRack 21 = .ok (.invokevirtual 165, 3) := by decide +kernel
theorem dX0_countForRack_24 : decode cX0_countForRack 24 = .ok (.istore 4, 2) := by decide +kernel
theorem dX0_countForRack_26 : decode cX0_countForRack 26 = .ok (.iload 4, 2) := by decide +kernel
theorem dX0_countForRack_28 : decode cX0_countForRack 28 = .ok (.aload_n 3, 1) := by decide +kernel
theorem dX0_countForRack_29 : decode cX0_countForRack 29 = .ok (.getfield 121, 3) := by decide +kernel
theorem dX0_countForRack_32 : decode cX0_countForRack 32 = .ok (.aload_n 0, 1) := by decide +kernel
theorem dX0_countForRack_33 : decode cX0_countForRack 33 = .ok (.getfield 15, 3) := by decide +kernel
theorem dX0_countForRack_36 : decode cX0_countForRack 36 = .ok (.iload_n 1, 1) := by decide +kernel
theorem dX0_countForRack_37 : decode cX0_countForRack 37 = .ok (.iaload, 1) := by decide +kernel
theorem dX0_countForRack_38 : decode cX0_countForRack 38 = .ok (.isub, 1) := by decide +kernel
theorem dX0_countForRack_39 : decode cX0_countForRack 39 = .ok (.aload_n 2, 1) := by decide +kernel
theorem dX0_countForRack_40 : decode cX0_countForRack 40 = .ok (.getfield 66, 3) := by decide +kernel
theorem dX0_countForRack_43 : decode cX0_countForRack 43 = .ok (.invokestatic 161, 3) := by decide +kernel
theorem dX0_countForRack_46 : decode cX0_countForRack 46 = .ok (.istore 4, 2) := by decide +kernel
theorem dX0_countForRack_48 : decode cX0_countForRack 48 = .ok (.iconst 0, 1) := by decide +kernel
theorem dX0_countForRack_49 : decode cX0_countForRack 49 = .ok (.istore 5, 2) := by decide +kernel
theorem dX0_countForRack_51 : decode cX0_countForRack 51 = .ok (.iload 5, 2) := by decide +kernel
theorem dX0_countForRack_53 : decode cX0_countForRack 53 = .ok (.iconst 2, 1) := by decide +kernel
theorem dX0_countForRack_54 : decode cX0_countForRack 54 = .ok (.if_icmp .ge 36, 3) := by decide +kernel
theorem dX0_countForRack_57 : decode cX0_countForRack 57 = .ok (.iload 4, 2) := by decide +kernel
theorem dX0_countForRack_59 : decode cX0_countForRack 59 = .ok (.aload_n 3, 1) := by decide +kernel
theorem dX0_countForRack_60 : decode cX0_countForRack 60 = .ok (.getfield 140, 3) := by decide +kernel
theorem dX0_countForRack_63 : decode cX0_countForRack 63 = .ok (.aload_n 0, 1) := by decide +kernel
theorem dX0_countForRack_64 : decode cX0_countForRack 64 = .ok (.getfield 23, 3) := by decide +kernel
theorem dX0_countForRack_67 : decode cX0_countForRack 67 = .ok (.iload 5, 2) := by decide +kernel
theorem dX0_countForRack_69 : decode cX0_countForRack 69 = .ok (.aaload, 1) := by decide +kernel
theorem dX0_countForRack_70 : decode cX0_countForRack 70 = .ok (.iload_n 1, 1) := by decide +kernel
theorem dX0_countForRack_71 : decode cX0_countForRack 71 = .ok (.iaload, 1) := by decide +kernel
theorem dX0_countForRack_72 : decode cX0_countForRack 72 = .ok (.isub, 1) := by decide +kernel
theorem dX0_countForRack_73 : decode cX0_countForRack 73 = .ok (.aload_n 2, 1) := by decide +kernel
theorem dX0_countForRack_74 : decode cX0_countForRack 74 = .ok (.iload 5, 2) := by decide +kernel
theorem dX0_countForRack_76 : decode cX0_countForRack 76 = .ok (.invokevirtual 71, 3) := by decide +kernel
theorem dX0_countForRack_79 : decode cX0_countForRack 79 = .ok (.invokestatic 161, 3) := by decide +kernel
theorem dX0_countForRack_82 : decode cX0_countForRack 82 = .ok (.istore 4, 2) := by decide +kernel
theorem dX0_countForRack_84 : decode cX0_countForRack 84 = .ok (.iinc 5 1, 3) := by decide +kernel
theorem dX0_countForRack_87 : decode cX0_countForRack 87 = .ok (.goto (-36), 3) := by decide +kernel
theorem dX0_countForRack_90 : decode cX0_countForRack 90 = .ok (.iload 4, 2) := by decide +kernel
theorem dX0_countForRack_92 : decode cX0_countForRack 92 = .ok (.ireturn, 1) := by decide +kernel
theorem dX0_countBySlots_0 : decode cX0_countBySlots 0 = .ok (.iconst 0, 1) := by decide +kernel
theorem dX0_countBySlots_1 : decode cX0_countBySlots 1 = .ok (.istore_n 3, 1) := by decide +kernel
theorem dX0_countBySlots_2 : decode cX0_countBySlots 2 = .ok (.iconst 0, 1) := by decide +kernel
theorem dX0_countBySlots_3 : decode cX0_countBySlots 3 = .ok (.istore 4, 2) := by decide +kernel
theorem dX0_countBySlots_5 : decode cX0_countBySlots 5 = .ok (.iconst 0, 1) := by decide +kernel
theorem dX0_countBySlots_6 : decode cX0_countBySlots 6 = .ok (.istore 5, 2) := by decide +kernel
theorem dX0_countBySlots_8 : decode cX0_countBySlots 8 = .ok (.iload 5, 2) := by decide +kernel
theorem dX0_countBySlots_10 : decode cX0_countBySlots 10 = .ok (.aload_n 0, 1) := by decide +kernel
theorem dX0_countBySlots_11 : decode cX0_countBySlots 11 = .ok (.getfield 26, 3) := by decide +kernel
theorem dX0_countBySlots_14 : decode cX0_countBySlots 14 = .ok (.getfield 85, 3) := by decide +kernel
theorem dX0_countBySlots_17 : decode cX0_countBySlots 17 = .ok (.iload_n 1, 1) := by decide +kernel
theorem dX0_countBySlots_18 : decode cX0_countBySlots 18 = .ok (.invokevirtual 97, 3) := by decide +kernel
theorem dX0_countBySlots_21 : decode cX0_countBySlots 21 = .ok (.checkcast 101, 3) := by decide +kernel
theorem dX0_countBySlots_24 : decode cX0_countBySlots 24 = .ok (.getfield 149, 3) := by decide +kernel
theorem dX0_countBySlots_27 : decode cX0_countBySlots 27 = .ok (.if_icmp .ge 46, 3) := by decide +kernel
theorem dX0_countBySlots_30 : decode cX0_countBySlots 30 = .ok (.aload_n 0, 1) := by decide +kernel
theorem dX0_countBySlots_31 : decode cX0_countBySlots 31 = .ok (.getfield 9, 3) := by decide +kernel
theorem dX0_countBySlots_34 : decode cX0_countBySlots 34 = .ok (.iload_n 1, 1) := by decide +kernel
theorem dX0_countBySlots_35 : decode cX0_countBySlots 35 = .ok (.iload 5, 2) := by decide +kernel
theorem dX0_countBySlots_37 : decode cX0_countBySlots 37 = .ok (.invokestatic 150, 3) := by decide +kernel
theorem dX0_countBySlots_40 : decode cX0_countBySlots 40 = .ok (.iaload, 1) := by decide +kernel
theorem dX0_countBySlots_41 : decode cX0_countBySlots 41 = .ok (.iconst (-1), 1) := by decide +kernel
theorem dX0_countBySlots_42 : decode cX0_countBySlots 42 = .ok (.if_icmp .ne 10, 3) := by decide +kernel
theorem dX0_countBySlots_45 : decode cX0_countBySlots 45 = .ok (.iload 4, 2) := by decide +kernel
theorem dX0_countBySlots_47 : decode cX0_countBySlots 47 = .ok (.iconst 1, 1) := by decide +kernel
theorem dX0_countBySlots_48 : decode cX0_countBySlots 48 = .ok (.iadd, 1) := by decide +kernel
theorem dX0_countBySlots_49 : decode cX0_countBySlots 49 = .ok (.goto 4, 3) := by decide +kernel
theorem dX0_countBySlots_52 : decode cX0_countBySlots 52 = .ok (.iconst 0, 1) := by decide +kernel
theorem dX0_countBySlots_53 : decode cX0_countBySlots 53 = .ok (.istore 4, 2) := by decide +kernel
theorem dX0_countBySlots_55 : decode cX0_countBySlots 55 = .ok (.iload 4, 2) := by decide +kernel
theorem dX0_countBySlots_57 : decode cX0_countBySlots 57 = .ok (.iload_n 2, 1) := by decide +kernel
theorem dX0_countBySlots_58 : decode cX0_countBySlots 58 = .ok (.if_icmp .ne 9, 3) := by decide +kernel
theorem dX0_countBySlots_61 : decode cX0_countBySlots 61 = .ok (.iinc 3 1, 3) := by decide +kernel
theorem dX0_countBySlots_64 : decode cX0_countBySlots 64 = .ok (.iconst 0, 1) := by decide +kernel
theorem dX0_countBySlots_65 : decode cX0_countBySlots 65 = .ok (.istore 4, 2) := by decide +kernel
theorem dX0_countBySlots_67 : decode cX0_countBySlots 67 = .ok (.iinc 5 1, 3) := by decide +kernel
theorem dX0_countBySlots_70 : decode cX0_countBySlots 70 = .ok (.goto (-62), 3) := by decide +kernel
theorem dX0_countBySlots_73 : decode cX0_countBySlots 73 = .ok (.iload_n 3, 1) := by decide +kernel
theorem dX0_countBySlots_74 : decode cX0_countBySlots 74 = .ok (.ireturn, 1) := by decide +kernel
theorem dX1_init_0 : decode cX1_init 0 = .ok (.aload_n 0, 1) := by decide +kernel
theorem dX1_init_1 : decode cX1_init 1 = .ok (.invokespecial 3, 3) := by decide +kernel
theorem dX1_init_4 : decode cX1_init 4 = .ok (.aload_n 0, 1) := by decide +kernel
theorem dX1_init_5 : decode cX1_init 5 = .ok (.iload_n 1, 1) := by decide +kernel
theorem dX1_init_6 : decode cX1_init 6 = .ok (.putfield 9, 3) := by decide +kernel
theorem dX1_init_9 : decode cX1_init 9 = .ok (.aload_n 0, 1) := by decide +kernel
theorem dX1_init_10 : decode cX1_init 10 = .ok (.iload_n 2, 1) := by decide +kernel
theorem dX1_init_11 : decode cX1_init 11 = .ok (.putfield 15, 3) := by decide +kernel
theorem dX1_init_14 : decode cX1_init 14 = .ok (.aload_n 0, 1) := by decide +kernel
theorem dX1_init_15 : decode cX1_init 15 = .ok (.iload_n 3, 1) := by decide +kernel
theorem dX1_init_16 : decode cX1_init 16 = .ok (.putfield 18, 3) := by decide +kernel
theorem dX1_init_19 : decode cX1_init 19 = .ok (.aload_n 0, 1) := by decide +kernel
theorem dX1_init_20 : decode cX1_init 20 = .ok (.iload 4, 2) := by decide +kernel
theorem dX1_init_22 : decode cX1_init 22 = .ok (.putfield 21, 3) := by decide +kernel
theorem dX1_init_25 : decode cX1_init 25 = .ok (.aload_n 0, 1) := by decide +kernel
theorem dX1_init_26 : decode cX1_init 26 = .ok (.iload 5, 2) := by decide +kernel
theorem dX1_init_28 : decode cX1_init 28 = .ok (.putfield 24, 3) := by decide +kernel
theorem dX1_init_31 : decode cX1_init 31 = .ok (.aload_n 0, 1) := by decide +kernel
theorem dX1_init_32 : decode cX1_init 32 = .ok (.iconst (-1), 1) := by decide +kernel
theorem dX1_init_33 : decode cX1_init 33 = .ok (.putfield 27, 3) := by decide +kernel
theorem dX1_init_36 : decode cX1_init 36 = .ok (.aload_n 0, 1) := by decide +kernel
theorem dX1_init_37 : decode cX1_init 37 = .ok (.iconst (-1), 1) := by decide +kernel
theorem dX1_init_38 : decode cX1_init 38 = .ok (.putfield 30, 3) := by decide +kernel
theorem dX1_init_41 : decode cX1_init 41 = .ok (.return_, 1) := by decide +kernel
theorem dX1_hasCordTo_0 : decode cX1_hasCordTo 0 = .ok (.iload_n 1, 1) := by decide +kernel
theorem dX1_hasCordTo_1 : decode cX1_hasCordTo 1 = .ok (.aload_n 0, 1) := by decide +kernel
theorem dX1_hasCordTo_2 : decode cX1_hasCordTo 2 = .ok (.getfield 24, 3) := by decide +kernel
theorem dX1_hasCordTo_5 : decode cX1_hasCordTo 5 = .ok (.invokestatic 33, 3) := by decide +kernel
theorem dX1_hasCordTo_8 : decode cX1_hasCordTo 8 = .ok (.ireturn, 1) := by decide +kernel
theorem dX1_worstOn_0 : decode cX1_worstOn 0 = .ok (.aload_n 0, 1) := by decide +kernel
theorem dX1_worstOn_1 : decode cX1_worstOn 1 = .ok (.iload_n 1, 1) := by decide +kernel
theorem dX1_worstOn_2 : decode cX1_worstOn 2 = .ok (.aload_n 0, 1) := by decide +kernel
theorem dX1_worstOn_3 : decode cX1_worstOn 3 = .ok (.getfield 24, 3) := by decide +kernel
theorem dX1_worstOn_6 : decode cX1_worstOn 6 = .ok (.invokevirtual 37, 3) := by decide +kernel
theorem dX1_worstOn_9 : decode cX1_worstOn 9 = .ok (.ireturn, 1) := by decide +kernel
theorem dX1_worstWith_0 : decode cX1_worstWith 0 = .ok (.iload_n 1, 1) := by decide +kernel
theorem dX1_worstWith_1 : decode cX1_worstWith 1 = .ok (.iload_n 2, 1) := by decide +kernel
theorem dX1_worstWith_2 : decode cX1_worstWith 2 = .ok (.invokestatic 33, 3) := by decide +kernel
theorem dX1_worstWith_5 : decode cX1_worstWith 5 = .ok (.ifCond .eq 10, 3) := by decide +kernel
theorem dX1_worstWith_8 : decode cX1_worstWith 8 = .ok (.aload_n 0, 1) := by decide +kernel
theorem dX1_worstWith_9 : decode cX1_worstWith 9 = .ok (.getfield 18, 3) := by decide +kernel
theorem dX1_worstWith_12 : decode cX1_worstWith 12 = .ok (.goto 4, 3) := by decide +kernel
theorem dX1_worstWith_15 : decode cX1_worstWith 15 = .ok (.iconst 0, 1) := by decide +kernel
theorem dX1_worstWith_16 : decode cX1_worstWith 16 = .ok (.ireturn, 1) := by decide +kernel
theorem dX1_leadTo_0 : decode cX1_leadTo 0 = .ok (.iload_n 1, 1) := by decide +kernel
theorem dX1_leadTo_1 : decode cX1_leadTo 1 = .ok (.iload_n 0, 1) := by decide +kernel
theorem dX1_leadTo_2 : decode cX1_leadTo 2 = .ok (.if_icmp .eq 8, 3) := by decide +kernel
theorem dX1_leadTo_5 : decode cX1_leadTo 5 = .ok (.iload_n 1, 1) := by decide +kernel
theorem dX1_leadTo_6 : decode cX1_leadTo 6 = .ok (.iconst 2, 1) := by decide +kernel
theorem dX1_leadTo_7 : decode cX1_leadTo 7 = .ok (.if_icmp .ne 7, 3) := by decide +kernel
theorem dX1_leadTo_10 : decode cX1_leadTo 10 = .ok (.iconst 1, 1) := by decide +kernel
theorem dX1_leadTo_11 : decode cX1_leadTo 11 = .ok (.goto 4, 3) := by decide +kernel
theorem dX1_leadTo_14 : decode cX1_leadTo 14 = .ok (.iconst 0, 1) := by decide +kernel
theorem dX1_leadTo_15 : decode cX1_leadTo 15 = .ok (.ireturn, 1) := by decide +kernel
theorem dX1_packsAhead_0 : decode cX1_packsAhead 0 = .ok (.aload_n 0, 1) := by decide +kernel
theorem dX1_packsAhead_1 : decode cX1_packsAhead 1 = .ok (.getfield 15, 3) := by decide +kernel
theorem dX1_packsAhead_4 : decode cX1_packsAhead 4 = .ok (.aload_n 1, 1) := by decide +kernel
theorem dX1_packsAhead_5 : decode cX1_packsAhead 5 = .ok (.getfield 15, 3) := by decide +kernel
theorem dX1_packsAhead_8 : decode cX1_packsAhead 8 = .ok (.if_icmp .eq 22, 3) := by decide +kernel
theorem dX1_packsAhead_11 : decode cX1_packsAhead 11 = .ok (.aload_n 0, 1) := by decide +kernel
theorem dX1_packsAhead_12 : decode cX1_packsAhead 12 = .ok (.getfield 15, 3) := by decide +kernel
theorem dX1_packsAhead_15 : decode cX1_packsAhead 15 = .ok (.aload_n 1, 1) := by decide +kernel
theorem dX1_packsAhead_16 : decode cX1_packsAhead 16 = .ok (.getfield 15, 3) := by decide +kernel
theorem dX1_packsAhead_19 : decode cX1_packsAhead 19 = .ok (.if_icmp .le 7, 3) := by decide +kernel
theorem dX1_packsAhead_22 : decode cX1_packsAhead 22 = .ok (.iconst 1, 1) := by decide +kernel
theorem dX1_packsAhead_23 : decode cX1_packsAhead 23 = .ok (.goto 23, 3) := by decide +kernel
theorem dX1_packsAhead_26 : decode cX1_packsAhead 26 = .ok (.iconst 0, 1) := by decide +kernel
theorem dX1_packsAhead_27 : decode cX1_packsAhead 27 = .ok (.goto 19, 3) := by decide +kernel
theorem dX1_packsAhead_30 : decode cX1_packsAhead 30 = .ok (.aload_n 0, 1) := by decide +kernel
theorem dX1_packsAhead_31 : decode cX1_packsAhead 31 = .ok (.getfield 18, 3) := by decide +kernel
theorem dX1_packsAhead_34 : decode cX1_packsAhead 34 = .ok (.aload_n 1, 1) := by decide +kernel
theorem dX1_packsAhead_35 : decode cX1_packsAhead 35 = .ok (.getfield 18, 3) := by decide +kernel
theorem dX1_packsAhead_38 : decode cX1_packsAhead 38 = .ok (.if_icmp .le 7, 3) := by decide +kernel
theorem dX1_packsAhead_41 : decode cX1_packsAhead 41 = .ok (.iconst 1, 1) := by decide +kernel
theorem dX1_packsAhead_42 : decode cX1_packsAhead 42 = .ok (.goto 4, 3) := by decide +kernel
theorem dX1_packsAhead_45 : decode cX1_packsAhead 45 = .ok (.iconst 0, 1) := by decide +kernel
theorem dX1_packsAhead_46 : decode cX1_packsAhead 46 = .ok (.ireturn, 1) := by decide +kernel
theorem dX2_init_0 : decode cX2_init 0 = .ok (.aload_n 0, 1) := by decide +kernel
theorem dX2_init_1 : decode cX2_init 1 = .ok (.invokespecial 1, 3) := by decide +kernel
theorem dX2_init_4 : decode cX2_init 4 = .ok (.aload_n 0, 1) := by decide +kernel
theorem dX2_init_5 : decode cX2_init 5 = .ok (.iload_n 1, 1) := by decide +kernel
theorem dX2_init_6 : decode cX2_init 6 = .ok (.putfield 7, 3) := by decide +kernel
theorem dX2_init_9 : decode cX2_init 9 = .ok (.aload_n 0, 1) := by decide +kernel
theorem dX2_init_10 : decode cX2_init 10 = .ok (.iload_n 2, 1) := by decide +kernel
theorem dX2_init_11 : decode cX2_init 11 = .ok (.putfield 13, 3) := by decide +kernel
theorem dX2_init_14 : decode cX2_init 14 = .ok (.aload_n 0, 1) := by decide +kernel
theorem dX2_init_15 : decode cX2_init 15 = .ok (.iload_n 3, 1) := by decide +kernel
theorem dX2_init_16 : decode cX2_init 16 = .ok (.putfield 16, 3) := by decide +kernel
theorem dX2_init_19 : decode cX2_init 19 = .ok (.aload_n 0, 1) := by decide +kernel
theorem dX2_init_20 : decode cX2_init 20 = .ok (.iload 4, 2) := by decide +kernel
theorem dX2_init_22 : decode cX2_init 22 = .ok (.putfield 19, 3) := by decide +kernel
theorem dX2_init_25 : decode cX2_init 25 = .ok (.return_, 1) := by decide +kernel
theorem dX3_init_0 : decode cX3_init 0 = .ok (.aload_n 0, 1) := by decide +kernel
theorem dX3_init_1 : decode cX3_init 1 = .ok (.invokespecial 3, 3) := by decide +kernel
theorem dX3_init_4 : decode cX3_init 4 = .ok (.aload_n 0, 1) := by decide +kernel
theorem dX3_init_5 : decode cX3_init 5 = .ok (.new 9, 3) := by decide +kernel
theorem dX3_init_8 : decode cX3_init 8 = .ok (.dup, 1) := by decide +kernel
theorem dX3_init_9 : decode cX3_init 9 = .ok (.invokespecial 11, 3) := by decide +kernel
theorem dX3_init_12 : decode cX3_init 12 = .ok (.putfield 12, 3) := by decide +kernel
theorem dX3_init_15 : decode cX3_init 15 = .ok (.aload_n 0, 1) := by decide +kernel
theorem dX3_init_16 : decode cX3_init 16 = .ok (.iconst 4, 1) := by decide +kernel
theorem dX3_init_17 : decode cX3_init 17 = .ok (.newarray .int, 2) := by decide +kernel
theorem dX3_init_19 : decode cX3_init 19 = .ok (.putfield 18, 3) := by decide +kernel
theorem dX3_init_22 : decode cX3_init 22 = .ok (.aload_n 0, 1) := by decide +kernel
theorem dX3_init_23 : decode cX3_init 23 = .ok (.iconst 4, 1) := by decide +kernel
theorem dX3_init_24 : decode cX3_init 24 = .ok (.newarray .int, 2) := by decide +kernel
theorem dX3_init_26 : decode cX3_init 26 = .ok (.putfield 22, 3) := by decide +kernel
theorem dX3_init_29 : decode cX3_init 29 = .ok (.aload_n 0, 1) := by decide +kernel
theorem dX3_init_30 : decode cX3_init 30 = .ok (.iconst 2, 1) := by decide +kernel
theorem dX3_init_31 : decode cX3_init 31 = .ok (.newarray .int, 2) := by decide +kernel
theorem dX3_init_33 : decode cX3_init 33 = .ok (.putfield 25, 3) := by decide +kernel
theorem dX3_init_36 : decode cX3_init 36 = .ok (.aload_n 0, 1) := by decide +kernel
theorem dX3_init_37 : decode cX3_init 37 = .ok (.getfield 18, 3) := by decide +kernel
theorem dX3_init_40 : decode cX3_init 40 = .ok (.sipush 10000, 3) := by decide +kernel
theorem dX3_init_43 : decode cX3_init 43 = .ok (.invokestatic 28, 3) := by decide +kernel
theorem dX3_init_46 : decode cX3_init 46 = .ok (.aload_n 0, 1) := by decide +kernel
theorem dX3_init_47 : decode cX3_init 47 = .ok (.getfield 22, 3) := by decide +kernel
theorem dX3_init_50 : decode cX3_init 50 = .ok (.sipush 10000, 3) := by decide +kernel
theorem dX3_init_53 : decode cX3_init 53 = .ok (.invokestatic 28, 3) := by decide +kernel
theorem dX3_init_56 : decode cX3_init 56 = .ok (.aload_n 0, 1) := by decide +kernel
theorem dX3_init_57 : decode cX3_init 57 = .ok (.getfield 25, 3) := by decide +kernel
theorem dX3_init_60 : decode cX3_init 60 = .ok (.sipush 20000, 3) := by decide +kernel
theorem dX3_init_63 : decode cX3_init 63 = .ok (.invokestatic 28, 3) := by decide +kernel
theorem dX3_init_66 : decode cX3_init 66 = .ok (.return_, 1) := by decide +kernel
theorem dX4_init_0 : decode cX4_init 0 = .ok (.aload_n 0, 1) := by decide +kernel
theorem dX4_init_1 : decode cX4_init 1 = .ok (.invokespecial 3, 3) := by decide +kernel
theorem dX4_init_4 : decode cX4_init 4 = .ok (.aload_n 0, 1) := by decide +kernel
theorem dX4_init_5 : decode cX4_init 5 = .ok (.new 9, 3) := by decide +kernel
theorem dX4_init_8 : decode cX4_init 8 = .ok (.dup, 1) := by decide +kernel
theorem dX4_init_9 : decode cX4_init 9 = .ok (.invokespecial 11, 3) := by decide +kernel
theorem dX4_init_12 : decode cX4_init 12 = .ok (.putfield 12, 3) := by decide +kernel
theorem dX4_init_15 : decode cX4_init 15 = .ok (.aload_n 0, 1) := by decide +kernel
theorem dX4_init_16 : decode cX4_init 16 = .ok (.iconst 2, 1) := by decide +kernel
theorem dX4_init_17 : decode cX4_init 17 = .ok (.newarray .boolean, 2) := by decide +kernel
theorem dX4_init_19 : decode cX4_init 19 = .ok (.putfield 16, 3) := by decide +kernel
theorem dX4_init_22 : decode cX4_init 22 = .ok (.aload_n 0, 1) := by decide +kernel
theorem dX4_init_23 : decode cX4_init 23 = .ok (.new 20, 3) := by decide +kernel
theorem dX4_init_26 : decode cX4_init 26 = .ok (.dup, 1) := by decide +kernel
theorem dX4_init_27 : decode cX4_init 27 = .ok (.invokespecial 22, 3) := by decide +kernel
theorem dX4_init_30 : decode cX4_init 30 = .ok (.putfield 23, 3) := by decide +kernel
theorem dX4_init_33 : decode cX4_init 33 = .ok (.aload_n 0, 1) := by decide +kernel
theorem dX4_init_34 : decode cX4_init 34 = .ok (.new 20, 3) := by decide +kernel
theorem dX4_init_37 : decode cX4_init 37 = .ok (.dup, 1) := by decide +kernel
theorem dX4_init_38 : decode cX4_init 38 = .ok (.invokespecial 22, 3) := by decide +kernel
theorem dX4_init_41 : decode cX4_init 41 = .ok (.putfield 27, 3) := by decide +kernel
theorem dX4_init_44 : decode cX4_init 44 = .ok (.aload_n 0, 1) := by decide +kernel
theorem dX4_init_45 : decode cX4_init 45 = .ok (.new 30, 3) := by decide +kernel
theorem dX4_init_48 : decode cX4_init 48 = .ok (.dup, 1) := by decide +kernel
theorem dX4_init_49 : decode cX4_init 49 = .ok (.aload_n 0, 1) := by decide +kernel
theorem dX4_init_50 : decode cX4_init 50 = .ok (.getfield 12, 3) := by decide +kernel
theorem dX4_init_53 : decode cX4_init 53 = .ok (.invokespecial 32, 3) := by decide +kernel
theorem dX4_init_56 : decode cX4_init 56 = .ok (.putfield 35, 3) := by decide +kernel
theorem dX4_init_59 : decode cX4_init 59 = .ok (.aload_n 0, 1) := by decide +kernel
theorem dX4_init_60 : decode cX4_init 60 = .ok (.new 30, 3) := by decide +kernel
theorem dX4_init_63 : decode cX4_init 63 = .ok (.dup, 1) := by decide +kernel
theorem dX4_init_64 : decode cX4_init 64 = .ok (.aload_n 0, 1) := by decide +kernel
theorem dX4_init_65 : decode cX4_init 65 = .ok (.getfield 12, 3) := by decide +kernel
theorem dX4_init_68 : decode cX4_init 68 = .ok (.invokespecial 32, 3) := by decide +kernel
theorem dX4_init_71 : decode cX4_init 71 = .ok (.putfield 39, 3) := by decide +kernel
theorem dX4_init_74 : decode cX4_init 74 = .ok (.aload_n 0, 1) := by decide +kernel
theorem dX4_init_75 : decode cX4_init 75 = .ok (.iconst 0, 1) := by decide +kernel
theorem dX4_init_76 : decode cX4_init 76 = .ok (.putfield 42, 3) := by decide +kernel
theorem dX4_init_79 : decode cX4_init 79 = .ok (.return_, 1) := by decide +kernel
theorem dX4_addRack_0 : decode cX4_addRack 0 = .ok (.iload_n 1, 1) := by decide +kernel
theorem dX4_addRack_1 : decode cX4_addRack 1 = .ok (.iconst 0, 1) := by decide +kernel
theorem dX4_addRack_2 : decode cX4_addRack 2 = .ok (.iconst 3, 1) := by decide +kernel
theorem dX4_addRack_3 : decode cX4_addRack 3 = .ok (.invokestatic 46, 3) := by decide +kernel
theorem dX4_addRack_6 : decode cX4_addRack 6 = .ok (.iload_n 2, 1) := by decide +kernel
theorem dX4_addRack_7 : decode cX4_addRack 7 = .ok (.iconst 1, 1) := by decide +kernel
theorem dX4_addRack_8 : decode cX4_addRack 8 = .ok (.bipush 20, 2) := by decide +kernel
theorem dX4_addRack_10 : decode cX4_addRack 10 = .ok (.invokestatic 46, 3) := by decide +kernel
theorem dX4_addRack_13 : decode cX4_addRack 13 = .ok (.iload_n 3, 1) := by decide +kernel
theorem dX4_addRack_14 : decode cX4_addRack 14 = .ok (.iconst 0, 1) := by decide +kernel
theorem dX4_addRack_15 : decode cX4_addRack 15 = .ok (.sipush 10000, 3) := by decide +kernel
theorem dX4_addRack_18 : decode cX4_addRack 18 = .ok (.invokestatic 46, 3) := by decide +kernel
theorem dX4_addRack_21 : decode cX4_addRack 21 = .ok (.iload 4, 2) := by decide +kernel
theorem dX4_addRack_23 : decode cX4_addRack 23 = .ok (.iconst 0, 1) := by decide +kernel
theorem dX4_addRack_24 : decode cX4_addRack 24 = .ok (.sipush 10000, 3) := by decide +kernel
theorem dX4_addRack_27 : decode cX4_addRack 27 = .ok (.invokestatic 46, 3) := by decide +kernel
theorem dX4_addRack_30 : decode cX4_addRack 30 = .ok (.aload_n 0, 1) := by decide +kernel
theorem dX4_addRack_31 : decode cX4_addRack 31 = .ok (.getfield 12, 3) := by decide +kernel
theorem dX4_addRack_34 : decode cX4_addRack 34 = .ok (.getfield 50, 3) := by decide +kernel
theorem dX4_addRack_37 : decode cX4_addRack 37 = .ok (.invokevirtual 53, 3) := by decide +kernel
theorem dX4_addRack_40 : decode cX4_addRack 40 = .ok (.istore 5, 2) := by decide +kernel
theorem dX4_addRack_42 : decode cX4_addRack 42 = .ok (.iload 5, 2) := by decide +kernel
theorem dX4_addRack_44 : decode cX4_addRack 44 = .ok (.bipush 8, 2) := by decide +kernel
theorem dX4_addRack_46 : decode cX4_addRack 46 = .ok (.if_icmp .lt 13, 3) := by decide +kernel
theorem dX4_addRack_49 : decode cX4_addRack 49 = .ok (.new 57, 3) := by decide +kernel
theorem dX4_addRack_52 : decode cX4_addRack 52 = .ok (.dup, 1) := by decide +kernel
theorem dX4_addRack_53 : decode cX4_addRack 53 = .ok (.ldc 59, 2) := by decide +kernel
theorem dX4_addRack_55 : decode cX4_addRack 55 = .ok (.invokespecial 61, 3) := by decide +kernel
theorem dX4_addRack_58 : decode cX4_addRack 58 = .ok (.athrow, 1) := by decide +kernel
theorem dX4_addRack_59 : decode cX4_addRack 59 = .ok (.aload_n 0, 1) := by decide +kernel
theorem dX4_addRack_60 : decode cX4_addRack 60 = .ok (.getfield 12, 3) := by decide +kernel
theorem dX4_addRack_63 : decode cX4_addRack 63 = .ok (.getfield 50, 3) := by decide +kernel
theorem dX4_addRack_66 : decode cX4_addRack 66 = .ok (.new 64, 3) := by decide +kernel
theorem dX4_addRack_69 : decode cX4_addRack 69 = .ok (.dup, 1) := by decide +kernel
theorem dX4_addRack_70 : decode cX4_addRack 70 = .ok (.iload_n 1, 1) := by decide +kernel
theorem dX4_addRack_71 : decode cX4_addRack 71 = .ok (.iload_n 2, 1) := by decide +kernel
theorem dX4_addRack_72 : decode cX4_addRack 72 = .ok (.iload_n 3, 1) := by decide +kernel
theorem dX4_addRack_73 : decode cX4_addRack 73 = .ok (.iload 4, 2) := by decide +kernel
theorem dX4_addRack_75 : decode cX4_addRack 75 = .ok (.invokespecial 66, 3) := by decide +kernel
theorem dX4_addRack_78 : decode cX4_addRack 78 = .ok (.invokevirtual 69, 3) := by decide +kernel
theorem dX4_addRack_81 : decode cX4_addRack 81 = .ok (.pop, 1) := by decide +kernel
theorem dX4_addRack_82 : decode cX4_addRack 82 = .ok (.iload 5, 2) := by decide +kernel
theorem dX4_addRack_84 : decode cX4_addRack 84 = .ok (.ireturn, 1) := by decide +kernel
theorem dX4_setRow_0 : decode cX4_setRow 0 = .ok (.iload_n 1, 1) := by decide +kernel
theorem dX4_setRow_1 : decode cX4_setRow 1 = .ok (.iconst 0, 1) := by decide +kernel
theorem dX4_setRow_2 : decode cX4_setRow 2 = .ok (.iconst 3, 1) := by decide +kernel
theorem dX4_setRow_3 : decode cX4_setRow 3 = .ok (.invokestatic 46, 3) := by decide +kernel
theorem dX4_setRow_6 : decode cX4_setRow 6 = .ok (.iload_n 2, 1) := by decide +kernel
theorem dX4_setRow_7 : decode cX4_setRow 7 = .ok (.iconst 0, 1) := by decide +kernel
theorem dX4_setRow_8 : decode cX4_setRow 8 = .ok (.sipush 10000, 3) := by decide +kernel
theorem dX4_setRow_11 : decode cX4_setRow 11 = .ok (.invokestatic 46, 3) := by decide +kernel
theorem dX4_setRow_14 : decode cX4_setRow 14 = .ok (.iload_n 3, 1) := by decide +kernel
theorem dX4_setRow_15 : decode cX4_setRow 15 = .ok (.iconst 0, 1) := by decide +kernel
theorem dX4_setRow_16 : decode cX4_setRow 16 = .ok (.sipush 10000, 3) := by decide +kernel
theorem dX4_setRow_19 : decode cX4_setRow 19 = .ok (.invokestatic 46, 3) := by decide +kernel
theorem dX4_setRow_22 : decode cX4_setRow 22 = .ok (.aload_n 0, 1) := by decide +kernel
theorem dX4_setRow_23 : decode cX4_setRow 23 = .ok (.getfield 35, 3) := by decide +kernel
theorem dX4_setRow_26 : decode cX4_setRow 26 = .ok (.iload_n 1, 1) := by decide +kernel
theorem dX4_setRow_27 : decode cX4_setRow 27 = .ok (.invokevirtual 73, 3) := by decide +kernel
theorem dX4_setRow_30 : decode cX4_setRow 30 = .ok (.iload_n 2, 1) := by decide +kernel
theorem dX4_setRow_31 : decode cX4_setRow 31 = .ok (.if_icmp .gt 15, 3) := by decide +kernel
theorem dX4_setRow_34 : decode cX4_setRow 34 = .ok (.aload_n 0, 1) := by decide +kernel
theorem dX4_setRow_35 : decode cX4_setRow 35 = .ok (.getfield 35, 3) := by decide +kernel
theorem dX4_setRow_38 : decode cX4_setRow 38 = .ok (.iload_n 1, 1) := by decide +kernel
theorem dX4_setRow_39 : decode cX4_setRow 39 = .ok (.invokevirtual 77, 3) := by decide +kernel
theorem dX4_setRow_42 : decode cX4_setRow 42 = .ok (.iload_n 3, 1) := by decide +kernel
theorem dX4_setRow_43 : decode cX4_setRow 43 = .ok (.if_icmp .le 13, 3) := by decide +kernel
theorem dX4_setRow_46 : decode cX4_setRow 46 = .ok (.new 57, 3) := by decide +kernel
theorem dX4_setRow_49 : decode cX4_setRow 49 = .ok (.dup, 1) := by decide +kernel
theorem dX4_setRow_50 : decode cX4_setRow 50 = .ok (.ldc 80, 2) := by decide +kernel
theorem dX4_setRow_52 : decode cX4_setRow 52 = .ok (.invokespecial 61, 3) := by decide +kernel
theorem dX4_setRow_55 : decode cX4_setRow 55 = .ok (.athrow, 1) := by decide +kernel
theorem dX4_setRow_56 : decode cX4_setRow 56 = .ok (.aload_n 0, 1) := by decide +kernel
theorem dX4_setRow_57 : decode cX4_setRow 57 = .ok (.getfield 12, 3) := by decide +kernel
theorem dX4_setRow_60 : decode cX4_setRow 60 = .ok (.getfield 82, 3) := by decide +kernel
theorem dX4_setRow_63 : decode cX4_setRow 63 = .ok (.iload_n 1, 1) := by decide +kernel
theorem dX4_setRow_64 : decode cX4_setRow 64 = .ok (.iload_n 2, 1) := by decide +kernel
theorem dX4_setRow_65 : decode cX4_setRow 65 = .ok (.iastore, 1) := by decide +kernel
theorem dX4_setRow_66 : decode cX4_setRow 66 = .ok (.aload_n 0, 1) := by decide +kernel
theorem dX4_setRow_67 : decode cX4_setRow 67 = .ok (.getfield 12, 3) := by decide +kernel
theorem dX4_setRow_70 : decode cX4_setRow 70 = .ok (.getfield 86, 3) := by decide +kernel
theorem dX4_setRow_73 : decode cX4_setRow 73 = .ok (.iload_n 1, 1) := by decide +kernel
theorem dX4_setRow_74 : decode cX4_setRow 74 = .ok (.iload_n 3, 1) := by decide +kernel
theorem dX4_setRow_75 : decode cX4_setRow 75 = .ok (.iastore, 1) := by decide +kernel
theorem dX4_setRow_76 : decode cX4_setRow 76 = .ok (.return_, 1) := by decide +kernel
theorem dX4_setFeed_0 : decode cX4_setFeed 0 = .ok (.iload_n 1, 1) := by decide +kernel
theorem dX4_setFeed_1 : decode cX4_setFeed 1 = .ok (.invokestatic 89, 3) := by decide +kernel
theorem dX4_setFeed_4 : decode cX4_setFeed 4 = .ok (.iload_n 2, 1) := by decide +kernel
theorem dX4_setFeed_5 : decode cX4_setFeed 5 = .ok (.iconst 0, 1) := by decide +kernel
theorem dX4_setFeed_6 : decode cX4_setFeed 6 = .ok (.sipush 20000, 3) := by decide +kernel
theorem dX4_setFeed_9 : decode cX4_setFeed 9 = .ok (.invokestatic 46, 3) := by decide +kernel
theorem dX4_setFeed_12 : decode cX4_setFeed 12 = .ok (.aload_n 0, 1) := by decide +kernel
theorem dX4_setFeed_13 : decode cX4_setFeed 13 = .ok (.getfield 35, 3) := by decide +kernel
theorem dX4_setFeed_16 : decode cX4_setFeed 16 = .ok (.iload_n 1, 1) := by decide +kernel
theorem dX4_setFeed_17 : decode cX4_setFeed 17 = .ok (.invokevirtual 93, 3) := by decide +kernel
theorem dX4_setFeed_20 : decode cX4_setFeed 20 = .ok (.iload_n 2, 1) := by decide +kernel
theorem dX4_setFeed_21 : decode cX4_setFeed 21 = .ok (.if_icmp .le 13, 3) := by decide +kernel
theorem dX4_setFeed_24 : decode cX4_setFeed 24 = .ok (.new 57, 3) := by decide +kernel
theorem dX4_setFeed_27 : decode cX4_setFeed 27 = .ok (.dup, 1) := by decide +kernel
theorem dX4_setFeed_28 : decode cX4_setFeed 28 = .ok (.ldc 96, 2) := by decide +kernel
theorem dX4_setFeed_30 : decode cX4_setFeed 30 = .ok (.invokespecial 61, 3) := by decide +kernel
theorem dX4_setFeed_33 : decode cX4_setFeed 33 = .ok (.athrow, 1) := by decide +kernel
theorem dX4_setFeed_34 : decode cX4_setFeed 34 = .ok (.aload_n 0, 1) := by decide +kernel
theorem dX4_setFeed_35 : decode cX4_setFeed 35 = .ok (.getfield 12, 3) := by decide +kernel
theorem dX4_setFeed_38 : decode cX4_setFeed 38 = .ok (.getfield 98, 3) := by decide +kernel
theorem dX4_setFeed_41 : decode cX4_setFeed 41 = .ok (.iload_n 1, 1) := by decide +kernel
theorem dX4_setFeed_42 : decode cX4_setFeed 42 = .ok (.iaload, 1) := by decide +kernel
theorem dX4_setFeed_43 : decode cX4_setFeed 43 = .ok (.istore_n 3, 1) := by decide +kernel
theorem dX4_setFeed_44 : decode cX4_setFeed 44 = .ok (.aload_n 0, 1) := by decide +kernel
theorem dX4_setFeed_45 : decode cX4_setFeed 45 = .ok (.getfield 12, 3) := by decide +kernel
theorem dX4_setFeed_48 : decode cX4_setFeed 48 = .ok (.getfield 98, 3) := by decide +kernel
theorem dX4_setFeed_51 : decode cX4_setFeed 51 = .ok (.iload_n 1, 1) := by decide +kernel
theorem dX4_setFeed_52 : decode cX4_setFeed 52 = .ok (.iload_n 2, 1) := by decide +kernel
theorem dX4_setFeed_53 : decode cX4_setFeed 53 = .ok (.iastore, 1) := by decide +kernel
theorem dX4_setFeed_54 : decode cX4_setFeed 54 = .ok (.iload_n 3, 1) := by decide +kernel
theorem dX4_setFeed_55 : decode cX4_setFeed 55 = .ok (.ireturn, 1) := by decide +kernel
theorem dX4_switchFeed_0 : decode cX4_switchFeed 0 = .ok (.iload_n 1, 1) := by decide +kernel
theorem dX4_switchFeed_1 : decode cX4_switchFeed 1 = .ok (.invokestatic 89, 3) := by decide +kernel
theorem dX4_switchFeed_4 : decode cX4_switchFeed 4 = .ok (.aload_n 0, 1) := by decide +kernel
theorem dX4_switchFeed_5 : decode cX4_switchFeed 5 = .ok (.getfield 16, 3) := by decide +kernel
theorem dX4_switchFeed_8 : decode cX4_switchFeed 8 = .ok (.iload_n 1, 1) := by decide +kernel
theorem dX4_switchFeed_9 : decode cX4_switchFeed 9 = .ok (.aload_n 0, 1) := by decide +kernel
theorem dX4_switchFeed_10 : decode cX4_switchFeed 10 = .ok (.getfield 16, 3) := by decide +kernel
theorem dX4_switchFeed_13 : decode cX4_switchFeed 13 = .ok (.iload_n 1, 1) := by decide +kernel
theorem dX4_switchFeed_14 : decode cX4_switchFeed 14 = .ok (.baload, 1) := by decide +kernel
theorem dX4_switchFeed_15 : decode cX4_switchFeed 15 = .ok (.ifCond .ne 7, 3) := by decide +kernel
theorem dX4_switchFeed_18 : decode cX4_switchFeed 18 = .ok (.iconst 1, 1) := by decide +kernel
theorem dX4_switchFeed_19 : decode cX4_switchFeed 19 = .ok (.goto 4, 3) := by decide +kernel
theorem dX4_switchFeed_22 : decode cX4_switchFeed 22 = .ok (.iconst 0, 1) := by decide +kernel
theorem dX4_switchFeed_23 : decode cX4_switchFeed 23 = .ok (.bastore, 1) := by decide +kernel
theorem dX4_switchFeed_24 : decode cX4_switchFeed 24 = .ok (.iconst 0, 1) := by decide +kernel
theorem dX4_switchFeed_25 : decode cX4_switchFeed 25 = .ok (.istore_n 2, 1) := by decide +kernel
theorem dX4_switchFeed_26 : decode cX4_switchFeed 26 = .ok (.iconst 0, 1) := by decide +kernel
theorem dX4_switchFeed_27 : decode cX4_switchFeed 27 = .ok (.istore_n 3, 1) := by decide +kernel
theorem dX4_switchFeed_28 : decode cX4_switchFeed 28 = .ok (.iload_n 3, 1) := by decide +kernel
theorem dX4_switchFeed_29 : decode cX4_switchFeed 29 = .ok (.aload_n 0, 1) := by decide +kernel
theorem dX4_switchFeed_30 : decode cX4_switchFeed 30 = .ok (.getfield 23, 3) := by decide +kernel
theorem dX4_switchFeed_33 : decode cX4_switchFeed 33 = .ok (.invokevirtual 53, 3) := by decide +kernel
theorem dX4_switchFeed_36 : decode cX4_switchFeed 36 = .ok (.if_icmp .ge 30, 3) := by decide +kernel
theorem dX4_switchFeed_39 : decode cX4_switchFeed 39 = .ok (.aload_n 0, 1) := by decide +kernel
theorem dX4_switchFeed_40 : decode cX4_switchFeed 40 = .ok (.aload_n 0, 1) := by decide +kernel
theorem dX4_switchFeed_41 : decode cX4_switchFeed 41 = .ok (.getfield 23, 3) := by decide +kernel
theorem dX4_switchFeed_44 : decode cX4_switchFeed 44 = .ok (.iload_n 3, 1) := by decide +kernel
theorem dX4_switchFeed_45 : decode cX4_switchFeed 45 = .ok (.invokevirtual 101, 3) := by decide +kernel
theorem dX4_switchFeed_48 : decode cX4_switchFeed 48 = .ok (.checkcast 105, 3) := by decide +kernel
theorem dX4_switchFeed_51 : decode cX4_switchFeed 51 = .ok (.invokevirtual 107, 3) := by decide +kernel
theorem dX4_switchFeed_54 : decode cX4_switchFeed 54 = .ok (.ifCond .eq 6, 3) := by decide +kernel
theorem dX4_switchFeed_57 : decode cX4_switchFeed 57 = .ok (.iinc 2 1, 3) := by decide +kernel
theorem dX4_switchFeed_60 : decode cX4_switchFeed 60 = .ok (.iinc 3 1, 3) := by decide +kernel
theorem dX4_switchFeed_63 : decode cX4_switchFeed 63 = .ok (.goto (-35), 3) := by decide +kernel
theorem dX4_switchFeed_66 : decode cX4_switchFeed 66 = .ok (.iload_n 2, 1) := by decide +kernel
theorem dX4_switchFeed_67 : decode cX4_switchFeed 67 = .ok (.ireturn, 1) := by decide +kernel
theorem dX4_hasFailed_0 : decode cX4_hasFailed 0 = .ok (.iload_n 1, 1) := by decide +kernel
theorem dX4_hasFailed_1 : decode cX4_hasFailed 1 = .ok (.invokestatic 89, 3) := by decide +kernel
theorem dX4_hasFailed_4 : decode cX4_hasFailed 4 = .ok (.aload_n 0, 1) := by decide +kernel
theorem dX4_hasFailed_5 : decode cX4_hasFailed 5 = .ok (.getfield 16, 3) := by decide +kernel
theorem dX4_hasFailed_8 : decode cX4_hasFailed 8 = .ok (.iload_n 1, 1) := by decide +kernel
theorem dX4_hasFailed_9 : decode cX4_hasFailed 9 = .ok (.baload, 1) := by decide +kernel
theorem dX4_hasFailed_10 : decode cX4_hasFailed 10 = .ok (.ireturn, 1) := by decide +kernel
theorem dX4_racks_0 : decode cX4_racks 0 = .ok (.aload_n 0, 1) := by decide +kernel
theorem dX4_racks_1 : decode cX4_racks 1 = .ok (.getfield 12, 3) := by decide +kernel
theorem dX4_racks_4 : decode cX4_racks 4 = .ok (.getfield 50, 3) := by decide +kernel
theorem dX4_racks_7 : decode cX4_racks 7 = .ok (.invokevirtual 53, 3) := by decide +kernel
theorem dX4_racks_10 : decode cX4_racks 10 = .ok (.ireturn, 1) := by decide +kernel
theorem dX4_place_0 : decode cX4_place 0 = .ok (.aload_n 0, 1) := by decide +kernel
theorem dX4_place_1 : decode cX4_place 1 = .ok (.iload_n 1, 1) := by decide +kernel
theorem dX4_place_2 : decode cX4_place 2 = .ok (.iload_n 2, 1) := by decide +kernel
theorem dX4_place_3 : decode cX4_place 3 = .ok (.iload_n 3, 1) := by decide +kernel
theorem dX4_place_4 : decode cX4_place 4 = .ok (.iload 4, 2) := by decide +kernel
theorem dX4_place_6 : decode cX4_place 6 = .ok (.invokevirtual 111, 3) := by decide +kernel
theorem dX4_place_9 : decode cX4_place 9 = .ok (.astore 5, 2) := by decide +kernel
theorem dX4_place_11 : decode cX4_place 11 = .ok (.aload_n 0, 1) := by decide +kernel
theorem dX4_place_12 : decode cX4_place 12 = .ok (.getfield 23, 3) := by decide +kernel
theorem dX4_place_15 : decode cX4_place 15 = .ok (.invokevirtual 53, 3) := by decide +kernel
theorem dX4_place_18 : decode cX4_place 18 = .ok (.bipush 60, 2) := by decide +kernel
theorem dX4_place_20 : decode cX4_place 20 = .ok (.if_icmp .lt 13, 3) := by decide +kernel
theorem dX4_place_23 : decode cX4_place 23 = .ok (.new 57, 3) := by decide +kernel
theorem dX4_place_26 : decode cX4_place 26 = .ok (.dup, 1) := by decide +kernel
theorem dX4_place_27 : decode cX4_place 27 = .ok (.ldc 115, 2) := by decide +kernel
theorem dX4_place_29 : decode cX4_place 29 = .ok (.invokespecial 61, 3) := by decide +kernel
theorem dX4_place_32 : decode cX4_place 32 = .ok (.athrow, 1) := by decide +kernel
theorem dX4_place_33 : decode cX4_place 33 = .ok (.aload_n 0, 1) := by decide +kernel
theorem dX4_place_34 : decode cX4_place 34 = .ok (.getfield 35, 3) := by decide +kernel
theorem dX4_place_37 : decode cX4_place 37 = .ok (.aload 5, 2) := by decide +kernel
theorem dX4_place_39 : decode cX4_place 39 = .ok (.invokevirtual 117, 3) := by decide +kernel
theorem dX4_place_42 : decode cX4_place 42 = .ok (.istore 6, 2) := by decide +kernel
theorem dX4_place_44 : decode cX4_place 44 = .ok (.iload 6, 2) := by decide +kernel
theorem dX4_place_46 : decode cX4_place 46 = .ok (.iconst (-1), 1) := by decide +kernel
theorem dX4_place_47 : decode cX4_place 47 = .ok (.if_icmp .ne 13, 3) := by decide +kernel
theorem dX4_place_50 : decode cX4_place 50 = .ok (.new 57, 3) := by decide +kernel
theorem dX4_place_53 : decode cX4_place 53 = .ok (.dup, 1) := by decide +kernel
theorem dX4_place_54 : decode cX4_place 54 = .ok (.ldc 121, 2) := by decide +kernel
theorem dX4_place_56 : decode cX4_place 56 = .ok (.invokespecial 61, 3) := by decide +kernel
theorem dX4_place_59 : decode cX4_place 59 = .ok (.athrow, 1) := by decide +kernel
theorem dX4_place_60 : decode cX4_place 60 = .ok (.aload 5, 2) := by decide +kernel
theorem dX4_place_62 : decode cX4_place 62 = .ok (.iload 6, 2) := by decide +kernel
theorem dX4_place_64 : decode cX4_place 64 = .ok (.putfield 123, 3) := by decide +kernel
theorem dX4_place_67 : decode cX4_place 67 = .ok (.aload_n 0, 1) := by decide +kernel
theorem dX4_place_68 : decode cX4_place 68 = .ok (.getfield 35, 3) := by decide +kernel
theorem dX4_place_71 : decode cX4_place 71 = .ok (.aload 5, 2) := by decide +kernel
theorem dX4_place_73 : decode cX4_place 73 = .ok (.iload 6, 2) := by decide +kernel
theorem dX4_place_75 : decode cX4_place 75 = .ok (.invokevirtual 126, 3) := by decide +kernel
theorem dX4_place_78 : decode cX4_place 78 = .ok (.aload_n 0, 1) := by decide +kernel
theorem dX4_place_79 : decode cX4_place 79 = .ok (.getfield 23, 3) := by decide +kernel
theorem dX4_place_82 : decode cX4_place 82 = .ok (.aload 5, 2) := by decide +kernel
theorem dX4_place_84 : decode cX4_place 84 = .ok (.invokevirtual 69, 3) := by decide +kernel
theorem dX4_place_87 : decode cX4_place 87 = .ok (.pop, 1) := by decide +kernel
theorem dX4_place_88 : decode cX4_place 88 = .ok (.aload_n 0, 1) := by decide +kernel
theorem dX4_place_89 : decode cX4_place 89 = .ok (.dup, 1) := by decide +kernel
theorem dX4_place_90 : decode cX4_place 90 = .ok (.getfield 42, 3) := by decide +kernel
theorem dX4_place_93 : decode cX4_place 93 = .ok (.iconst 1, 1) := by decide +kernel
theorem dX4_place_94 : decode cX4_place 94 = .ok (.iadd, 1) := by decide +kernel
theorem dX4_place_95 : decode cX4_place 95 = .ok (.putfield 42, 3) := by decide +kernel
theorem dX4_place_98 : decode cX4_place 98 = .ok (.aload 5, 2) := by decide +kernel
theorem dX4_place_100 : decode cX4_place 100 = .ok (.getfield 130, 3) := by decide +kernel
theorem dX4_place_103 : decode cX4_place 103 = .ok (.ireturn, 1) := by decide +kernel
theorem dX4_takeOut_0 : decode cX4_takeOut 0 = .ok (.aload_n 0, 1) := by decide +kernel
theorem dX4_takeOut_1 : decode cX4_takeOut 1 = .ok (.iload_n 1, 1) := by decide +kernel
theorem dX4_takeOut_2 : decode cX4_takeOut 2 = .ok (.invokevirtual 133, 3) := by decide +kernel
theorem dX4_takeOut_5 : decode cX4_takeOut 5 = .ok (.istore_n 2, 1) := by decide +kernel
theorem dX4_takeOut_6 : decode cX4_takeOut 6 = .ok (.aload_n 0, 1) := by decide +kernel
theorem dX4_takeOut_7 : decode cX4_takeOut 7 = .ok (.getfield 23, 3) := by decide +kernel
theorem dX4_takeOut_10 : decode cX4_takeOut 10 = .ok (.iload_n 2, 1) := by decide +kernel
theorem dX4_takeOut_11 : decode cX4_takeOut 11 = .ok (.invokevirtual 101, 3) := by decide +kernel
theorem dX4_takeOut_14 : decode cX4_takeOut 14 = .ok (.checkcast 105, 3) := by decide +kernel
theorem dX4_takeOut_17 : decode cX4_takeOut 17 = .ok (.astore_n 3, 1) := by decide +kernel
theorem dX4_takeOut_18 : decode cX4_takeOut 18 = .ok (.aload_n 0, 1) := by decide +kernel
theorem dX4_takeOut_19 : decode cX4_takeOut 19 = .ok (.getfield 35, 3) := by decide +kernel
theorem dX4_takeOut_22 : decode cX4_takeOut 22 = .ok (.aload_n 3, 1) := by decide +kernel
theorem dX4_takeOut_23 : decode cX4_takeOut 23 = .ok (.invokevirtual 136, 3) := by decide +kernel
theorem dX4_takeOut_26 : decode cX4_takeOut 26 = .ok (.aload_n 0, 1) := by decide +kernel
theorem dX4_takeOut_27 : decode cX4_takeOut 27 = .ok (.getfield 23, 3) := by decide +kernel
theorem dX4_takeOut_30 : decode cX4_takeOut 30 = .ok (.iload_n 2, 1) := by decide +kernel
theorem dX4_takeOut_31 : decode cX4_takeOut 31 = .ok (.invokevirtual 140, 3) := by decide +kernel
theorem dX4_takeOut_34 : decode cX4_takeOut 34 = .ok (.pop, 1) := by decide +kernel
theorem dX4_takeOut_35 : decode cX4_takeOut 35 = .ok (.aload_n 3, 1) := by decide +kernel
theorem dX4_takeOut_36 : decode cX4_takeOut 36 = .ok (.getfield 123, 3) := by decide +kernel
theorem dX4_takeOut_39 : decode cX4_takeOut 39 = .ok (.invokestatic 143, 3) := by decide +kernel
theorem dX4_takeOut_42 : decode cX4_takeOut 42 = .ok (.ireturn, 1) := by decide +kernel
theorem dX4_cord_0 : decode cX4_cord 0 = .ok (.aload_n 0, 1) := by decide +kernel
theorem dX4_cord_1 : decode cX4_cord 1 = .ok (.iload_n 1, 1) := by decide +kernel
theorem dX4_cord_2 : decode cX4_cord 2 = .ok (.invokevirtual 146, 3) := by decide +kernel
theorem dX4_cord_5 : decode cX4_cord 5 = .ok (.astore_n 3, 1) := by decide +kernel
theorem dX4_cord_6 : decode cX4_cord 6 = .ok (.iload_n 2, 1) := by decide +kernel
theorem dX4_cord_7 : decode cX4_cord 7 = .ok (.iconst 0, 1) := by decide +kernel
theorem dX4_cord_8 : decode cX4_cord 8 = .ok (.iconst 2, 1) := by decide +kernel
theorem dX4_cord_9 : decode cX4_cord 9 = .ok (.invokestatic 46, 3) := by decide +kernel
theorem dX4_cord_12 : decode cX4_cord 12 = .ok (.aload_n 0, 1) := by decide +kernel
theorem dX4_cord_13 : decode cX4_cord 13 = .ok (.getfield 35, 3) := by decide +kernel
theorem dX4_cord_16 : decode cX4_cord 16 = .ok (.aload_n 3, 1) := by decide +kernel
theorem dX4_cord_17 : decode cX4_cord 17 = .ok (.iload_n 2, 1) := by decide +kernel
theorem dX4_cord_18 : decode cX4_cord 18 = .ok (.invokevirtual 150, 3) := by decide +kernel
theorem dX4_cord_21 : decode cX4_cord 21 = .ok (.ifCond .ne 13, 3) := by decide +kernel
theorem dX4_cord_24 : decode cX4_cord 24 = .ok (.new 57, 3) := by decide +kernel
theorem dX4_cord_27 : decode cX4_cord 27 = .ok (.dup, 1) := by decide +kernel
theorem dX4_cord_28 : decode cX4_cord 28 = .ok (.ldc 154, 2) := by decide +kernel
theorem dX4_cord_30 : decode cX4_cord 30 = .ok (.invokespecial 61, 3) := by decide +kernel
theorem dX4_cord_33 : decode cX4_cord 33 = .ok (.athrow, 1) := by decide +kernel
theorem dX4_cord_34 : decode cX4_cord 34 = .ok (.aload_n 3, 1) := by decide +kernel
theorem dX4_cord_35 : decode cX4_cord 35 = .ok (.getfield 156, 3) := by decide +kernel
theorem dX4_cord_38 : decode cX4_cord 38 = .ok (.istore 4, 2) := by decide +kernel
theorem dX4_cord_40 : decode cX4_cord 40 = .ok (.aload_n 0, 1) := by decide +kernel
theorem dX4_cord_41 : decode cX4_cord 41 = .ok (.getfield 35, 3) := by decide +kernel
theorem dX4_cord_44 : decode cX4_cord 44 = .ok (.aload_n 3, 1) := by decide +kernel
theorem dX4_cord_45 : decode cX4_cord 45 = .ok (.iload_n 2, 1) := by decide +kernel
theorem dX4_cord_46 : decode cX4_cord 46 = .ok (.invokevirtual 159, 3) := by decide +kernel
theorem dX4_cord_49 : decode cX4_cord 49 = .ok (.iload 4, 2) := by decide +kernel
theorem dX4_cord_51 : decode cX4_cord 51 = .ok (.ireturn, 1) := by decide +kernel
theorem dX4_pack_0 : decode cX4_pack 0 = .ok (.aload_n 0, 1) := by decide +kernel
theorem dX4_pack_1 : decode cX4_pack 1 = .ok (.invokevirtual 162, 3) := by decide +kernel
theorem dX4_pack_4 : decode cX4_pack 4 = .ok (.aload_n 0, 1) := by decide +kernel
theorem dX4_pack_5 : decode cX4_pack 5 = .ok (.getfield 39, 3) := by decide +kernel
theorem dX4_pack_8 : decode cX4_pack 8 = .ok (.invokevirtual 165, 3) := by decide +kernel
theorem dX4_pack_11 : decode cX4_pack 11 = .ok (.iconst 0, 1) := by decide +kernel
theorem dX4_pack_12 : decode cX4_pack 12 = .ok (.istore_n 1, 1) := by decide +kernel
theorem dX4_pack_13 : decode cX4_pack 13 = .ok (.iload_n 1, 1) := by decide +kernel
theorem dX4_pack_14 : decode cX4_pack 14 = .ok (.aload_n 0, 1) := by decide +kernel
theorem dX4_pack_15 : decode cX4_pack 15 = .ok (.getfield 27, 3) := by decide +kernel
theorem dX4_pack_18 : decode cX4_pack 18 = .ok (.invokevirtual 53, 3) := by decide +kernel
theorem dX4_pack_21 : decode cX4_pack 21 = .ok (.if_icmp .ge 51, 3) := by decide +kernel
theorem dX4_pack_24 : decode cX4_pack 24 = .ok (.aload_n 0, 1) := by decide +kernel
theorem dX4_pack_25 : decode cX4_pack 25 = .ok (.getfield 27, 3) := by decide +kernel
theorem dX4_pack_28 : decode cX4_pack 28 = .ok (.iload_n 1, 1) := by decide +kernel
theorem dX4_pack_29 : decode cX4_pack 29 = .ok (.invokevirtual 101, 3) := by decide +kernel
theorem dX4_pack_32 : decode cX4_pack 32 = .ok (.checkcast 105, 3) := by decide +kernel
theorem dX4_pack_35 : decode cX4_pack 35 = .ok (.astore_n 2, 1) := by decide +kernel
theorem dX4_pack_36 : decode cX4_pack 36 = .ok (.aload_n 0, 1) := by decide +kernel
theorem dX4_pack_37 : decode cX4_pack 37 = .ok (.getfield 39, 3) := by decide +kernel
theorem dX4_pack_40 : decode cX4_pack 40 = .ok (.aload_n 2, 1) := by decide +kernel
theorem dX4_pack_41 : decode cX4_pack 41 = .ok (.invokevirtual 117, 3) := by decide +kernel
theorem dX4_pack_44 : decode cX4_pack 44 = .ok (.istore_n 3, 1) := by decide +kernel
theorem dX4_pack_45 : decode cX4_pack 45 = .ok (.iload_n 3, 1) := by decide +kernel
theorem dX4_pack_46 : decode cX4_pack 46 = .ok (.iconst (-1), 1) := by decide +kernel
theorem dX4_pack_47 : decode cX4_pack 47 = .ok (.if_icmp .ne 5, 3) := by decide +kernel
theorem dX4_pack_50 : decode cX4_pack 50 = .ok (.iconst (-1), 1) := by decide +kernel
theorem dX4_pack_51 : decode cX4_pack 51 = .ok (.ireturn, 1) := by decide +kernel
theorem dX4_pack_52 : decode cX4_pack 52 = .ok (.aload_n 2, 1) := by decide +kernel
theorem dX4_pack_53 : decode cX4_pack 53 = .ok (.iload_n 3, 1) := by decide +kernel
theorem dX4_pack_54 : decode cX4_pack 54 = .ok (.putfield 168, 3) := by decide +kernel
theorem dX4_pack_57 : decode cX4_pack 57 = .ok (.aload_n 0, 1) := by decide +kernel
theorem dX4_pack_58 : decode cX4_pack 58 = .ok (.getfield 39, 3) := by decide +kernel
theorem dX4_pack_61 : decode cX4_pack 61 = .ok (.aload_n 2, 1) := by decide +kernel
theorem dX4_pack_62 : decode cX4_pack 62 = .ok (.iload_n 3, 1) := by decide +kernel
theorem dX4_pack_63 : decode cX4_pack 63 = .ok (.invokevirtual 126, 3) := by decide +kernel
theorem dX4_pack_66 : decode cX4_pack 66 = .ok (.iinc 1 1, 3) := by decide +kernel
theorem dX4_pack_69 : decode cX4_pack 69 = .ok (.goto (-56), 3) := by decide +kernel
theorem dX4_pack_72 : decode cX4_pack 72 = .ok (.aload_n 0, 1) := by decide +kernel
theorem dX4_pack_73 : decode cX4_pack 73 = .ok (.invokevirtual 171, 3) := by decide +kernel
theorem dX4_pack_76 : decode cX4_pack 76 = .ok (.aload_n 0, 1) := by decide +kernel
theorem dX4_pack_77 : decode cX4_pack 77 = .ok (.invokevirtual 174, 3) := by decide +kernel
theorem dX4_pack_80 : decode cX4_pack 80 = .ok (.ireturn, 1) := by decide +kernel
theorem dX4_machines_0 : decode cX4_machines 0 = .ok (.aload_n 0, 1) := by decide +kernel
theorem dX4_machines_1 : decode cX4_machines 1 = .ok (.getfield 23, 3) := by decide +kernel
theorem dX4_machines_4 : decode cX4_machines 4 = .ok (.invokevirtual 53, 3) := by decide +kernel
theorem dX4_machines_7 : decode cX4_machines 7 = .ok (.ireturn, 1) := by decide +kernel
theorem dX4_rackOf_0 : decode cX4_rackOf 0 = .ok (.aload_n 0, 1) := by decide +kernel
theorem dX4_rackOf_1 : decode cX4_rackOf 1 = .ok (.iload_n 1, 1) := by decide +kernel
theorem dX4_rackOf_2 : decode cX4_rackOf 2 = .ok (.invokevirtual 146, 3) := by decide +kernel
theorem dX4_rackOf_5 : decode cX4_rackOf 5 = .ok (.getfield 123, 3) := by decide +kernel
theorem dX4_rackOf_8 : decode cX4_rackOf 8 = .ok (.invokestatic 143, 3) := by decide +kernel
theorem dX4_rackOf_11 : decode cX4_rackOf 11 = .ok (.ireturn, 1) := by decide +kernel
theorem dX4_slotOf_0 : decode cX4_slotOf 0 = .ok (.aload_n 0, 1) := by decide +kernel
theorem dX4_slotOf_1 : decode cX4_slotOf 1 = .ok (.iload_n 1, 1) := by decide +kernel
theorem dX4_slotOf_2 : decode cX4_slotOf 2 = .ok (.invokevirtual 146, 3) := by decide +kernel
theorem dX4_slotOf_5 : decode cX4_slotOf 5 = .ok (.getfield 123, 3) := by decide +kernel
theorem dX4_slotOf_8 : decode cX4_slotOf 8 = .ok (.bipush 20, 2) := by decide +kernel
theorem dX4_slotOf_10 : decode cX4_slotOf 10 = .ok (.irem, 1) := by decide +kernel
theorem dX4_slotOf_11 : decode cX4_slotOf 11 = .ok (.ireturn, 1) := by decide +kernel
theorem dX4_isDark_0 : decode cX4_isDark 0 = .ok (.aload_n 0, 1) := by decide +kernel
theorem dX4_isDark_1 : decode cX4_isDark 1 = .ok (.aload_n 0, 1) := by decide +kernel
theorem dX4_isDark_2 : decode cX4_isDark 2 = .ok (.iload_n 1, 1) := by decide +kernel
theorem dX4_isDark_3 : decode cX4_isDark 3 = .ok (.invokevirtual 146, 3) := by decide +kernel
theorem dX4_isDark_6 : decode cX4_isDark 6 = .ok (.invokevirtual 107, 3) := by decide +kernel
theorem dX4_isDark_9 : decode cX4_isDark 9 = .ok (.ireturn, 1) := by decide +kernel
theorem dX4_machineAt_0 : decode cX4_machineAt 0 = .ok (.aload_n 0, 1) := by decide +kernel
theorem dX4_machineAt_1 : decode cX4_machineAt 1 = .ok (.iload_n 1, 1) := by decide +kernel
theorem dX4_machineAt_2 : decode cX4_machineAt 2 = .ok (.invokevirtual 177, 3) := by decide +kernel
theorem dX4_machineAt_5 : decode cX4_machineAt 5 = .ok (.astore_n 3, 1) := by decide +kernel
theorem dX4_machineAt_6 : decode cX4_machineAt 6 = .ok (.iload_n 2, 1) := by decide +kernel
theorem dX4_machineAt_7 : decode cX4_machineAt 7 = .ok (.ifCond .lt 11, 3) := by decide +kernel
theorem dX4_machineAt_10 : decode cX4_machineAt 10 = .ok (.iload_n 2, 1) := by decide +kernel
theorem dX4_machineAt_11 : decode cX4_machineAt 11 = .ok (.aload_n 3, 1) := by decide +kernel
theorem dX4_machineAt_12 : decode cX4_machineAt 12 = .ok (.getfield 181, 3) := by decide +kernel
theorem dX4_machineAt_15 : decode cX4_machineAt 15 = .ok (.if_icmp .lt 13, 3) := by decide +kernel
theorem dX4_machineAt_18 : decode cX4_machineAt 18 = .ok (.new 184, 3) := by decide +kernel
theorem dX4_machineAt_21 : decode cX4_machineAt 21 = .ok (.dup, 1) := by decide +kernel
theorem dX4_machineAt_22 : decode cX4_machineAt 22 = .ok (.ldc 186, 2) := by decide +kernel
theorem dX4_machineAt_24 : decode cX4_machineAt 24 = .ok (.invokespecial 188, 3) := by decide +kernel
theorem dX4_machineAt_27 : decode cX4_machineAt 27 = .ok (.athrow, 1) := by decide +kernel
theorem dX4_machineAt_28 : decode cX4_machineAt 28 = .ok (.aload_n 0, 1) := by decide +kernel
theorem dX4_machineAt_29 : decode cX4_machineAt 29 = .ok (.getfield 35, 3) := by decide +kernel
theorem dX4_machineAt_32 : decode cX4_machineAt 32 = .ok (.getfield 189, 3) := by decide +kernel
theorem dX4_machineAt_35 : decode cX4_machineAt 35 = .ok (.iload_n 1, 1) := by decide +kernel
theorem dX4_machineAt_36 : decode cX4_machineAt 36 = .ok (.iload_n 2, 1) := by decide +kernel
theorem dX4_machineAt_37 : decode cX4_machineAt 37 = .ok (.invokestatic 192, 3) := by decide +kernel
theorem dX4_machineAt_40 : decode cX4_machineAt 40 = .ok (.iaload, 1) := by decide +kernel
theorem dX4_machineAt_41 : decode cX4_machineAt 41 = .ok (.ireturn, 1) := by decide +kernel
theorem dX4_next_0 : decode cX4_next 0 = .ok (.iload_n 1, 1) := by decide +kernel
theorem dX4_next_1 : decode cX4_next 1 = .ok (.iconst (-1), 1) := by decide +kernel
theorem dX4_next_2 : decode cX4_next 2 = .ok (.if_icmp .ne 12, 3) := by decide +kernel
theorem dX4_next_5 : decode cX4_next 5 = .ok (.aload_n 0, 1) := by decide +kernel
theorem dX4_next_6 : decode cX4_next 6 = .ok (.getfield 35, 3) := by decide +kernel
theorem dX4_next_9 : decode cX4_next 9 = .ok (.iconst 0, 1) := by decide +kernel
theorem dX4_next_10 : decode cX4_next 10 = .ok (.invokevirtual 196, 3) := by decide +kernel
theorem dX4_next_13 : decode cX4_next 13 = .ok (.ireturn, 1) := by decide +kernel
theorem dX4_next_14 : decode cX4_next 14 = .ok (.aload_n 0, 1) := by decide +kernel
theorem dX4_next_15 : decode cX4_next 15 = .ok (.iload_n 1, 1) := by decide +kernel
theorem dX4_next_16 : decode cX4_next 16 = .ok (.invokevirtual 146, 3) := by decide +kernel
theorem dX4_next_19 : decode cX4_next 19 = .ok (.astore_n 2, 1) := by decide +kernel
theorem dX4_next_20 : decode cX4_next 20 = .ok (.aload_n 0, 1) := by decide +kernel
theorem dX4_next_21 : decode cX4_next 21 = .ok (.getfield 35, 3) := by decide +kernel
theorem dX4_next_24 : decode cX4_next 24 = .ok (.aload_n 2, 1) := by decide +kernel
theorem dX4_next_25 : decode cX4_next 25 = .ok (.getfield 123, 3) := by decide +kernel
theorem dX4_next_28 : decode cX4_next 28 = .ok (.aload_n 2, 1) := by decide +kernel
theorem dX4_next_29 : decode cX4_next 29 = .ok (.getfield 199, 3) := by decide +kernel
theorem dX4_next_32 : decode cX4_next 32 = .ok (.iadd, 1) := by decide +kernel
theorem dX4_next_33 : decode cX4_next 33 = .ok (.invokevirtual 196, 3) := by decide +kernel
theorem dX4_next_36 : decode cX4_next 36 = .ok (.ireturn, 1) := by decide +kernel
theorem dX4_powerOf_0 : decode cX4_powerOf 0 = .ok (.aload_n 0, 1) := by decide +kernel
theorem dX4_powerOf_1 : decode cX4_powerOf 1 = .ok (.iload_n 1, 1) := by decide +kernel
theorem dX4_powerOf_2 : decode cX4_powerOf 2 = .ok (.invokevirtual 177, 3) := by decide +kernel
theorem dX4_powerOf_5 : decode cX4_powerOf 5 = .ok (.pop, 1) := by decide +kernel
theorem dX4_powerOf_6 : decode cX4_powerOf 6 = .ok (.iload_n 2, 1) := by decide +kernel
theorem dX4_powerOf_7 : decode cX4_powerOf 7 = .ok (.invokestatic 89, 3) := by decide +kernel
theorem dX4_powerOf_10 : decode cX4_powerOf 10 = .ok (.iconst 0, 1) := by decide +kernel
theorem dX4_powerOf_11 : decode cX4_powerOf 11 = .ok (.istore_n 3, 1) := by decide +kernel
theorem dX4_powerOf_12 : decode cX4_powerOf 12 = .ok (.iconst 0, 1) := by decide +kernel
theorem dX4_powerOf_13 : decode cX4_powerOf 13 = .ok (.istore 4, 2) := by decide +kernel
theorem dX4_powerOf_15 : decode cX4_powerOf 15 = .ok (.iload 4, 2) := by decide +kernel
theorem dX4_powerOf_17 : decode cX4_powerOf 17 = .ok (.aload_n 0, 1) := by decide +kernel
theorem dX4_powerOf_18 : decode cX4_powerOf 18 = .ok (.getfield 23, 3) := by decide +kernel
theorem dX4_powerOf_21 : decode cX4_powerOf 21 = .ok (.invokevirtual 53, 3) := by decide +kernel
theorem dX4_powerOf_24 : decode cX4_powerOf 24 = .ok (.if_icmp .ge 45, 3) := by decide +kernel
theorem dX4_powerOf_27 : decode cX4_powerOf 27 = .ok (.aload_n 0, 1) := by decide +kernel
theorem dX4_powerOf_28 : decode cX4_powerOf 28 = .ok (.getfield 23, 3) := by decide +kernel
theorem dX4_powerOf_31 : decode cX4_powerOf 31 = .ok (.iload 4, 2) := by decide +kernel
theorem dX4_powerOf_33 : decode cX4_powerOf 33 = .ok (.invokevirtual 101, 3) := by decide +kernel
theorem dX4_powerOf_36 : decode cX4_powerOf 36 = .ok (.checkcast 105, 3) := by decide +kernel
theorem dX4_powerOf_39 : decode cX4_powerOf 39 = .ok (.astore 5, 2) := by decide +kernel
theorem dX4_powerOf_41 : decode cX4_powerOf 41 = .ok (.aload 5, 2) := by decide +kernel
theorem dX4_powerOf_43 : decode cX4_powerOf 43 = .ok (.getfield 123, 3) := by decide +kernel
theorem dX4_powerOf_46 : decode cX4_powerOf 46 = .ok (.invokestatic 143, 3) := by decide +kernel
theorem dX4_powerOf_49 : decode cX4_powerOf 49 = .ok (.iload_n 1, 1) := by decide +kernel
theorem dX4_powerOf_50 : decode cX4_powerOf 50 = .ok (.if_icmp .ne 13, 3) := by decide +kernel
theorem dX4_powerOf_53 : decode cX4_powerOf 53 = .ok (.iload_n 3, 1) := by decide +kernel
theorem dX4_powerOf_54 : decode cX4_powerOf 54 = .ok (.aload_n 0, 1) := by decide +kernel
theorem dX4_powerOf_55 : decode cX4_powerOf 55 = .ok (.aload 5, 2) := by decide +kernel
theorem dX4_powerOf_57 : decode cX4_powerOf 57 = .ok (.iload_n 2, 1) := by decide +kernel
theorem dX4_powerOf_58 : decode cX4_powerOf 58 = .ok (.invokevirtual 200, 3) := by decide +kernel
theorem dX4_powerOf_61 : decode cX4_powerOf 61 = .ok (.iadd, 1) := by decide +kernel
theorem dX4_powerOf_62 : decode cX4_powerOf 62 = .ok (.istore_n 3, 1) := by decide +kernel
theorem dX4_powerOf_63 : decode cX4_powerOf 63 = .ok (.iinc 4 1, 3) := by decide +kernel
theorem dX4_powerOf_66 : decode cX4_powerOf 66 = .ok (.goto (-51), 3) := by decide +kernel
theorem dX4_powerOf_69 : decode cX4_powerOf 69 = .ok (.iload_n 3, 1) := by decide +kernel
theorem dX4_powerOf_70 : decode cX4_powerOf 70 = .ok (.ireturn, 1) := by decide +kernel
theorem dX4_worstOf_0 : decode cX4_worstOf 0 = .ok (.aload_n 0, 1) := by decide +kernel
theorem dX4_worstOf_1 : decode cX4_worstOf 1 = .ok (.iload_n 1, 1) := by decide +kernel
theorem dX4_worstOf_2 : decode cX4_worstOf 2 = .ok (.invokevirtual 177, 3) := by decide +kernel
theorem dX4_worstOf_5 : decode cX4_worstOf 5 = .ok (.pop, 1) := by decide +kernel
theorem dX4_worstOf_6 : decode cX4_worstOf 6 = .ok (.iload_n 2, 1) := by decide +kernel
theorem dX4_worstOf_7 : decode cX4_worstOf 7 = .ok (.invokestatic 89, 3) := by decide +kernel
theorem dX4_worstOf_10 : decode cX4_worstOf 10 = .ok (.aload_n 0, 1) := by decide +kernel
theorem dX4_worstOf_11 : decode cX4_worstOf 11 = .ok (.getfield 35, 3) := by decide +kernel
theorem dX4_worstOf_14 : decode cX4_worstOf 14 = .ok (.getfield 204, 3) := by decide +kernel
theorem dX4_worstOf_17 : decode cX4_worstOf 17 = .ok (.iload_n 2, 1) := by decide +kernel
theorem dX4_worstOf_18 : decode cX4_worstOf 18 = .ok (.aaload, 1) := by decide +kernel
theorem dX4_worstOf_19 : decode cX4_worstOf 19 = .ok (.iload_n 1, 1) := by decide +kernel
theorem dX4_worstOf_20 : decode cX4_worstOf 20 = .ok (.iaload, 1) := by decide +kernel
theorem dX4_worstOf_21 : decode cX4_worstOf 21 = .ok (.ireturn, 1) := by decide +kernel
theorem dX4_weightOf_0 : decode cX4_weightOf 0 = .ok (.aload_n 0, 1) := by decide +kernel
theorem dX4_weightOf_1 : decode cX4_weightOf 1 = .ok (.iload_n 1, 1) := by decide +kernel
theorem dX4_weightOf_2 : decode cX4_weightOf 2 = .ok (.invokevirtual 177, 3) := by decide +kernel
theorem dX4_weightOf_5 : decode cX4_weightOf 5 = .ok (.pop, 1) := by decide +kernel
theorem dX4_weightOf_6 : decode cX4_weightOf 6 = .ok (.aload_n 0, 1) := by decide +kernel
theorem dX4_weightOf_7 : decode cX4_weightOf 7 = .ok (.getfield 35, 3) := by decide +kernel
theorem dX4_weightOf_10 : decode cX4_weightOf 10 = .ok (.getfield 208, 3) := by decide +kernel
theorem dX4_weightOf_13 : decode cX4_weightOf 13 = .ok (.iload_n 1, 1) := by decide +kernel
theorem dX4_weightOf_14 : decode cX4_weightOf 14 = .ok (.iaload, 1) := by decide +kernel
theorem dX4_weightOf_15 : decode cX4_weightOf 15 = .ok (.ireturn, 1) := by decide +kernel
theorem dX4_heatOf_0 : decode cX4_heatOf 0 = .ok (.iload_n 1, 1) := by decide +kernel
theorem dX4_heatOf_1 : decode cX4_heatOf 1 = .ok (.iconst 0, 1) := by decide +kernel
theorem dX4_heatOf_2 : decode cX4_heatOf 2 = .ok (.iconst 3, 1) := by decide +kernel
theorem dX4_heatOf_3 : decode cX4_heatOf 3 = .ok (.invokestatic 46, 3) := by decide +kernel
theorem dX4_heatOf_6 : decode cX4_heatOf 6 = .ok (.iconst 0, 1) := by decide +kernel
theorem dX4_heatOf_7 : decode cX4_heatOf 7 = .ok (.istore_n 2, 1) := by decide +kernel
theorem dX4_heatOf_8 : decode cX4_heatOf 8 = .ok (.iconst 0, 1) := by decide +kernel
theorem dX4_heatOf_9 : decode cX4_heatOf 9 = .ok (.istore_n 3, 1) := by decide +kernel
theorem dX4_heatOf_10 : decode cX4_heatOf 10 = .ok (.iload_n 3, 1) := by decide +kernel
theorem dX4_heatOf_11 : decode cX4_heatOf 11 = .ok (.aload_n 0, 1) := by decide +kernel
theorem dX4_heatOf_12 : decode cX4_heatOf 12 = .ok (.getfield 23, 3) := by decide +kernel
theorem dX4_heatOf_15 : decode cX4_heatOf 15 = .ok (.invokevirtual 53, 3) := by decide +kernel
theorem dX4_heatOf_18 : decode cX4_heatOf 18 = .ok (.if_icmp .ge 49, 3) := by decide +kernel
theorem dX4_heatOf_21 : decode cX4_heatOf 21 = .ok (.aload_n 0, 1) := by decide +kernel
theorem dX4_heatOf_22 : decode cX4_heatOf 22 = .ok (.getfield 23, 3) := by decide +kernel
theorem dX4_heatOf_25 : decode cX4_heatOf 25 = .ok (.iload_n 3, 1) := by decide +kernel
theorem dX4_heatOf_26 : decode cX4_heatOf 26 = .ok (.invokevirtual 101, 3) := by decide +kernel
theorem dX4_heatOf_29 : decode cX4_heatOf 29 = .ok (.checkcast 105, 3) := by decide +kernel
theorem dX4_heatOf_32 : decode cX4_heatOf 32 = .ok (.astore 4, 2) := by decide +kernel
theorem dX4_heatOf_34 : decode cX4_heatOf 34 = .ok (.aload_n 0, 1) := by decide +kernel
theorem dX4_heatOf_35 : decode cX4_heatOf 35 = .ok (.aload 4, 2) := by decide +kernel
theorem dX4_heatOf_37 : decode cX4_heatOf 37 = .ok (.invokevirtual 211, 3) := by decide +kernel
theorem dX4_heatOf_40 : decode cX4_heatOf 40 = .ok (.iload_n 1, 1) := by decide +kernel
theorem dX4_heatOf_41 : decode cX4_heatOf 41 = .ok (.if_icmp .ne 20, 3) := by decide +kernel
theorem dX4_heatOf_44 : decode cX4_heatOf 44 = .ok (.aload_n 0, 1) := by decide +kernel
theorem dX4_heatOf_45 : decode cX4_heatOf 45 = .ok (.aload 4, 2) := by decide +kernel
theorem dX4_heatOf_47 : decode cX4_heatOf 47 = .ok (.invokevirtual 107, 3) := by decide +kernel
theorem dX4_heatOf_50 : decode cX4_heatOf 50 = .ok (.ifCond .ne 11, 3) := by decide +kernel
theorem dX4_heatOf_53 : decode cX4_heatOf 53 = .ok (.iload_n 2, 1) := by decide +kernel
theorem dX4_heatOf_54 : decode cX4_heatOf 54 = .ok (.aload 4, 2) := by decide +kernel
theorem dX4_heatOf_56 : decode cX4_heatOf 56 = .ok (.getfield 214, 3) := by decide +kernel
theorem dX4_heatOf_59 : decode cX4_heatOf 59 = .ok (.iadd, 1) := by decide +kernel
theorem dX4_heatOf_60 : decode cX4_heatOf 60 = .ok (.istore_n 2, 1) := by decide +kernel
theorem dX4_heatOf_61 : decode cX4_heatOf 61 = .ok (.iinc 3 1, 3) := by decide +kernel
theorem dX4_heatOf_64 : decode cX4_heatOf 64 = .ok (.goto (-54), 3) := by decide +kernel
theorem dX4_heatOf_67 : decode cX4_heatOf 67 = .ok (.iload_n 2, 1) := by decide +kernel
theorem dX4_heatOf_68 : decode cX4_heatOf 68 = .ok (.ireturn, 1) := by decide +kernel
theorem dX4_gap_0 : decode cX4_gap 0 = .ok (.aload_n 0, 1) := by decide +kernel
theorem dX4_gap_1 : decode cX4_gap 1 = .ok (.iload_n 1, 1) := by decide +kernel
theorem dX4_gap_2 : decode cX4_gap 2 = .ok (.invokevirtual 177, 3) := by decide +kernel
theorem dX4_gap_5 : decode cX4_gap 5 = .ok (.pop, 1) := by decide +kernel
theorem dX4_gap_6 : decode cX4_gap 6 = .ok (.aload_n 0, 1) := by decide +kernel
theorem dX4_gap_7 : decode cX4_gap 7 = .ok (.getfield 35, 3) := by decide +kernel
theorem dX4_gap_10 : decode cX4_gap 10 = .ok (.iload_n 1, 1) := by decide +kernel
theorem dX4_gap_11 : decode cX4_gap 11 = .ok (.invokevirtual 217, 3) := by decide +kernel
theorem dX4_gap_14 : decode cX4_gap 14 = .ok (.ireturn, 1) := by decide +kernel
theorem dX4_racksFor_0 : decode cX4_racksFor 0 = .ok (.aload_n 0, 1) := by decide +kernel
theorem dX4_racksFor_1 : decode cX4_racksFor 1 = .ok (.iload_n 1, 1) := by decide +kernel
theorem dX4_racksFor_2 : decode cX4_racksFor 2 = .ok (.iload_n 2, 1) := by decide +kernel
theorem dX4_racksFor_3 : decode cX4_racksFor 3 = .ok (.iload_n 3, 1) := by decide +kernel
theorem dX4_racksFor_4 : decode cX4_racksFor 4 = .ok (.iload 4, 2) := by decide +kernel
theorem dX4_racksFor_6 : decode cX4_racksFor 6 = .ok (.invokevirtual 111, 3) := by decide +kernel
theorem dX4_racksFor_9 : decode cX4_racksFor 9 = .ok (.astore 5, 2) := by decide +kernel
theorem dX4_racksFor_11 : decode cX4_racksFor 11 = .ok (.iconst 0, 1) := by decide +kernel
theorem dX4_racksFor_12 : decode cX4_racksFor 12 = .ok (.istore 6, 2) := by decide +kernel
theorem dX4_racksFor_14 : decode cX4_racksFor 14 = .ok (.iconst 0, 1) := by decide +kernel
theorem dX4_racksFor_15 : decode cX4_racksFor 15 = .ok (.istore 7, 2) := by decide +kernel
theorem dX4_racksFor_17 : decode cX4_racksFor 17 = .ok (.iload 7, 2) := by decide +kernel
theorem dX4_racksFor_19 : decode cX4_racksFor 19 = .ok (.aload_n 0, 1) := by decide +kernel
theorem dX4_racksFor_20 : decode cX4_racksFor 20 = .ok (.getfield 12, 3) := by decide +kernel
theorem dX4_racksFor_23 : decode cX4_racksFor 23 = .ok (.getfield 50, 3) := by decide +kernel
theorem dX4_racksFor_26 : decode cX4_racksFor 26 = .ok (.invokevirtual 53, 3) := by decide +kernel
theorem dX4_racksFor_29 : decode cX4_racksFor 29 = .ok (.if_icmp .ge 33, 3) := by decide +kernel
theorem dX4_racksFor_32 : decode cX4_racksFor 32 = .ok (.aload_n 0, 1) := by decide +kernel
theorem dX4_racksFor_33 : decode cX4_racksFor 33 = .ok (.getfield 35, 3) := by decide +kernel
theorem dX4_racksFor_36 : decode cX4_racksFor 36 = .ok (.iload 7, 2) := by decide +kernel
theorem dX4_racksFor_38 : decode cX4_racksFor 38 = .ok (.aload 5, 2) := by decide +kernel
theorem dX4_racksFor_40 : decode cX4_racksFor 40 = .ok (.invokevirtual 220, 3) := by decide +kernel
theorem dX4_racksFor_43 : decode cX4_racksFor 43 = .ok (.iconst (-1), 1) := by decide +kernel
theorem dX4_racksFor_44 : decode cX4_racksFor 44 = .ok (.if_icmp .eq 12, 3) := by decide +kernel
theorem dX4_racksFor_47 : decode cX4_racksFor 47 = .ok (.iload 6, 2) := by decide +kernel
theorem dX4_racksFor_49 : decode cX4_racksFor 49 = .ok (.iconst 1, 1) := by decide +kernel
theorem dX4_racksFor_50 : decode cX4_racksFor 50 = .ok (.iload 7, 2) := by decide +kernel
theorem dX4_racksFor_52 : decode cX4_racksFor 52 = .ok (.ishl, 1) := by decide +kernel
theorem dX4_racksFor_53 : decode cX4_racksFor 53 = .ok (.ior, 1) := by decide +kernel
theorem dX4_racksFor_54 : decode cX4_racksFor 54 = .ok (.istore 6, 2) := by decide +kernel
theorem dX4_racksFor_56 : decode cX4_racksFor 56 = .ok (.iinc 7 1, 3) := by decide +kernel
theorem dX4_racksFor_59 : decode cX4_racksFor 59 = .ok (.goto (-42), 3) := by decide +kernel
theorem dX4_racksFor_62 : decode cX4_racksFor 62 = .ok (.iload 6, 2) := by decide +kernel
theorem dX4_racksFor_64 : decode cX4_racksFor 64 = .ok (.ireturn, 1) := by decide +kernel
theorem dX4_roomFor_0 : decode cX4_roomFor 0 = .ok (.aload_n 0, 1) := by decide +kernel
theorem dX4_roomFor_1 : decode cX4_roomFor 1 = .ok (.iload_n 1, 1) := by decide +kernel
theorem dX4_roomFor_2 : decode cX4_roomFor 2 = .ok (.iload_n 2, 1) := by decide +kernel
theorem dX4_roomFor_3 : decode cX4_roomFor 3 = .ok (.iload_n 3, 1) := by decide +kernel
theorem dX4_roomFor_4 : decode cX4_roomFor 4 = .ok (.iload 4, 2) := by decide +kernel
theorem dX4_roomFor_6 : decode cX4_roomFor 6 = .ok (.invokevirtual 111, 3) := by decide +kernel
theorem dX4_roomFor_9 : decode cX4_roomFor 9 = .ok (.astore 5, 2) := by decide +kernel
theorem dX4_roomFor_11 : decode cX4_roomFor 11 = .ok (.aload_n 0, 1) := by decide +kernel
theorem dX4_roomFor_12 : decode cX4_roomFor 12 = .ok (.getfield 39, 3) := by decide +kernel
theorem dX4_roomFor_15 : decode cX4_roomFor 15 = .ok (.aload_n 0, 1) := by decide +kernel
theorem dX4_roomFor_16 : decode cX4_roomFor 16 = .ok (.getfield 35, 3) := by decide +kernel
theorem dX4_roomFor_19 : decode cX4_roomFor 19 = .ok (.invokevirtual 224, 3) := by decide +kernel
theorem dX4_roomFor_22 : decode cX4_roomFor 22 = .ok (.iconst 0, 1) := by decide +kernel
theorem dX4_roomFor_23 : decode cX4_roomFor 23 = .ok (.istore 6, 2) := by decide +kernel
theorem dX4_roomFor_25 : decode cX4_roomFor 25 = .ok (.iconst 0, 1) := by decide +kernel
theorem dX4_roomFor_26 : decode cX4_roomFor 26 = .ok (.istore 7, 2) := by decide +kernel
theorem dX4_roomFor_28 : decode cX4_roomFor 28 = .ok (.iload 7, 2) := by decide +kernel
theorem dX4_roomFor_30 : decode cX4_roomFor 30 = .ok (.aload_n 0, 1) := by decide +kernel
theorem dX4_roomFor_31 : decode cX4_roomFor 31 = .ok (.getfield 12, 3) := by decide +kernel
theorem dX4_roomFor_34 : decode cX4_roomFor 34 = .ok (.getfield 50, 3) := by decide +kernel
theorem dX4_roomFor_37 : decode cX4_roomFor 37 = .ok (.invokevirtual 53, 3) := by decide +kernel
theorem dX4_roomFor_40 : decode cX4_roomFor 40 = .ok (.if_icmp .ge 25, 3) := by decide +kernel
theorem dX4_roomFor_43 : decode cX4_roomFor 43 = .ok (.iload 6, 2) := by decide +kernel
theorem dX4_roomFor_45 : decode cX4_roomFor 45 = .ok (.aload_n 0, 1) := by decide +kernel
theorem dX4_roomFor_46 : decode cX4_roomFor 46 = .ok (.getfield 39, 3) := by decide +kernel
theorem dX4_roomFor_49 : decode cX4_roomFor 49 = .ok (.iload 7, 2) := by decide +kernel
theorem dX4_roomFor_51 : decode cX4_roomFor 51 = .ok (.aload 5, 2) := by decide +kernel
theorem dX4_roomFor_53 : decode cX4_roomFor 53 = .ok (.invokevirtual 228, 3) := by decide +kernel
theorem dX4_roomFor_56 : decode cX4_roomFor 56 = .ok (.iadd, 1) := by decide +kernel
theorem dX4_roomFor_57 : decode cX4_roomFor 57 = .ok (.istore 6, 2) := by decide +kernel
theorem dX4_roomFor_59 : decode cX4_roomFor 59 = .ok (.iinc 7 1, 3) := by decide +kernel
theorem dX4_roomFor_62 : decode cX4_roomFor 62 = .ok (.goto (-34), 3) := by decide +kernel
theorem dX4_roomFor_65 : decode cX4_roomFor 65 = .ok (.iload 6, 2) := by decide +kernel
theorem dX4_roomFor_67 : decode cX4_roomFor 67 = .ok (.ireturn, 1) := by decide +kernel
theorem dX4_roomByCounting_0 : decode cX4_roomByCounting 0 = .ok (.aload_n 0, 1) := by decide +kernel
theorem dX4_roomByCounting_1 : decode cX4_roomByCounting 1 = .ok (.iload_n 1, 1) := by decide +kernel
theorem dX4_roomByCounting_2 : decode cX4_roomByCounting 2 = .ok (.iload_n 2, 1) := by decide +kernel
theorem dX4_roomByCounting_3 : decode cX4_roomByCounting 3 = .ok (.iload_n 3, 1) := by decide +kernel
theorem dX4_roomByCounting_4 : decode cX4_roomByCounting 4 = .ok (.iload 4, 2) := by decide +kernel
theorem dX4_roomByCounting_6 : decode cX4_roomByCounting 6 = .ok (.invokevirtual 111, 3) := by decide +kernel
theorem dX4_roomByCounting_9 : decode cX4_roomByCounting 9 = .ok (.astore 5, 2) := by decide +kernel
theorem dX4_roomByCounting_11 : decode cX4_roomByCounting 11 = .ok (.iconst 0, 1) := by decide +kernel
theorem dX4_roomByCounting_12 : decode cX4_roomByCounting 12 = .ok (.istore 6, 2) := by decide +kernel
theorem dX4_roomByCounting_14 : decode cX4_roomByCounting 14 = .ok (.iconst 0, 1) := by decide +kernel
theorem dX4_roomByCounting_15 : decode cX4_roomByCounting 15 = .ok (.istore 7, 2) := by decide +kernel
theorem dX4_roomByCounting_17 : decode cX4_roomByCounting 17 = .ok (.iload 7, 2) := by decide +kernel
theorem dX4_roomByCounting_19 : decode cX4_roomByCounting 19 = .ok (.iconst 4, 1) := by decide +kernel
theorem dX4_roomByCounting_20 : decode cX4_roomByCounting 20 = .ok (.if_icmp .ge 25, 3) := by decide +kernel
theorem dX4_roomByCounting_23 : decode cX4_roomByCounting 23 = .ok (.iload 6, 2) := by decide +kernel
theorem dX4_roomByCounting_25 : decode cX4_roomByCounting 25 = .ok (.aload_n 0, 1) := by decide +kernel
theorem dX4_roomByCounting_26 : decode cX4_roomByCounting 26 = .ok (.getfield 35, 3) := by decide +kernel
theorem dX4_roomByCounting_29 : decode cX4_roomByCounting 29 = .ok (.iload 7, 2) := by decide +kernel
theorem dX4_roomByCounting_31 : decode cX4_roomByCounting 31 = .ok (.aload 5, 2) := by decide +kernel
theorem dX4_roomByCounting_33 : decode cX4_roomByCounting 33 = .ok (.invokevirtual 231, 3) := by decide +kernel
theorem dX4_roomByCounting_36 : decode cX4_roomByCounting 36 = .ok (.iadd, 1) := by decide +kernel
theorem dX4_roomByCounting_37 : decode cX4_roomByCounting 37 = .ok (.istore 6, 2) := by decide +kernel
theorem dX4_roomByCounting_39 : decode cX4_roomByCounting 39 = .ok (.iinc 7 1, 3) := by decide +kernel
theorem dX4_roomByCounting_42 : decode cX4_roomByCounting 42 = .ok (.goto (-25), 3) := by decide +kernel
theorem dX4_roomByCounting_45 : decode cX4_roomByCounting 45 = .ok (.iconst 0, 1) := by decide +kernel
theorem dX4_roomByCounting_46 : decode cX4_roomByCounting 46 = .ok (.istore 7, 2) := by decide +kernel
theorem dX4_roomByCounting_48 : decode cX4_roomByCounting 48 = .ok (.iload 7, 2) := by decide +kernel
theorem dX4_roomByCounting_50 : decode cX4_roomByCounting 50 = .ok (.iconst 2, 1) := by decide +kernel
theorem dX4_roomByCounting_51 : decode cX4_roomByCounting 51 = .ok (.if_icmp .ge 47, 3) := by decide +kernel
theorem dX4_roomByCounting_54 : decode cX4_roomByCounting 54 = .ok (.aload_n 0, 1) := by decide +kernel
theorem dX4_roomByCounting_55 : decode cX4_roomByCounting 55 = .ok (.getfield 12, 3) := by decide +kernel
theorem dX4_roomByCounting_58 : decode cX4_roomByCounting 58 = .ok (.getfield 98, 3) := by decide +kernel
theorem dX4_roomByCounting_61 : decode cX4_roomByCounting 61 = .ok (.iload 7, 2) := by decide +kernel
theorem dX4_roomByCounting_63 : decode cX4_roomByCounting 63 = .ok (.iaload, 1) := by decide +kernel
theorem dX4_roomByCounting_64 : decode cX4_roomByCounting 64 = .ok (.aload_n 0, 1) := by decide +kernel
theorem dX4_roomByCounting_65 : decode cX4_roomByCounting 65 = .ok (.getfield 35, 3) := by decide +kernel
theorem dX4_roomByCounting_68 : decode cX4_roomByCounting 68 = .ok (.iload 7, 2) := by decide +kernel
theorem dX4_roomByCounting_70 : decode cX4_roomByCounting 70 = .ok (.invokevirtual 93, 3) := by decide +kernel
theorem dX4_roomByCounting_73 : decode cX4_roomByCounting 73 = .ok (.isub, 1) := by decide +kernel
theorem dX4_roomByCounting_74 : decode cX4_roomByCounting 74 = .ok (.istore 8, 2) := by decide +kernel
theorem dX4_roomByCounting_76 : decode cX4_roomByCounting 76 = .ok (.iload 6, 2) := by decide +kernel
theorem dX4_roomByCounting_78 : decode cX4_roomByCounting 78 = .ok (.iload 8, 2) := by decide +kernel
theorem dX4_roomByCounting_80 : decode cX4_roomByCounting 80 = .ok (.aload 5, 2) := by decide +kernel
theorem dX4_roomByCounting_82 : decode cX4_roomByCounting 82 = .ok (.iload 7, 2) := by decide +kernel
theorem dX4_roomByCounting_84 : decode cX4_roomByCounting 84 = .ok (.invokevirtual 234, 3) := by decide +kernel
theorem dX4_roomByCounting_87 : decode cX4_roomByCounting 87 = .ok (.invokestatic 237, 3) := by decide +kernel
theorem dX4_roomByCounting_90 : decode cX4_roomByCounting 90 = .ok (.istore 6, 2) := by decide +kernel
theorem dX4_roomByCounting_92 : decode cX4_roomByCounting 92 = .ok (.iinc 7 1, 3) := by decide +kernel
theorem dX4_roomByCounting_95 : decode cX4_roomByCounting 95 = .ok (.goto (-47), 3) := by decide +kernel
theorem dX4_roomByCounting_98 : decode cX4_roomByCounting 98 = .ok (.iload 6, 2) := by decide +kernel
theorem dX4_roomByCounting_100 : decode cX4_roomByCounting 100 = .ok (.ireturn, 1) := by decide +kernel
theorem dX4_requireRange_0 : decode cX4_requireRange 0 = .ok (.iload_n 0, 1) := by decide +kernel
theorem dX4_requireRange_1 : decode cX4_requireRange 1 = .ok (.iload_n 1, 1) := by decide +kernel
theorem dX4_requireRange_2 : decode cX4_requireRange 2 = .ok (.if_icmp .lt 8, 3) := by decide +kernel
theorem dX4_requireRange_5 : decode cX4_requireRange 5 = .ok (.iload_n 0, 1) := by decide +kernel
theorem dX4_requireRange_6 : decode cX4_requireRange 6 = .ok (.iload_n 2, 1) := by decide +kernel
theorem dX4_requireRange_7 : decode cX4_requireRange 7 = .ok (.if_icmp .le 13, 3) := by decide +kernel
theorem dX4_requireRange_10 : decode cX4_requireRange 10 = .ok (.new 241, 3) := by decide +kernel
theorem dX4_requireRange_13 : decode cX4_requireRange 13 = .ok (.dup, 1) := by decide +kernel
theorem dX4_requireRange_14 : decode cX4_requireRange 14 = .ok (.ldc 243, 2) := by decide +kernel
theorem dX4_requireRange_16 : decode cX4_requireRange 16 = .ok (.invokespecial 245, 3) := by decide +kernel
theorem dX4_requireRange_19 : decode cX4_requireRange 19 = .ok (.athrow, 1) := by decide +kernel
theorem dX4_requireRange_20 : decode cX4_requireRange 20 = .ok (.return_, 1) := by decide +kernel
theorem dX4_requireFeed_0 : decode cX4_requireFeed 0 = .ok (.iload_n 0, 1) := by decide +kernel
theorem dX4_requireFeed_1 : decode cX4_requireFeed 1 = .ok (.iconst 0, 1) := by decide +kernel
theorem dX4_requireFeed_2 : decode cX4_requireFeed 2 = .ok (.iconst 1, 1) := by decide +kernel
theorem dX4_requireFeed_3 : decode cX4_requireFeed 3 = .ok (.invokestatic 46, 3) := by decide +kernel
theorem dX4_requireFeed_6 : decode cX4_requireFeed 6 = .ok (.return_, 1) := by decide +kernel
theorem dX4_requireRack_0 : decode cX4_requireRack 0 = .ok (.iload_n 1, 1) := by decide +kernel
theorem dX4_requireRack_1 : decode cX4_requireRack 1 = .ok (.ifCond .lt 17, 3) := by decide +kernel
theorem dX4_requireRack_4 : decode cX4_requireRack 4 = .ok (.iload_n 1, 1) := by decide +kernel
theorem dX4_requireRack_5 : decode cX4_requireRack 5 = .ok (.aload_n 0, 1) := by decide +kernel
theorem dX4_requireRack_6 : decode cX4_requireRack 6 = .ok (.getfield 12, 3) := by decide +kernel
theorem dX4_requireRack_9 : decode cX4_requireRack 9 = .ok (.getfield 50, 3) := by decide +kernel
theorem dX4_requireRack_12 : decode cX4_requireRack 12 = .ok (.invokevirtual 53, 3) := by decide +kernel
theorem dX4_requireRack_15 : decode cX4_requireRack 15 = .ok (.if_icmp .lt 13, 3) := by decide +kernel
theorem dX4_requireRack_18 : decode cX4_requireRack 18 = .ok (.new 184, 3) := by decide +kernel
theorem dX4_requireRack_21 : decode cX4_requireRack 21 = .ok (.dup, 1) := by decide +kernel
theorem dX4_requireRack_22 : decode cX4_requireRack 22 = .ok (.ldc 246, 2) := by decide +kernel
theorem dX4_requireRack_24 : decode cX4_requireRack 24 = .ok (.invokespecial 188, 3) := by decide +kernel
theorem dX4_requireRack_27 : decode cX4_requireRack 27 = .ok (.athrow, 1) := by decide +kernel
theorem dX4_requireRack_28 : decode cX4_requireRack 28 = .ok (.aload_n 0, 1) := by decide +kernel
theorem dX4_requireRack_29 : decode cX4_requireRack 29 = .ok (.getfield 12, 3) := by decide +kernel
theorem dX4_requireRack_32 : decode cX4_requireRack 32 = .ok (.getfield 50, 3) := by decide +kernel
theorem dX4_requireRack_35 : decode cX4_requireRack 35 = .ok (.iload_n 1, 1) := by decide +kernel
theorem dX4_requireRack_36 : decode cX4_requireRack 36 = .ok (.invokevirtual 101, 3) := by decide +kernel
theorem dX4_requireRack_39 : decode cX4_requireRack 39 = .ok (.checkcast 64, 3) := by decide +kernel
theorem dX4_requireRack_42 : decode cX4_requireRack 42 = .ok (.areturn, 1) := by decide +kernel
theorem dX4_requireMachine_0 : decode cX4_requireMachine 0 = .ok (.aload_n 0, 1) := by decide +kernel
theorem dX4_requireMachine_1 : decode cX4_requireMachine 1 = .ok (.getfield 23, 3) := by decide +kernel
theorem dX4_requireMachine_4 : decode cX4_requireMachine 4 = .ok (.aload_n 0, 1) := by decide +kernel
theorem dX4_requireMachine_5 : decode cX4_requireMachine 5 = .ok (.iload_n 1, 1) := by decide +kernel
theorem dX4_requireMachine_6 : decode cX4_requireMachine 6 = .ok (.invokevirtual 133, 3) := by decide +kernel
theorem dX4_requireMachine_9 : decode cX4_requireMachine 9 = .ok (.invokevirtual 101, 3) := by decide +kernel
theorem dX4_requireMachine_12 : decode cX4_requireMachine 12 = .ok (.checkcast 105, 3) := by decide +kernel
theorem dX4_requireMachine_15 : decode cX4_requireMachine 15 = .ok (.areturn, 1) := by decide +kernel
theorem dX4_indexOfPlaced_0 : decode cX4_indexOfPlaced 0 = .ok (.iconst 0, 1) := by decide +kernel
theorem dX4_indexOfPlaced_1 : decode cX4_indexOfPlaced 1 = .ok (.istore_n 2, 1) := by decide +kernel
theorem dX4_indexOfPlaced_2 : decode cX4_indexOfPlaced 2 = .ok (.iload_n 2, 1) := by decide +kernel
theorem dX4_indexOfPlaced_3 : decode cX4_indexOfPlaced 3 = .ok (.aload_n 0, 1) := by decide +kernel
theorem dX4_indexOfPlaced_4 : decode cX4_indexOfPlaced 4 = .ok (.getfield 23, 3) := by decide +kernel
theorem dX4_indexOfPlaced_7 : decode cX4_indexOfPlaced 7 = .ok (.invokevirtual 53, 3) := by decide +kernel
theorem dX4_indexOfPlaced_10 : decode cX4_indexOfPlaced 10 = .ok (.if_icmp .ge 29, 3) := by decide +kernel
theorem dX4_indexOfPlaced_13 : decode cX4_indexOfPlaced 13 = .ok (.aload_n 0, 1) := by decide +kernel
theorem dX4_indexOfPlaced_14 : decode cX4_indexOfPlaced 14 = .ok (.getfield 23, 3) := by decide +kernel
theorem dX4_indexOfPlaced_17 : decode cX4_indexOfPlaced 17 = .ok (.iload_n 2, 1) := by decide +kernel
theorem dX4_indexOfPlaced_18 : decode cX4_indexOfPlaced 18 = .ok (.invokevirtual 101, 3) := by decide +kernel
theorem dX4_indexOfPlaced_21 : decode cX4_indexOfPlaced 21 = .ok (.checkcast 105, 3) := by decide +kernel
theorem dX4_indexOfPlaced_24 : decode cX4_indexOfPlaced 24 = .ok (.getfield 130, 3) := by decide +kernel
theorem dX4_indexOfPlaced_27 : decode cX4_indexOfPlaced 27 = .ok (.iload_n 1, 1) := by decide +kernel
theorem dX4_indexOfPlaced_28 : decode cX4_indexOfPlaced 28 = .ok (.if_icmp .ne 5, 3) := by decide +kernel
theorem dX4_indexOfPlaced_31 : decode cX4_indexOfPlaced 31 = .ok (.iload_n 2, 1) := by decide +kernel
theorem dX4_indexOfPlaced_32 : decode cX4_indexOfPlaced 32 = .ok (.ireturn, 1) := by decide +kernel
theorem dX4_indexOfPlaced_33 : decode cX4_indexOfPlaced 33 = .ok (.iinc 2 1, 3) := by decide +kernel
theorem dX4_indexOfPlaced_36 : decode cX4_indexOfPlaced 36 = .ok (.goto (-34), 3) := by decide +kernel
theorem dX4_indexOfPlaced_39 : decode cX4_indexOfPlaced 39 = .ok (.new 184, 3) := by decide +kernel
theorem dX4_indexOfPlaced_42 : decode cX4_indexOfPlaced 42 = .ok (.dup, 1) := by decide +kernel
theorem dX4_indexOfPlaced_43 : decode cX4_indexOfPlaced 43 = .ok (.ldc 248, 2) := by decide +kernel
theorem dX4_indexOfPlaced_45 : decode cX4_indexOfPlaced 45 = .ok (.invokespecial 188, 3) := by decide +kernel
theorem dX4_indexOfPlaced_48 : decode cX4_indexOfPlaced 48 = .ok (.athrow, 1) := by decide +kernel
theorem dX4_newMachine_0 : decode cX4_newMachine 0 = .ok (.iload_n 1, 1) := by decide +kernel
theorem dX4_newMachine_1 : decode cX4_newMachine 1 = .ok (.iconst 1, 1) := by decide +kernel
theorem dX4_newMachine_2 : decode cX4_newMachine 2 = .ok (.bipush 6, 2) := by decide +kernel
theorem dX4_newMachine_4 : decode cX4_newMachine 4 = .ok (.invokestatic 46, 3) := by decide +kernel
theorem dX4_newMachine_7 : decode cX4_newMachine 7 = .ok (.iload_n 2, 1) := by decide +kernel
theorem dX4_newMachine_8 : decode cX4_newMachine 8 = .ok (.iconst 0, 1) := by decide +kernel
theorem dX4_newMachine_9 : decode cX4_newMachine 9 = .ok (.sipush 2000, 3) := by decide +kernel
theorem dX4_newMachine_12 : decode cX4_newMachine 12 = .ok (.invokestatic 46, 3) := by decide +kernel
theorem dX4_newMachine_15 : decode cX4_newMachine 15 = .ok (.iload_n 3, 1) := by decide +kernel
theorem dX4_newMachine_16 : decode cX4_newMachine 16 = .ok (.iconst 0, 1) := by decide +kernel
theorem dX4_newMachine_17 : decode cX4_newMachine 17 = .ok (.sipush 1000, 3) := by decide +kernel
theorem dX4_newMachine_20 : decode cX4_newMachine 20 = .ok (.invokestatic 46, 3) := by decide +kernel
theorem dX4_newMachine_23 : decode cX4_newMachine 23 = .ok (.iload 4, 2) := by decide +kernel
theorem dX4_newMachine_25 : decode cX4_newMachine 25 = .ok (.iconst 0, 1) := by decide +kernel
theorem dX4_newMachine_26 : decode cX4_newMachine 26 = .ok (.iconst 2, 1) := by decide +kernel
theorem dX4_newMachine_27 : decode cX4_newMachine 27 = .ok (.invokestatic 46, 3) := by decide +kernel
theorem dX4_newMachine_30 : decode cX4_newMachine 30 = .ok (.new 105, 3) := by decide +kernel
theorem dX4_newMachine_33 : decode cX4_newMachine 33 = .ok (.dup, 1) := by decide +kernel
theorem dX4_newMachine_34 : decode cX4_newMachine 34 = .ok (.aload_n 0, 1) := by decide +kernel
theorem dX4_newMachine_35 : decode cX4_newMachine 35 = .ok (.getfield 42, 3) := by decide +kernel
theorem dX4_newMachine_38 : decode cX4_newMachine 38 = .ok (.iload_n 1, 1) := by decide +kernel
theorem dX4_newMachine_39 : decode cX4_newMachine 39 = .ok (.iload_n 2, 1) := by decide +kernel
theorem dX4_newMachine_40 : decode cX4_newMachine 40 = .ok (.iload_n 3, 1) := by decide +kernel
theorem dX4_newMachine_41 : decode cX4_newMachine 41 = .ok (.iload 4, 2) := by decide +kernel
theorem dX4_newMachine_43 : decode cX4_newMachine 43 = .ok (.invokespecial 250, 3) := by decide +kernel
theorem dX4_newMachine_46 : decode cX4_newMachine 46 = .ok (.areturn, 1) := by decide +kernel
theorem dX4_cellAt_0 : decode cX4_cellAt 0 = .ok (.iload_n 0, 1) := by decide +kernel
theorem dX4_cellAt_1 : decode cX4_cellAt 1 = .ok (.bipush 20, 2) := by decide +kernel
theorem dX4_cellAt_3 : decode cX4_cellAt 3 = .ok (.imul, 1) := by decide +kernel
theorem dX4_cellAt_4 : decode cX4_cellAt 4 = .ok (.iload_n 1, 1) := by decide +kernel
theorem dX4_cellAt_5 : decode cX4_cellAt 5 = .ok (.iadd, 1) := by decide +kernel
theorem dX4_cellAt_6 : decode cX4_cellAt 6 = .ok (.ireturn, 1) := by decide +kernel
theorem dX4_rackOfCell_0 : decode cX4_rackOfCell 0 = .ok (.iload_n 0, 1) := by decide +kernel
theorem dX4_rackOfCell_1 : decode cX4_rackOfCell 1 = .ok (.bipush 20, 2) := by decide +kernel
theorem dX4_rackOfCell_3 : decode cX4_rackOfCell 3 = .ok (.idiv, 1) := by decide +kernel
theorem dX4_rackOfCell_4 : decode cX4_rackOfCell 4 = .ok (.ireturn, 1) := by decide +kernel
theorem dX4_rowOfMachine_0 : decode cX4_rowOfMachine 0 = .ok (.aload_n 0, 1) := by decide +kernel
theorem dX4_rowOfMachine_1 : decode cX4_rowOfMachine 1 = .ok (.getfield 12, 3) := by decide +kernel
theorem dX4_rowOfMachine_4 : decode cX4_rowOfMachine 4 = .ok (.getfield 50, 3) := by decide +kernel
theorem dX4_rowOfMachine_7 : decode cX4_rowOfMachine 7 = .ok (.aload_n 1, 1) := by decide +kernel
theorem dX4_rowOfMachine_8 : decode cX4_rowOfMachine 8 = .ok (.getfield 123, 3) := by decide +kernel
theorem dX4_rowOfMachine_11 : decode cX4_rowOfMachine 11 = .ok (.invokestatic 143, 3) := by decide +kernel
theorem dX4_rowOfMachine_14 : decode cX4_rowOfMachine 14 = .ok (.invokevirtual 101, 3) := by decide +kernel
theorem dX4_rowOfMachine_17 : decode cX4_rowOfMachine 17 = .ok (.checkcast 64, 3) := by decide +kernel
theorem dX4_rowOfMachine_20 : decode cX4_rowOfMachine 20 = .ok (.getfield 253, 3) := by decide +kernel
theorem dX4_rowOfMachine_23 : decode cX4_rowOfMachine 23 = .ok (.ireturn, 1) := by decide +kernel
theorem dX4_hasNoFeed_0 : decode cX4_hasNoFeed 0 = .ok (.iconst 0, 1) := by decide +kernel
theorem dX4_hasNoFeed_1 : decode cX4_hasNoFeed 1 = .ok (.istore_n 2, 1) := by decide +kernel
theorem dX4_hasNoFeed_2 : decode cX4_hasNoFeed 2 = .ok (.iload_n 2, 1) := by decide +kernel
theorem dX4_hasNoFeed_3 : decode cX4_hasNoFeed 3 = .ok (.iconst 2, 1) := by decide +kernel
theorem dX4_hasNoFeed_4 : decode cX4_hasNoFeed 4 = .ok (.if_icmp .ge 28, 3) := by decide +kernel
theorem dX4_hasNoFeed_7 : decode cX4_hasNoFeed 7 = .ok (.aload_n 1, 1) := by decide +kernel
theorem dX4_hasNoFeed_8 : decode cX4_hasNoFeed 8 = .ok (.iload_n 2, 1) := by decide +kernel
theorem dX4_hasNoFeed_9 : decode cX4_hasNoFeed 9 = .ok (.invokevirtual 256, 3) := by decide +kernel
theorem dX4_hasNoFeed_12 : decode cX4_hasNoFeed 12 = .ok (.ifCond .eq 14, 3) := by decide +kernel
theorem dX4_hasNoFeed_15 : decode cX4_hasNoFeed 15 = .ok (.aload_n 0, 1) := by decide +kernel
theorem dX4_hasNoFeed_16 : decode cX4_hasNoFeed 16 = .ok (.getfield 16, 3) := by decide +kernel
theorem dX4_hasNoFeed_19 : decode cX4_hasNoFeed 19 = .ok (.iload_n 2, 1) := by decide +kernel
theorem dX4_hasNoFeed_20 : decode cX4_hasNoFeed 20 = .ok (.baload, 1) := by decide +kernel
theorem dX4_hasNoFeed_21 : decode cX4_hasNoFeed 21 = .ok (.ifCond .ne 5, 3) := by decide +kernel
theorem dX4_hasNoFeed_24 : decode cX4_hasNoFeed 24 = .ok (.iconst 0, 1) := by decide +kernel
theorem dX4_hasNoFeed_25 : decode cX4_hasNoFeed 25 = .ok (.ireturn, 1) := by decide +kernel
theorem dX4_hasNoFeed_26 : decode cX4_hasNoFeed 26 = .ok (.iinc 2 1, 3) := by decide +kernel
theorem dX4_hasNoFeed_29 : decode cX4_hasNoFeed 29 = .ok (.goto (-27), 3) := by decide +kernel
theorem dX4_hasNoFeed_32 : decode cX4_hasNoFeed 32 = .ok (.iconst 1, 1) := by decide +kernel
theorem dX4_hasNoFeed_33 : decode cX4_hasNoFeed 33 = .ok (.ireturn, 1) := by decide +kernel
theorem dX4_powerNow_0 : decode cX4_powerNow 0 = .ok (.aload_n 0, 1) := by decide +kernel
theorem dX4_powerNow_1 : decode cX4_powerNow 1 = .ok (.getfield 16, 3) := by decide +kernel
theorem dX4_powerNow_4 : decode cX4_powerNow 4 = .ok (.iload_n 2, 1) := by decide +kernel
theorem dX4_powerNow_5 : decode cX4_powerNow 5 = .ok (.baload, 1) := by decide +kernel
theorem dX4_powerNow_6 : decode cX4_powerNow 6 = .ok (.ifCond .ne 11, 3) := by decide +kernel
theorem dX4_powerNow_9 : decode cX4_powerNow 9 = .ok (.aload_n 1, 1) := by decide +kernel
theorem dX4_powerNow_10 : decode cX4_powerNow 10 = .ok (.iload_n 2, 1) := by decide +kernel
theorem dX4_powerNow_11 : decode cX4_powerNow 11 = .ok (.invokevirtual 256, 3) := by decide +kernel
theorem dX4_powerNow_14 : decode cX4_powerNow 14 = .ok (.ifCond .ne 5, 3) := by decide +kernel
theorem dX4_powerNow_17 : decode cX4_powerNow 17 = .ok (.iconst 0, 1) := by decide +kernel
theorem dX4_powerNow_18 : decode cX4_powerNow 18 = .ok (.ireturn, 1) := by decide +kernel
theorem dX4_powerNow_19 : decode cX4_powerNow 19 = .ok (.aload_n 1, 1) := by decide +kernel
theorem dX4_powerNow_20 : decode cX4_powerNow 20 = .ok (.getfield 156, 3) := by decide +kernel
theorem dX4_powerNow_23 : decode cX4_powerNow 23 = .ok (.iconst 2, 1) := by decide +kernel
theorem dX4_powerNow_24 : decode cX4_powerNow 24 = .ok (.if_icmp .ne 14, 3) := by decide +kernel
theorem dX4_powerNow_27 : decode cX4_powerNow 27 = .ok (.aload_n 0, 1) := by decide +kernel
theorem dX4_powerNow_28 : decode cX4_powerNow 28 = .ok (.getfield 16, 3) := by decide +kernel
theorem dX4_powerNow_31 : decode cX4_powerNow 31 = .ok (.iconst 1, 1) := by decide +kernel
theorem dX4_powerNow_32 : decode cX4_powerNow 32 = .ok (.iload_n 2, 1) := by decide +kernel
theorem dX4_powerNow_33 : decode cX4_powerNow 33 = .ok (.isub, 1) := by decide +kernel
theorem dX4_powerNow_34 : decode cX4_powerNow 34 = .ok (.baload, 1) := by decide +kernel
theorem dX4_powerNow_35 : decode cX4_powerNow 35 = .ok (.ifCond .eq 8, 3) := by decide +kernel
theorem dX4_powerNow_38 : decode cX4_powerNow 38 = .ok (.aload_n 1, 1) := by decide +kernel
theorem dX4_powerNow_39 : decode cX4_powerNow 39 = .ok (.getfield 214, 3) := by decide +kernel
theorem dX4_powerNow_42 : decode cX4_powerNow 42 = .ok (.ireturn, 1) := by decide +kernel
theorem dX4_powerNow_43 : decode cX4_powerNow 43 = .ok (.aload_n 1, 1) := by decide +kernel
theorem dX4_powerNow_44 : decode cX4_powerNow 44 = .ok (.getfield 214, 3) := by decide +kernel
theorem dX4_powerNow_47 : decode cX4_powerNow 47 = .ok (.iconst 2, 1) := by decide +kernel
theorem dX4_powerNow_48 : decode cX4_powerNow 48 = .ok (.idiv, 1) := by decide +kernel
theorem dX4_powerNow_49 : decode cX4_powerNow 49 = .ok (.istore_n 3, 1) := by decide +kernel
theorem dX4_powerNow_50 : decode cX4_powerNow 50 = .ok (.iload_n 2, 1) := by decide +kernel
theorem dX4_powerNow_51 : decode cX4_powerNow 51 = .ok (.ifCond .ne 12, 3) := by decide +kernel
theorem dX4_powerNow_54 : decode cX4_powerNow 54 = .ok (.aload_n 1, 1) := by decide +kernel
theorem dX4_powerNow_55 : decode cX4_powerNow 55 = .ok (.getfield 214, 3) := by decide +kernel
theorem dX4_powerNow_58 : decode cX4_powerNow 58 = .ok (.iload_n 3, 1) := by decide +kernel
theorem dX4_powerNow_59 : decode cX4_powerNow 59 = .ok (.isub, 1) := by decide +kernel
theorem dX4_powerNow_60 : decode cX4_powerNow 60 = .ok (.goto 4, 3) := by decide +kernel
theorem dX4_powerNow_63 : decode cX4_powerNow 63 = .ok (.iload_n 3, 1) := by decide +kernel
theorem dX4_powerNow_64 : decode cX4_powerNow 64 = .ok (.ireturn, 1) := by decide +kernel
theorem dX4_listForPacking_0 : decode cX4_listForPacking 0 = .ok (.aload_n 0, 1) := by decide +kernel
theorem dX4_listForPacking_1 : decode cX4_listForPacking 1 = .ok (.getfield 27, 3) := by decide +kernel
theorem dX4_listForPacking_4 : decode cX4_listForPacking 4 = .ok (.invokevirtual 260, 3) := by decide +kernel
theorem dX4_listForPacking_7 : decode cX4_listForPacking 7 = .ok (.iconst 0, 1) := by decide +kernel
theorem dX4_listForPacking_8 : decode cX4_listForPacking 8 = .ok (.istore_n 1, 1) := by decide +kernel
theorem dX4_listForPacking_9 : decode cX4_listForPacking 9 = .ok (.iload_n 1, 1) := by decide +kernel
theorem dX4_listForPacking_10 : decode cX4_listForPacking 10 = .ok (.aload_n 0, 1) := by decide +kernel
theorem dX4_listForPacking_11 : decode cX4_listForPacking 11 = .ok (.getfield 23, 3) := by decide +kernel
theorem dX4_listForPacking_14 : decode cX4_listForPacking 14 = .ok (.invokevirtual 53, 3) := by decide +kernel
theorem dX4_listForPacking_17 : decode cX4_listForPacking 17 = .ok (.if_icmp .ge 68, 3) := by decide +kernel
theorem dX4_listForPacking_20 : decode cX4_listForPacking 20 = .ok (.aload_n 0, 1) := by decide +kernel
theorem dX4_listForPacking_21 : decode cX4_listForPacking 21 = .ok (.getfield 23, 3) := by decide +kernel
theorem dX4_listForPacking_24 : decode cX4_listForPacking 24 = .ok (.iload_n 1, 1) := by decide +kernel
theorem dX4_listForPacking_25 : decode cX4_listForPacking 25 = .ok (.invokevirtual 101, 3) := by decide +kernel
theorem dX4_listForPacking_28 : decode cX4_listForPacking 28 = .ok (.checkcast 105, 3) := by decide +kernel
theorem dX4_listForPacking_31 : decode cX4_listForPacking 31 = .ok (.astore_n 2, 1) := by decide +kernel
theorem dX4_listForPacking_32 : decode cX4_listForPacking 32 = .ok (.aload_n 0, 1) := by decide +kernel
theorem dX4_listForPacking_33 : decode cX4_listForPacking 33 = .ok (.getfield 27, 3) := by decide +kernel
theorem dX4_listForPacking_36 : decode cX4_listForPacking 36 = .ok (.invokevirtual 53, 3) := by decide +kernel
theorem dX4_listForPacking_39 : decode cX4_listForPacking 39 = .ok (.istore_n 3, 1) := by decide +kernel
theorem dX4_listForPacking_40 : decode cX4_listForPacking 40 = .ok (.iload_n 3, 1) := by decide +kernel
theorem dX4_listForPacking_41 : decode cX4_listForPacking 41 = .ok (.ifCond .le 29, 3) := by decide +kernel
theorem dX4_listForPacking_44 : decode cX4_listForPacking 44 = .ok (.aload_n 2, 1) := by decide +kernel
theorem dX4_listForPacking_45 : decode cX4_listForPacking 45 = .ok (.aload_n 0, 1) := by decide +kernel
theorem dX4_listForPacking_46 : decode cX4_listForPacking 46 = .ok (.getfield 27, 3) := by decide +kernel
theorem dX4_listForPacking_49 : decode cX4_listForPacking 49 = .ok (.iload_n 3, 1) := by decide +kernel
theorem dX4_listForPacking_50 : decode cX4_listForPacking 50 = .ok (.iconst 1, 1) := by decide +kernel
theorem dX4_listForPacking_51 : decode cX4_listForPacking 51 = .ok (.isub, 1) := by decide +kernel
theorem dX4_listForPacking_52 : decode cX4_listForPacking 52 = .ok (.invokevirtual 101, 3) := by decide +kernel
theorem dX4_listForPacking_55 : decode cX4_listForPacking 55 = .ok (.checkcast 105, 3) := by decide +kernel
theorem dX4_listForPacking_58 : decode cX4_listForPacking 58 = .ok (.invokevirtual 262, 3) := by decide +kernel
theorem dX4_listForPacking_61 : decode cX4_listForPacking 61 = .ok (.ifCond .eq 9, 3) := by decide +kernel
theorem dX4_listForPacking_64 : decode cX4_listForPacking 64 = .ok (.iinc 3 (-1), 3) := by decide +kernel
theorem dX4_listForPacking_67 : decode cX4_listForPacking 67 = .ok (.goto (-27), 3) := by decide +kernel
theorem dX4_listForPacking_70 : decode cX4_listForPacking 70 = .ok (.aload_n 0, 1) := by decide +kernel
theorem dX4_listForPacking_71 : decode cX4_listForPacking 71 = .ok (.getfield 27, 3) := by decide +kernel
theorem dX4_listForPacking_74 : decode cX4_listForPacking 74 = .ok (.iload_n 3, 1) := by decide +kernel
theorem dX4_listForPacking_75 : decode cX4_listForPacking 75 = .ok (.aload_n 2, 1) := by decide +kernel
theorem dX4_listForPacking_76 : decode cX4_listForPacking 76 = .ok (.invokevirtual 265, 3) := by decide +kernel
theorem dX4_listForPacking_79 : decode cX4_listForPacking 79 = .ok (.iinc 1 1, 3) := by decide +kernel
theorem dX4_listForPacking_82 : decode cX4_listForPacking 82 = .ok (.goto (-73), 3) := by decide +kernel
theorem dX4_listForPacking_85 : decode cX4_listForPacking 85 = .ok (.return_, 1) := by decide +kernel
theorem dX4_swapLayouts_0 : decode cX4_swapLayouts 0 = .ok (.aload_n 0, 1) := by decide +kernel
theorem dX4_swapLayouts_1 : decode cX4_swapLayouts 1 = .ok (.getfield 39, 3) := by decide +kernel
theorem dX4_swapLayouts_4 : decode cX4_swapLayouts 4 = .ok (.astore_n 1, 1) := by decide +kernel
theorem dX4_swapLayouts_5 : decode cX4_swapLayouts 5 = .ok (.aload_n 0, 1) := by decide +kernel
theorem dX4_swapLayouts_6 : decode cX4_swapLayouts 6 = .ok (.aload_n 0, 1) := by decide +kernel
theorem dX4_swapLayouts_7 : decode cX4_swapLayouts 7 = .ok (.getfield 35, 3) := by decide +kernel
theorem dX4_swapLayouts_10 : decode cX4_swapLayouts 10 = .ok (.putfield 39, 3) := by decide +kernel
theorem dX4_swapLayouts_13 : decode cX4_swapLayouts 13 = .ok (.aload_n 0, 1) := by decide +kernel
theorem dX4_swapLayouts_14 : decode cX4_swapLayouts 14 = .ok (.aload_n 1, 1) := by decide +kernel
theorem dX4_swapLayouts_15 : decode cX4_swapLayouts 15 = .ok (.putfield 35, 3) := by decide +kernel
theorem dX4_swapLayouts_18 : decode cX4_swapLayouts 18 = .ok (.return_, 1) := by decide +kernel
theorem dX4_moveToPacked_0 : decode cX4_moveToPacked 0 = .ok (.iconst 0, 1) := by decide +kernel
theorem dX4_moveToPacked_1 : decode cX4_moveToPacked 1 = .ok (.istore_n 1, 1) := by decide +kernel
theorem dX4_moveToPacked_2 : decode cX4_moveToPacked 2 = .ok (.iconst 0, 1) := by decide +kernel
theorem dX4_moveToPacked_3 : decode cX4_moveToPacked 3 = .ok (.istore_n 2, 1) := by decide +kernel
theorem dX4_moveToPacked_4 : decode cX4_moveToPacked 4 = .ok (.iload_n 2, 1) := by decide +kernel
theorem dX4_moveToPacked_5 : decode cX4_moveToPacked 5 = .ok (.aload_n 0, 1) := by decide +kernel
theorem dX4_moveToPacked_6 : decode cX4_moveToPacked 6 = .ok (.getfield 23, 3) := by decide +kernel
theorem dX4_moveToPacked_9 : decode cX4_moveToPacked 9 = .ok (.invokevirtual 53, 3) := by decide +kernel
theorem dX4_moveToPacked_12 : decode cX4_moveToPacked 12 = .ok (.if_icmp .ge 43, 3) := by decide +kernel
theorem dX4_moveToPacked_15 : decode cX4_moveToPacked 15 = .ok (.aload_n 0, 1) := by decide +kernel
theorem dX4_moveToPacked_16 : decode cX4_moveToPacked 16 = .ok (.getfield 23, 3) := by decide +kernel
theorem dX4_moveToPacked_19 : decode cX4_moveToPacked 19 = .ok (.iload_n 2, 1) := by decide +kernel
theorem dX4_moveToPacked_20 : decode cX4_moveToPacked 20 = .ok (.invokevirtual 101, 3) := by decide +kernel
theorem dX4_moveToPacked_23 : decode cX4_moveToPacked 23 = .ok (.checkcast 105, 3) := by decide +kernel
theorem dX4_moveToPacked_26 : decode cX4_moveToPacked 26 = .ok (.astore_n 3, 1) := by decide +kernel
theorem dX4_moveToPacked_27 : decode cX4_moveToPacked 27 = .ok (.aload_n 3, 1) := by decide +kernel
theorem dX4_moveToPacked_28 : decode cX4_moveToPacked 28 = .ok (.getfield 123, 3) := by decide +kernel
theorem dX4_moveToPacked_31 : decode cX4_moveToPacked 31 = .ok (.aload_n 3, 1) := by decide +kernel
theorem dX4_moveToPacked_32 : decode cX4_moveToPacked 32 = .ok (.getfield 168, 3) := by decide +kernel
theorem dX4_moveToPacked_35 : decode cX4_moveToPacked 35 = .ok (.if_icmp .eq 6, 3) := by decide +kernel
theorem dX4_moveToPacked_38 : decode cX4_moveToPacked 38 = .ok (.iinc 1 1, 3) := by decide +kernel
theorem dX4_moveToPacked_41 : decode cX4_moveToPacked 41 = .ok (.aload_n 3, 1) := by decide +kernel
theorem dX4_moveToPacked_42 : decode cX4_moveToPacked 42 = .ok (.aload_n 3, 1) := by decide +kernel
theorem dX4_moveToPacked_43 : decode cX4_moveToPacked 43 = .ok (.getfield 168, 3) := by decide +kernel
theorem dX4_moveToPacked_46 : decode cX4_moveToPacked 46 = .ok (.putfield 123, 3) := by decide +kernel
theorem dX4_moveToPacked_49 : decode cX4_moveToPacked 49 = .ok (.iinc 2 1, 3) := by decide +kernel
theorem dX4_moveToPacked_52 : decode cX4_moveToPacked 52 = .ok (.goto (-48), 3) := by decide +kernel
theorem dX4_moveToPacked_55 : decode cX4_moveToPacked 55 = .ok (.iload_n 1, 1) := by decide +kernel
theorem dX4_moveToPacked_56 : decode cX4_moveToPacked 56 = .ok (.ireturn, 1) := by decide +kernel
theorem dX4_atMost_0 : decode cX4_atMost 0 = .ok (.iload_n 2, 1) := by decide +kernel
theorem dX4_atMost_1 : decode cX4_atMost 1 = .ok (.ifCond .gt 7, 3) := by decide +kernel
theorem dX4_atMost_4 : decode cX4_atMost 4 = .ok (.iload_n 0, 1) := by decide +kernel
theorem dX4_atMost_5 : decode cX4_atMost 5 = .ok (.goto 10, 3) := by decide +kernel
theorem dX4_atMost_8 : decode cX4_atMost 8 = .ok (.iload_n 0, 1) := by decide +kernel
theorem dX4_atMost_9 : decode cX4_atMost 9 = .ok (.iload_n 1, 1) := by decide +kernel
theorem dX4_atMost_10 : decode cX4_atMost 10 = .ok (.iload_n 2, 1) := by decide +kernel
theorem dX4_atMost_11 : decode cX4_atMost 11 = .ok (.idiv, 1) := by decide +kernel
theorem dX4_atMost_12 : decode cX4_atMost 12 = .ok (.invokestatic 268, 3) := by decide +kernel
theorem dX4_atMost_15 : decode cX4_atMost 15 = .ok (.ireturn, 1) := by decide +kernel
end
section
theorem dX5_init_0 : decode cX5_init 0 = .ok (.aload_n 0, 1) := by decide +kernel
theorem dX5_init_1 : decode cX5_init 1 = .ok (.invokespecial 1, 3) := by decide +kernel
theorem dX5_init_4 : decode cX5_init 4 = .ok (.aload_n 0, 1) := by decide +kernel
theorem dX5_init_5 : decode cX5_init 5 = .ok (.bipush 8, 2) := by decide +kernel
theorem dX5_init_7 : decode cX5_init 7 = .ok (.newarray .int, 2) := by decide +kernel
theorem dX5_init_9 : decode cX5_init 9 = .ok (.putfield 7, 3) := by decide +kernel
theorem dX5_init_12 : decode cX5_init 12 = .ok (.aload_n 0, 1) := by decide +kernel
theorem dX5_init_13 : decode cX5_init 13 = .ok (.bipush 8, 2) := by decide +kernel
theorem dX5_init_15 : decode cX5_init 15 = .ok (.newarray .int, 2) := by decide +kernel
theorem dX5_init_17 : decode cX5_init 17 = .ok (.putfield 13, 3) := by decide +kernel
theorem dX5_init_20 : decode cX5_init 20 = .ok (.aload_n 0, 1) := by decide +kernel
theorem dX5_init_21 : decode cX5_init 21 = .ok (.bipush 8, 2) := by decide +kernel
theorem dX5_init_23 : decode cX5_init 23 = .ok (.newarray .int, 2) := by decide +kernel
theorem dX5_init_25 : decode cX5_init 25 = .ok (.putfield 16, 3) := by decide +kernel
theorem dX5_init_28 : decode cX5_init 28 = .ok (.aload_n 0, 1) := by decide +kernel
theorem dX5_init_29 : decode cX5_init 29 = .ok (.bipush 8, 2) := by decide +kernel
theorem dX5_init_31 : decode cX5_init 31 = .ok (.newarray .int, 2) := by decide +kernel
theorem dX5_init_33 : decode cX5_init 33 = .ok (.putfield 19, 3) := by decide +kernel
theorem dX5_init_36 : decode cX5_init 36 = .ok (.aload_n 0, 1) := by decide +kernel
theorem dX5_init_37 : decode cX5_init 37 = .ok (.iconst 4, 1) := by decide +kernel
theorem dX5_init_38 : decode cX5_init 38 = .ok (.newarray .int, 2) := by decide +kernel
theorem dX5_init_40 : decode cX5_init 40 = .ok (.putfield 22, 3) := by decide +kernel
theorem dX5_init_43 : decode cX5_init 43 = .ok (.aload_n 0, 1) := by decide +kernel
theorem dX5_init_44 : decode cX5_init 44 = .ok (.iconst 4, 1) := by decide +kernel
theorem dX5_init_45 : decode cX5_init 45 = .ok (.newarray .int, 2) := by decide +kernel
theorem dX5_init_47 : decode cX5_init 47 = .ok (.putfield 25, 3) := by decide +kernel
theorem dX5_init_50 : decode cX5_init 50 = .ok (.aload_n 0, 1) := by decide +kernel
theorem dX5_init_51 : decode cX5_init 51 = .ok (.iconst 2, 1) := by decide +kernel
theorem dX5_init_52 : decode cX5_init 52 = .ok (.newarray .int, 2) := by decide +kernel
theorem dX5_init_54 : decode cX5_init 54 = .ok (.putfield 28, 3) := by decide +kernel
theorem dX5_init_57 : decode cX5_init 57 = .ok (.aload_n 0, 1) := by decide +kernel
theorem dX5_init_58 : decode cX5_init 58 = .ok (.iconst 2, 1) := by decide +kernel
theorem dX5_init_59 : decode cX5_init 59 = .ok (.newarray .boolean, 2) := by decide +kernel
theorem dX5_init_61 : decode cX5_init 61 = .ok (.putfield 31, 3) := by decide +kernel
theorem dX5_init_64 : decode cX5_init 64 = .ok (.aload_n 0, 1) := by decide +kernel
theorem dX5_init_65 : decode cX5_init 65 = .ok (.bipush 60, 2) := by decide +kernel
theorem dX5_init_67 : decode cX5_init 67 = .ok (.newarray .int, 2) := by decide +kernel
theorem dX5_init_69 : decode cX5_init 69 = .ok (.putfield 35, 3) := by decide +kernel
theorem dX5_init_72 : decode cX5_init 72 = .ok (.aload_n 0, 1) := by decide +kernel
theorem dX5_init_73 : decode cX5_init 73 = .ok (.bipush 60, 2) := by decide +kernel
theorem dX5_init_75 : decode cX5_init 75 = .ok (.newarray .int, 2) := by decide +kernel
theorem dX5_init_77 : decode cX5_init 77 = .ok (.putfield 38, 3) := by decide +kernel
theorem dX5_init_80 : decode cX5_init 80 = .ok (.aload_n 0, 1) := by decide +kernel
theorem dX5_init_81 : decode cX5_init 81 = .ok (.bipush 60, 2) := by decide +kernel
theorem dX5_init_83 : decode cX5_init 83 = .ok (.newarray .int, 2) := by decide +kernel
theorem dX5_init_85 : decode cX5_init 85 = .ok (.putfield 41, 3) := by decide +kernel
theorem dX5_init_88 : decode cX5_init 88 = .ok (.aload_n 0, 1) := by decide +kernel
theorem dX5_init_89 : decode cX5_init 89 = .ok (.bipush 60, 2) := by decide +kernel
theorem dX5_init_91 : decode cX5_init 91 = .ok (.newarray .int, 2) := by decide +kernel
theorem dX5_init_93 : decode cX5_init 93 = .ok (.putfield 44, 3) := by decide +kernel
theorem dX5_init_96 : decode cX5_init 96 = .ok (.aload_n 0, 1) := by decide +kernel
theorem dX5_init_97 : decode cX5_init 97 = .ok (.bipush 60, 2) := by decide +kernel
theorem dX5_init_99 : decode cX5_init 99 = .ok (.newarray .int, 2) := by decide +kernel
theorem dX5_init_101 : decode cX5_init 101 = .ok (.putfield 47, 3) := by decide +kernel
theorem dX5_init_104 : decode cX5_init 104 = .ok (.aload_n 0, 1) := by decide +kernel
theorem dX5_init_105 : decode cX5_init 105 = .ok (.bipush 60, 2) := by decide +kernel
theorem dX5_init_107 : decode cX5_init 107 = .ok (.newarray .int, 2) := by decide +kernel
theorem dX5_init_109 : decode cX5_init 109 = .ok (.putfield 50, 3) := by decide +kernel
theorem dX5_init_112 : decode cX5_init 112 = .ok (.aload_n 0, 1) := by decide +kernel
theorem dX5_init_113 : decode cX5_init 113 = .ok (.bipush 60, 2) := by decide +kernel
theorem dX5_init_115 : decode cX5_init 115 = .ok (.newarray .int, 2) := by decide +kernel
theorem dX5_init_117 : decode cX5_init 117 = .ok (.putfield 53, 3) := by decide +kernel
theorem dX5_init_120 : decode cX5_init 120 = .ok (.aload_n 0, 1) := by decide +kernel
theorem dX5_init_121 : decode cX5_init 121 = .ok (.bipush 60, 2) := by decide +kernel
theorem dX5_init_123 : decode cX5_init 123 = .ok (.newarray .int, 2) := by decide +kernel
theorem dX5_init_125 : decode cX5_init 125 = .ok (.putfield 56, 3) := by decide +kernel
theorem dX5_init_128 : decode cX5_init 128 = .ok (.aload_n 0, 1) := by decide +kernel
theorem dX5_init_129 : decode cX5_init 129 = .ok (.bipush 60, 2) := by decide +kernel
theorem dX5_init_131 : decode cX5_init 131 = .ok (.newarray .int, 2) := by decide +kernel
theorem dX5_init_133 : decode cX5_init 133 = .ok (.putfield 59, 3) := by decide +kernel
theorem dX5_init_136 : decode cX5_init 136 = .ok (.iconst 0, 1) := by decide +kernel
theorem dX5_init_137 : decode cX5_init 137 = .ok (.istore_n 1, 1) := by decide +kernel
theorem dX5_init_138 : decode cX5_init 138 = .ok (.iload_n 1, 1) := by decide +kernel
theorem dX5_init_139 : decode cX5_init 139 = .ok (.iconst 4, 1) := by decide +kernel
theorem dX5_init_140 : decode cX5_init 140 = .ok (.if_icmp .ge 27, 3) := by decide +kernel
theorem dX5_init_143 : decode cX5_init 143 = .ok (.aload_n 0, 1) := by decide +kernel
theorem dX5_init_144 : decode cX5_init 144 = .ok (.getfield 22, 3) := by decide +kernel
theorem dX5_init_147 : decode cX5_init 147 = .ok (.iload_n 1, 1) := by decide +kernel
theorem dX5_init_148 : decode cX5_init 148 = .ok (.sipush 10000, 3) := by decide +kernel
theorem dX5_init_151 : decode cX5_init 151 = .ok (.iastore, 1) := by decide +kernel
theorem dX5_init_152 : decode cX5_init 152 = .ok (.aload_n 0, 1) := by decide +kernel
theorem dX5_init_153 : decode cX5_init 153 = .ok (.getfield 25, 3) := by decide +kernel
theorem dX5_init_156 : decode cX5_init 156 = .ok (.iload_n 1, 1) := by decide +kernel
theorem dX5_init_157 : decode cX5_init 157 = .ok (.sipush 10000, 3) := by decide +kernel
theorem dX5_init_160 : decode cX5_init 160 = .ok (.iastore, 1) := by decide +kernel
theorem dX5_init_161 : decode cX5_init 161 = .ok (.iinc 1 1, 3) := by decide +kernel
theorem dX5_init_164 : decode cX5_init 164 = .ok (.goto (-26), 3) := by decide +kernel
theorem dX5_init_167 : decode cX5_init 167 = .ok (.aload_n 0, 1) := by decide +kernel
theorem dX5_init_168 : decode cX5_init 168 = .ok (.getfield 28, 3) := by decide +kernel
theorem dX5_init_171 : decode cX5_init 171 = .ok (.iconst 0, 1) := by decide +kernel
theorem dX5_init_172 : decode cX5_init 172 = .ok (.sipush 20000, 3) := by decide +kernel
theorem dX5_init_175 : decode cX5_init 175 = .ok (.iastore, 1) := by decide +kernel
theorem dX5_init_176 : decode cX5_init 176 = .ok (.aload_n 0, 1) := by decide +kernel
theorem dX5_init_177 : decode cX5_init 177 = .ok (.getfield 28, 3) := by decide +kernel
theorem dX5_init_180 : decode cX5_init 180 = .ok (.iconst 1, 1) := by decide +kernel
theorem dX5_init_181 : decode cX5_init 181 = .ok (.sipush 20000, 3) := by decide +kernel
theorem dX5_init_184 : decode cX5_init 184 = .ok (.iastore, 1) := by decide +kernel
theorem dX5_init_185 : decode cX5_init 185 = .ok (.return_, 1) := by decide +kernel
theorem dX5_thrown_0 : decode cX5_thrown 0 = .ok (.aload_n 0, 1) := by decide +kernel
theorem dX5_thrown_1 : decode cX5_thrown 1 = .ok (.getfield 62, 3) := by decide +kernel
theorem dX5_thrown_4 : decode cX5_thrown 4 = .ok (.ireturn, 1) := by decide +kernel
theorem dX5_isFine_0 : decode cX5_isFine 0 = .ok (.aload_n 0, 1) := by decide +kernel
theorem dX5_isFine_1 : decode cX5_isFine 1 = .ok (.iload_n 1, 1) := by decide +kernel
theorem dX5_isFine_2 : decode cX5_isFine 2 = .ok (.putfield 62, 3) := by decide +kernel
theorem dX5_isFine_5 : decode cX5_isFine 5 = .ok (.iload_n 1, 1) := by decide +kernel
theorem dX5_isFine_6 : decode cX5_isFine 6 = .ok (.ifCond .ne 7, 3) := by decide +kernel
theorem dX5_isFine_9 : decode cX5_isFine 9 = .ok (.iconst 1, 1) := by decide +kernel
theorem dX5_isFine_10 : decode cX5_isFine 10 = .ok (.goto 4, 3) := by decide +kernel
theorem dX5_isFine_13 : decode cX5_isFine 13 = .ok (.iconst 0, 1) := by decide +kernel
theorem dX5_isFine_14 : decode cX5_isFine 14 = .ok (.ireturn, 1) := by decide +kernel
theorem dX5_isIn_0 : decode cX5_isIn 0 = .ok (.iload_n 0, 1) := by decide +kernel
theorem dX5_isIn_1 : decode cX5_isIn 1 = .ok (.iload_n 1, 1) := by decide +kernel
theorem dX5_isIn_2 : decode cX5_isIn 2 = .ok (.if_icmp .lt 12, 3) := by decide +kernel
theorem dX5_isIn_5 : decode cX5_isIn 5 = .ok (.iload_n 0, 1) := by decide +kernel
theorem dX5_isIn_6 : decode cX5_isIn 6 = .ok (.iload_n 2, 1) := by decide +kernel
theorem dX5_isIn_7 : decode cX5_isIn 7 = .ok (.if_icmp .gt 7, 3) := by decide +kernel
theorem dX5_isIn_10 : decode cX5_isIn 10 = .ok (.iconst 1, 1) := by decide +kernel
theorem dX5_isIn_11 : decode cX5_isIn 11 = .ok (.goto 4, 3) := by decide +kernel
theorem dX5_isIn_14 : decode cX5_isIn 14 = .ok (.iconst 0, 1) := by decide +kernel
theorem dX5_isIn_15 : decode cX5_isIn 15 = .ok (.ireturn, 1) := by decide +kernel
theorem dX5_isRack_0 : decode cX5_isRack 0 = .ok (.iload_n 1, 1) := by decide +kernel
theorem dX5_isRack_1 : decode cX5_isRack 1 = .ok (.iconst 0, 1) := by decide +kernel
theorem dX5_isRack_2 : decode cX5_isRack 2 = .ok (.aload_n 0, 1) := by decide +kernel
theorem dX5_isRack_3 : decode cX5_isRack 3 = .ok (.getfield 66, 3) := by decide +kernel
theorem dX5_isRack_6 : decode cX5_isRack 6 = .ok (.iconst 1, 1) := by decide +kernel
theorem dX5_isRack_7 : decode cX5_isRack 7 = .ok (.isub, 1) := by decide +kernel
theorem dX5_isRack_8 : decode cX5_isRack 8 = .ok (.invokestatic 69, 3) := by decide +kernel
theorem dX5_isRack_11 : decode cX5_isRack 11 = .ok (.ireturn, 1) := by decide +kernel
theorem dX5_find_0 : decode cX5_find 0 = .ok (.iconst 0, 1) := by decide +kernel
theorem dX5_find_1 : decode cX5_find 1 = .ok (.istore_n 2, 1) := by decide +kernel
theorem dX5_find_2 : decode cX5_find 2 = .ok (.iload_n 2, 1) := by decide +kernel
theorem dX5_find_3 : decode cX5_find 3 = .ok (.aload_n 0, 1) := by decide +kernel
theorem dX5_find_4 : decode cX5_find 4 = .ok (.getfield 73, 3) := by decide +kernel
theorem dX5_find_7 : decode cX5_find 7 = .ok (.if_icmp .ge 21, 3) := by decide +kernel
theorem dX5_find_10 : decode cX5_find 10 = .ok (.aload_n 0, 1) := by decide +kernel
theorem dX5_find_11 : decode cX5_find 11 = .ok (.getfield 35, 3) := by decide +kernel
theorem dX5_find_14 : decode cX5_find 14 = .ok (.iload_n 2, 1) := by decide +kernel
theorem dX5_find_15 : decode cX5_find 15 = .ok (.iaload, 1) := by decide +kernel
theorem dX5_find_16 : decode cX5_find 16 = .ok (.iload_n 1, 1) := by decide +kernel
theorem dX5_find_17 : decode cX5_find 17 = .ok (.if_icmp .ne 5, 3) := by decide +kernel
theorem dX5_find_20 : decode cX5_find 20 = .ok (.iload_n 2, 1) := by decide +kernel
theorem dX5_find_21 : decode cX5_find 21 = .ok (.ireturn, 1) := by decide +kernel
theorem dX5_find_22 : decode cX5_find 22 = .ok (.iinc 2 1, 3) := by decide +kernel
theorem dX5_find_25 : decode cX5_find 25 = .ok (.goto (-23), 3) := by decide +kernel
theorem dX5_find_28 : decode cX5_find 28 = .ok (.iconst (-1), 1) := by decide +kernel
theorem dX5_find_29 : decode cX5_find 29 = .ok (.ireturn, 1) := by decide +kernel
theorem dX5_isCorded_0 : decode cX5_isCorded 0 = .ok (.iload_n 0, 1) := by decide +kernel
theorem dX5_isCorded_1 : decode cX5_isCorded 1 = .ok (.iconst 2, 1) := by decide +kernel
theorem dX5_isCorded_2 : decode cX5_isCorded 2 = .ok (.if_icmp .eq 8, 3) := by decide +kernel
theorem dX5_isCorded_5 : decode cX5_isCorded 5 = .ok (.iload_n 0, 1) := by decide +kernel
theorem dX5_isCorded_6 : decode cX5_isCorded 6 = .ok (.iload_n 1, 1) := by decide +kernel
theorem dX5_isCorded_7 : decode cX5_isCorded 7 = .ok (.if_icmp .ne 7, 3) := by decide +kernel
theorem dX5_isCorded_10 : decode cX5_isCorded 10 = .ok (.iconst 1, 1) := by decide +kernel
theorem dX5_isCorded_11 : decode cX5_isCorded 11 = .ok (.goto 4, 3) := by decide +kernel
theorem dX5_isCorded_14 : decode cX5_isCorded 14 = .ok (.iconst 0, 1) := by decide +kernel
theorem dX5_isCorded_15 : decode cX5_isCorded 15 = .ok (.ireturn, 1) := by decide +kernel
theorem dX5_worst_0 : decode cX5_worst 0 = .ok (.iconst 0, 1) := by decide +kernel
theorem dX5_worst_1 : decode cX5_worst 1 = .ok (.istore_n 3, 1) := by decide +kernel
theorem dX5_worst_2 : decode cX5_worst 2 = .ok (.iconst 0, 1) := by decide +kernel
theorem dX5_worst_3 : decode cX5_worst 3 = .ok (.istore 4, 2) := by decide +kernel
theorem dX5_worst_5 : decode cX5_worst 5 = .ok (.iload 4, 2) := by decide +kernel
theorem dX5_worst_7 : decode cX5_worst 7 = .ok (.aload_n 0, 1) := by decide +kernel
theorem dX5_worst_8 : decode cX5_worst 8 = .ok (.getfield 73, 3) := by decide +kernel
theorem dX5_worst_11 : decode cX5_worst 11 = .ok (.if_icmp .ge 76, 3) := by decide +kernel
theorem dX5_worst_14 : decode cX5_worst 14 = .ok (.aload_n 0, 1) := by decide +kernel
theorem dX5_worst_15 : decode cX5_worst 15 = .ok (.getfield 50, 3) := by decide +kernel
theorem dX5_worst_18 : decode cX5_worst 18 = .ok (.iload 4, 2) := by decide +kernel
theorem dX5_worst_20 : decode cX5_worst 20 = .ok (.iaload, 1) := by decide +kernel
theorem dX5_worst_21 : decode cX5_worst 21 = .ok (.iconst (-1), 1) := by decide +kernel
theorem dX5_worst_22 : decode cX5_worst 22 = .ok (.if_icmp .eq 23, 3) := by decide +kernel
theorem dX5_worst_25 : decode cX5_worst 25 = .ok (.iload_n 1, 1) := by decide +kernel
theorem dX5_worst_26 : decode cX5_worst 26 = .ok (.iconst (-1), 1) := by decide +kernel
theorem dX5_worst_27 : decode cX5_worst 27 = .ok (.if_icmp .eq 14, 3) := by decide +kernel
theorem dX5_worst_30 : decode cX5_worst 30 = .ok (.aload_n 0, 1) := by decide +kernel
theorem dX5_worst_31 : decode cX5_worst 31 = .ok (.getfield 50, 3) := by decide +kernel
theorem dX5_worst_34 : decode cX5_worst 34 = .ok (.iload 4, 2) := by decide +kernel
theorem dX5_worst_36 : decode cX5_worst 36 = .ok (.iaload, 1) := by decide +kernel
theorem dX5_worst_37 : decode cX5_worst 37 = .ok (.iload_n 1, 1) := by decide +kernel
theorem dX5_worst_38 : decode cX5_worst 38 = .ok (.if_icmp .ne 7, 3) := by decide +kernel
theorem dX5_worst_41 : decode cX5_worst 41 = .ok (.iconst 1, 1) := by decide +kernel
theorem dX5_worst_42 : decode cX5_worst 42 = .ok (.goto 4, 3) := by decide +kernel
theorem dX5_worst_45 : decode cX5_worst 45 = .ok (.iconst 0, 1) := by decide +kernel
theorem dX5_worst_46 : decode cX5_worst 46 = .ok (.istore 5, 2) := by decide +kernel
theorem dX5_worst_48 : decode cX5_worst 48 = .ok (.iload_n 3, 1) := by decide +kernel
theorem dX5_worst_49 : decode cX5_worst 49 = .ok (.iload 5, 2) := by decide +kernel
theorem dX5_worst_51 : decode cX5_worst 51 = .ok (.ifCond .eq 27, 3) := by decide +kernel
theorem dX5_worst_54 : decode cX5_worst 54 = .ok (.aload_n 0, 1) := by decide +kernel
theorem dX5_worst_55 : decode cX5_worst 55 = .ok (.getfield 47, 3) := by decide +kernel
theorem dX5_worst_58 : decode cX5_worst 58 = .ok (.iload 4, 2) := by decide +kernel
theorem dX5_worst_60 : decode cX5_worst 60 = .ok (.iaload, 1) := by decide +kernel
theorem dX5_worst_61 : decode cX5_worst 61 = .ok (.iload_n 2, 1) := by decide +kernel
theorem dX5_worst_62 : decode cX5_worst 62 = .ok (.invokestatic 76, 3) := by decide +kernel
theorem dX5_worst_65 : decode cX5_worst 65 = .ok (.ifCond .eq 13, 3) := by decide +kernel
theorem dX5_worst_68 : decode cX5_worst 68 = .ok (.aload_n 0, 1) := by decide +kernel
theorem dX5_worst_69 : decode cX5_worst 69 = .ok (.getfield 41, 3) := by decide +kernel
theorem dX5_worst_72 : decode cX5_worst 72 = .ok (.iload 4, 2) := by decide +kernel
theorem dX5_worst_74 : decode cX5_worst 74 = .ok (.iaload, 1) := by decide +kernel
theorem dX5_worst_75 : decode cX5_worst 75 = .ok (.goto 4, 3) := by decide +kernel
theorem dX5_worst_78 : decode cX5_worst 78 = .ok (.iconst 0, 1) := by decide +kernel
theorem dX5_worst_79 : decode cX5_worst 79 = .ok (.iadd, 1) := by decide +kernel
theorem dX5_worst_80 : decode cX5_worst 80 = .ok (.istore_n 3, 1) := by decide +kernel
theorem dX5_worst_81 : decode cX5_worst 81 = .ok (.iinc 4 1, 3) := by decide +kernel
theorem dX5_worst_84 : decode cX5_worst 84 = .ok (.goto (-79), 3) := by decide +kernel
theorem dX5_worst_87 : decode cX5_worst 87 = .ok (.iload_n 3, 1) := by decide +kernel
theorem dX5_worst_88 : decode cX5_worst 88 = .ok (.ireturn, 1) := by decide +kernel
theorem dX5_weighs_0 : decode cX5_weighs 0 = .ok (.iconst 0, 1) := by decide +kernel
theorem dX5_weighs_1 : decode cX5_weighs 1 = .ok (.istore_n 2, 1) := by decide +kernel
theorem dX5_weighs_2 : decode cX5_weighs 2 = .ok (.iconst 0, 1) := by decide +kernel
theorem dX5_weighs_3 : decode cX5_weighs 3 = .ok (.istore_n 3, 1) := by decide +kernel
theorem dX5_weighs_4 : decode cX5_weighs 4 = .ok (.iload_n 3, 1) := by decide +kernel
theorem dX5_weighs_5 : decode cX5_weighs 5 = .ok (.aload_n 0, 1) := by decide +kernel
theorem dX5_weighs_6 : decode cX5_weighs 6 = .ok (.getfield 73, 3) := by decide +kernel
theorem dX5_weighs_9 : decode cX5_weighs 9 = .ok (.if_icmp .ge 32, 3) := by decide +kernel
theorem dX5_weighs_12 : decode cX5_weighs 12 = .ok (.iload_n 2, 1) := by decide +kernel
theorem dX5_weighs_13 : decode cX5_weighs 13 = .ok (.aload_n 0, 1) := by decide +kernel
theorem dX5_weighs_14 : decode cX5_weighs 14 = .ok (.getfield 50, 3) := by decide +kernel
theorem dX5_weighs_17 : decode cX5_weighs 17 = .ok (.iload_n 3, 1) := by decide +kernel
theorem dX5_weighs_18 : decode cX5_weighs 18 = .ok (.iaload, 1) := by decide +kernel
theorem dX5_weighs_19 : decode cX5_weighs 19 = .ok (.iload_n 1, 1) := by decide +kernel
theorem dX5_weighs_20 : decode cX5_weighs 20 = .ok (.if_icmp .ne 12, 3) := by decide +kernel
theorem dX5_weighs_23 : decode cX5_weighs 23 = .ok (.aload_n 0, 1) := by decide +kernel
theorem dX5_weighs_24 : decode cX5_weighs 24 = .ok (.getfield 44, 3) := by decide +kernel
theorem dX5_weighs_27 : decode cX5_weighs 27 = .ok (.iload_n 3, 1) := by decide +kernel
theorem dX5_weighs_28 : decode cX5_weighs 28 = .ok (.iaload, 1) := by decide +kernel
theorem dX5_weighs_29 : decode cX5_weighs 29 = .ok (.goto 4, 3) := by decide +kernel
theorem dX5_weighs_32 : decode cX5_weighs 32 = .ok (.iconst 0, 1) := by decide +kernel
theorem dX5_weighs_33 : decode cX5_weighs 33 = .ok (.iadd, 1) := by decide +kernel
theorem dX5_weighs_34 : decode cX5_weighs 34 = .ok (.istore_n 2, 1) := by decide +kernel
theorem dX5_weighs_35 : decode cX5_weighs 35 = .ok (.iinc 3 1, 3) := by decide +kernel
theorem dX5_weighs_38 : decode cX5_weighs 38 = .ok (.goto (-34), 3) := by decide +kernel
theorem dX5_weighs_41 : decode cX5_weighs 41 = .ok (.iload_n 2, 1) := by decide +kernel
theorem dX5_weighs_42 : decode cX5_weighs 42 = .ok (.ireturn, 1) := by decide +kernel
theorem dX5_rowWeighs_0 : decode cX5_rowWeighs 0 = .ok (.iconst 0, 1) := by decide +kernel
theorem dX5_rowWeighs_1 : decode cX5_rowWeighs 1 = .ok (.istore_n 2, 1) := by decide +kernel
theorem dX5_rowWeighs_2 : decode cX5_rowWeighs 2 = .ok (.iconst 0, 1) := by decide +kernel
theorem dX5_rowWeighs_3 : decode cX5_rowWeighs 3 = .ok (.istore_n 3, 1) := by decide +kernel
theorem dX5_rowWeighs_4 : decode cX5_rowWeighs 4 = .ok (.iload_n 3, 1) := by decide +kernel
theorem dX5_rowWeighs_5 : decode cX5_rowWeighs 5 = .ok (.aload_n 0, 1) := by decide +kernel
theorem dX5_rowWeighs_6 : decode cX5_rowWeighs 6 = .ok (.getfield 66, 3) := by decide +kernel
theorem dX5_rowWeighs_9 : decode cX5_rowWeighs 9 = .ok (.if_icmp .ge 31, 3) := by decide +kernel
theorem dX5_rowWeighs_12 : decode cX5_rowWeighs 12 = .ok (.iload_n 2, 1) := by decide +kernel
theorem dX5_rowWeighs_13 : decode cX5_rowWeighs 13 = .ok (.aload_n 0, 1) := by decide +kernel
theorem dX5_rowWeighs_14 : decode cX5_rowWeighs 14 = .ok (.getfield 7, 3) := by decide +kernel
theorem dX5_rowWeighs_17 : decode cX5_rowWeighs 17 = .ok (.iload_n 3, 1) := by decide +kernel
theorem dX5_rowWeighs_18 : decode cX5_rowWeighs 18 = .ok (.iaload, 1) := by decide +kernel
theorem dX5_rowWeighs_19 : decode cX5_rowWeighs 19 = .ok (.iload_n 1, 1) := by decide +kernel
theorem dX5_rowWeighs_20 : decode cX5_rowWeighs 20 = .ok (.if_icmp .ne 11, 3) := by decide +kernel
theorem dX5_rowWeighs_23 : decode cX5_rowWeighs 23 = .ok (.aload_n 0, 1) := by decide +kernel
theorem dX5_rowWeighs_24 : decode cX5_rowWeighs 24 = .ok (.iload_n 3, 1) := by decide +kernel
theorem dX5_rowWeighs_25 : decode cX5_rowWeighs 25 = .ok (.invokevirtual 80, 3) := by decide +kernel
theorem dX5_rowWeighs_28 : decode cX5_rowWeighs 28 = .ok (.goto 4, 3) := by decide +kernel
theorem dX5_rowWeighs_31 : decode cX5_rowWeighs 31 = .ok (.iconst 0, 1) := by decide +kernel
theorem dX5_rowWeighs_32 : decode cX5_rowWeighs 32 = .ok (.iadd, 1) := by decide +kernel
theorem dX5_rowWeighs_33 : decode cX5_rowWeighs 33 = .ok (.istore_n 2, 1) := by decide +kernel
theorem dX5_rowWeighs_34 : decode cX5_rowWeighs 34 = .ok (.iinc 3 1, 3) := by decide +kernel
theorem dX5_rowWeighs_37 : decode cX5_rowWeighs 37 = .ok (.goto (-33), 3) := by decide +kernel
theorem dX5_rowWeighs_40 : decode cX5_rowWeighs 40 = .ok (.iload_n 2, 1) := by decide +kernel
theorem dX5_rowWeighs_41 : decode cX5_rowWeighs 41 = .ok (.ireturn, 1) := by decide +kernel
theorem dX5_rowHeats_0 : decode cX5_rowHeats 0 = .ok (.iconst 0, 1) := by decide +kernel
theorem dX5_rowHeats_1 : decode cX5_rowHeats 1 = .ok (.istore_n 2, 1) := by decide +kernel
theorem dX5_rowHeats_2 : decode cX5_rowHeats 2 = .ok (.iconst 0, 1) := by decide +kernel
theorem dX5_rowHeats_3 : decode cX5_rowHeats 3 = .ok (.istore_n 3, 1) := by decide +kernel
theorem dX5_rowHeats_4 : decode cX5_rowHeats 4 = .ok (.iload_n 3, 1) := by decide +kernel
theorem dX5_rowHeats_5 : decode cX5_rowHeats 5 = .ok (.aload_n 0, 1) := by decide +kernel
theorem dX5_rowHeats_6 : decode cX5_rowHeats 6 = .ok (.getfield 73, 3) := by decide +kernel
theorem dX5_rowHeats_9 : decode cX5_rowHeats 9 = .ok (.if_icmp .ge 47, 3) := by decide +kernel
theorem dX5_rowHeats_12 : decode cX5_rowHeats 12 = .ok (.iload_n 2, 1) := by decide +kernel
theorem dX5_rowHeats_13 : decode cX5_rowHeats 13 = .ok (.aload_n 0, 1) := by decide +kernel
theorem dX5_rowHeats_14 : decode cX5_rowHeats 14 = .ok (.getfield 50, 3) := by decide +kernel
theorem dX5_rowHeats_17 : decode cX5_rowHeats 17 = .ok (.iload_n 3, 1) := by decide +kernel
theorem dX5_rowHeats_18 : decode cX5_rowHeats 18 = .ok (.iaload, 1) := by decide +kernel
theorem dX5_rowHeats_19 : decode cX5_rowHeats 19 = .ok (.iconst (-1), 1) := by decide +kernel
theorem dX5_rowHeats_20 : decode cX5_rowHeats 20 = .ok (.if_icmp .eq 27, 3) := by decide +kernel
theorem dX5_rowHeats_23 : decode cX5_rowHeats 23 = .ok (.aload_n 0, 1) := by decide +kernel
theorem dX5_rowHeats_24 : decode cX5_rowHeats 24 = .ok (.getfield 7, 3) := by decide +kernel
theorem dX5_rowHeats_27 : decode cX5_rowHeats 27 = .ok (.aload_n 0, 1) := by decide +kernel
theorem dX5_rowHeats_28 : decode cX5_rowHeats 28 = .ok (.getfield 50, 3) := by decide +kernel
theorem dX5_rowHeats_31 : decode cX5_rowHeats 31 = .ok (.iload_n 3, 1) := by decide +kernel
theorem dX5_rowHeats_32 : decode cX5_rowHeats 32 = .ok (.iaload, 1) := by decide +kernel
theorem dX5_rowHeats_33 : decode cX5_rowHeats 33 = .ok (.iaload, 1) := by decide +kernel
theorem dX5_rowHeats_34 : decode cX5_rowHeats 34 = .ok (.iload_n 1, 1) := by decide +kernel
theorem dX5_rowHeats_35 : decode cX5_rowHeats 35 = .ok (.if_icmp .ne 12, 3) := by decide +kernel
theorem dX5_rowHeats_38 : decode cX5_rowHeats 38 = .ok (.aload_n 0, 1) := by decide +kernel
theorem dX5_rowHeats_39 : decode cX5_rowHeats 39 = .ok (.getfield 41, 3) := by decide +kernel
theorem dX5_rowHeats_42 : decode cX5_rowHeats 42 = .ok (.iload_n 3, 1) := by decide +kernel
theorem dX5_rowHeats_43 : decode cX5_rowHeats 43 = .ok (.iaload, 1) := by decide +kernel
theorem dX5_rowHeats_44 : decode cX5_rowHeats 44 = .ok (.goto 4, 3) := by decide +kernel
theorem dX5_rowHeats_47 : decode cX5_rowHeats 47 = .ok (.iconst 0, 1) := by decide +kernel
theorem dX5_rowHeats_48 : decode cX5_rowHeats 48 = .ok (.iadd, 1) := by decide +kernel
theorem dX5_rowHeats_49 : decode cX5_rowHeats 49 = .ok (.istore_n 2, 1) := by decide +kernel
theorem dX5_rowHeats_50 : decode cX5_rowHeats 50 = .ok (.iinc 3 1, 3) := by decide +kernel
theorem dX5_rowHeats_53 : decode cX5_rowHeats 53 = .ok (.goto (-49), 3) := by decide +kernel
theorem dX5_rowHeats_56 : decode cX5_rowHeats 56 = .ok (.iload_n 2, 1) := by decide +kernel
theorem dX5_rowHeats_57 : decode cX5_rowHeats 57 = .ok (.ireturn, 1) := by decide +kernel
theorem dX5_addRack_0 : decode cX5_addRack 0 = .ok (.iload_n 1, 1) := by decide +kernel
theorem dX5_addRack_1 : decode cX5_addRack 1 = .ok (.iconst 0, 1) := by decide +kernel
theorem dX5_addRack_2 : decode cX5_addRack 2 = .ok (.iconst 3, 1) := by decide +kernel
theorem dX5_addRack_3 : decode cX5_addRack 3 = .ok (.invokestatic 69, 3) := by decide +kernel
theorem dX5_addRack_6 : decode cX5_addRack 6 = .ok (.ifCond .eq 40, 3) := by decide +kernel
theorem dX5_addRack_9 : decode cX5_addRack 9 = .ok (.iload_n 2, 1) := by decide +kernel
theorem dX5_addRack_10 : decode cX5_addRack 10 = .ok (.iconst 1, 1) := by decide +kernel
theorem dX5_addRack_11 : decode cX5_addRack 11 = .ok (.bipush 20, 2) := by decide +kernel
theorem dX5_addRack_13 : decode cX5_addRack 13 = .ok (.invokestatic 69, 3) := by decide +kernel
theorem dX5_addRack_16 : decode cX5_addRack 16 = .ok (.ifCond .eq 30, 3) := by decide +kernel
theorem dX5_addRack_19 : decode cX5_addRack 19 = .ok (.iload_n 3, 1) := by decide +kernel
theorem dX5_addRack_20 : decode cX5_addRack 20 = .ok (.iconst 0, 1) := by decide +kernel
theorem dX5_addRack_21 : decode cX5_addRack 21 = .ok (.sipush 10000, 3) := by decide +kernel
theorem dX5_addRack_24 : decode cX5_addRack 24 = .ok (.invokestatic 69, 3) := by decide +kernel
theorem dX5_addRack_27 : decode cX5_addRack 27 = .ok (.ifCond .eq 19, 3) := by decide +kernel
theorem dX5_addRack_30 : decode cX5_addRack 30 = .ok (.iload 4, 2) := by decide +kernel
theorem dX5_addRack_32 : decode cX5_addRack 32 = .ok (.iconst 0, 1) := by decide +kernel
theorem dX5_addRack_33 : decode cX5_addRack 33 = .ok (.sipush 10000, 3) := by decide +kernel
theorem dX5_addRack_36 : decode cX5_addRack 36 = .ok (.invokestatic 69, 3) := by decide +kernel
theorem dX5_addRack_39 : decode cX5_addRack 39 = .ok (.ifCond .eq 7, 3) := by decide +kernel
theorem dX5_addRack_42 : decode cX5_addRack 42 = .ok (.iconst 1, 1) := by decide +kernel
theorem dX5_addRack_43 : decode cX5_addRack 43 = .ok (.goto 4, 3) := by decide +kernel
theorem dX5_addRack_46 : decode cX5_addRack 46 = .ok (.iconst 0, 1) := by decide +kernel
theorem dX5_addRack_47 : decode cX5_addRack 47 = .ok (.istore 5, 2) := by decide +kernel
theorem dX5_addRack_49 : decode cX5_addRack 49 = .ok (.aload_n 0, 1) := by decide +kernel
theorem dX5_addRack_50 : decode cX5_addRack 50 = .ok (.iload 5, 2) := by decide +kernel
theorem dX5_addRack_52 : decode cX5_addRack 52 = .ok (.ifCond .ne 7, 3) := by decide +kernel
theorem dX5_addRack_55 : decode cX5_addRack 55 = .ok (.iconst 1, 1) := by decide +kernel
theorem dX5_addRack_56 : decode cX5_addRack 56 = .ok (.goto 17, 3) := by decide +kernel
theorem dX5_addRack_59 : decode cX5_addRack 59 = .ok (.aload_n 0, 1) := by decide +kernel
theorem dX5_addRack_60 : decode cX5_addRack 60 = .ok (.getfield 66, 3) := by decide +kernel
theorem dX5_addRack_63 : decode cX5_addRack 63 = .ok (.bipush 8, 2) := by decide +kernel
theorem dX5_addRack_65 : decode cX5_addRack 65 = .ok (.if_icmp .ne 7, 3) := by decide +kernel
theorem dX5_addRack_68 : decode cX5_addRack 68 = .ok (.iconst 2, 1) := by decide +kernel
theorem dX5_addRack_69 : decode cX5_addRack 69 = .ok (.goto 4, 3) := by decide +kernel
theorem dX5_addRack_72 : decode cX5_addRack 72 = .ok (.iconst 0, 1) := by decide +kernel
theorem dX5_addRack_73 : decode cX5_addRack 73 = .ok (.invokevirtual 84, 3) := by decide +kernel
theorem dX5_addRack_76 : decode cX5_addRack 76 = .ok (.ifCond .ne 5, 3) := by decide +kernel
theorem dX5_addRack_79 : decode cX5_addRack 79 = .ok (.iconst 0, 1) := by decide +kernel
theorem dX5_addRack_80 : decode cX5_addRack 80 = .ok (.ireturn, 1) := by decide +kernel
theorem dX5_addRack_81 : decode cX5_addRack 81 = .ok (.aload_n 0, 1) := by decide +kernel
theorem dX5_addRack_82 : decode cX5_addRack 82 = .ok (.getfield 7, 3) := by decide +kernel
theorem dX5_addRack_85 : decode cX5_addRack 85 = .ok (.aload_n 0, 1) := by decide +kernel
theorem dX5_addRack_86 : decode cX5_addRack 86 = .ok (.getfield 66, 3) := by decide +kernel
theorem dX5_addRack_89 : decode cX5_addRack 89 = .ok (.iload_n 1, 1) := by decide +kernel
theorem dX5_addRack_90 : decode cX5_addRack 90 = .ok (.iastore, 1) := by decide +kernel
theorem dX5_addRack_91 : decode cX5_addRack 91 = .ok (.aload_n 0, 1) := by decide +kernel
theorem dX5_addRack_92 : decode cX5_addRack 92 = .ok (.getfield 13, 3) := by decide +kernel
theorem dX5_addRack_95 : decode cX5_addRack 95 = .ok (.aload_n 0, 1) := by decide +kernel
theorem dX5_addRack_96 : decode cX5_addRack 96 = .ok (.getfield 66, 3) := by decide +kernel
theorem dX5_addRack_99 : decode cX5_addRack 99 = .ok (.iload_n 2, 1) := by decide +kernel
theorem dX5_addRack_100 : decode cX5_addRack 100 = .ok (.iastore, 1) := by decide +kernel
theorem dX5_addRack_101 : decode cX5_addRack 101 = .ok (.aload_n 0, 1) := by decide +kernel
theorem dX5_addRack_102 : decode cX5_addRack 102 = .ok (.getfield 16, 3) := by decide +kernel
theorem dX5_addRack_105 : decode cX5_addRack 105 = .ok (.aload_n 0, 1) := by decide +kernel
theorem dX5_addRack_106 : decode cX5_addRack 106 = .ok (.getfield 66, 3) := by decide +kernel
theorem dX5_addRack_109 : decode cX5_addRack 109 = .ok (.iload_n 3, 1) := by decide +kernel
theorem dX5_addRack_110 : decode cX5_addRack 110 = .ok (.iastore, 1) := by decide +kernel
theorem dX5_addRack_111 : decode cX5_addRack 111 = .ok (.aload_n 0, 1) := by decide +kernel
theorem dX5_addRack_112 : decode cX5_addRack 112 = .ok (.getfield 19, 3) := by decide +kernel
theorem dX5_addRack_115 : decode cX5_addRack 115 = .ok (.aload_n 0, 1) := by decide +kernel
theorem dX5_addRack_116 : decode cX5_addRack 116 = .ok (.getfield 66, 3) := by decide +kernel
theorem dX5_addRack_119 : decode cX5_addRack 119 = .ok (.iload 4, 2) := by decide +kernel
theorem dX5_addRack_121 : decode cX5_addRack 121 = .ok (.iastore, 1) := by decide +kernel
theorem dX5_addRack_122 : decode cX5_addRack 122 = .ok (.aload_n 0, 1) := by decide +kernel
theorem dX5_addRack_123 : decode cX5_addRack 123 = .ok (.dup, 1) := by decide +kernel
theorem dX5_addRack_124 : decode cX5_addRack 124 = .ok (.getfield 66, 3) := by decide +kernel
theorem dX5_addRack_127 : decode cX5_addRack 127 = .ok (.iconst 1, 1) := by decide +kernel
theorem dX5_addRack_128 : decode cX5_addRack 128 = .ok (.iadd, 1) := by decide +kernel
theorem dX5_addRack_129 : decode cX5_addRack 129 = .ok (.putfield 66, 3) := by decide +kernel
theorem dX5_addRack_132 : decode cX5_addRack 132 = .ok (.aload_n 0, 1) := by decide +kernel
theorem dX5_addRack_133 : decode cX5_addRack 133 = .ok (.getfield 66, 3) := by decide +kernel
theorem dX5_addRack_136 : decode cX5_addRack 136 = .ok (.iconst 1, 1) := by decide +kernel
theorem dX5_addRack_137 : decode cX5_addRack 137 = .ok (.isub, 1) := by decide +kernel
theorem dX5_addRack_138 : decode cX5_addRack 138 = .ok (.ireturn, 1) := by decide +kernel
theorem dX5_setRow_0 : decode cX5_setRow 0 = .ok (.iload_n 1, 1) := by decide +kernel
theorem dX5_setRow_1 : decode cX5_setRow 1 = .ok (.iconst 0, 1) := by decide +kernel
theorem dX5_setRow_2 : decode cX5_setRow 2 = .ok (.iconst 3, 1) := by decide +kernel
theorem dX5_setRow_3 : decode cX5_setRow 3 = .ok (.invokestatic 69, 3) := by decide +kernel
theorem dX5_setRow_6 : decode cX5_setRow 6 = .ok (.ifCond .eq 29, 3) := by decide +kernel
theorem dX5_setRow_9 : decode cX5_setRow 9 = .ok (.iload_n 2, 1) := by decide +kernel
theorem dX5_setRow_10 : decode cX5_setRow 10 = .ok (.iconst 0, 1) := by decide +kernel
theorem dX5_setRow_11 : decode cX5_setRow 11 = .ok (.sipush 10000, 3) := by decide +kernel
theorem dX5_setRow_14 : decode cX5_setRow 14 = .ok (.invokestatic 69, 3) := by decide +kernel
theorem dX5_setRow_17 : decode cX5_setRow 17 = .ok (.ifCond .eq 18, 3) := by decide +kernel
theorem dX5_setRow_20 : decode cX5_setRow 20 = .ok (.iload_n 3, 1) := by decide +kernel
theorem dX5_setRow_21 : decode cX5_setRow 21 = .ok (.iconst 0, 1) := by decide +kernel
theorem dX5_setRow_22 : decode cX5_setRow 22 = .ok (.sipush 10000, 3) := by decide +kernel
theorem dX5_setRow_25 : decode cX5_setRow 25 = .ok (.invokestatic 69, 3) := by decide +kernel
theorem dX5_setRow_28 : decode cX5_setRow 28 = .ok (.ifCond .eq 7, 3) := by decide +kernel
theorem dX5_setRow_31 : decode cX5_setRow 31 = .ok (.iconst 1, 1) := by decide +kernel
theorem dX5_setRow_32 : decode cX5_setRow 32 = .ok (.goto 4, 3) := by decide +kernel
theorem dX5_setRow_35 : decode cX5_setRow 35 = .ok (.iconst 0, 1) := by decide +kernel
theorem dX5_setRow_36 : decode cX5_setRow 36 = .ok (.istore 4, 2) := by decide +kernel
theorem dX5_setRow_38 : decode cX5_setRow 38 = .ok (.aload_n 0, 1) := by decide +kernel
theorem dX5_setRow_39 : decode cX5_setRow 39 = .ok (.iload 4, 2) := by decide +kernel
theorem dX5_setRow_41 : decode cX5_setRow 41 = .ok (.ifCond .ne 7, 3) := by decide +kernel
theorem dX5_setRow_44 : decode cX5_setRow 44 = .ok (.iconst 1, 1) := by decide +kernel
theorem dX5_setRow_45 : decode cX5_setRow 45 = .ok (.goto 26, 3) := by decide +kernel
theorem dX5_setRow_48 : decode cX5_setRow 48 = .ok (.aload_n 0, 1) := by decide +kernel
theorem dX5_setRow_49 : decode cX5_setRow 49 = .ok (.iload_n 1, 1) := by decide +kernel
theorem dX5_setRow_50 : decode cX5_setRow 50 = .ok (.invokevirtual 88, 3) := by decide +kernel
theorem dX5_setRow_53 : decode cX5_setRow 53 = .ok (.iload_n 2, 1) := by decide +kernel
theorem dX5_setRow_54 : decode cX5_setRow 54 = .ok (.if_icmp .gt 12, 3) := by decide +kernel
theorem dX5_setRow_57 : decode cX5_setRow 57 = .ok (.aload_n 0, 1) := by decide +kernel
theorem dX5_setRow_58 : decode cX5_setRow 58 = .ok (.iload_n 1, 1) := by decide +kernel
theorem dX5_setRow_59 : decode cX5_setRow 59 = .ok (.invokevirtual 91, 3) := by decide +kernel
theorem dX5_setRow_62 : decode cX5_setRow 62 = .ok (.iload_n 3, 1) := by decide +kernel
theorem dX5_setRow_63 : decode cX5_setRow 63 = .ok (.if_icmp .le 7, 3) := by decide +kernel
theorem dX5_setRow_66 : decode cX5_setRow 66 = .ok (.iconst 2, 1) := by decide +kernel
theorem dX5_setRow_67 : decode cX5_setRow 67 = .ok (.goto 4, 3) := by decide +kernel
theorem dX5_setRow_70 : decode cX5_setRow 70 = .ok (.iconst 0, 1) := by decide +kernel
theorem dX5_setRow_71 : decode cX5_setRow 71 = .ok (.invokevirtual 84, 3) := by decide +kernel
theorem dX5_setRow_74 : decode cX5_setRow 74 = .ok (.ifCond .eq 17, 3) := by decide +kernel
theorem dX5_setRow_77 : decode cX5_setRow 77 = .ok (.aload_n 0, 1) := by decide +kernel
theorem dX5_setRow_78 : decode cX5_setRow 78 = .ok (.getfield 22, 3) := by decide +kernel
theorem dX5_setRow_81 : decode cX5_setRow 81 = .ok (.iload_n 1, 1) := by decide +kernel
theorem dX5_setRow_82 : decode cX5_setRow 82 = .ok (.iload_n 2, 1) := by decide +kernel
theorem dX5_setRow_83 : decode cX5_setRow 83 = .ok (.iastore, 1) := by decide +kernel
theorem dX5_setRow_84 : decode cX5_setRow 84 = .ok (.aload_n 0, 1) := by decide +kernel
theorem dX5_setRow_85 : decode cX5_setRow 85 = .ok (.getfield 25, 3) := by decide +kernel
theorem dX5_setRow_88 : decode cX5_setRow 88 = .ok (.iload_n 1, 1) := by decide +kernel
theorem dX5_setRow_89 : decode cX5_setRow 89 = .ok (.iload_n 3, 1) := by decide +kernel
theorem dX5_setRow_90 : decode cX5_setRow 90 = .ok (.iastore, 1) := by decide +kernel
theorem dX5_setRow_91 : decode cX5_setRow 91 = .ok (.return_, 1) := by decide +kernel
theorem dX5_setFeed_0 : decode cX5_setFeed 0 = .ok (.iload_n 1, 1) := by decide +kernel
theorem dX5_setFeed_1 : decode cX5_setFeed 1 = .ok (.iconst 0, 1) := by decide +kernel
theorem dX5_setFeed_2 : decode cX5_setFeed 2 = .ok (.iconst 1, 1) := by decide +kernel
theorem dX5_setFeed_3 : decode cX5_setFeed 3 = .ok (.invokestatic 69, 3) := by decide +kernel
theorem dX5_setFeed_6 : decode cX5_setFeed 6 = .ok (.ifCond .eq 18, 3) := by decide +kernel
theorem dX5_setFeed_9 : decode cX5_setFeed 9 = .ok (.iload_n 2, 1) := by decide +kernel
theorem dX5_setFeed_10 : decode cX5_setFeed 10 = .ok (.iconst 0, 1) := by decide +kernel
theorem dX5_setFeed_11 : decode cX5_setFeed 11 = .ok (.sipush 20000, 3) := by decide +kernel
theorem dX5_setFeed_14 : decode cX5_setFeed 14 = .ok (.invokestatic 69, 3) := by decide +kernel
theorem dX5_setFeed_17 : decode cX5_setFeed 17 = .ok (.ifCond .eq 7, 3) := by decide +kernel
theorem dX5_setFeed_20 : decode cX5_setFeed 20 = .ok (.iconst 1, 1) := by decide +kernel
theorem dX5_setFeed_21 : decode cX5_setFeed 21 = .ok (.goto 4, 3) := by decide +kernel
theorem dX5_setFeed_24 : decode cX5_setFeed 24 = .ok (.iconst 0, 1) := by decide +kernel
theorem dX5_setFeed_25 : decode cX5_setFeed 25 = .ok (.istore_n 3, 1) := by decide +kernel
theorem dX5_setFeed_26 : decode cX5_setFeed 26 = .ok (.aload_n 0, 1) := by decide +kernel
theorem dX5_setFeed_27 : decode cX5_setFeed 27 = .ok (.iload_n 3, 1) := by decide +kernel
theorem dX5_setFeed_28 : decode cX5_setFeed 28 = .ok (.ifCond .ne 7, 3) := by decide +kernel
theorem dX5_setFeed_31 : decode cX5_setFeed 31 = .ok (.iconst 1, 1) := by decide +kernel
theorem dX5_setFeed_32 : decode cX5_setFeed 32 = .ok (.goto 18, 3) := by decide +kernel
theorem dX5_setFeed_35 : decode cX5_setFeed 35 = .ok (.aload_n 0, 1) := by decide +kernel
theorem dX5_setFeed_36 : decode cX5_setFeed 36 = .ok (.iconst (-1), 1) := by decide +kernel
theorem dX5_setFeed_37 : decode cX5_setFeed 37 = .ok (.iload_n 1, 1) := by decide +kernel
theorem dX5_setFeed_38 : decode cX5_setFeed 38 = .ok (.invokevirtual 94, 3) := by decide +kernel
theorem dX5_setFeed_41 : decode cX5_setFeed 41 = .ok (.iload_n 2, 1) := by decide +kernel
theorem dX5_setFeed_42 : decode cX5_setFeed 42 = .ok (.if_icmp .le 7, 3) := by decide +kernel
theorem dX5_setFeed_45 : decode cX5_setFeed 45 = .ok (.iconst 2, 1) := by decide +kernel
theorem dX5_setFeed_46 : decode cX5_setFeed 46 = .ok (.goto 4, 3) := by decide +kernel
theorem dX5_setFeed_49 : decode cX5_setFeed 49 = .ok (.iconst 0, 1) := by decide +kernel
theorem dX5_setFeed_50 : decode cX5_setFeed 50 = .ok (.invokevirtual 84, 3) := by decide +kernel
theorem dX5_setFeed_53 : decode cX5_setFeed 53 = .ok (.ifCond .ne 5, 3) := by decide +kernel
theorem dX5_setFeed_56 : decode cX5_setFeed 56 = .ok (.iconst 0, 1) := by decide +kernel
theorem dX5_setFeed_57 : decode cX5_setFeed 57 = .ok (.ireturn, 1) := by decide +kernel
theorem dX5_setFeed_58 : decode cX5_setFeed 58 = .ok (.aload_n 0, 1) := by decide +kernel
theorem dX5_setFeed_59 : decode cX5_setFeed 59 = .ok (.getfield 28, 3) := by decide +kernel
theorem dX5_setFeed_62 : decode cX5_setFeed 62 = .ok (.iload_n 1, 1) := by decide +kernel
theorem dX5_setFeed_63 : decode cX5_setFeed 63 = .ok (.iaload, 1) := by decide +kernel
theorem dX5_setFeed_64 : decode cX5_setFeed 64 = .ok (.istore 4, 2) := by decide +kernel
theorem dX5_setFeed_66 : decode cX5_setFeed 66 = .ok (.aload_n 0, 1) := by decide +kernel
theorem dX5_setFeed_67 : decode cX5_setFeed 67 = .ok (.getfield 28, 3) := by decide +kernel
theorem dX5_setFeed_70 : decode cX5_setFeed 70 = .ok (.iload_n 1, 1) := by decide +kernel
theorem dX5_setFeed_71 : decode cX5_setFeed 71 = .ok (.iload_n 2, 1) := by decide +kernel
theorem dX5_setFeed_72 : decode cX5_setFeed 72 = .ok (.iastore, 1) := by decide +kernel
theorem dX5_setFeed_73 : decode cX5_setFeed 73 = .ok (.iload 4, 2) := by decide +kernel
theorem dX5_setFeed_75 : decode cX5_setFeed 75 = .ok (.ireturn, 1) := by decide +kernel
theorem dX5_isDarkAt_0 : decode cX5_isDarkAt 0 = .ok (.aload_n 0, 1) := by decide +kernel
theorem dX5_isDarkAt_1 : decode cX5_isDarkAt 1 = .ok (.getfield 31, 3) := by decide +kernel
theorem dX5_isDarkAt_4 : decode cX5_isDarkAt 4 = .ok (.iconst 0, 1) := by decide +kernel
theorem dX5_isDarkAt_5 : decode cX5_isDarkAt 5 = .ok (.baload, 1) := by decide +kernel
theorem dX5_isDarkAt_6 : decode cX5_isDarkAt 6 = .ok (.ifCond .ne 16, 3) := by decide +kernel
theorem dX5_isDarkAt_9 : decode cX5_isDarkAt 9 = .ok (.aload_n 0, 1) := by decide +kernel
theorem dX5_isDarkAt_10 : decode cX5_isDarkAt 10 = .ok (.getfield 47, 3) := by decide +kernel
theorem dX5_isDarkAt_13 : decode cX5_isDarkAt 13 = .ok (.iload_n 1, 1) := by decide +kernel
theorem dX5_isDarkAt_14 : decode cX5_isDarkAt 14 = .ok (.iaload, 1) := by decide +kernel
theorem dX5_isDarkAt_15 : decode cX5_isDarkAt 15 = .ok (.iconst 0, 1) := by decide +kernel
theorem dX5_isDarkAt_16 : decode cX5_isDarkAt 16 = .ok (.invokestatic 76, 3) := by decide +kernel
theorem dX5_isDarkAt_19 : decode cX5_isDarkAt 19 = .ok (.ifCond .ne 29, 3) := by decide +kernel
theorem dX5_isDarkAt_22 : decode cX5_isDarkAt 22 = .ok (.aload_n 0, 1) := by decide +kernel
theorem dX5_isDarkAt_23 : decode cX5_isDarkAt 23 = .ok (.getfield 31, 3) := by decide +kernel
theorem dX5_isDarkAt_26 : decode cX5_isDarkAt 26 = .ok (.iconst 1, 1) := by decide +kernel
theorem dX5_isDarkAt_27 : decode cX5_isDarkAt 27 = .ok (.baload, 1) := by decide +kernel
theorem dX5_isDarkAt_28 : decode cX5_isDarkAt 28 = .ok (.ifCond .ne 16, 3) := by decide +kernel
theorem dX5_isDarkAt_31 : decode cX5_isDarkAt 31 = .ok (.aload_n 0, 1) := by decide +kernel
theorem dX5_isDarkAt_32 : decode cX5_isDarkAt 32 = .ok (.getfield 47, 3) := by decide +kernel
theorem dX5_isDarkAt_35 : decode cX5_isDarkAt 35 = .ok (.iload_n 1, 1) := by decide +kernel
theorem dX5_isDarkAt_36 : decode cX5_isDarkAt 36 = .ok (.iaload, 1) := by decide +kernel
theorem dX5_isDarkAt_37 : decode cX5_isDarkAt 37 = .ok (.iconst 1, 1) := by decide +kernel
theorem dX5_isDarkAt_38 : decode cX5_isDarkAt 38 = .ok (.invokestatic 76, 3) := by decide +kernel
theorem dX5_isDarkAt_41 : decode cX5_isDarkAt 41 = .ok (.ifCond .ne 7, 3) := by decide +kernel
theorem dX5_isDarkAt_44 : decode cX5_isDarkAt 44 = .ok (.iconst 1, 1) := by decide +kernel
theorem dX5_isDarkAt_45 : decode cX5_isDarkAt 45 = .ok (.goto 4, 3) := by decide +kernel
theorem dX5_isDarkAt_48 : decode cX5_isDarkAt 48 = .ok (.iconst 0, 1) := by decide +kernel
theorem dX5_isDarkAt_49 : decode cX5_isDarkAt 49 = .ok (.ireturn, 1) := by decide +kernel
theorem dX5_switchFeed_0 : decode cX5_switchFeed 0 = .ok (.aload_n 0, 1) := by decide +kernel
theorem dX5_switchFeed_1 : decode cX5_switchFeed 1 = .ok (.iload_n 1, 1) := by decide +kernel
theorem dX5_switchFeed_2 : decode cX5_switchFeed 2 = .ok (.iconst 0, 1) := by decide +kernel
theorem dX5_switchFeed_3 : decode cX5_switchFeed 3 = .ok (.iconst 1, 1) := by decide +kernel
theorem dX5_switchFeed_4 : decode cX5_switchFeed 4 = .ok (.invokestatic 69, 3) := by decide +kernel
theorem dX5_switchFeed_7 : decode cX5_switchFeed 7 = .ok (.ifCond .eq 7, 3) := by decide +kernel
theorem dX5_switchFeed_10 : decode cX5_switchFeed 10 = .ok (.iconst 0, 1) := by decide +kernel
theorem dX5_switchFeed_11 : decode cX5_switchFeed 11 = .ok (.goto 4, 3) := by decide +kernel
theorem dX5_switchFeed_14 : decode cX5_switchFeed 14 = .ok (.iconst 1, 1) := by decide +kernel
theorem dX5_switchFeed_15 : decode cX5_switchFeed 15 = .ok (.invokevirtual 84, 3) := by decide +kernel
theorem dX5_switchFeed_18 : decode cX5_switchFeed 18 = .ok (.ifCond .ne 5, 3) := by decide +kernel
theorem dX5_switchFeed_21 : decode cX5_switchFeed 21 = .ok (.iconst 0, 1) := by decide +kernel
theorem dX5_switchFeed_22 : decode cX5_switchFeed 22 = .ok (.ireturn, 1) := by decide +kernel
theorem dX5_switchFeed_23 : decode cX5_switchFeed 23 = .ok (.aload_n 0, 1) := by decide +kernel
theorem dX5_switchFeed_24 : decode cX5_switchFeed 24 = .ok (.getfield 31, 3) := by decide +kernel
theorem dX5_switchFeed_27 : decode cX5_switchFeed 27 = .ok (.iload_n 1, 1) := by decide +kernel
theorem dX5_switchFeed_28 : decode cX5_switchFeed 28 = .ok (.aload_n 0, 1) := by decide +kernel
theorem dX5_switchFeed_29 : decode cX5_switchFeed 29 = .ok (.getfield 31, 3) := by decide +kernel
theorem dX5_switchFeed_32 : decode cX5_switchFeed 32 = .ok (.iload_n 1, 1) := by decide +kernel
theorem dX5_switchFeed_33 : decode cX5_switchFeed 33 = .ok (.baload, 1) := by decide +kernel
theorem dX5_switchFeed_34 : decode cX5_switchFeed 34 = .ok (.ifCond .ne 7, 3) := by decide +kernel
theorem dX5_switchFeed_37 : decode cX5_switchFeed 37 = .ok (.iconst 1, 1) := by decide +kernel
theorem dX5_switchFeed_38 : decode cX5_switchFeed 38 = .ok (.goto 4, 3) := by decide +kernel
theorem dX5_switchFeed_41 : decode cX5_switchFeed 41 = .ok (.iconst 0, 1) := by decide +kernel
theorem dX5_switchFeed_42 : decode cX5_switchFeed 42 = .ok (.bastore, 1) := by decide +kernel
theorem dX5_switchFeed_43 : decode cX5_switchFeed 43 = .ok (.iconst 0, 1) := by decide +kernel
theorem dX5_switchFeed_44 : decode cX5_switchFeed 44 = .ok (.istore_n 2, 1) := by decide +kernel
theorem dX5_switchFeed_45 : decode cX5_switchFeed 45 = .ok (.iconst 0, 1) := by decide +kernel
theorem dX5_switchFeed_46 : decode cX5_switchFeed 46 = .ok (.istore_n 3, 1) := by decide +kernel
theorem dX5_switchFeed_47 : decode cX5_switchFeed 47 = .ok (.iload_n 3, 1) := by decide +kernel
theorem dX5_switchFeed_48 : decode cX5_switchFeed 48 = .ok (.aload_n 0, 1) := by decide +kernel
theorem dX5_switchFeed_49 : decode cX5_switchFeed 49 = .ok (.getfield 73, 3) := by decide +kernel
theorem dX5_switchFeed_52 : decode cX5_switchFeed 52 = .ok (.if_icmp .ge 25, 3) := by decide +kernel
theorem dX5_switchFeed_55 : decode cX5_switchFeed 55 = .ok (.iload_n 2, 1) := by decide +kernel
theorem dX5_switchFeed_56 : decode cX5_switchFeed 56 = .ok (.aload_n 0, 1) := by decide +kernel
theorem dX5_switchFeed_57 : decode cX5_switchFeed 57 = .ok (.iload_n 3, 1) := by decide +kernel
theorem dX5_switchFeed_58 : decode cX5_switchFeed 58 = .ok (.invokevirtual 98, 3) := by decide +kernel
theorem dX5_switchFeed_61 : decode cX5_switchFeed 61 = .ok (.ifCond .eq 7, 3) := by decide +kernel
theorem dX5_switchFeed_64 : decode cX5_switchFeed 64 = .ok (.iconst 1, 1) := by decide +kernel
theorem dX5_switchFeed_65 : decode cX5_switchFeed 65 = .ok (.goto 4, 3) := by decide +kernel
theorem dX5_switchFeed_68 : decode cX5_switchFeed 68 = .ok (.iconst 0, 1) := by decide +kernel
theorem dX5_switchFeed_69 : decode cX5_switchFeed 69 = .ok (.iadd, 1) := by decide +kernel
theorem dX5_switchFeed_70 : decode cX5_switchFeed 70 = .ok (.istore_n 2, 1) := by decide +kernel
theorem dX5_switchFeed_71 : decode cX5_switchFeed 71 = .ok (.iinc 3 1, 3) := by decide +kernel
theorem dX5_switchFeed_74 : decode cX5_switchFeed 74 = .ok (.goto (-27), 3) := by decide +kernel
theorem dX5_switchFeed_77 : decode cX5_switchFeed 77 = .ok (.iload_n 2, 1) := by decide +kernel
theorem dX5_switchFeed_78 : decode cX5_switchFeed 78 = .ok (.ireturn, 1) := by decide +kernel
theorem dX5_hasFailed_0 : decode cX5_hasFailed 0 = .ok (.aload_n 0, 1) := by decide +kernel
theorem dX5_hasFailed_1 : decode cX5_hasFailed 1 = .ok (.iload_n 1, 1) := by decide +kernel
theorem dX5_hasFailed_2 : decode cX5_hasFailed 2 = .ok (.iconst 0, 1) := by decide +kernel
theorem dX5_hasFailed_3 : decode cX5_hasFailed 3 = .ok (.iconst 1, 1) := by decide +kernel
theorem dX5_hasFailed_4 : decode cX5_hasFailed 4 = .ok (.invokestatic 69, 3) := by decide +kernel
theorem dX5_hasFailed_7 : decode cX5_hasFailed 7 = .ok (.ifCond .eq 7, 3) := by decide +kernel
theorem dX5_hasFailed_10 : decode cX5_hasFailed 10 = .ok (.iconst 0, 1) := by decide +kernel
theorem dX5_hasFailed_11 : decode cX5_hasFailed 11 = .ok (.goto 4, 3) := by decide +kernel
theorem dX5_hasFailed_14 : decode cX5_hasFailed 14 = .ok (.iconst 1, 1) := by decide +kernel
theorem dX5_hasFailed_15 : decode cX5_hasFailed 15 = .ok (.invokevirtual 84, 3) := by decide +kernel
theorem dX5_hasFailed_18 : decode cX5_hasFailed 18 = .ok (.ifCond .eq 16, 3) := by decide +kernel
theorem dX5_hasFailed_21 : decode cX5_hasFailed 21 = .ok (.aload_n 0, 1) := by decide +kernel
theorem dX5_hasFailed_22 : decode cX5_hasFailed 22 = .ok (.getfield 31, 3) := by decide +kernel
theorem dX5_hasFailed_25 : decode cX5_hasFailed 25 = .ok (.iload_n 1, 1) := by decide +kernel
theorem dX5_hasFailed_26 : decode cX5_hasFailed 26 = .ok (.baload, 1) := by decide +kernel
theorem dX5_hasFailed_27 : decode cX5_hasFailed 27 = .ok (.ifCond .eq 7, 3) := by decide +kernel
theorem dX5_hasFailed_30 : decode cX5_hasFailed 30 = .ok (.iconst 1, 1) := by decide +kernel
theorem dX5_hasFailed_31 : decode cX5_hasFailed 31 = .ok (.goto 4, 3) := by decide +kernel
theorem dX5_hasFailed_34 : decode cX5_hasFailed 34 = .ok (.iconst 0, 1) := by decide +kernel
theorem dX5_hasFailed_35 : decode cX5_hasFailed 35 = .ok (.ireturn, 1) := by decide +kernel
theorem dX5_racks_0 : decode cX5_racks 0 = .ok (.aload_n 0, 1) := by decide +kernel
theorem dX5_racks_1 : decode cX5_racks 1 = .ok (.iconst 0, 1) := by decide +kernel
theorem dX5_racks_2 : decode cX5_racks 2 = .ok (.putfield 62, 3) := by decide +kernel
theorem dX5_racks_5 : decode cX5_racks 5 = .ok (.aload_n 0, 1) := by decide +kernel
theorem dX5_racks_6 : decode cX5_racks 6 = .ok (.getfield 66, 3) := by decide +kernel
theorem dX5_racks_9 : decode cX5_racks 9 = .ok (.ireturn, 1) := by decide +kernel
theorem dX5_inSlot_0 : decode cX5_inSlot 0 = .ok (.iconst 0, 1) := by decide +kernel
theorem dX5_inSlot_1 : decode cX5_inSlot 1 = .ok (.istore_n 3, 1) := by decide +kernel
theorem dX5_inSlot_2 : decode cX5_inSlot 2 = .ok (.iload_n 3, 1) := by decide +kernel
theorem dX5_inSlot_3 : decode cX5_inSlot 3 = .ok (.aload_n 0, 1) := by decide +kernel
theorem dX5_inSlot_4 : decode cX5_inSlot 4 = .ok (.getfield 73, 3) := by decide +kernel
theorem dX5_inSlot_7 : decode cX5_inSlot 7 = .ok (.if_icmp .ge 48, 3) := by decide +kernel
theorem dX5_inSlot_10 : decode cX5_inSlot 10 = .ok (.aload_n 0, 1) := by decide +kernel
theorem dX5_inSlot_11 : decode cX5_inSlot 11 = .ok (.getfield 50, 3) := by decide +kernel
theorem dX5_inSlot_14 : decode cX5_inSlot 14 = .ok (.iload_n 3, 1) := by decide +kernel
theorem dX5_inSlot_15 : decode cX5_inSlot 15 = .ok (.iaload, 1) := by decide +kernel
theorem dX5_inSlot_16 : decode cX5_inSlot 16 = .ok (.iload_n 1, 1) := by decide +kernel
theorem dX5_inSlot_17 : decode cX5_inSlot 17 = .ok (.if_icmp .ne 32, 3) := by decide +kernel
theorem dX5_inSlot_20 : decode cX5_inSlot 20 = .ok (.iload_n 2, 1) := by decide +kernel
theorem dX5_inSlot_21 : decode cX5_inSlot 21 = .ok (.aload_n 0, 1) := by decide +kernel
theorem dX5_inSlot_22 : decode cX5_inSlot 22 = .ok (.getfield 53, 3) := by decide +kernel
theorem dX5_inSlot_25 : decode cX5_inSlot 25 = .ok (.iload_n 3, 1) := by decide +kernel
theorem dX5_inSlot_26 : decode cX5_inSlot 26 = .ok (.iaload, 1) := by decide +kernel
theorem dX5_inSlot_27 : decode cX5_inSlot 27 = .ok (.if_icmp .lt 22, 3) := by decide +kernel
theorem dX5_inSlot_30 : decode cX5_inSlot 30 = .ok (.iload_n 2, 1) := by decide +kernel
theorem dX5_inSlot_31 : decode cX5_inSlot 31 = .ok (.aload_n 0, 1) := by decide +kernel
theorem dX5_inSlot_32 : decode cX5_inSlot 32 = .ok (.getfield 53, 3) := by decide +kernel
theorem dX5_inSlot_35 : decode cX5_inSlot 35 = .ok (.iload_n 3, 1) := by decide +kernel
theorem dX5_inSlot_36 : decode cX5_inSlot 36 = .ok (.iaload, 1) := by decide +kernel
theorem dX5_inSlot_37 : decode cX5_inSlot 37 = .ok (.aload_n 0, 1) := by decide +kernel
theorem dX5_inSlot_38 : decode cX5_inSlot 38 = .ok (.getfield 38, 3) := by decide +kernel
theorem dX5_inSlot_41 : decode cX5_inSlot 41 = .ok (.iload_n 3, 1) := by decide +kernel
theorem dX5_inSlot_42 : decode cX5_inSlot 42 = .ok (.iaload, 1) := by decide +kernel
theorem dX5_inSlot_43 : decode cX5_inSlot 43 = .ok (.iadd, 1) := by decide +kernel
theorem dX5_inSlot_44 : decode cX5_inSlot 44 = .ok (.if_icmp .ge 5, 3) := by decide +kernel
theorem dX5_inSlot_47 : decode cX5_inSlot 47 = .ok (.iload_n 3, 1) := by decide +kernel
theorem dX5_inSlot_48 : decode cX5_inSlot 48 = .ok (.ireturn, 1) := by decide +kernel
theorem dX5_inSlot_49 : decode cX5_inSlot 49 = .ok (.iinc 3 1, 3) := by decide +kernel
theorem dX5_inSlot_52 : decode cX5_inSlot 52 = .ok (.goto (-50), 3) := by decide +kernel
theorem dX5_inSlot_55 : decode cX5_inSlot 55 = .ok (.iconst (-1), 1) := by decide +kernel
theorem dX5_inSlot_56 : decode cX5_inSlot 56 = .ok (.ireturn, 1) := by decide +kernel
theorem dX5_isFree_0 : decode cX5_isFree 0 = .ok (.iload_n 2, 1) := by decide +kernel
theorem dX5_isFree_1 : decode cX5_isFree 1 = .ok (.iload_n 3, 1) := by decide +kernel
theorem dX5_isFree_2 : decode cX5_isFree 2 = .ok (.iadd, 1) := by decide +kernel
theorem dX5_isFree_3 : decode cX5_isFree 3 = .ok (.aload_n 0, 1) := by decide +kernel
theorem dX5_isFree_4 : decode cX5_isFree 4 = .ok (.getfield 13, 3) := by decide +kernel
theorem dX5_isFree_7 : decode cX5_isFree 7 = .ok (.iload_n 1, 1) := by decide +kernel
theorem dX5_isFree_8 : decode cX5_isFree 8 = .ok (.iaload, 1) := by decide +kernel
theorem dX5_isFree_9 : decode cX5_isFree 9 = .ok (.if_icmp .gt 7, 3) := by decide +kernel
theorem dX5_isFree_12 : decode cX5_isFree 12 = .ok (.iconst 1, 1) := by decide +kernel
theorem dX5_isFree_13 : decode cX5_isFree 13 = .ok (.goto 4, 3) := by decide +kernel
theorem dX5_isFree_16 : decode cX5_isFree 16 = .ok (.iconst 0, 1) := by decide +kernel
theorem dX5_isFree_17 : decode cX5_isFree 17 = .ok (.istore 4, 2) := by decide +kernel
theorem dX5_isFree_19 : decode cX5_isFree 19 = .ok (.iload_n 2, 1) := by decide +kernel
theorem dX5_isFree_20 : decode cX5_isFree 20 = .ok (.istore 5, 2) := by decide +kernel
theorem dX5_isFree_22 : decode cX5_isFree 22 = .ok (.iload 5, 2) := by decide +kernel
theorem dX5_isFree_24 : decode cX5_isFree 24 = .ok (.iload_n 2, 1) := by decide +kernel
theorem dX5_isFree_25 : decode cX5_isFree 25 = .ok (.iload_n 3, 1) := by decide +kernel
theorem dX5_isFree_26 : decode cX5_isFree 26 = .ok (.iadd, 1) := by decide +kernel
theorem dX5_isFree_27 : decode cX5_isFree 27 = .ok (.if_icmp .ge 32, 3) := by decide +kernel
theorem dX5_isFree_30 : decode cX5_isFree 30 = .ok (.iload 4, 2) := by decide +kernel
theorem dX5_isFree_32 : decode cX5_isFree 32 = .ok (.ifCond .eq 27, 3) := by decide +kernel
theorem dX5_isFree_35 : decode cX5_isFree 35 = .ok (.aload_n 0, 1) := by decide +kernel
theorem dX5_isFree_36 : decode cX5_isFree 36 = .ok (.iload_n 1, 1) := by decide +kernel
theorem dX5_isFree_37 : decode cX5_isFree 37 = .ok (.iload 5, 2) := by decide +kernel
theorem dX5_isFree_39 : decode cX5_isFree 39 = .ok (.invokevirtual 101, 3) := by decide +kernel
theorem dX5_isFree_42 : decode cX5_isFree 42 = .ok (.iconst (-1), 1) := by decide +kernel
theorem dX5_isFree_43 : decode cX5_isFree 43 = .ok (.if_icmp .ne 7, 3) := by decide +kernel
theorem dX5_isFree_46 : decode cX5_isFree 46 = .ok (.iconst 1, 1) := by decide +kernel
theorem dX5_isFree_47 : decode cX5_isFree 47 = .ok (.goto 4, 3) := by decide +kernel
theorem dX5_isFree_50 : decode cX5_isFree 50 = .ok (.iconst 0, 1) := by decide +kernel
theorem dX5_isFree_51 : decode cX5_isFree 51 = .ok (.istore 4, 2) := by decide +kernel
theorem dX5_isFree_53 : decode cX5_isFree 53 = .ok (.iinc 5 1, 3) := by decide +kernel
theorem dX5_isFree_56 : decode cX5_isFree 56 = .ok (.goto (-34), 3) := by decide +kernel
theorem dX5_isFree_59 : decode cX5_isFree 59 = .ok (.iload 4, 2) := by decide +kernel
theorem dX5_isFree_61 : decode cX5_isFree 61 = .ok (.ireturn, 1) := by decide +kernel
theorem dX5_isBorne_0 : decode cX5_isBorne 0 = .ok (.aload_n 0, 1) := by decide +kernel
theorem dX5_isBorne_1 : decode cX5_isBorne 1 = .ok (.getfield 7, 3) := by decide +kernel
theorem dX5_isBorne_4 : decode cX5_isBorne 4 = .ok (.iload_n 1, 1) := by decide +kernel
theorem dX5_isBorne_5 : decode cX5_isBorne 5 = .ok (.iaload, 1) := by decide +kernel
theorem dX5_isBorne_6 : decode cX5_isBorne 6 = .ok (.istore 5, 2) := by decide +kernel
theorem dX5_isBorne_8 : decode cX5_isBorne 8 = .ok (.aload_n 0, 1) := by decide +kernel
theorem dX5_isBorne_9 : decode cX5_isBorne 9 = .ok (.iload_n 1, 1) := by decide +kernel
theorem dX5_isBorne_10 : decode cX5_isBorne 10 = .ok (.invokevirtual 80, 3) := by decide +kernel
theorem dX5_isBorne_13 : decode cX5_isBorne 13 = .ok (.iload_n 3, 1) := by decide +kernel
theorem dX5_isBorne_14 : decode cX5_isBorne 14 = .ok (.iadd, 1) := by decide +kernel
theorem dX5_isBorne_15 : decode cX5_isBorne 15 = .ok (.aload_n 0, 1) := by decide +kernel
theorem dX5_isBorne_16 : decode cX5_isBorne 16 = .ok (.getfield 16, 3) := by decide +kernel
theorem dX5_isBorne_19 : decode cX5_isBorne 19 = .ok (.iload_n 1, 1) := by decide +kernel
theorem dX5_isBorne_20 : decode cX5_isBorne 20 = .ok (.iaload, 1) := by decide +kernel
theorem dX5_isBorne_21 : decode cX5_isBorne 21 = .ok (.if_icmp .gt 43, 3) := by decide +kernel
theorem dX5_isBorne_24 : decode cX5_isBorne 24 = .ok (.aload_n 0, 1) := by decide +kernel
theorem dX5_isBorne_25 : decode cX5_isBorne 25 = .ok (.iload 5, 2) := by decide +kernel
theorem dX5_isBorne_27 : decode cX5_isBorne 27 = .ok (.invokevirtual 91, 3) := by decide +kernel
theorem dX5_isBorne_30 : decode cX5_isBorne 30 = .ok (.iload_n 3, 1) := by decide +kernel
theorem dX5_isBorne_31 : decode cX5_isBorne 31 = .ok (.iadd, 1) := by decide +kernel
theorem dX5_isBorne_32 : decode cX5_isBorne 32 = .ok (.aload_n 0, 1) := by decide +kernel
theorem dX5_isBorne_33 : decode cX5_isBorne 33 = .ok (.getfield 25, 3) := by decide +kernel
theorem dX5_isBorne_36 : decode cX5_isBorne 36 = .ok (.iload 5, 2) := by decide +kernel
theorem dX5_isBorne_38 : decode cX5_isBorne 38 = .ok (.iaload, 1) := by decide +kernel
theorem dX5_isBorne_39 : decode cX5_isBorne 39 = .ok (.if_icmp .gt 25, 3) := by decide +kernel
theorem dX5_isBorne_42 : decode cX5_isBorne 42 = .ok (.aload_n 0, 1) := by decide +kernel
theorem dX5_isBorne_43 : decode cX5_isBorne 43 = .ok (.iload 5, 2) := by decide +kernel
theorem dX5_isBorne_45 : decode cX5_isBorne 45 = .ok (.invokevirtual 88, 3) := by decide +kernel
theorem dX5_isBorne_48 : decode cX5_isBorne 48 = .ok (.iload_n 2, 1) := by decide +kernel
theorem dX5_isBorne_49 : decode cX5_isBorne 49 = .ok (.iadd, 1) := by decide +kernel
theorem dX5_isBorne_50 : decode cX5_isBorne 50 = .ok (.aload_n 0, 1) := by decide +kernel
theorem dX5_isBorne_51 : decode cX5_isBorne 51 = .ok (.getfield 22, 3) := by decide +kernel
theorem dX5_isBorne_54 : decode cX5_isBorne 54 = .ok (.iload 5, 2) := by decide +kernel
theorem dX5_isBorne_56 : decode cX5_isBorne 56 = .ok (.iaload, 1) := by decide +kernel
theorem dX5_isBorne_57 : decode cX5_isBorne 57 = .ok (.if_icmp .gt 7, 3) := by decide +kernel
theorem dX5_isBorne_60 : decode cX5_isBorne 60 = .ok (.iconst 1, 1) := by decide +kernel
theorem dX5_isBorne_61 : decode cX5_isBorne 61 = .ok (.goto 4, 3) := by decide +kernel
theorem dX5_isBorne_64 : decode cX5_isBorne 64 = .ok (.iconst 0, 1) := by decide +kernel
theorem dX5_isBorne_65 : decode cX5_isBorne 65 = .ok (.istore 6, 2) := by decide +kernel
theorem dX5_isBorne_67 : decode cX5_isBorne 67 = .ok (.iconst 0, 1) := by decide +kernel
theorem dX5_isBorne_68 : decode cX5_isBorne 68 = .ok (.istore 7, 2) := by decide +kernel
theorem dX5_isBorne_70 : decode cX5_isBorne 70 = .ok (.iload 7, 2) := by decide +kernel
theorem dX5_isBorne_72 : decode cX5_isBorne 72 = .ok (.iconst 2, 1) := by decide +kernel
theorem dX5_isBorne_73 : decode cX5_isBorne 73 = .ok (.if_icmp .ge 77, 3) := by decide +kernel
theorem dX5_isBorne_76 : decode cX5_isBorne 76 = .ok (.iload 4, 2) := by decide +kernel
theorem dX5_isBorne_78 : decode cX5_isBorne 78 = .ok (.iload 7, 2) := by decide +kernel
theorem dX5_isBorne_80 : decode cX5_isBorne 80 = .ok (.invokestatic 76, 3) := by decide +kernel
theorem dX5_isBorne_83 : decode cX5_isBorne 83 = .ok (.ifCond .eq 7, 3) := by decide +kernel
theorem dX5_isBorne_86 : decode cX5_isBorne 86 = .ok (.iload_n 2, 1) := by decide +kernel
theorem dX5_isBorne_87 : decode cX5_isBorne 87 = .ok (.goto 4, 3) := by decide +kernel
theorem dX5_isBorne_90 : decode cX5_isBorne 90 = .ok (.iconst 0, 1) := by decide +kernel
theorem dX5_isBorne_91 : decode cX5_isBorne 91 = .ok (.istore 8, 2) := by decide +kernel
theorem dX5_isBorne_93 : decode cX5_isBorne 93 = .ok (.iload 6, 2) := by decide +kernel
theorem dX5_isBorne_95 : decode cX5_isBorne 95 = .ok (.ifCond .eq 46, 3) := by decide +kernel
theorem dX5_isBorne_98 : decode cX5_isBorne 98 = .ok (.aload_n 0, 1) := by decide +kernel
theorem dX5_isBorne_99 : decode cX5_isBorne 99 = .ok (.iload_n 1, 1) := by decide +kernel
theorem dX5_isBorne_100 : decode cX5_isBorne 100 = .ok (.iload 7, 2) := by decide +kernel
theorem dX5_isBorne_102 : decode cX5_isBorne 102 = .ok (.invokevirtual 94, 3) := by decide +kernel
theorem dX5_isBorne_105 : decode cX5_isBorne 105 = .ok (.iload 8, 2) := by decide +kernel
theorem dX5_isBorne_107 : decode cX5_isBorne 107 = .ok (.iadd, 1) := by decide +kernel
theorem dX5_isBorne_108 : decode cX5_isBorne 108 = .ok (.aload_n 0, 1) := by decide +kernel
theorem dX5_isBorne_109 : decode cX5_isBorne 109 = .ok (.getfield 19, 3) := by decide +kernel
theorem dX5_isBorne_112 : decode cX5_isBorne 112 = .ok (.iload_n 1, 1) := by decide +kernel
theorem dX5_isBorne_113 : decode cX5_isBorne 113 = .ok (.iaload, 1) := by decide +kernel
theorem dX5_isBorne_114 : decode cX5_isBorne 114 = .ok (.if_icmp .gt 27, 3) := by decide +kernel
theorem dX5_isBorne_117 : decode cX5_isBorne 117 = .ok (.aload_n 0, 1) := by decide +kernel
theorem dX5_isBorne_118 : decode cX5_isBorne 118 = .ok (.iconst (-1), 1) := by decide +kernel
theorem dX5_isBorne_119 : decode cX5_isBorne 119 = .ok (.iload 7, 2) := by decide +kernel
theorem dX5_isBorne_121 : decode cX5_isBorne 121 = .ok (.invokevirtual 94, 3) := by decide +kernel
theorem dX5_isBorne_124 : decode cX5_isBorne 124 = .ok (.iload 8, 2) := by decide +kernel
theorem dX5_isBorne_126 : decode cX5_isBorne 126 = .ok (.iadd, 1) := by decide +kernel
theorem dX5_isBorne_127 : decode cX5_isBorne 127 = .ok (.aload_n 0, 1) := by decide +kernel
theorem dX5_isBorne_128 : decode cX5_isBorne 128 = .ok (.getfield 28, 3) := by decide +kernel
theorem dX5_isBorne_131 : decode cX5_isBorne 131 = .ok (.iload 7, 2) := by decide +kernel
theorem dX5_isBorne_133 : decode cX5_isBorne 133 = .ok (.iaload, 1) := by decide +kernel
theorem dX5_isBorne_134 : decode cX5_isBorne 134 = .ok (.if_icmp .gt 7, 3) := by decide +kernel
theorem dX5_isBorne_137 : decode cX5_isBorne 137 = .ok (.iconst 1, 1) := by decide +kernel
theorem dX5_isBorne_138 : decode cX5_isBorne 138 = .ok (.goto 4, 3) := by decide +kernel
theorem dX5_isBorne_141 : decode cX5_isBorne 141 = .ok (.iconst 0, 1) := by decide +kernel
theorem dX5_isBorne_142 : decode cX5_isBorne 142 = .ok (.istore 6, 2) := by decide +kernel
theorem dX5_isBorne_144 : decode cX5_isBorne 144 = .ok (.iinc 7 1, 3) := by decide +kernel
theorem dX5_isBorne_147 : decode cX5_isBorne 147 = .ok (.goto (-77), 3) := by decide +kernel
theorem dX5_isBorne_150 : decode cX5_isBorne 150 = .ok (.iload 6, 2) := by decide +kernel
theorem dX5_isBorne_152 : decode cX5_isBorne 152 = .ok (.ireturn, 1) := by decide +kernel
theorem dX5_slotIn_0 : decode cX5_slotIn 0 = .ok (.aload_n 0, 1) := by decide +kernel
theorem dX5_slotIn_1 : decode cX5_slotIn 1 = .ok (.iload_n 1, 1) := by decide +kernel
theorem dX5_slotIn_2 : decode cX5_slotIn 2 = .ok (.iload_n 3, 1) := by decide +kernel
theorem dX5_slotIn_3 : decode cX5_slotIn 3 = .ok (.iload 4, 2) := by decide +kernel
theorem dX5_slotIn_5 : decode cX5_slotIn 5 = .ok (.iload 5, 2) := by decide +kernel
theorem dX5_slotIn_7 : decode cX5_slotIn 7 = .ok (.invokevirtual 104, 3) := by decide +kernel
theorem dX5_slotIn_10 : decode cX5_slotIn 10 = .ok (.ifCond .eq 37, 3) := by decide +kernel
theorem dX5_slotIn_13 : decode cX5_slotIn 13 = .ok (.iconst 0, 1) := by decide +kernel
theorem dX5_slotIn_14 : decode cX5_slotIn 14 = .ok (.istore 6, 2) := by decide +kernel
theorem dX5_slotIn_16 : decode cX5_slotIn 16 = .ok (.iload 6, 2) := by decide +kernel
theorem dX5_slotIn_18 : decode cX5_slotIn 18 = .ok (.aload_n 0, 1) := by decide +kernel
theorem dX5_slotIn_19 : decode cX5_slotIn 19 = .ok (.getfield 13, 3) := by decide +kernel
theorem dX5_slotIn_22 : decode cX5_slotIn 22 = .ok (.iload_n 1, 1) := by decide +kernel
theorem dX5_slotIn_23 : decode cX5_slotIn 23 = .ok (.iaload, 1) := by decide +kernel
theorem dX5_slotIn_24 : decode cX5_slotIn 24 = .ok (.if_icmp .ge 23, 3) := by decide +kernel
theorem dX5_slotIn_27 : decode cX5_slotIn 27 = .ok (.aload_n 0, 1) := by decide +kernel
theorem dX5_slotIn_28 : decode cX5_slotIn 28 = .ok (.iload_n 1, 1) := by decide +kernel
theorem dX5_slotIn_29 : decode cX5_slotIn 29 = .ok (.iload 6, 2) := by decide +kernel
theorem dX5_slotIn_31 : decode cX5_slotIn 31 = .ok (.iload_n 2, 1) := by decide +kernel
theorem dX5_slotIn_32 : decode cX5_slotIn 32 = .ok (.invokevirtual 108, 3) := by decide +kernel
theorem dX5_slotIn_35 : decode cX5_slotIn 35 = .ok (.ifCond .eq 6, 3) := by decide +kernel
theorem dX5_slotIn_38 : decode cX5_slotIn 38 = .ok (.iload 6, 2) := by decide +kernel
theorem dX5_slotIn_40 : decode cX5_slotIn 40 = .ok (.ireturn, 1) := by decide +kernel
theorem dX5_slotIn_41 : decode cX5_slotIn 41 = .ok (.iinc 6 1, 3) := by decide +kernel
theorem dX5_slotIn_44 : decode cX5_slotIn 44 = .ok (.goto (-28), 3) := by decide +kernel
theorem dX5_slotIn_47 : decode cX5_slotIn 47 = .ok (.iconst (-1), 1) := by decide +kernel
theorem dX5_slotIn_48 : decode cX5_slotIn 48 = .ok (.ireturn, 1) := by decide +kernel
theorem dX5_puts_0 : decode cX5_puts 0 = .ok (.iconst 0, 1) := by decide +kernel
theorem dX5_puts_1 : decode cX5_puts 1 = .ok (.istore_n 2, 1) := by decide +kernel
theorem dX5_puts_2 : decode cX5_puts 2 = .ok (.iload_n 2, 1) := by decide +kernel
theorem dX5_puts_3 : decode cX5_puts 3 = .ok (.aload_n 0, 1) := by decide +kernel
theorem dX5_puts_4 : decode cX5_puts 4 = .ok (.getfield 66, 3) := by decide +kernel
theorem dX5_puts_7 : decode cX5_puts 7 = .ok (.if_icmp .ge 60, 3) := by decide +kernel
theorem dX5_puts_10 : decode cX5_puts 10 = .ok (.aload_n 0, 1) := by decide +kernel
theorem dX5_puts_11 : decode cX5_puts 11 = .ok (.iload_n 2, 1) := by decide +kernel
theorem dX5_puts_12 : decode cX5_puts 12 = .ok (.aload_n 0, 1) := by decide +kernel
theorem dX5_puts_13 : decode cX5_puts 13 = .ok (.getfield 38, 3) := by decide +kernel
theorem dX5_puts_16 : decode cX5_puts 16 = .ok (.iload_n 1, 1) := by decide +kernel
theorem dX5_puts_17 : decode cX5_puts 17 = .ok (.iaload, 1) := by decide +kernel
theorem dX5_puts_18 : decode cX5_puts 18 = .ok (.aload_n 0, 1) := by decide +kernel
theorem dX5_puts_19 : decode cX5_puts 19 = .ok (.getfield 41, 3) := by decide +kernel
theorem dX5_puts_22 : decode cX5_puts 22 = .ok (.iload_n 1, 1) := by decide +kernel
theorem dX5_puts_23 : decode cX5_puts 23 = .ok (.iaload, 1) := by decide +kernel
theorem dX5_puts_24 : decode cX5_puts 24 = .ok (.aload_n 0, 1) := by decide +kernel
theorem dX5_puts_25 : decode cX5_puts 25 = .ok (.getfield 44, 3) := by decide +kernel
theorem dX5_puts_28 : decode cX5_puts 28 = .ok (.iload_n 1, 1) := by decide +kernel
theorem dX5_puts_29 : decode cX5_puts 29 = .ok (.iaload, 1) := by decide +kernel
theorem dX5_puts_30 : decode cX5_puts 30 = .ok (.aload_n 0, 1) := by decide +kernel
theorem dX5_puts_31 : decode cX5_puts 31 = .ok (.getfield 47, 3) := by decide +kernel
theorem dX5_puts_34 : decode cX5_puts 34 = .ok (.iload_n 1, 1) := by decide +kernel
theorem dX5_puts_35 : decode cX5_puts 35 = .ok (.iaload, 1) := by decide +kernel
theorem dX5_puts_36 : decode cX5_puts 36 = .ok (.invokevirtual 111, 3) := by decide +kernel
theorem dX5_puts_39 : decode cX5_puts 39 = .ok (.istore_n 3, 1) := by decide +kernel
theorem dX5_puts_40 : decode cX5_puts 40 = .ok (.iload_n 3, 1) := by decide +kernel
theorem dX5_puts_41 : decode cX5_puts 41 = .ok (.iconst (-1), 1) := by decide +kernel
theorem dX5_puts_42 : decode cX5_puts 42 = .ok (.if_icmp .eq 19, 3) := by decide +kernel
theorem dX5_puts_45 : decode cX5_puts 45 = .ok (.aload_n 0, 1) := by decide +kernel
theorem dX5_puts_46 : decode cX5_puts 46 = .ok (.getfield 50, 3) := by decide +kernel
theorem dX5_puts_49 : decode cX5_puts 49 = .ok (.iload_n 1, 1) := by decide +kernel
theorem dX5_puts_50 : decode cX5_puts 50 = .ok (.iload_n 2, 1) := by decide +kernel
theorem dX5_puts_51 : decode cX5_puts 51 = .ok (.iastore, 1) := by decide +kernel
theorem dX5_puts_52 : decode cX5_puts 52 = .ok (.aload_n 0, 1) := by decide +kernel
theorem dX5_puts_53 : decode cX5_puts 53 = .ok (.getfield 53, 3) := by decide +kernel
theorem dX5_puts_56 : decode cX5_puts 56 = .ok (.iload_n 1, 1) := by decide +kernel
theorem dX5_puts_57 : decode cX5_puts 57 = .ok (.iload_n 3, 1) := by decide +kernel
theorem dX5_puts_58 : decode cX5_puts 58 = .ok (.iastore, 1) := by decide +kernel
theorem dX5_puts_59 : decode cX5_puts 59 = .ok (.iload_n 2, 1) := by decide +kernel
theorem dX5_puts_60 : decode cX5_puts 60 = .ok (.ireturn, 1) := by decide +kernel
theorem dX5_puts_61 : decode cX5_puts 61 = .ok (.iinc 2 1, 3) := by decide +kernel
theorem dX5_puts_64 : decode cX5_puts 64 = .ok (.goto (-62), 3) := by decide +kernel
theorem dX5_puts_67 : decode cX5_puts 67 = .ok (.iconst (-1), 1) := by decide +kernel
theorem dX5_puts_68 : decode cX5_puts 68 = .ok (.ireturn, 1) := by decide +kernel
theorem dX5_isKind_0 : decode cX5_isKind 0 = .ok (.iload_n 0, 1) := by decide +kernel
theorem dX5_isKind_1 : decode cX5_isKind 1 = .ok (.iconst 1, 1) := by decide +kernel
theorem dX5_isKind_2 : decode cX5_isKind 2 = .ok (.bipush 6, 2) := by decide +kernel
theorem dX5_isKind_4 : decode cX5_isKind 4 = .ok (.invokestatic 69, 3) := by decide +kernel
theorem dX5_isKind_7 : decode cX5_isKind 7 = .ok (.ifCond .eq 38, 3) := by decide +kernel
theorem dX5_isKind_10 : decode cX5_isKind 10 = .ok (.iload_n 1, 1) := by decide +kernel
theorem dX5_isKind_11 : decode cX5_isKind 11 = .ok (.iconst 0, 1) := by decide +kernel
theorem dX5_isKind_12 : decode cX5_isKind 12 = .ok (.sipush 2000, 3) := by decide +kernel
theorem dX5_isKind_15 : decode cX5_isKind 15 = .ok (.invokestatic 69, 3) := by decide +kernel
theorem dX5_isKind_18 : decode cX5_isKind 18 = .ok (.ifCond .eq 27, 3) := by decide +kernel
theorem dX5_isKind_21 : decode cX5_isKind 21 = .ok (.iload_n 2, 1) := by decide +kernel
theorem dX5_isKind_22 : decode cX5_isKind 22 = .ok (.iconst 0, 1) := by decide +kernel
theorem dX5_isKind_23 : decode cX5_isKind 23 = .ok (.sipush 1000, 3) := by decide +kernel
theorem dX5_isKind_26 : decode cX5_isKind 26 = .ok (.invokestatic 69, 3) := by decide +kernel
theorem dX5_isKind_29 : decode cX5_isKind 29 = .ok (.ifCond .eq 16, 3) := by decide +kernel
theorem dX5_isKind_32 : decode cX5_isKind 32 = .ok (.iload_n 3, 1) := by decide +kernel
theorem dX5_isKind_33 : decode cX5_isKind 33 = .ok (.iconst 0, 1) := by decide +kernel
theorem dX5_isKind_34 : decode cX5_isKind 34 = .ok (.iconst 2, 1) := by decide +kernel
theorem dX5_isKind_35 : decode cX5_isKind 35 = .ok (.invokestatic 69, 3) := by decide +kernel
theorem dX5_isKind_38 : decode cX5_isKind 38 = .ok (.ifCond .eq 7, 3) := by decide +kernel
theorem dX5_isKind_41 : decode cX5_isKind 41 = .ok (.iconst 1, 1) := by decide +kernel
theorem dX5_isKind_42 : decode cX5_isKind 42 = .ok (.goto 4, 3) := by decide +kernel
theorem dX5_isKind_45 : decode cX5_isKind 45 = .ok (.iconst 0, 1) := by decide +kernel
theorem dX5_isKind_46 : decode cX5_isKind 46 = .ok (.ireturn, 1) := by decide +kernel
theorem dX5_place_0 : decode cX5_place 0 = .ok (.iload_n 1, 1) := by decide +kernel
theorem dX5_place_1 : decode cX5_place 1 = .ok (.iload_n 2, 1) := by decide +kernel
theorem dX5_place_2 : decode cX5_place 2 = .ok (.iload_n 3, 1) := by decide +kernel
theorem dX5_place_3 : decode cX5_place 3 = .ok (.iload 4, 2) := by decide +kernel
theorem dX5_place_5 : decode cX5_place 5 = .ok (.invokestatic 115, 3) := by decide +kernel
theorem dX5_place_8 : decode cX5_place 8 = .ok (.istore 5, 2) := by decide +kernel
theorem dX5_place_10 : decode cX5_place 10 = .ok (.aload_n 0, 1) := by decide +kernel
theorem dX5_place_11 : decode cX5_place 11 = .ok (.iload 5, 2) := by decide +kernel
theorem dX5_place_13 : decode cX5_place 13 = .ok (.ifCond .ne 7, 3) := by decide +kernel
theorem dX5_place_16 : decode cX5_place 16 = .ok (.iconst 1, 1) := by decide +kernel
theorem dX5_place_17 : decode cX5_place 17 = .ok (.goto 17, 3) := by decide +kernel
theorem dX5_place_20 : decode cX5_place 20 = .ok (.aload_n 0, 1) := by decide +kernel
theorem dX5_place_21 : decode cX5_place 21 = .ok (.getfield 73, 3) := by decide +kernel
theorem dX5_place_24 : decode cX5_place 24 = .ok (.bipush 60, 2) := by decide +kernel
theorem dX5_place_26 : decode cX5_place 26 = .ok (.if_icmp .ne 7, 3) := by decide +kernel
theorem dX5_place_29 : decode cX5_place 29 = .ok (.iconst 2, 1) := by decide +kernel
theorem dX5_place_30 : decode cX5_place 30 = .ok (.goto 4, 3) := by decide +kernel
theorem dX5_place_33 : decode cX5_place 33 = .ok (.iconst 0, 1) := by decide +kernel
theorem dX5_place_34 : decode cX5_place 34 = .ok (.invokevirtual 84, 3) := by decide +kernel
theorem dX5_place_37 : decode cX5_place 37 = .ok (.ifCond .ne 5, 3) := by decide +kernel
theorem dX5_place_40 : decode cX5_place 40 = .ok (.iconst 0, 1) := by decide +kernel
theorem dX5_place_41 : decode cX5_place 41 = .ok (.ireturn, 1) := by decide +kernel
theorem dX5_place_42 : decode cX5_place 42 = .ok (.aload_n 0, 1) := by decide +kernel
theorem dX5_place_43 : decode cX5_place 43 = .ok (.getfield 38, 3) := by decide +kernel
theorem dX5_place_46 : decode cX5_place 46 = .ok (.aload_n 0, 1) := by decide +kernel
theorem dX5_place_47 : decode cX5_place 47 = .ok (.getfield 73, 3) := by decide +kernel
theorem dX5_place_50 : decode cX5_place 50 = .ok (.iload_n 1, 1) := by decide +kernel
theorem dX5_place_51 : decode cX5_place 51 = .ok (.iastore, 1) := by decide +kernel
theorem dX5_place_52 : decode cX5_place 52 = .ok (.aload_n 0, 1) := by decide +kernel
theorem dX5_place_53 : decode cX5_place 53 = .ok (.getfield 41, 3) := by decide +kernel
theorem dX5_place_56 : decode cX5_place 56 = .ok (.aload_n 0, 1) := by decide +kernel
theorem dX5_place_57 : decode cX5_place 57 = .ok (.getfield 73, 3) := by decide +kernel
theorem dX5_place_60 : decode cX5_place 60 = .ok (.iload_n 2, 1) := by decide +kernel
theorem dX5_place_61 : decode cX5_place 61 = .ok (.iastore, 1) := by decide +kernel
theorem dX5_place_62 : decode cX5_place 62 = .ok (.aload_n 0, 1) := by decide +kernel
theorem dX5_place_63 : decode cX5_place 63 = .ok (.getfield 44, 3) := by decide +kernel
theorem dX5_place_66 : decode cX5_place 66 = .ok (.aload_n 0, 1) := by decide +kernel
theorem dX5_place_67 : decode cX5_place 67 = .ok (.getfield 73, 3) := by decide +kernel
theorem dX5_place_70 : decode cX5_place 70 = .ok (.iload_n 3, 1) := by decide +kernel
theorem dX5_place_71 : decode cX5_place 71 = .ok (.iastore, 1) := by decide +kernel
theorem dX5_place_72 : decode cX5_place 72 = .ok (.aload_n 0, 1) := by decide +kernel
theorem dX5_place_73 : decode cX5_place 73 = .ok (.getfield 47, 3) := by decide +kernel
theorem dX5_place_76 : decode cX5_place 76 = .ok (.aload_n 0, 1) := by decide +kernel
theorem dX5_place_77 : decode cX5_place 77 = .ok (.getfield 73, 3) := by decide +kernel
theorem dX5_place_80 : decode cX5_place 80 = .ok (.iload 4, 2) := by decide +kernel
theorem dX5_place_82 : decode cX5_place 82 = .ok (.iastore, 1) := by decide +kernel
theorem dX5_place_83 : decode cX5_place 83 = .ok (.aload_n 0, 1) := by decide +kernel
theorem dX5_place_84 : decode cX5_place 84 = .ok (.getfield 35, 3) := by decide +kernel
theorem dX5_place_87 : decode cX5_place 87 = .ok (.aload_n 0, 1) := by decide +kernel
theorem dX5_place_88 : decode cX5_place 88 = .ok (.getfield 73, 3) := by decide +kernel
theorem dX5_place_91 : decode cX5_place 91 = .ok (.aload_n 0, 1) := by decide +kernel
theorem dX5_place_92 : decode cX5_place 92 = .ok (.getfield 118, 3) := by decide +kernel
theorem dX5_place_95 : decode cX5_place 95 = .ok (.iastore, 1) := by decide +kernel
theorem dX5_place_96 : decode cX5_place 96 = .ok (.aload_n 0, 1) := by decide +kernel
theorem dX5_place_97 : decode cX5_place 97 = .ok (.aload_n 0, 1) := by decide +kernel
theorem dX5_place_98 : decode cX5_place 98 = .ok (.aload_n 0, 1) := by decide +kernel
theorem dX5_place_99 : decode cX5_place 99 = .ok (.getfield 73, 3) := by decide +kernel
theorem dX5_place_102 : decode cX5_place 102 = .ok (.invokevirtual 121, 3) := by decide +kernel
theorem dX5_place_105 : decode cX5_place 105 = .ok (.iconst (-1), 1) := by decide +kernel
theorem dX5_place_106 : decode cX5_place 106 = .ok (.if_icmp .ne 7, 3) := by decide +kernel
theorem dX5_place_109 : decode cX5_place 109 = .ok (.iconst 2, 1) := by decide +kernel
theorem dX5_place_110 : decode cX5_place 110 = .ok (.goto 4, 3) := by decide +kernel
theorem dX5_place_113 : decode cX5_place 113 = .ok (.iconst 0, 1) := by decide +kernel
theorem dX5_place_114 : decode cX5_place 114 = .ok (.invokevirtual 84, 3) := by decide +kernel
theorem dX5_place_117 : decode cX5_place 117 = .ok (.ifCond .ne 5, 3) := by decide +kernel
theorem dX5_place_120 : decode cX5_place 120 = .ok (.iconst 0, 1) := by decide +kernel
theorem dX5_place_121 : decode cX5_place 121 = .ok (.ireturn, 1) := by decide +kernel
theorem dX5_place_122 : decode cX5_place 122 = .ok (.aload_n 0, 1) := by decide +kernel
theorem dX5_place_123 : decode cX5_place 123 = .ok (.dup, 1) := by decide +kernel
theorem dX5_place_124 : decode cX5_place 124 = .ok (.getfield 73, 3) := by decide +kernel
theorem dX5_place_127 : decode cX5_place 127 = .ok (.iconst 1, 1) := by decide +kernel
theorem dX5_place_128 : decode cX5_place 128 = .ok (.iadd, 1) := by decide +kernel
theorem dX5_place_129 : decode cX5_place 129 = .ok (.putfield 73, 3) := by decide +kernel
theorem dX5_place_132 : decode cX5_place 132 = .ok (.aload_n 0, 1) := by decide +kernel
theorem dX5_place_133 : decode cX5_place 133 = .ok (.dup, 1) := by decide +kernel
theorem dX5_place_134 : decode cX5_place 134 = .ok (.getfield 118, 3) := by decide +kernel
theorem dX5_place_137 : decode cX5_place 137 = .ok (.iconst 1, 1) := by decide +kernel
theorem dX5_place_138 : decode cX5_place 138 = .ok (.iadd, 1) := by decide +kernel
theorem dX5_place_139 : decode cX5_place 139 = .ok (.putfield 118, 3) := by decide +kernel
theorem dX5_place_142 : decode cX5_place 142 = .ok (.aload_n 0, 1) := by decide +kernel
theorem dX5_place_143 : decode cX5_place 143 = .ok (.getfield 118, 3) := by decide +kernel
theorem dX5_place_146 : decode cX5_place 146 = .ok (.iconst 1, 1) := by decide +kernel
theorem dX5_place_147 : decode cX5_place 147 = .ok (.isub, 1) := by decide +kernel
theorem dX5_place_148 : decode cX5_place 148 = .ok (.ireturn, 1) := by decide +kernel
theorem dX5_takeOut_0 : decode cX5_takeOut 0 = .ok (.aload_n 0, 1) := by decide +kernel
theorem dX5_takeOut_1 : decode cX5_takeOut 1 = .ok (.iload_n 1, 1) := by decide +kernel
theorem dX5_takeOut_2 : decode cX5_takeOut 2 = .ok (.invokevirtual 124, 3) := by decide +kernel
theorem dX5_takeOut_5 : decode cX5_takeOut 5 = .ok (.istore_n 2, 1) := by decide +kernel
theorem dX5_takeOut_6 : decode cX5_takeOut 6 = .ok (.aload_n 0, 1) := by decide +kernel
theorem dX5_takeOut_7 : decode cX5_takeOut 7 = .ok (.iload_n 2, 1) := by decide +kernel
theorem dX5_takeOut_8 : decode cX5_takeOut 8 = .ok (.iconst (-1), 1) := by decide +kernel
theorem dX5_takeOut_9 : decode cX5_takeOut 9 = .ok (.if_icmp .ne 7, 3) := by decide +kernel
theorem dX5_takeOut_12 : decode cX5_takeOut 12 = .ok (.iconst 1, 1) := by decide +kernel
theorem dX5_takeOut_13 : decode cX5_takeOut 13 = .ok (.goto 4, 3) := by decide +kernel
theorem dX5_takeOut_16 : decode cX5_takeOut 16 = .ok (.iconst 0, 1) := by decide +kernel
theorem dX5_takeOut_17 : decode cX5_takeOut 17 = .ok (.invokevirtual 84, 3) := by decide +kernel
theorem dX5_takeOut_20 : decode cX5_takeOut 20 = .ok (.ifCond .ne 5, 3) := by decide +kernel
theorem dX5_takeOut_23 : decode cX5_takeOut 23 = .ok (.iconst 0, 1) := by decide +kernel
theorem dX5_takeOut_24 : decode cX5_takeOut 24 = .ok (.ireturn, 1) := by decide +kernel
theorem dX5_takeOut_25 : decode cX5_takeOut 25 = .ok (.aload_n 0, 1) := by decide +kernel
theorem dX5_takeOut_26 : decode cX5_takeOut 26 = .ok (.getfield 50, 3) := by decide +kernel
theorem dX5_takeOut_29 : decode cX5_takeOut 29 = .ok (.iload_n 2, 1) := by decide +kernel
theorem dX5_takeOut_30 : decode cX5_takeOut 30 = .ok (.iaload, 1) := by decide +kernel
theorem dX5_takeOut_31 : decode cX5_takeOut 31 = .ok (.istore_n 3, 1) := by decide +kernel
theorem dX5_takeOut_32 : decode cX5_takeOut 32 = .ok (.aload_n 0, 1) := by decide +kernel
theorem dX5_takeOut_33 : decode cX5_takeOut 33 = .ok (.dup, 1) := by decide +kernel
theorem dX5_takeOut_34 : decode cX5_takeOut 34 = .ok (.getfield 73, 3) := by decide +kernel
theorem dX5_takeOut_37 : decode cX5_takeOut 37 = .ok (.iconst 1, 1) := by decide +kernel
theorem dX5_takeOut_38 : decode cX5_takeOut 38 = .ok (.isub, 1) := by decide +kernel
theorem dX5_takeOut_39 : decode cX5_takeOut 39 = .ok (.putfield 73, 3) := by decide +kernel
theorem dX5_takeOut_42 : decode cX5_takeOut 42 = .ok (.iload_n 2, 1) := by decide +kernel
theorem dX5_takeOut_43 : decode cX5_takeOut 43 = .ok (.istore 4, 2) := by decide +kernel
theorem dX5_takeOut_45 : decode cX5_takeOut 45 = .ok (.iload 4, 2) := by decide +kernel
theorem dX5_takeOut_47 : decode cX5_takeOut 47 = .ok (.aload_n 0, 1) := by decide +kernel
theorem dX5_takeOut_48 : decode cX5_takeOut 48 = .ok (.getfield 73, 3) := by decide +kernel
theorem dX5_takeOut_51 : decode cX5_takeOut 51 = .ok (.if_icmp .ge 121, 3) := by decide +kernel
theorem dX5_takeOut_54 : decode cX5_takeOut 54 = .ok (.aload_n 0, 1) := by decide +kernel
theorem dX5_takeOut_55 : decode cX5_takeOut 55 = .ok (.getfield 35, 3) := by decide +kernel
theorem dX5_takeOut_58 : decode cX5_takeOut 58 = .ok (.iload 4, 2) := by decide +kernel
theorem dX5_takeOut_60 : decode cX5_takeOut 60 = .ok (.aload_n 0, 1) := by decide +kernel
theorem dX5_takeOut_61 : decode cX5_takeOut 61 = .ok (.getfield 35, 3) := by decide +kernel
theorem dX5_takeOut_64 : decode cX5_takeOut 64 = .ok (.iload 4, 2) := by decide +kernel
theorem dX5_takeOut_66 : decode cX5_takeOut 66 = .ok (.iconst 1, 1) := by decide +kernel
theorem dX5_takeOut_67 : decode cX5_takeOut 67 = .ok (.iadd, 1) := by decide +kernel
theorem dX5_takeOut_68 : decode cX5_takeOut 68 = .ok (.iaload, 1) := by decide +kernel
theorem dX5_takeOut_69 : decode cX5_takeOut 69 = .ok (.iastore, 1) := by decide +kernel
theorem dX5_takeOut_70 : decode cX5_takeOut 70 = .ok (.aload_n 0, 1) := by decide +kernel
theorem dX5_takeOut_71 : decode cX5_takeOut 71 = .ok (.getfield 38, 3) := by decide +kernel
theorem dX5_takeOut_74 : decode cX5_takeOut 74 = .ok (.iload 4, 2) := by decide +kernel
theorem dX5_takeOut_76 : decode cX5_takeOut 76 = .ok (.aload_n 0, 1) := by decide +kernel
theorem dX5_takeOut_77 : decode cX5_takeOut 77 = .ok (.getfield 38, 3) := by decide +kernel
theorem dX5_takeOut_80 : decode cX5_takeOut 80 = .ok (.iload 4, 2) := by decide +kernel
theorem dX5_takeOut_82 : decode cX5_takeOut 82 = .ok (.iconst 1, 1) := by decide +kernel
theorem dX5_takeOut_83 : decode cX5_takeOut 83 = .ok (.iadd, 1) := by decide +kernel
theorem dX5_takeOut_84 : decode cX5_takeOut 84 = .ok (.iaload, 1) := by decide +kernel
theorem dX5_takeOut_85 : decode cX5_takeOut 85 = .ok (.iastore, 1) := by decide +kernel
theorem dX5_takeOut_86 : decode cX5_takeOut 86 = .ok (.aload_n 0, 1) := by decide +kernel
theorem dX5_takeOut_87 : decode cX5_takeOut 87 = .ok (.getfield 41, 3) := by decide +kernel
theorem dX5_takeOut_90 : decode cX5_takeOut 90 = .ok (.iload 4, 2) := by decide +kernel
theorem dX5_takeOut_92 : decode cX5_takeOut 92 = .ok (.aload_n 0, 1) := by decide +kernel
theorem dX5_takeOut_93 : decode cX5_takeOut 93 = .ok (.getfield 41, 3) := by decide +kernel
theorem dX5_takeOut_96 : decode cX5_takeOut 96 = .ok (.iload 4, 2) := by decide +kernel
theorem dX5_takeOut_98 : decode cX5_takeOut 98 = .ok (.iconst 1, 1) := by decide +kernel
theorem dX5_takeOut_99 : decode cX5_takeOut 99 = .ok (.iadd, 1) := by decide +kernel
theorem dX5_takeOut_100 : decode cX5_takeOut 100 = .ok (.iaload, 1) := by decide +kernel
theorem dX5_takeOut_101 : decode cX5_takeOut 101 = .ok (.iastore, 1) := by decide +kernel
theorem dX5_takeOut_102 : decode cX5_takeOut 102 = .ok (.aload_n 0, 1) := by decide +kernel
theorem dX5_takeOut_103 : decode cX5_takeOut 103 = .ok (.getfield 44, 3) := by decide +kernel
theorem dX5_takeOut_106 : decode cX5_takeOut 106 = .ok (.iload 4, 2) := by decide +kernel
theorem dX5_takeOut_108 : decode cX5_takeOut 108 = .ok (.aload_n 0, 1) := by decide +kernel
theorem dX5_takeOut_109 : decode cX5_takeOut 109 = .ok (.getfield 44, 3) := by decide +kernel
theorem dX5_takeOut_112 : decode cX5_takeOut 112 = .ok (.iload 4, 2) := by decide +kernel
theorem dX5_takeOut_114 : decode cX5_takeOut 114 = .ok (.iconst 1, 1) := by decide +kernel
theorem dX5_takeOut_115 : decode cX5_takeOut 115 = .ok (.iadd, 1) := by decide +kernel
theorem dX5_takeOut_116 : decode cX5_takeOut 116 = .ok (.iaload, 1) := by decide +kernel
theorem dX5_takeOut_117 : decode cX5_takeOut 117 = .ok (.iastore, 1) := by decide +kernel
theorem dX5_takeOut_118 : decode cX5_takeOut 118 = .ok (.aload_n 0, 1) := by decide +kernel
theorem dX5_takeOut_119 : decode cX5_takeOut 119 = .ok (.getfield 47, 3) := by decide +kernel
theorem dX5_takeOut_122 : decode cX5_takeOut 122 = .ok (.iload 4, 2) := by decide +kernel
theorem dX5_takeOut_124 : decode cX5_takeOut 124 = .ok (.aload_n 0, 1) := by decide +kernel
theorem dX5_takeOut_125 : decode cX5_takeOut 125 = .ok (.getfield 47, 3) := by decide +kernel
theorem dX5_takeOut_128 : decode cX5_takeOut 128 = .ok (.iload 4, 2) := by decide +kernel
theorem dX5_takeOut_130 : decode cX5_takeOut 130 = .ok (.iconst 1, 1) := by decide +kernel
theorem dX5_takeOut_131 : decode cX5_takeOut 131 = .ok (.iadd, 1) := by decide +kernel
theorem dX5_takeOut_132 : decode cX5_takeOut 132 = .ok (.iaload, 1) := by decide +kernel
theorem dX5_takeOut_133 : decode cX5_takeOut 133 = .ok (.iastore, 1) := by decide +kernel
theorem dX5_takeOut_134 : decode cX5_takeOut 134 = .ok (.aload_n 0, 1) := by decide +kernel
theorem dX5_takeOut_135 : decode cX5_takeOut 135 = .ok (.getfield 50, 3) := by decide +kernel
theorem dX5_takeOut_138 : decode cX5_takeOut 138 = .ok (.iload 4, 2) := by decide +kernel
theorem dX5_takeOut_140 : decode cX5_takeOut 140 = .ok (.aload_n 0, 1) := by decide +kernel
theorem dX5_takeOut_141 : decode cX5_takeOut 141 = .ok (.getfield 50, 3) := by decide +kernel
theorem dX5_takeOut_144 : decode cX5_takeOut 144 = .ok (.iload 4, 2) := by decide +kernel
theorem dX5_takeOut_146 : decode cX5_takeOut 146 = .ok (.iconst 1, 1) := by decide +kernel
theorem dX5_takeOut_147 : decode cX5_takeOut 147 = .ok (.iadd, 1) := by decide +kernel
theorem dX5_takeOut_148 : decode cX5_takeOut 148 = .ok (.iaload, 1) := by decide +kernel
theorem dX5_takeOut_149 : decode cX5_takeOut 149 = .ok (.iastore, 1) := by decide +kernel
theorem dX5_takeOut_150 : decode cX5_takeOut 150 = .ok (.aload_n 0, 1) := by decide +kernel
theorem dX5_takeOut_151 : decode cX5_takeOut 151 = .ok (.getfield 53, 3) := by decide +kernel
theorem dX5_takeOut_154 : decode cX5_takeOut 154 = .ok (.iload 4, 2) := by decide +kernel
theorem dX5_takeOut_156 : decode cX5_takeOut 156 = .ok (.aload_n 0, 1) := by decide +kernel
theorem dX5_takeOut_157 : decode cX5_takeOut 157 = .ok (.getfield 53, 3) := by decide +kernel
theorem dX5_takeOut_160 : decode cX5_takeOut 160 = .ok (.iload 4, 2) := by decide +kernel
theorem dX5_takeOut_162 : decode cX5_takeOut 162 = .ok (.iconst 1, 1) := by decide +kernel
theorem dX5_takeOut_163 : decode cX5_takeOut 163 = .ok (.iadd, 1) := by decide +kernel
theorem dX5_takeOut_164 : decode cX5_takeOut 164 = .ok (.iaload, 1) := by decide +kernel
theorem dX5_takeOut_165 : decode cX5_takeOut 165 = .ok (.iastore, 1) := by decide +kernel
theorem dX5_takeOut_166 : decode cX5_takeOut 166 = .ok (.iinc 4 1, 3) := by decide +kernel
theorem dX5_takeOut_169 : decode cX5_takeOut 169 = .ok (.goto (-124), 3) := by decide +kernel
theorem dX5_takeOut_172 : decode cX5_takeOut 172 = .ok (.iload_n 3, 1) := by decide +kernel
theorem dX5_takeOut_173 : decode cX5_takeOut 173 = .ok (.ireturn, 1) := by decide +kernel
theorem dX5_cord_0 : decode cX5_cord 0 = .ok (.aload_n 0, 1) := by decide +kernel
theorem dX5_cord_1 : decode cX5_cord 1 = .ok (.iload_n 1, 1) := by decide +kernel
theorem dX5_cord_2 : decode cX5_cord 2 = .ok (.invokevirtual 124, 3) := by decide +kernel
theorem dX5_cord_5 : decode cX5_cord 5 = .ok (.istore_n 3, 1) := by decide +kernel
theorem dX5_cord_6 : decode cX5_cord 6 = .ok (.aload_n 0, 1) := by decide +kernel
theorem dX5_cord_7 : decode cX5_cord 7 = .ok (.iload_n 3, 1) := by decide +kernel
theorem dX5_cord_8 : decode cX5_cord 8 = .ok (.iconst (-1), 1) := by decide +kernel
theorem dX5_cord_9 : decode cX5_cord 9 = .ok (.if_icmp .ne 7, 3) := by decide +kernel
theorem dX5_cord_12 : decode cX5_cord 12 = .ok (.iconst 1, 1) := by decide +kernel
theorem dX5_cord_13 : decode cX5_cord 13 = .ok (.goto 17, 3) := by decide +kernel
theorem dX5_cord_16 : decode cX5_cord 16 = .ok (.iload_n 2, 1) := by decide +kernel
theorem dX5_cord_17 : decode cX5_cord 17 = .ok (.iconst 0, 1) := by decide +kernel
theorem dX5_cord_18 : decode cX5_cord 18 = .ok (.iconst 2, 1) := by decide +kernel
theorem dX5_cord_19 : decode cX5_cord 19 = .ok (.invokestatic 69, 3) := by decide +kernel
theorem dX5_cord_22 : decode cX5_cord 22 = .ok (.ifCond .ne 7, 3) := by decide +kernel
theorem dX5_cord_25 : decode cX5_cord 25 = .ok (.iconst 2, 1) := by decide +kernel
theorem dX5_cord_26 : decode cX5_cord 26 = .ok (.goto 4, 3) := by decide +kernel
theorem dX5_cord_29 : decode cX5_cord 29 = .ok (.iconst 0, 1) := by decide +kernel
theorem dX5_cord_30 : decode cX5_cord 30 = .ok (.invokevirtual 84, 3) := by decide +kernel
theorem dX5_cord_33 : decode cX5_cord 33 = .ok (.ifCond .ne 5, 3) := by decide +kernel
theorem dX5_cord_36 : decode cX5_cord 36 = .ok (.iconst 0, 1) := by decide +kernel
theorem dX5_cord_37 : decode cX5_cord 37 = .ok (.ireturn, 1) := by decide +kernel
theorem dX5_cord_38 : decode cX5_cord 38 = .ok (.aload_n 0, 1) := by decide +kernel
theorem dX5_cord_39 : decode cX5_cord 39 = .ok (.getfield 47, 3) := by decide +kernel
theorem dX5_cord_42 : decode cX5_cord 42 = .ok (.iload_n 3, 1) := by decide +kernel
theorem dX5_cord_43 : decode cX5_cord 43 = .ok (.iaload, 1) := by decide +kernel
theorem dX5_cord_44 : decode cX5_cord 44 = .ok (.istore 4, 2) := by decide +kernel
theorem dX5_cord_46 : decode cX5_cord 46 = .ok (.aload_n 0, 1) := by decide +kernel
theorem dX5_cord_47 : decode cX5_cord 47 = .ok (.getfield 47, 3) := by decide +kernel
theorem dX5_cord_50 : decode cX5_cord 50 = .ok (.iload_n 3, 1) := by decide +kernel
theorem dX5_cord_51 : decode cX5_cord 51 = .ok (.iload_n 2, 1) := by decide +kernel
theorem dX5_cord_52 : decode cX5_cord 52 = .ok (.iastore, 1) := by decide +kernel
theorem dX5_cord_53 : decode cX5_cord 53 = .ok (.iconst 0, 1) := by decide +kernel
theorem dX5_cord_54 : decode cX5_cord 54 = .ok (.istore 5, 2) := by decide +kernel
theorem dX5_cord_56 : decode cX5_cord 56 = .ok (.iconst 0, 1) := by decide +kernel
theorem dX5_cord_57 : decode cX5_cord 57 = .ok (.istore 6, 2) := by decide +kernel
theorem dX5_cord_59 : decode cX5_cord 59 = .ok (.iload 6, 2) := by decide +kernel
theorem dX5_cord_61 : decode cX5_cord 61 = .ok (.iconst 2, 1) := by decide +kernel
theorem dX5_cord_62 : decode cX5_cord 62 = .ok (.if_icmp .ge 64, 3) := by decide +kernel
theorem dX5_cord_65 : decode cX5_cord 65 = .ok (.iload 5, 2) := by decide +kernel
theorem dX5_cord_67 : decode cX5_cord 67 = .ok (.ifCond .ne 46, 3) := by decide +kernel
theorem dX5_cord_70 : decode cX5_cord 70 = .ok (.aload_n 0, 1) := by decide +kernel
theorem dX5_cord_71 : decode cX5_cord 71 = .ok (.aload_n 0, 1) := by decide +kernel
theorem dX5_cord_72 : decode cX5_cord 72 = .ok (.getfield 50, 3) := by decide +kernel
theorem dX5_cord_75 : decode cX5_cord 75 = .ok (.iload_n 3, 1) := by decide +kernel
theorem dX5_cord_76 : decode cX5_cord 76 = .ok (.iaload, 1) := by decide +kernel
theorem dX5_cord_77 : decode cX5_cord 77 = .ok (.iload 6, 2) := by decide +kernel
theorem dX5_cord_79 : decode cX5_cord 79 = .ok (.invokevirtual 94, 3) := by decide +kernel
theorem dX5_cord_82 : decode cX5_cord 82 = .ok (.aload_n 0, 1) := by decide +kernel
theorem dX5_cord_83 : decode cX5_cord 83 = .ok (.getfield 19, 3) := by decide +kernel
theorem dX5_cord_86 : decode cX5_cord 86 = .ok (.aload_n 0, 1) := by decide +kernel
theorem dX5_cord_87 : decode cX5_cord 87 = .ok (.getfield 50, 3) := by decide +kernel
theorem dX5_cord_90 : decode cX5_cord 90 = .ok (.iload_n 3, 1) := by decide +kernel
theorem dX5_cord_91 : decode cX5_cord 91 = .ok (.iaload, 1) := by decide +kernel
theorem dX5_cord_92 : decode cX5_cord 92 = .ok (.iaload, 1) := by decide +kernel
theorem dX5_cord_93 : decode cX5_cord 93 = .ok (.if_icmp .gt 20, 3) := by decide +kernel
theorem dX5_cord_96 : decode cX5_cord 96 = .ok (.aload_n 0, 1) := by decide +kernel
theorem dX5_cord_97 : decode cX5_cord 97 = .ok (.iconst (-1), 1) := by decide +kernel
theorem dX5_cord_98 : decode cX5_cord 98 = .ok (.iload 6, 2) := by decide +kernel
theorem dX5_cord_100 : decode cX5_cord 100 = .ok (.invokevirtual 94, 3) := by decide +kernel
theorem dX5_cord_103 : decode cX5_cord 103 = .ok (.aload_n 0, 1) := by decide +kernel
theorem dX5_cord_104 : decode cX5_cord 104 = .ok (.getfield 28, 3) := by decide +kernel
theorem dX5_cord_107 : decode cX5_cord 107 = .ok (.iload 6, 2) := by decide +kernel
theorem dX5_cord_109 : decode cX5_cord 109 = .ok (.iaload, 1) := by decide +kernel
theorem dX5_cord_110 : decode cX5_cord 110 = .ok (.if_icmp .le 7, 3) := by decide +kernel
theorem dX5_cord_113 : decode cX5_cord 113 = .ok (.iconst 1, 1) := by decide +kernel
theorem dX5_cord_114 : decode cX5_cord 114 = .ok (.goto 4, 3) := by decide +kernel
theorem dX5_cord_117 : decode cX5_cord 117 = .ok (.iconst 0, 1) := by decide +kernel
theorem dX5_cord_118 : decode cX5_cord 118 = .ok (.istore 5, 2) := by decide +kernel
theorem dX5_cord_120 : decode cX5_cord 120 = .ok (.iinc 6 1, 3) := by decide +kernel
theorem dX5_cord_123 : decode cX5_cord 123 = .ok (.goto (-64), 3) := by decide +kernel
theorem dX5_cord_126 : decode cX5_cord 126 = .ok (.aload_n 0, 1) := by decide +kernel
theorem dX5_cord_127 : decode cX5_cord 127 = .ok (.iload 5, 2) := by decide +kernel
theorem dX5_cord_129 : decode cX5_cord 129 = .ok (.ifCond .eq 7, 3) := by decide +kernel
theorem dX5_cord_132 : decode cX5_cord 132 = .ok (.iconst 3, 1) := by decide +kernel
theorem dX5_cord_133 : decode cX5_cord 133 = .ok (.goto 4, 3) := by decide +kernel
theorem dX5_cord_136 : decode cX5_cord 136 = .ok (.iconst 0, 1) := by decide +kernel
theorem dX5_cord_137 : decode cX5_cord 137 = .ok (.invokevirtual 84, 3) := by decide +kernel
theorem dX5_cord_140 : decode cX5_cord 140 = .ok (.ifCond .ne 13, 3) := by decide +kernel
theorem dX5_cord_143 : decode cX5_cord 143 = .ok (.aload_n 0, 1) := by decide +kernel
theorem dX5_cord_144 : decode cX5_cord 144 = .ok (.getfield 47, 3) := by decide +kernel
theorem dX5_cord_147 : decode cX5_cord 147 = .ok (.iload_n 3, 1) := by decide +kernel
theorem dX5_cord_148 : decode cX5_cord 148 = .ok (.iload 4, 2) := by decide +kernel
theorem dX5_cord_150 : decode cX5_cord 150 = .ok (.iastore, 1) := by decide +kernel
theorem dX5_cord_151 : decode cX5_cord 151 = .ok (.iconst 0, 1) := by decide +kernel
theorem dX5_cord_152 : decode cX5_cord 152 = .ok (.ireturn, 1) := by decide +kernel
theorem dX5_cord_153 : decode cX5_cord 153 = .ok (.iload 4, 2) := by decide +kernel
theorem dX5_cord_155 : decode cX5_cord 155 = .ok (.ireturn, 1) := by decide +kernel
theorem dX5_isAhead_0 : decode cX5_isAhead 0 = .ok (.aload_n 0, 1) := by decide +kernel
theorem dX5_isAhead_1 : decode cX5_isAhead 1 = .ok (.getfield 38, 3) := by decide +kernel
theorem dX5_isAhead_4 : decode cX5_isAhead 4 = .ok (.iload_n 1, 1) := by decide +kernel
theorem dX5_isAhead_5 : decode cX5_isAhead 5 = .ok (.iaload, 1) := by decide +kernel
theorem dX5_isAhead_6 : decode cX5_isAhead 6 = .ok (.aload_n 0, 1) := by decide +kernel
theorem dX5_isAhead_7 : decode cX5_isAhead 7 = .ok (.getfield 38, 3) := by decide +kernel
theorem dX5_isAhead_10 : decode cX5_isAhead 10 = .ok (.iload_n 2, 1) := by decide +kernel
theorem dX5_isAhead_11 : decode cX5_isAhead 11 = .ok (.iaload, 1) := by decide +kernel
theorem dX5_isAhead_12 : decode cX5_isAhead 12 = .ok (.if_icmp .gt 63, 3) := by decide +kernel
theorem dX5_isAhead_15 : decode cX5_isAhead 15 = .ok (.aload_n 0, 1) := by decide +kernel
theorem dX5_isAhead_16 : decode cX5_isAhead 16 = .ok (.getfield 38, 3) := by decide +kernel
theorem dX5_isAhead_19 : decode cX5_isAhead 19 = .ok (.iload_n 1, 1) := by decide +kernel
theorem dX5_isAhead_20 : decode cX5_isAhead 20 = .ok (.iaload, 1) := by decide +kernel
theorem dX5_isAhead_21 : decode cX5_isAhead 21 = .ok (.aload_n 0, 1) := by decide +kernel
theorem dX5_isAhead_22 : decode cX5_isAhead 22 = .ok (.getfield 38, 3) := by decide +kernel
theorem dX5_isAhead_25 : decode cX5_isAhead 25 = .ok (.iload_n 2, 1) := by decide +kernel
theorem dX5_isAhead_26 : decode cX5_isAhead 26 = .ok (.iaload, 1) := by decide +kernel
theorem dX5_isAhead_27 : decode cX5_isAhead 27 = .ok (.if_icmp .ne 52, 3) := by decide +kernel
theorem dX5_isAhead_30 : decode cX5_isAhead 30 = .ok (.aload_n 0, 1) := by decide +kernel
theorem dX5_isAhead_31 : decode cX5_isAhead 31 = .ok (.getfield 41, 3) := by decide +kernel
theorem dX5_isAhead_34 : decode cX5_isAhead 34 = .ok (.iload_n 1, 1) := by decide +kernel
theorem dX5_isAhead_35 : decode cX5_isAhead 35 = .ok (.iaload, 1) := by decide +kernel
theorem dX5_isAhead_36 : decode cX5_isAhead 36 = .ok (.aload_n 0, 1) := by decide +kernel
theorem dX5_isAhead_37 : decode cX5_isAhead 37 = .ok (.getfield 41, 3) := by decide +kernel
theorem dX5_isAhead_40 : decode cX5_isAhead 40 = .ok (.iload_n 2, 1) := by decide +kernel
theorem dX5_isAhead_41 : decode cX5_isAhead 41 = .ok (.iaload, 1) := by decide +kernel
theorem dX5_isAhead_42 : decode cX5_isAhead 42 = .ok (.if_icmp .gt 33, 3) := by decide +kernel
theorem dX5_isAhead_45 : decode cX5_isAhead 45 = .ok (.aload_n 0, 1) := by decide +kernel
theorem dX5_isAhead_46 : decode cX5_isAhead 46 = .ok (.getfield 41, 3) := by decide +kernel
theorem dX5_isAhead_49 : decode cX5_isAhead 49 = .ok (.iload_n 1, 1) := by decide +kernel
theorem dX5_isAhead_50 : decode cX5_isAhead 50 = .ok (.iaload, 1) := by decide +kernel
theorem dX5_isAhead_51 : decode cX5_isAhead 51 = .ok (.aload_n 0, 1) := by decide +kernel
theorem dX5_isAhead_52 : decode cX5_isAhead 52 = .ok (.getfield 41, 3) := by decide +kernel
theorem dX5_isAhead_55 : decode cX5_isAhead 55 = .ok (.iload_n 2, 1) := by decide +kernel
theorem dX5_isAhead_56 : decode cX5_isAhead 56 = .ok (.iaload, 1) := by decide +kernel
theorem dX5_isAhead_57 : decode cX5_isAhead 57 = .ok (.if_icmp .ne 22, 3) := by decide +kernel
theorem dX5_isAhead_60 : decode cX5_isAhead 60 = .ok (.aload_n 0, 1) := by decide +kernel
theorem dX5_isAhead_61 : decode cX5_isAhead 61 = .ok (.getfield 35, 3) := by decide +kernel
theorem dX5_isAhead_64 : decode cX5_isAhead 64 = .ok (.iload_n 1, 1) := by decide +kernel
theorem dX5_isAhead_65 : decode cX5_isAhead 65 = .ok (.iaload, 1) := by decide +kernel
theorem dX5_isAhead_66 : decode cX5_isAhead 66 = .ok (.aload_n 0, 1) := by decide +kernel
theorem dX5_isAhead_67 : decode cX5_isAhead 67 = .ok (.getfield 35, 3) := by decide +kernel
theorem dX5_isAhead_70 : decode cX5_isAhead 70 = .ok (.iload_n 2, 1) := by decide +kernel
theorem dX5_isAhead_71 : decode cX5_isAhead 71 = .ok (.iaload, 1) := by decide +kernel
theorem dX5_isAhead_72 : decode cX5_isAhead 72 = .ok (.if_icmp .ge 7, 3) := by decide +kernel
theorem dX5_isAhead_75 : decode cX5_isAhead 75 = .ok (.iconst 1, 1) := by decide +kernel
theorem dX5_isAhead_76 : decode cX5_isAhead 76 = .ok (.goto 4, 3) := by decide +kernel
theorem dX5_isAhead_79 : decode cX5_isAhead 79 = .ok (.iconst 0, 1) := by decide +kernel
theorem dX5_isAhead_80 : decode cX5_isAhead 80 = .ok (.ireturn, 1) := by decide +kernel
theorem dX5_nextToPack_0 : decode cX5_nextToPack 0 = .ok (.iconst (-1), 1) := by decide +kernel
theorem dX5_nextToPack_1 : decode cX5_nextToPack 1 = .ok (.istore_n 1, 1) := by decide +kernel
theorem dX5_nextToPack_2 : decode cX5_nextToPack 2 = .ok (.iconst 0, 1) := by decide +kernel
theorem dX5_nextToPack_3 : decode cX5_nextToPack 3 = .ok (.istore_n 2, 1) := by decide +kernel
theorem dX5_nextToPack_4 : decode cX5_nextToPack 4 = .ok (.iload_n 2, 1) := by decide +kernel
theorem dX5_nextToPack_5 : decode cX5_nextToPack 5 = .ok (.aload_n 0, 1) := by decide +kernel
theorem dX5_nextToPack_6 : decode cX5_nextToPack 6 = .ok (.getfield 73, 3) := by decide +kernel
theorem dX5_nextToPack_9 : decode cX5_nextToPack 9 = .ok (.if_icmp .ge 39, 3) := by decide +kernel
theorem dX5_nextToPack_12 : decode cX5_nextToPack 12 = .ok (.aload_n 0, 1) := by decide +kernel
theorem dX5_nextToPack_13 : decode cX5_nextToPack 13 = .ok (.getfield 50, 3) := by decide +kernel
theorem dX5_nextToPack_16 : decode cX5_nextToPack 16 = .ok (.iload_n 2, 1) := by decide +kernel
theorem dX5_nextToPack_17 : decode cX5_nextToPack 17 = .ok (.iaload, 1) := by decide +kernel
theorem dX5_nextToPack_18 : decode cX5_nextToPack 18 = .ok (.iconst (-1), 1) := by decide +kernel
theorem dX5_nextToPack_19 : decode cX5_nextToPack 19 = .ok (.if_icmp .ne 21, 3) := by decide +kernel
theorem dX5_nextToPack_22 : decode cX5_nextToPack 22 = .ok (.iload_n 1, 1) := by decide +kernel
theorem dX5_nextToPack_23 : decode cX5_nextToPack 23 = .ok (.iconst (-1), 1) := by decide +kernel
theorem dX5_nextToPack_24 : decode cX5_nextToPack 24 = .ok (.if_icmp .eq 12, 3) := by decide +kernel
theorem dX5_nextToPack_27 : decode cX5_nextToPack 27 = .ok (.aload_n 0, 1) := by decide +kernel
theorem dX5_nextToPack_28 : decode cX5_nextToPack 28 = .ok (.iload_n 2, 1) := by decide +kernel
theorem dX5_nextToPack_29 : decode cX5_nextToPack 29 = .ok (.iload_n 1, 1) := by decide +kernel
theorem dX5_nextToPack_30 : decode cX5_nextToPack 30 = .ok (.invokevirtual 127, 3) := by decide +kernel
theorem dX5_nextToPack_33 : decode cX5_nextToPack 33 = .ok (.ifCond .eq 7, 3) := by decide +kernel
theorem dX5_nextToPack_36 : decode cX5_nextToPack 36 = .ok (.iload_n 2, 1) := by decide +kernel
theorem dX5_nextToPack_37 : decode cX5_nextToPack 37 = .ok (.goto 4, 3) := by decide +kernel
theorem dX5_nextToPack_40 : decode cX5_nextToPack 40 = .ok (.iload_n 1, 1) := by decide +kernel
theorem dX5_nextToPack_41 : decode cX5_nextToPack 41 = .ok (.istore_n 1, 1) := by decide +kernel
theorem dX5_nextToPack_42 : decode cX5_nextToPack 42 = .ok (.iinc 2 1, 3) := by decide +kernel
theorem dX5_nextToPack_45 : decode cX5_nextToPack 45 = .ok (.goto (-41), 3) := by decide +kernel
theorem dX5_nextToPack_48 : decode cX5_nextToPack 48 = .ok (.iload_n 1, 1) := by decide +kernel
theorem dX5_nextToPack_49 : decode cX5_nextToPack 49 = .ok (.ireturn, 1) := by decide +kernel
theorem dX5_pack_0 : decode cX5_pack 0 = .ok (.aload_n 0, 1) := by decide +kernel
theorem dX5_pack_1 : decode cX5_pack 1 = .ok (.iconst 0, 1) := by decide +kernel
theorem dX5_pack_2 : decode cX5_pack 2 = .ok (.putfield 62, 3) := by decide +kernel
theorem dX5_pack_5 : decode cX5_pack 5 = .ok (.iconst 0, 1) := by decide +kernel
theorem dX5_pack_6 : decode cX5_pack 6 = .ok (.istore_n 1, 1) := by decide +kernel
theorem dX5_pack_7 : decode cX5_pack 7 = .ok (.iload_n 1, 1) := by decide +kernel
theorem dX5_pack_8 : decode cX5_pack 8 = .ok (.aload_n 0, 1) := by decide +kernel
theorem dX5_pack_9 : decode cX5_pack 9 = .ok (.getfield 73, 3) := by decide +kernel
theorem dX5_pack_12 : decode cX5_pack 12 = .ok (.if_icmp .ge 40, 3) := by decide +kernel
theorem dX5_pack_15 : decode cX5_pack 15 = .ok (.aload_n 0, 1) := by decide +kernel
theorem dX5_pack_16 : decode cX5_pack 16 = .ok (.getfield 56, 3) := by decide +kernel
theorem dX5_pack_19 : decode cX5_pack 19 = .ok (.iload_n 1, 1) := by decide +kernel
theorem dX5_pack_20 : decode cX5_pack 20 = .ok (.aload_n 0, 1) := by decide +kernel
theorem dX5_pack_21 : decode cX5_pack 21 = .ok (.getfield 50, 3) := by decide +kernel
theorem dX5_pack_24 : decode cX5_pack 24 = .ok (.iload_n 1, 1) := by decide +kernel
theorem dX5_pack_25 : decode cX5_pack 25 = .ok (.iaload, 1) := by decide +kernel
theorem dX5_pack_26 : decode cX5_pack 26 = .ok (.iastore, 1) := by decide +kernel
theorem dX5_pack_27 : decode cX5_pack 27 = .ok (.aload_n 0, 1) := by decide +kernel
theorem dX5_pack_28 : decode cX5_pack 28 = .ok (.getfield 59, 3) := by decide +kernel
theorem dX5_pack_31 : decode cX5_pack 31 = .ok (.iload_n 1, 1) := by decide +kernel
theorem dX5_pack_32 : decode cX5_pack 32 = .ok (.aload_n 0, 1) := by decide +kernel
theorem dX5_pack_33 : decode cX5_pack 33 = .ok (.getfield 53, 3) := by decide +kernel
theorem dX5_pack_36 : decode cX5_pack 36 = .ok (.iload_n 1, 1) := by decide +kernel
theorem dX5_pack_37 : decode cX5_pack 37 = .ok (.iaload, 1) := by decide +kernel
theorem dX5_pack_38 : decode cX5_pack 38 = .ok (.iastore, 1) := by decide +kernel
theorem dX5_pack_39 : decode cX5_pack 39 = .ok (.aload_n 0, 1) := by decide +kernel
theorem dX5_pack_40 : decode cX5_pack 40 = .ok (.getfield 50, 3) := by decide +kernel
theorem dX5_pack_43 : decode cX5_pack 43 = .ok (.iload_n 1, 1) := by decide +kernel
theorem dX5_pack_44 : decode cX5_pack 44 = .ok (.iconst (-1), 1) := by decide +kernel
theorem dX5_pack_45 : decode cX5_pack 45 = .ok (.iastore, 1) := by decide +kernel
theorem dX5_pack_46 : decode cX5_pack 46 = .ok (.iinc 1 1, 3) := by decide +kernel
theorem dX5_pack_49 : decode cX5_pack 49 = .ok (.goto (-42), 3) := by decide +kernel
theorem dX5_pack_52 : decode cX5_pack 52 = .ok (.aload_n 0, 1) := by decide +kernel
theorem dX5_pack_53 : decode cX5_pack 53 = .ok (.invokevirtual 130, 3) := by decide +kernel
theorem dX5_pack_56 : decode cX5_pack 56 = .ok (.istore_n 1, 1) := by decide +kernel
theorem dX5_pack_57 : decode cX5_pack 57 = .ok (.iload_n 1, 1) := by decide +kernel
theorem dX5_pack_58 : decode cX5_pack 58 = .ok (.iconst (-1), 1) := by decide +kernel
theorem dX5_pack_59 : decode cX5_pack 59 = .ok (.if_icmp .eq 20, 3) := by decide +kernel
theorem dX5_pack_62 : decode cX5_pack 62 = .ok (.aload_n 0, 1) := by decide +kernel
theorem dX5_pack_63 : decode cX5_pack 63 = .ok (.iload_n 1, 1) := by decide +kernel
theorem dX5_pack_64 : decode cX5_pack 64 = .ok (.invokevirtual 121, 3) := by decide +kernel
theorem dX5_pack_67 : decode cX5_pack 67 = .ok (.iconst (-1), 1) := by decide +kernel
theorem dX5_pack_68 : decode cX5_pack 68 = .ok (.if_icmp .eq 11, 3) := by decide +kernel
theorem dX5_pack_71 : decode cX5_pack 71 = .ok (.aload_n 0, 1) := by decide +kernel
theorem dX5_pack_72 : decode cX5_pack 72 = .ok (.invokevirtual 130, 3) := by decide +kernel
theorem dX5_pack_75 : decode cX5_pack 75 = .ok (.istore_n 1, 1) := by decide +kernel
theorem dX5_pack_76 : decode cX5_pack 76 = .ok (.goto (-19), 3) := by decide +kernel
theorem dX5_pack_79 : decode cX5_pack 79 = .ok (.iconst 0, 1) := by decide +kernel
theorem dX5_pack_80 : decode cX5_pack 80 = .ok (.istore_n 2, 1) := by decide +kernel
theorem dX5_pack_81 : decode cX5_pack 81 = .ok (.iconst 0, 1) := by decide +kernel
theorem dX5_pack_82 : decode cX5_pack 82 = .ok (.istore_n 3, 1) := by decide +kernel
theorem dX5_pack_83 : decode cX5_pack 83 = .ok (.iload_n 3, 1) := by decide +kernel
theorem dX5_pack_84 : decode cX5_pack 84 = .ok (.aload_n 0, 1) := by decide +kernel
theorem dX5_pack_85 : decode cX5_pack 85 = .ok (.getfield 73, 3) := by decide +kernel
theorem dX5_pack_88 : decode cX5_pack 88 = .ok (.if_icmp .ge 99, 3) := by decide +kernel
theorem dX5_pack_91 : decode cX5_pack 91 = .ok (.iload_n 2, 1) := by decide +kernel
theorem dX5_pack_92 : decode cX5_pack 92 = .ok (.aload_n 0, 1) := by decide +kernel
theorem dX5_pack_93 : decode cX5_pack 93 = .ok (.getfield 50, 3) := by decide +kernel
theorem dX5_pack_96 : decode cX5_pack 96 = .ok (.iload_n 3, 1) := by decide +kernel
theorem dX5_pack_97 : decode cX5_pack 97 = .ok (.iaload, 1) := by decide +kernel
theorem dX5_pack_98 : decode cX5_pack 98 = .ok (.aload_n 0, 1) := by decide +kernel
theorem dX5_pack_99 : decode cX5_pack 99 = .ok (.getfield 56, 3) := by decide +kernel
theorem dX5_pack_102 : decode cX5_pack 102 = .ok (.iload_n 3, 1) := by decide +kernel
theorem dX5_pack_103 : decode cX5_pack 103 = .ok (.iaload, 1) := by decide +kernel
theorem dX5_pack_104 : decode cX5_pack 104 = .ok (.if_icmp .ne 18, 3) := by decide +kernel
theorem dX5_pack_107 : decode cX5_pack 107 = .ok (.aload_n 0, 1) := by decide +kernel
theorem dX5_pack_108 : decode cX5_pack 108 = .ok (.getfield 53, 3) := by decide +kernel
theorem dX5_pack_111 : decode cX5_pack 111 = .ok (.iload_n 3, 1) := by decide +kernel
theorem dX5_pack_112 : decode cX5_pack 112 = .ok (.iaload, 1) := by decide +kernel
theorem dX5_pack_113 : decode cX5_pack 113 = .ok (.aload_n 0, 1) := by decide +kernel
theorem dX5_pack_114 : decode cX5_pack 114 = .ok (.getfield 59, 3) := by decide +kernel
theorem dX5_pack_117 : decode cX5_pack 117 = .ok (.iload_n 3, 1) := by decide +kernel
theorem dX5_pack_118 : decode cX5_pack 118 = .ok (.iaload, 1) := by decide +kernel
theorem dX5_pack_119 : decode cX5_pack 119 = .ok (.if_icmp .eq 7, 3) := by decide +kernel
theorem dX5_pack_122 : decode cX5_pack 122 = .ok (.iconst 1, 1) := by decide +kernel
theorem dX5_pack_123 : decode cX5_pack 123 = .ok (.goto 4, 3) := by decide +kernel
theorem dX5_pack_126 : decode cX5_pack 126 = .ok (.iconst 0, 1) := by decide +kernel
theorem dX5_pack_127 : decode cX5_pack 127 = .ok (.iadd, 1) := by decide +kernel
theorem dX5_pack_128 : decode cX5_pack 128 = .ok (.istore_n 2, 1) := by decide +kernel
theorem dX5_pack_129 : decode cX5_pack 129 = .ok (.aload_n 0, 1) := by decide +kernel
theorem dX5_pack_130 : decode cX5_pack 130 = .ok (.getfield 50, 3) := by decide +kernel
theorem dX5_pack_133 : decode cX5_pack 133 = .ok (.iload_n 3, 1) := by decide +kernel
theorem dX5_pack_134 : decode cX5_pack 134 = .ok (.iload_n 1, 1) := by decide +kernel
theorem dX5_pack_135 : decode cX5_pack 135 = .ok (.iconst (-1), 1) := by decide +kernel
theorem dX5_pack_136 : decode cX5_pack 136 = .ok (.if_icmp .ne 12, 3) := by decide +kernel
theorem dX5_pack_139 : decode cX5_pack 139 = .ok (.aload_n 0, 1) := by decide +kernel
theorem dX5_pack_140 : decode cX5_pack 140 = .ok (.getfield 50, 3) := by decide +kernel
theorem dX5_pack_143 : decode cX5_pack 143 = .ok (.iload_n 3, 1) := by decide +kernel
theorem dX5_pack_144 : decode cX5_pack 144 = .ok (.iaload, 1) := by decide +kernel
theorem dX5_pack_145 : decode cX5_pack 145 = .ok (.goto 9, 3) := by decide +kernel
theorem dX5_pack_148 : decode cX5_pack 148 = .ok (.aload_n 0, 1) := by decide +kernel
theorem dX5_pack_149 : decode cX5_pack 149 = .ok (.getfield 56, 3) := by decide +kernel
theorem dX5_pack_152 : decode cX5_pack 152 = .ok (.iload_n 3, 1) := by decide +kernel
theorem dX5_pack_153 : decode cX5_pack 153 = .ok (.iaload, 1) := by decide +kernel
theorem dX5_pack_154 : decode cX5_pack 154 = .ok (.iastore, 1) := by decide +kernel
theorem dX5_pack_155 : decode cX5_pack 155 = .ok (.aload_n 0, 1) := by decide +kernel
theorem dX5_pack_156 : decode cX5_pack 156 = .ok (.getfield 53, 3) := by decide +kernel
theorem dX5_pack_159 : decode cX5_pack 159 = .ok (.iload_n 3, 1) := by decide +kernel
theorem dX5_pack_160 : decode cX5_pack 160 = .ok (.iload_n 1, 1) := by decide +kernel
theorem dX5_pack_161 : decode cX5_pack 161 = .ok (.iconst (-1), 1) := by decide +kernel
theorem dX5_pack_162 : decode cX5_pack 162 = .ok (.if_icmp .ne 12, 3) := by decide +kernel
theorem dX5_pack_165 : decode cX5_pack 165 = .ok (.aload_n 0, 1) := by decide +kernel
theorem dX5_pack_166 : decode cX5_pack 166 = .ok (.getfield 53, 3) := by decide +kernel
theorem dX5_pack_169 : decode cX5_pack 169 = .ok (.iload_n 3, 1) := by decide +kernel
theorem dX5_pack_170 : decode cX5_pack 170 = .ok (.iaload, 1) := by decide +kernel
theorem dX5_pack_171 : decode cX5_pack 171 = .ok (.goto 9, 3) := by decide +kernel
theorem dX5_pack_174 : decode cX5_pack 174 = .ok (.aload_n 0, 1) := by decide +kernel
theorem dX5_pack_175 : decode cX5_pack 175 = .ok (.getfield 59, 3) := by decide +kernel
theorem dX5_pack_178 : decode cX5_pack 178 = .ok (.iload_n 3, 1) := by decide +kernel
theorem dX5_pack_179 : decode cX5_pack 179 = .ok (.iaload, 1) := by decide +kernel
theorem dX5_pack_180 : decode cX5_pack 180 = .ok (.iastore, 1) := by decide +kernel
theorem dX5_pack_181 : decode cX5_pack 181 = .ok (.iinc 3 1, 3) := by decide +kernel
theorem dX5_pack_184 : decode cX5_pack 184 = .ok (.goto (-101), 3) := by decide +kernel
theorem dX5_pack_187 : decode cX5_pack 187 = .ok (.iload_n 1, 1) := by decide +kernel
theorem dX5_pack_188 : decode cX5_pack 188 = .ok (.iconst (-1), 1) := by decide +kernel
theorem dX5_pack_189 : decode cX5_pack 189 = .ok (.if_icmp .ne 7, 3) := by decide +kernel
theorem dX5_pack_192 : decode cX5_pack 192 = .ok (.iload_n 2, 1) := by decide +kernel
theorem dX5_pack_193 : decode cX5_pack 193 = .ok (.goto 4, 3) := by decide +kernel
theorem dX5_pack_196 : decode cX5_pack 196 = .ok (.iconst (-1), 1) := by decide +kernel
theorem dX5_pack_197 : decode cX5_pack 197 = .ok (.ireturn, 1) := by decide +kernel
theorem dX5_machines_0 : decode cX5_machines 0 = .ok (.aload_n 0, 1) := by decide +kernel
theorem dX5_machines_1 : decode cX5_machines 1 = .ok (.iconst 0, 1) := by decide +kernel
theorem dX5_machines_2 : decode cX5_machines 2 = .ok (.putfield 62, 3) := by decide +kernel
theorem dX5_machines_5 : decode cX5_machines 5 = .ok (.aload_n 0, 1) := by decide +kernel
theorem dX5_machines_6 : decode cX5_machines 6 = .ok (.getfield 73, 3) := by decide +kernel
theorem dX5_machines_9 : decode cX5_machines 9 = .ok (.ireturn, 1) := by decide +kernel
theorem dX5_rackOf_0 : decode cX5_rackOf 0 = .ok (.aload_n 0, 1) := by decide +kernel
theorem dX5_rackOf_1 : decode cX5_rackOf 1 = .ok (.iload_n 1, 1) := by decide +kernel
theorem dX5_rackOf_2 : decode cX5_rackOf 2 = .ok (.invokevirtual 124, 3) := by decide +kernel
theorem dX5_rackOf_5 : decode cX5_rackOf 5 = .ok (.istore_n 2, 1) := by decide +kernel
theorem dX5_rackOf_6 : decode cX5_rackOf 6 = .ok (.aload_n 0, 1) := by decide +kernel
theorem dX5_rackOf_7 : decode cX5_rackOf 7 = .ok (.iload_n 2, 1) := by decide +kernel
theorem dX5_rackOf_8 : decode cX5_rackOf 8 = .ok (.iconst (-1), 1) := by decide +kernel
theorem dX5_rackOf_9 : decode cX5_rackOf 9 = .ok (.if_icmp .ne 7, 3) := by decide +kernel
theorem dX5_rackOf_12 : decode cX5_rackOf 12 = .ok (.iconst 1, 1) := by decide +kernel
theorem dX5_rackOf_13 : decode cX5_rackOf 13 = .ok (.goto 4, 3) := by decide +kernel
theorem dX5_rackOf_16 : decode cX5_rackOf 16 = .ok (.iconst 0, 1) := by decide +kernel
theorem dX5_rackOf_17 : decode cX5_rackOf 17 = .ok (.invokevirtual 84, 3) := by decide +kernel
theorem dX5_rackOf_20 : decode cX5_rackOf 20 = .ok (.ifCond .eq 12, 3) := by decide +kernel
theorem dX5_rackOf_23 : decode cX5_rackOf 23 = .ok (.aload_n 0, 1) := by decide +kernel
theorem dX5_rackOf_24 : decode cX5_rackOf 24 = .ok (.getfield 50, 3) := by decide +kernel
theorem dX5_rackOf_27 : decode cX5_rackOf 27 = .ok (.iload_n 2, 1) := by decide +kernel
theorem dX5_rackOf_28 : decode cX5_rackOf 28 = .ok (.iaload, 1) := by decide +kernel
theorem dX5_rackOf_29 : decode cX5_rackOf 29 = .ok (.goto 4, 3) := by decide +kernel
theorem dX5_rackOf_32 : decode cX5_rackOf 32 = .ok (.iconst 0, 1) := by decide +kernel
theorem dX5_rackOf_33 : decode cX5_rackOf 33 = .ok (.ireturn, 1) := by decide +kernel
theorem dX5_slotOf_0 : decode cX5_slotOf 0 = .ok (.aload_n 0, 1) := by decide +kernel
theorem dX5_slotOf_1 : decode cX5_slotOf 1 = .ok (.iload_n 1, 1) := by decide +kernel
theorem dX5_slotOf_2 : decode cX5_slotOf 2 = .ok (.invokevirtual 124, 3) := by decide +kernel
theorem dX5_slotOf_5 : decode cX5_slotOf 5 = .ok (.istore_n 2, 1) := by decide +kernel
theorem dX5_slotOf_6 : decode cX5_slotOf 6 = .ok (.aload_n 0, 1) := by decide +kernel
theorem dX5_slotOf_7 : decode cX5_slotOf 7 = .ok (.iload_n 2, 1) := by decide +kernel
theorem dX5_slotOf_8 : decode cX5_slotOf 8 = .ok (.iconst (-1), 1) := by decide +kernel
theorem dX5_slotOf_9 : decode cX5_slotOf 9 = .ok (.if_icmp .ne 7, 3) := by decide +kernel
theorem dX5_slotOf_12 : decode cX5_slotOf 12 = .ok (.iconst 1, 1) := by decide +kernel
theorem dX5_slotOf_13 : decode cX5_slotOf 13 = .ok (.goto 4, 3) := by decide +kernel
theorem dX5_slotOf_16 : decode cX5_slotOf 16 = .ok (.iconst 0, 1) := by decide +kernel
theorem dX5_slotOf_17 : decode cX5_slotOf 17 = .ok (.invokevirtual 84, 3) := by decide +kernel
theorem dX5_slotOf_20 : decode cX5_slotOf 20 = .ok (.ifCond .eq 12, 3) := by decide +kernel
theorem dX5_slotOf_23 : decode cX5_slotOf 23 = .ok (.aload_n 0, 1) := by decide +kernel
theorem dX5_slotOf_24 : decode cX5_slotOf 24 = .ok (.getfield 53, 3) := by decide +kernel
theorem dX5_slotOf_27 : decode cX5_slotOf 27 = .ok (.iload_n 2, 1) := by decide +kernel
theorem dX5_slotOf_28 : decode cX5_slotOf 28 = .ok (.iaload, 1) := by decide +kernel
theorem dX5_slotOf_29 : decode cX5_slotOf 29 = .ok (.goto 4, 3) := by decide +kernel
theorem dX5_slotOf_32 : decode cX5_slotOf 32 = .ok (.iconst 0, 1) := by decide +kernel
theorem dX5_slotOf_33 : decode cX5_slotOf 33 = .ok (.ireturn, 1) := by decide +kernel
theorem dX5_isDark_0 : decode cX5_isDark 0 = .ok (.aload_n 0, 1) := by decide +kernel
theorem dX5_isDark_1 : decode cX5_isDark 1 = .ok (.iload_n 1, 1) := by decide +kernel
theorem dX5_isDark_2 : decode cX5_isDark 2 = .ok (.invokevirtual 124, 3) := by decide +kernel
theorem dX5_isDark_5 : decode cX5_isDark 5 = .ok (.istore_n 2, 1) := by decide +kernel
theorem dX5_isDark_6 : decode cX5_isDark 6 = .ok (.aload_n 0, 1) := by decide +kernel
theorem dX5_isDark_7 : decode cX5_isDark 7 = .ok (.iload_n 2, 1) := by decide +kernel
theorem dX5_isDark_8 : decode cX5_isDark 8 = .ok (.iconst (-1), 1) := by decide +kernel
theorem dX5_isDark_9 : decode cX5_isDark 9 = .ok (.if_icmp .ne 7, 3) := by decide +kernel
theorem dX5_isDark_12 : decode cX5_isDark 12 = .ok (.iconst 1, 1) := by decide +kernel
theorem dX5_isDark_13 : decode cX5_isDark 13 = .ok (.goto 4, 3) := by decide +kernel
theorem dX5_isDark_16 : decode cX5_isDark 16 = .ok (.iconst 0, 1) := by decide +kernel
theorem dX5_isDark_17 : decode cX5_isDark 17 = .ok (.invokevirtual 84, 3) := by decide +kernel
theorem dX5_isDark_20 : decode cX5_isDark 20 = .ok (.ifCond .eq 15, 3) := by decide +kernel
theorem dX5_isDark_23 : decode cX5_isDark 23 = .ok (.aload_n 0, 1) := by decide +kernel
theorem dX5_isDark_24 : decode cX5_isDark 24 = .ok (.iload_n 2, 1) := by decide +kernel
theorem dX5_isDark_25 : decode cX5_isDark 25 = .ok (.invokevirtual 98, 3) := by decide +kernel
theorem dX5_isDark_28 : decode cX5_isDark 28 = .ok (.ifCond .eq 7, 3) := by decide +kernel
theorem dX5_isDark_31 : decode cX5_isDark 31 = .ok (.iconst 1, 1) := by decide +kernel
theorem dX5_isDark_32 : decode cX5_isDark 32 = .ok (.goto 4, 3) := by decide +kernel
theorem dX5_isDark_35 : decode cX5_isDark 35 = .ok (.iconst 0, 1) := by decide +kernel
theorem dX5_isDark_36 : decode cX5_isDark 36 = .ok (.ireturn, 1) := by decide +kernel
theorem dX5_machineAt_0 : decode cX5_machineAt 0 = .ok (.aload_n 0, 1) := by decide +kernel
theorem dX5_machineAt_1 : decode cX5_machineAt 1 = .ok (.iload_n 1, 1) := by decide +kernel
theorem dX5_machineAt_2 : decode cX5_machineAt 2 = .ok (.invokevirtual 134, 3) := by decide +kernel
theorem dX5_machineAt_5 : decode cX5_machineAt 5 = .ok (.ifCond .eq 23, 3) := by decide +kernel
theorem dX5_machineAt_8 : decode cX5_machineAt 8 = .ok (.iload_n 2, 1) := by decide +kernel
theorem dX5_machineAt_9 : decode cX5_machineAt 9 = .ok (.iconst 0, 1) := by decide +kernel
theorem dX5_machineAt_10 : decode cX5_machineAt 10 = .ok (.aload_n 0, 1) := by decide +kernel
theorem dX5_machineAt_11 : decode cX5_machineAt 11 = .ok (.getfield 13, 3) := by decide +kernel
theorem dX5_machineAt_14 : decode cX5_machineAt 14 = .ok (.iload_n 1, 1) := by decide +kernel
theorem dX5_machineAt_15 : decode cX5_machineAt 15 = .ok (.iaload, 1) := by decide +kernel
theorem dX5_machineAt_16 : decode cX5_machineAt 16 = .ok (.iconst 1, 1) := by decide +kernel
theorem dX5_machineAt_17 : decode cX5_machineAt 17 = .ok (.isub, 1) := by decide +kernel
theorem dX5_machineAt_18 : decode cX5_machineAt 18 = .ok (.invokestatic 69, 3) := by decide +kernel
theorem dX5_machineAt_21 : decode cX5_machineAt 21 = .ok (.ifCond .eq 7, 3) := by decide +kernel
theorem dX5_machineAt_24 : decode cX5_machineAt 24 = .ok (.iconst 1, 1) := by decide +kernel
theorem dX5_machineAt_25 : decode cX5_machineAt 25 = .ok (.goto 4, 3) := by decide +kernel
theorem dX5_machineAt_28 : decode cX5_machineAt 28 = .ok (.iconst 0, 1) := by decide +kernel
theorem dX5_machineAt_29 : decode cX5_machineAt 29 = .ok (.istore_n 3, 1) := by decide +kernel
theorem dX5_machineAt_30 : decode cX5_machineAt 30 = .ok (.iload_n 3, 1) := by decide +kernel
theorem dX5_machineAt_31 : decode cX5_machineAt 31 = .ok (.ifCond .eq 12, 3) := by decide +kernel
theorem dX5_machineAt_34 : decode cX5_machineAt 34 = .ok (.aload_n 0, 1) := by decide +kernel
theorem dX5_machineAt_35 : decode cX5_machineAt 35 = .ok (.iload_n 1, 1) := by decide +kernel
theorem dX5_machineAt_36 : decode cX5_machineAt 36 = .ok (.iload_n 2, 1) := by decide +kernel
theorem dX5_machineAt_37 : decode cX5_machineAt 37 = .ok (.invokevirtual 101, 3) := by decide +kernel
theorem dX5_machineAt_40 : decode cX5_machineAt 40 = .ok (.goto 4, 3) := by decide +kernel
theorem dX5_machineAt_43 : decode cX5_machineAt 43 = .ok (.iconst (-1), 1) := by decide +kernel
theorem dX5_machineAt_44 : decode cX5_machineAt 44 = .ok (.istore 4, 2) := by decide +kernel
theorem dX5_machineAt_46 : decode cX5_machineAt 46 = .ok (.aload_n 0, 1) := by decide +kernel
theorem dX5_machineAt_47 : decode cX5_machineAt 47 = .ok (.iload_n 3, 1) := by decide +kernel
theorem dX5_machineAt_48 : decode cX5_machineAt 48 = .ok (.ifCond .eq 7, 3) := by decide +kernel
theorem dX5_machineAt_51 : decode cX5_machineAt 51 = .ok (.iconst 0, 1) := by decide +kernel
theorem dX5_machineAt_52 : decode cX5_machineAt 52 = .ok (.goto 4, 3) := by decide +kernel
theorem dX5_machineAt_55 : decode cX5_machineAt 55 = .ok (.iconst 1, 1) := by decide +kernel
theorem dX5_machineAt_56 : decode cX5_machineAt 56 = .ok (.invokevirtual 84, 3) := by decide +kernel
theorem dX5_machineAt_59 : decode cX5_machineAt 59 = .ok (.ifCond .ne 7, 3) := by decide +kernel
theorem dX5_machineAt_62 : decode cX5_machineAt 62 = .ok (.iconst 0, 1) := by decide +kernel
theorem dX5_machineAt_63 : decode cX5_machineAt 63 = .ok (.goto 20, 3) := by decide +kernel
theorem dX5_machineAt_66 : decode cX5_machineAt 66 = .ok (.iload 4, 2) := by decide +kernel
theorem dX5_machineAt_68 : decode cX5_machineAt 68 = .ok (.iconst (-1), 1) := by decide +kernel
theorem dX5_machineAt_69 : decode cX5_machineAt 69 = .ok (.if_icmp .ne 7, 3) := by decide +kernel
theorem dX5_machineAt_72 : decode cX5_machineAt 72 = .ok (.iconst (-1), 1) := by decide +kernel
theorem dX5_machineAt_73 : decode cX5_machineAt 73 = .ok (.goto 10, 3) := by decide +kernel
theorem dX5_machineAt_76 : decode cX5_machineAt 76 = .ok (.aload_n 0, 1) := by decide +kernel
theorem dX5_machineAt_77 : decode cX5_machineAt 77 = .ok (.getfield 35, 3) := by decide +kernel
theorem dX5_machineAt_80 : decode cX5_machineAt 80 = .ok (.iload 4, 2) := by decide +kernel
theorem dX5_machineAt_82 : decode cX5_machineAt 82 = .ok (.iaload, 1) := by decide +kernel
theorem dX5_machineAt_83 : decode cX5_machineAt 83 = .ok (.ireturn, 1) := by decide +kernel
theorem dX5_way_0 : decode cX5_way 0 = .ok (.bipush 20, 2) := by decide +kernel
theorem dX5_way_2 : decode cX5_way 2 = .ok (.aload_n 0, 1) := by decide +kernel
theorem dX5_way_3 : decode cX5_way 3 = .ok (.getfield 50, 3) := by decide +kernel
theorem dX5_way_6 : decode cX5_way 6 = .ok (.iload_n 1, 1) := by decide +kernel
theorem dX5_way_7 : decode cX5_way 7 = .ok (.iaload, 1) := by decide +kernel
theorem dX5_way_8 : decode cX5_way 8 = .ok (.imul, 1) := by decide +kernel
theorem dX5_way_9 : decode cX5_way 9 = .ok (.aload_n 0, 1) := by decide +kernel
theorem dX5_way_10 : decode cX5_way 10 = .ok (.getfield 53, 3) := by decide +kernel
theorem dX5_way_13 : decode cX5_way 13 = .ok (.iload_n 1, 1) := by decide +kernel
theorem dX5_way_14 : decode cX5_way 14 = .ok (.iaload, 1) := by decide +kernel
theorem dX5_way_15 : decode cX5_way 15 = .ok (.iadd, 1) := by decide +kernel
theorem dX5_way_16 : decode cX5_way 16 = .ok (.ireturn, 1) := by decide +kernel
theorem dX5_next_0 : decode cX5_next 0 = .ok (.iload_n 1, 1) := by decide +kernel
theorem dX5_next_1 : decode cX5_next 1 = .ok (.iconst (-1), 1) := by decide +kernel
theorem dX5_next_2 : decode cX5_next 2 = .ok (.if_icmp .ne 7, 3) := by decide +kernel
theorem dX5_next_5 : decode cX5_next 5 = .ok (.iconst (-1), 1) := by decide +kernel
theorem dX5_next_6 : decode cX5_next 6 = .ok (.goto 8, 3) := by decide +kernel
theorem dX5_next_9 : decode cX5_next 9 = .ok (.aload_n 0, 1) := by decide +kernel
theorem dX5_next_10 : decode cX5_next 10 = .ok (.iload_n 1, 1) := by decide +kernel
theorem dX5_next_11 : decode cX5_next 11 = .ok (.invokevirtual 124, 3) := by decide +kernel
theorem dX5_next_14 : decode cX5_next 14 = .ok (.istore_n 2, 1) := by decide +kernel
theorem dX5_next_15 : decode cX5_next 15 = .ok (.aload_n 0, 1) := by decide +kernel
theorem dX5_next_16 : decode cX5_next 16 = .ok (.iload_n 1, 1) := by decide +kernel
theorem dX5_next_17 : decode cX5_next 17 = .ok (.iconst (-1), 1) := by decide +kernel
theorem dX5_next_18 : decode cX5_next 18 = .ok (.if_icmp .eq 12, 3) := by decide +kernel
theorem dX5_next_21 : decode cX5_next 21 = .ok (.iload_n 2, 1) := by decide +kernel
theorem dX5_next_22 : decode cX5_next 22 = .ok (.iconst (-1), 1) := by decide +kernel
theorem dX5_next_23 : decode cX5_next 23 = .ok (.if_icmp .ne 7, 3) := by decide +kernel
theorem dX5_next_26 : decode cX5_next 26 = .ok (.iconst 1, 1) := by decide +kernel
theorem dX5_next_27 : decode cX5_next 27 = .ok (.goto 4, 3) := by decide +kernel
theorem dX5_next_30 : decode cX5_next 30 = .ok (.iconst 0, 1) := by decide +kernel
theorem dX5_next_31 : decode cX5_next 31 = .ok (.invokevirtual 84, 3) := by decide +kernel
theorem dX5_next_34 : decode cX5_next 34 = .ok (.ifCond .ne 5, 3) := by decide +kernel
theorem dX5_next_37 : decode cX5_next 37 = .ok (.iconst 0, 1) := by decide +kernel
theorem dX5_next_38 : decode cX5_next 38 = .ok (.ireturn, 1) := by decide +kernel
theorem dX5_next_39 : decode cX5_next 39 = .ok (.iload_n 2, 1) := by decide +kernel
theorem dX5_next_40 : decode cX5_next 40 = .ok (.iconst (-1), 1) := by decide +kernel
theorem dX5_next_41 : decode cX5_next 41 = .ok (.if_icmp .ne 7, 3) := by decide +kernel
theorem dX5_next_44 : decode cX5_next 44 = .ok (.iconst (-1), 1) := by decide +kernel
theorem dX5_next_45 : decode cX5_next 45 = .ok (.goto 8, 3) := by decide +kernel
theorem dX5_next_48 : decode cX5_next 48 = .ok (.aload_n 0, 1) := by decide +kernel
theorem dX5_next_49 : decode cX5_next 49 = .ok (.iload_n 2, 1) := by decide +kernel
theorem dX5_next_50 : decode cX5_next 50 = .ok (.invokevirtual 137, 3) := by decide +kernel
theorem dX5_next_53 : decode cX5_next 53 = .ok (.istore_n 3, 1) := by decide +kernel
theorem dX5_next_54 : decode cX5_next 54 = .ok (.iconst (-1), 1) := by decide +kernel
theorem dX5_next_55 : decode cX5_next 55 = .ok (.istore 4, 2) := by decide +kernel
theorem dX5_next_57 : decode cX5_next 57 = .ok (.iconst 0, 1) := by decide +kernel
theorem dX5_next_58 : decode cX5_next 58 = .ok (.istore 5, 2) := by decide +kernel
theorem dX5_next_60 : decode cX5_next 60 = .ok (.iload 5, 2) := by decide +kernel
theorem dX5_next_62 : decode cX5_next 62 = .ok (.aload_n 0, 1) := by decide +kernel
theorem dX5_next_63 : decode cX5_next 63 = .ok (.getfield 73, 3) := by decide +kernel
theorem dX5_next_66 : decode cX5_next 66 = .ok (.if_icmp .ge 49, 3) := by decide +kernel
theorem dX5_next_69 : decode cX5_next 69 = .ok (.aload_n 0, 1) := by decide +kernel
theorem dX5_next_70 : decode cX5_next 70 = .ok (.iload 5, 2) := by decide +kernel
theorem dX5_next_72 : decode cX5_next 72 = .ok (.invokevirtual 137, 3) := by decide +kernel
theorem dX5_next_75 : decode cX5_next 75 = .ok (.iload_n 3, 1) := by decide +kernel
theorem dX5_next_76 : decode cX5_next 76 = .ok (.if_icmp .le 29, 3) := by decide +kernel
theorem dX5_next_79 : decode cX5_next 79 = .ok (.iload 4, 2) := by decide +kernel
theorem dX5_next_81 : decode cX5_next 81 = .ok (.iconst (-1), 1) := by decide +kernel
theorem dX5_next_82 : decode cX5_next 82 = .ok (.if_icmp .eq 18, 3) := by decide +kernel
theorem dX5_next_85 : decode cX5_next 85 = .ok (.aload_n 0, 1) := by decide +kernel
theorem dX5_next_86 : decode cX5_next 86 = .ok (.iload 5, 2) := by decide +kernel
theorem dX5_next_88 : decode cX5_next 88 = .ok (.invokevirtual 137, 3) := by decide +kernel
theorem dX5_next_91 : decode cX5_next 91 = .ok (.aload_n 0, 1) := by decide +kernel
theorem dX5_next_92 : decode cX5_next 92 = .ok (.iload 4, 2) := by decide +kernel
theorem dX5_next_94 : decode cX5_next 94 = .ok (.invokevirtual 137, 3) := by decide +kernel
theorem dX5_next_97 : decode cX5_next 97 = .ok (.if_icmp .ge 8, 3) := by decide +kernel
theorem dX5_next_100 : decode cX5_next 100 = .ok (.iload 5, 2) := by decide +kernel
theorem dX5_next_102 : decode cX5_next 102 = .ok (.goto 5, 3) := by decide +kernel
theorem dX5_next_105 : decode cX5_next 105 = .ok (.iload 4, 2) := by decide +kernel
theorem dX5_next_107 : decode cX5_next 107 = .ok (.istore 4, 2) := by decide +kernel
theorem dX5_next_109 : decode cX5_next 109 = .ok (.iinc 5 1, 3) := by decide +kernel
theorem dX5_next_112 : decode cX5_next 112 = .ok (.goto (-52), 3) := by decide +kernel
theorem dX5_next_115 : decode cX5_next 115 = .ok (.iload 4, 2) := by decide +kernel
theorem dX5_next_117 : decode cX5_next 117 = .ok (.iconst (-1), 1) := by decide +kernel
theorem dX5_next_118 : decode cX5_next 118 = .ok (.if_icmp .ne 7, 3) := by decide +kernel
theorem dX5_next_121 : decode cX5_next 121 = .ok (.iconst (-1), 1) := by decide +kernel
theorem dX5_next_122 : decode cX5_next 122 = .ok (.goto 10, 3) := by decide +kernel
theorem dX5_next_125 : decode cX5_next 125 = .ok (.aload_n 0, 1) := by decide +kernel
theorem dX5_next_126 : decode cX5_next 126 = .ok (.getfield 35, 3) := by decide +kernel
theorem dX5_next_129 : decode cX5_next 129 = .ok (.iload 4, 2) := by decide +kernel
theorem dX5_next_131 : decode cX5_next 131 = .ok (.iaload, 1) := by decide +kernel
theorem dX5_next_132 : decode cX5_next 132 = .ok (.ireturn, 1) := by decide +kernel
theorem dX5_takes_0 : decode cX5_takes 0 = .ok (.aload_n 0, 1) := by decide +kernel
theorem dX5_takes_1 : decode cX5_takes 1 = .ok (.getfield 31, 3) := by decide +kernel
theorem dX5_takes_4 : decode cX5_takes 4 = .ok (.iload_n 2, 1) := by decide +kernel
theorem dX5_takes_5 : decode cX5_takes 5 = .ok (.baload, 1) := by decide +kernel
theorem dX5_takes_6 : decode cX5_takes 6 = .ok (.ifCond .ne 16, 3) := by decide +kernel
theorem dX5_takes_9 : decode cX5_takes 9 = .ok (.aload_n 0, 1) := by decide +kernel
theorem dX5_takes_10 : decode cX5_takes 10 = .ok (.getfield 47, 3) := by decide +kernel
theorem dX5_takes_13 : decode cX5_takes 13 = .ok (.iload_n 1, 1) := by decide +kernel
theorem dX5_takes_14 : decode cX5_takes 14 = .ok (.iaload, 1) := by decide +kernel
theorem dX5_takes_15 : decode cX5_takes 15 = .ok (.iload_n 2, 1) := by decide +kernel
theorem dX5_takes_16 : decode cX5_takes 16 = .ok (.invokestatic 76, 3) := by decide +kernel
theorem dX5_takes_19 : decode cX5_takes 19 = .ok (.ifCond .ne 5, 3) := by decide +kernel
theorem dX5_takes_22 : decode cX5_takes 22 = .ok (.iconst 0, 1) := by decide +kernel
theorem dX5_takes_23 : decode cX5_takes 23 = .ok (.ireturn, 1) := by decide +kernel
theorem dX5_takes_24 : decode cX5_takes 24 = .ok (.aload_n 0, 1) := by decide +kernel
theorem dX5_takes_25 : decode cX5_takes 25 = .ok (.getfield 47, 3) := by decide +kernel
theorem dX5_takes_28 : decode cX5_takes 28 = .ok (.iload_n 1, 1) := by decide +kernel
theorem dX5_takes_29 : decode cX5_takes 29 = .ok (.iaload, 1) := by decide +kernel
theorem dX5_takes_30 : decode cX5_takes 30 = .ok (.iconst 2, 1) := by decide +kernel
theorem dX5_takes_31 : decode cX5_takes 31 = .ok (.if_icmp .ne 18, 3) := by decide +kernel
theorem dX5_takes_34 : decode cX5_takes 34 = .ok (.aload_n 0, 1) := by decide +kernel
theorem dX5_takes_35 : decode cX5_takes 35 = .ok (.getfield 31, 3) := by decide +kernel
theorem dX5_takes_38 : decode cX5_takes 38 = .ok (.iconst 1, 1) := by decide +kernel
theorem dX5_takes_39 : decode cX5_takes 39 = .ok (.iload_n 2, 1) := by decide +kernel
theorem dX5_takes_40 : decode cX5_takes 40 = .ok (.isub, 1) := by decide +kernel
theorem dX5_takes_41 : decode cX5_takes 41 = .ok (.baload, 1) := by decide +kernel
theorem dX5_takes_42 : decode cX5_takes 42 = .ok (.ifCond .ne 7, 3) := by decide +kernel
theorem dX5_takes_45 : decode cX5_takes 45 = .ok (.iconst 1, 1) := by decide +kernel
theorem dX5_takes_46 : decode cX5_takes 46 = .ok (.goto 4, 3) := by decide +kernel
theorem dX5_takes_49 : decode cX5_takes 49 = .ok (.iconst 0, 1) := by decide +kernel
theorem dX5_takes_50 : decode cX5_takes 50 = .ok (.istore_n 3, 1) := by decide +kernel
theorem dX5_takes_51 : decode cX5_takes 51 = .ok (.iload_n 3, 1) := by decide +kernel
theorem dX5_takes_52 : decode cX5_takes 52 = .ok (.ifCond .ne 12, 3) := by decide +kernel
theorem dX5_takes_55 : decode cX5_takes 55 = .ok (.aload_n 0, 1) := by decide +kernel
theorem dX5_takes_56 : decode cX5_takes 56 = .ok (.getfield 41, 3) := by decide +kernel
theorem dX5_takes_59 : decode cX5_takes 59 = .ok (.iload_n 1, 1) := by decide +kernel
theorem dX5_takes_60 : decode cX5_takes 60 = .ok (.iaload, 1) := by decide +kernel
theorem dX5_takes_61 : decode cX5_takes 61 = .ok (.goto 28, 3) := by decide +kernel
theorem dX5_takes_64 : decode cX5_takes 64 = .ok (.iload_n 2, 1) := by decide +kernel
theorem dX5_takes_65 : decode cX5_takes 65 = .ok (.ifCond .ne 16, 3) := by decide +kernel
theorem dX5_takes_68 : decode cX5_takes 68 = .ok (.aload_n 0, 1) := by decide +kernel
theorem dX5_takes_69 : decode cX5_takes 69 = .ok (.getfield 41, 3) := by decide +kernel
theorem dX5_takes_72 : decode cX5_takes 72 = .ok (.iload_n 1, 1) := by decide +kernel
theorem dX5_takes_73 : decode cX5_takes 73 = .ok (.iaload, 1) := by decide +kernel
theorem dX5_takes_74 : decode cX5_takes 74 = .ok (.iconst 1, 1) := by decide +kernel
theorem dX5_takes_75 : decode cX5_takes 75 = .ok (.iadd, 1) := by decide +kernel
theorem dX5_takes_76 : decode cX5_takes 76 = .ok (.iconst 2, 1) := by decide +kernel
theorem dX5_takes_77 : decode cX5_takes 77 = .ok (.idiv, 1) := by decide +kernel
theorem dX5_takes_78 : decode cX5_takes 78 = .ok (.goto 11, 3) := by decide +kernel
theorem dX5_takes_81 : decode cX5_takes 81 = .ok (.aload_n 0, 1) := by decide +kernel
theorem dX5_takes_82 : decode cX5_takes 82 = .ok (.getfield 41, 3) := by decide +kernel
theorem dX5_takes_85 : decode cX5_takes 85 = .ok (.iload_n 1, 1) := by decide +kernel
theorem dX5_takes_86 : decode cX5_takes 86 = .ok (.iaload, 1) := by decide +kernel
theorem dX5_takes_87 : decode cX5_takes 87 = .ok (.iconst 2, 1) := by decide +kernel
theorem dX5_takes_88 : decode cX5_takes 88 = .ok (.idiv, 1) := by decide +kernel
theorem dX5_takes_89 : decode cX5_takes 89 = .ok (.ireturn, 1) := by decide +kernel
theorem dX5_powerOf_0 : decode cX5_powerOf 0 = .ok (.aload_n 0, 1) := by decide +kernel
theorem dX5_powerOf_1 : decode cX5_powerOf 1 = .ok (.aload_n 0, 1) := by decide +kernel
theorem dX5_powerOf_2 : decode cX5_powerOf 2 = .ok (.iload_n 1, 1) := by decide +kernel
theorem dX5_powerOf_3 : decode cX5_powerOf 3 = .ok (.invokevirtual 134, 3) := by decide +kernel
theorem dX5_powerOf_6 : decode cX5_powerOf 6 = .ok (.ifCond .ne 7, 3) := by decide +kernel
theorem dX5_powerOf_9 : decode cX5_powerOf 9 = .ok (.iconst 1, 1) := by decide +kernel
theorem dX5_powerOf_10 : decode cX5_powerOf 10 = .ok (.goto 17, 3) := by decide +kernel
theorem dX5_powerOf_13 : decode cX5_powerOf 13 = .ok (.iload_n 2, 1) := by decide +kernel
theorem dX5_powerOf_14 : decode cX5_powerOf 14 = .ok (.iconst 0, 1) := by decide +kernel
theorem dX5_powerOf_15 : decode cX5_powerOf 15 = .ok (.iconst 1, 1) := by decide +kernel
theorem dX5_powerOf_16 : decode cX5_powerOf 16 = .ok (.invokestatic 69, 3) := by decide +kernel
theorem dX5_powerOf_19 : decode cX5_powerOf 19 = .ok (.ifCond .ne 7, 3) := by decide +kernel
theorem dX5_powerOf_22 : decode cX5_powerOf 22 = .ok (.iconst 2, 1) := by decide +kernel
theorem dX5_powerOf_23 : decode cX5_powerOf 23 = .ok (.goto 4, 3) := by decide +kernel
theorem dX5_powerOf_26 : decode cX5_powerOf 26 = .ok (.iconst 0, 1) := by decide +kernel
theorem dX5_powerOf_27 : decode cX5_powerOf 27 = .ok (.invokevirtual 84, 3) := by decide +kernel
theorem dX5_powerOf_30 : decode cX5_powerOf 30 = .ok (.ifCond .ne 5, 3) := by decide +kernel
theorem dX5_powerOf_33 : decode cX5_powerOf 33 = .ok (.iconst 0, 1) := by decide +kernel
theorem dX5_powerOf_34 : decode cX5_powerOf 34 = .ok (.ireturn, 1) := by decide +kernel
theorem dX5_powerOf_35 : decode cX5_powerOf 35 = .ok (.iconst 0, 1) := by decide +kernel
theorem dX5_powerOf_36 : decode cX5_powerOf 36 = .ok (.istore_n 3, 1) := by decide +kernel
theorem dX5_powerOf_37 : decode cX5_powerOf 37 = .ok (.iconst 0, 1) := by decide +kernel
theorem dX5_powerOf_38 : decode cX5_powerOf 38 = .ok (.istore 4, 2) := by decide +kernel
theorem dX5_powerOf_40 : decode cX5_powerOf 40 = .ok (.iload 4, 2) := by decide +kernel
theorem dX5_powerOf_42 : decode cX5_powerOf 42 = .ok (.aload_n 0, 1) := by decide +kernel
theorem dX5_powerOf_43 : decode cX5_powerOf 43 = .ok (.getfield 73, 3) := by decide +kernel
theorem dX5_powerOf_46 : decode cX5_powerOf 46 = .ok (.if_icmp .ge 34, 3) := by decide +kernel
theorem dX5_powerOf_49 : decode cX5_powerOf 49 = .ok (.iload_n 3, 1) := by decide +kernel
theorem dX5_powerOf_50 : decode cX5_powerOf 50 = .ok (.aload_n 0, 1) := by decide +kernel
theorem dX5_powerOf_51 : decode cX5_powerOf 51 = .ok (.getfield 50, 3) := by decide +kernel
theorem dX5_powerOf_54 : decode cX5_powerOf 54 = .ok (.iload 4, 2) := by decide +kernel
theorem dX5_powerOf_56 : decode cX5_powerOf 56 = .ok (.iaload, 1) := by decide +kernel
theorem dX5_powerOf_57 : decode cX5_powerOf 57 = .ok (.iload_n 1, 1) := by decide +kernel
theorem dX5_powerOf_58 : decode cX5_powerOf 58 = .ok (.if_icmp .ne 13, 3) := by decide +kernel
theorem dX5_powerOf_61 : decode cX5_powerOf 61 = .ok (.aload_n 0, 1) := by decide +kernel
theorem dX5_powerOf_62 : decode cX5_powerOf 62 = .ok (.iload 4, 2) := by decide +kernel
theorem dX5_powerOf_64 : decode cX5_powerOf 64 = .ok (.iload_n 2, 1) := by decide +kernel
theorem dX5_powerOf_65 : decode cX5_powerOf 65 = .ok (.invokevirtual 140, 3) := by decide +kernel
theorem dX5_powerOf_68 : decode cX5_powerOf 68 = .ok (.goto 4, 3) := by decide +kernel
theorem dX5_powerOf_71 : decode cX5_powerOf 71 = .ok (.iconst 0, 1) := by decide +kernel
theorem dX5_powerOf_72 : decode cX5_powerOf 72 = .ok (.iadd, 1) := by decide +kernel
theorem dX5_powerOf_73 : decode cX5_powerOf 73 = .ok (.istore_n 3, 1) := by decide +kernel
theorem dX5_powerOf_74 : decode cX5_powerOf 74 = .ok (.iinc 4 1, 3) := by decide +kernel
theorem dX5_powerOf_77 : decode cX5_powerOf 77 = .ok (.goto (-37), 3) := by decide +kernel
theorem dX5_powerOf_80 : decode cX5_powerOf 80 = .ok (.iload_n 3, 1) := by decide +kernel
theorem dX5_powerOf_81 : decode cX5_powerOf 81 = .ok (.ireturn, 1) := by decide +kernel
theorem dX5_worstOf_0 : decode cX5_worstOf 0 = .ok (.aload_n 0, 1) := by decide +kernel
theorem dX5_worstOf_1 : decode cX5_worstOf 1 = .ok (.aload_n 0, 1) := by decide +kernel
theorem dX5_worstOf_2 : decode cX5_worstOf 2 = .ok (.iload_n 1, 1) := by decide +kernel
theorem dX5_worstOf_3 : decode cX5_worstOf 3 = .ok (.invokevirtual 134, 3) := by decide +kernel
theorem dX5_worstOf_6 : decode cX5_worstOf 6 = .ok (.ifCond .ne 7, 3) := by decide +kernel
theorem dX5_worstOf_9 : decode cX5_worstOf 9 = .ok (.iconst 1, 1) := by decide +kernel
theorem dX5_worstOf_10 : decode cX5_worstOf 10 = .ok (.goto 17, 3) := by decide +kernel
theorem dX5_worstOf_13 : decode cX5_worstOf 13 = .ok (.iload_n 2, 1) := by decide +kernel
theorem dX5_worstOf_14 : decode cX5_worstOf 14 = .ok (.iconst 0, 1) := by decide +kernel
theorem dX5_worstOf_15 : decode cX5_worstOf 15 = .ok (.iconst 1, 1) := by decide +kernel
theorem dX5_worstOf_16 : decode cX5_worstOf 16 = .ok (.invokestatic 69, 3) := by decide +kernel
theorem dX5_worstOf_19 : decode cX5_worstOf 19 = .ok (.ifCond .ne 7, 3) := by decide +kernel
theorem dX5_worstOf_22 : decode cX5_worstOf 22 = .ok (.iconst 2, 1) := by decide +kernel
theorem dX5_worstOf_23 : decode cX5_worstOf 23 = .ok (.goto 4, 3) := by decide +kernel
theorem dX5_worstOf_26 : decode cX5_worstOf 26 = .ok (.iconst 0, 1) := by decide +kernel
theorem dX5_worstOf_27 : decode cX5_worstOf 27 = .ok (.invokevirtual 84, 3) := by decide +kernel
theorem dX5_worstOf_30 : decode cX5_worstOf 30 = .ok (.ifCond .eq 12, 3) := by decide +kernel
theorem dX5_worstOf_33 : decode cX5_worstOf 33 = .ok (.aload_n 0, 1) := by decide +kernel
theorem dX5_worstOf_34 : decode cX5_worstOf 34 = .ok (.iload_n 1, 1) := by decide +kernel
theorem dX5_worstOf_35 : decode cX5_worstOf 35 = .ok (.iload_n 2, 1) := by decide +kernel
theorem dX5_worstOf_36 : decode cX5_worstOf 36 = .ok (.invokevirtual 94, 3) := by decide +kernel
theorem dX5_worstOf_39 : decode cX5_worstOf 39 = .ok (.goto 4, 3) := by decide +kernel
theorem dX5_worstOf_42 : decode cX5_worstOf 42 = .ok (.iconst 0, 1) := by decide +kernel
theorem dX5_worstOf_43 : decode cX5_worstOf 43 = .ok (.ireturn, 1) := by decide +kernel
theorem dX5_weightOf_0 : decode cX5_weightOf 0 = .ok (.aload_n 0, 1) := by decide +kernel
theorem dX5_weightOf_1 : decode cX5_weightOf 1 = .ok (.aload_n 0, 1) := by decide +kernel
theorem dX5_weightOf_2 : decode cX5_weightOf 2 = .ok (.iload_n 1, 1) := by decide +kernel
theorem dX5_weightOf_3 : decode cX5_weightOf 3 = .ok (.invokevirtual 134, 3) := by decide +kernel
theorem dX5_weightOf_6 : decode cX5_weightOf 6 = .ok (.ifCond .eq 7, 3) := by decide +kernel
theorem dX5_weightOf_9 : decode cX5_weightOf 9 = .ok (.iconst 0, 1) := by decide +kernel
theorem dX5_weightOf_10 : decode cX5_weightOf 10 = .ok (.goto 4, 3) := by decide +kernel
theorem dX5_weightOf_13 : decode cX5_weightOf 13 = .ok (.iconst 1, 1) := by decide +kernel
theorem dX5_weightOf_14 : decode cX5_weightOf 14 = .ok (.invokevirtual 84, 3) := by decide +kernel
theorem dX5_weightOf_17 : decode cX5_weightOf 17 = .ok (.ifCond .eq 11, 3) := by decide +kernel
theorem dX5_weightOf_20 : decode cX5_weightOf 20 = .ok (.aload_n 0, 1) := by decide +kernel
theorem dX5_weightOf_21 : decode cX5_weightOf 21 = .ok (.iload_n 1, 1) := by decide +kernel
theorem dX5_weightOf_22 : decode cX5_weightOf 22 = .ok (.invokevirtual 80, 3) := by decide +kernel
theorem dX5_weightOf_25 : decode cX5_weightOf 25 = .ok (.goto 4, 3) := by decide +kernel
theorem dX5_weightOf_28 : decode cX5_weightOf 28 = .ok (.iconst 0, 1) := by decide +kernel
theorem dX5_weightOf_29 : decode cX5_weightOf 29 = .ok (.ireturn, 1) := by decide +kernel
theorem dX5_heatOf_0 : decode cX5_heatOf 0 = .ok (.aload_n 0, 1) := by decide +kernel
theorem dX5_heatOf_1 : decode cX5_heatOf 1 = .ok (.iload_n 1, 1) := by decide +kernel
theorem dX5_heatOf_2 : decode cX5_heatOf 2 = .ok (.iconst 0, 1) := by decide +kernel
theorem dX5_heatOf_3 : decode cX5_heatOf 3 = .ok (.iconst 3, 1) := by decide +kernel
theorem dX5_heatOf_4 : decode cX5_heatOf 4 = .ok (.invokestatic 69, 3) := by decide +kernel
theorem dX5_heatOf_7 : decode cX5_heatOf 7 = .ok (.ifCond .eq 7, 3) := by decide +kernel
theorem dX5_heatOf_10 : decode cX5_heatOf 10 = .ok (.iconst 0, 1) := by decide +kernel
theorem dX5_heatOf_11 : decode cX5_heatOf 11 = .ok (.goto 4, 3) := by decide +kernel
theorem dX5_heatOf_14 : decode cX5_heatOf 14 = .ok (.iconst 1, 1) := by decide +kernel
theorem dX5_heatOf_15 : decode cX5_heatOf 15 = .ok (.invokevirtual 84, 3) := by decide +kernel
theorem dX5_heatOf_18 : decode cX5_heatOf 18 = .ok (.ifCond .ne 5, 3) := by decide +kernel
theorem dX5_heatOf_21 : decode cX5_heatOf 21 = .ok (.iconst 0, 1) := by decide +kernel
theorem dX5_heatOf_22 : decode cX5_heatOf 22 = .ok (.ireturn, 1) := by decide +kernel
theorem dX5_heatOf_23 : decode cX5_heatOf 23 = .ok (.iconst 0, 1) := by decide +kernel
theorem dX5_heatOf_24 : decode cX5_heatOf 24 = .ok (.istore_n 2, 1) := by decide +kernel
theorem dX5_heatOf_25 : decode cX5_heatOf 25 = .ok (.iconst 0, 1) := by decide +kernel
theorem dX5_heatOf_26 : decode cX5_heatOf 26 = .ok (.istore_n 3, 1) := by decide +kernel
theorem dX5_heatOf_27 : decode cX5_heatOf 27 = .ok (.iload_n 3, 1) := by decide +kernel
theorem dX5_heatOf_28 : decode cX5_heatOf 28 = .ok (.aload_n 0, 1) := by decide +kernel
theorem dX5_heatOf_29 : decode cX5_heatOf 29 = .ok (.getfield 73, 3) := by decide +kernel
theorem dX5_heatOf_32 : decode cX5_heatOf 32 = .ok (.if_icmp .ge 45, 3) := by decide +kernel
theorem dX5_heatOf_35 : decode cX5_heatOf 35 = .ok (.iload_n 2, 1) := by decide +kernel
theorem dX5_heatOf_36 : decode cX5_heatOf 36 = .ok (.aload_n 0, 1) := by decide +kernel
theorem dX5_heatOf_37 : decode cX5_heatOf 37 = .ok (.getfield 7, 3) := by decide +kernel
theorem dX5_heatOf_40 : decode cX5_heatOf 40 = .ok (.aload_n 0, 1) := by decide +kernel
theorem dX5_heatOf_41 : decode cX5_heatOf 41 = .ok (.getfield 50, 3) := by decide +kernel
theorem dX5_heatOf_44 : decode cX5_heatOf 44 = .ok (.iload_n 3, 1) := by decide +kernel
theorem dX5_heatOf_45 : decode cX5_heatOf 45 = .ok (.iaload, 1) := by decide +kernel
theorem dX5_heatOf_46 : decode cX5_heatOf 46 = .ok (.iaload, 1) := by decide +kernel
theorem dX5_heatOf_47 : decode cX5_heatOf 47 = .ok (.iload_n 1, 1) := by decide +kernel
theorem dX5_heatOf_48 : decode cX5_heatOf 48 = .ok (.if_icmp .ne 20, 3) := by decide +kernel
theorem dX5_heatOf_51 : decode cX5_heatOf 51 = .ok (.aload_n 0, 1) := by decide +kernel
theorem dX5_heatOf_52 : decode cX5_heatOf 52 = .ok (.iload_n 3, 1) := by decide +kernel
theorem dX5_heatOf_53 : decode cX5_heatOf 53 = .ok (.invokevirtual 98, 3) := by decide +kernel
theorem dX5_heatOf_56 : decode cX5_heatOf 56 = .ok (.ifCond .ne 12, 3) := by decide +kernel
theorem dX5_heatOf_59 : decode cX5_heatOf 59 = .ok (.aload_n 0, 1) := by decide +kernel
theorem dX5_heatOf_60 : decode cX5_heatOf 60 = .ok (.getfield 41, 3) := by decide +kernel
theorem dX5_heatOf_63 : decode cX5_heatOf 63 = .ok (.iload_n 3, 1) := by decide +kernel
theorem dX5_heatOf_64 : decode cX5_heatOf 64 = .ok (.iaload, 1) := by decide +kernel
theorem dX5_heatOf_65 : decode cX5_heatOf 65 = .ok (.goto 4, 3) := by decide +kernel
theorem dX5_heatOf_68 : decode cX5_heatOf 68 = .ok (.iconst 0, 1) := by decide +kernel
theorem dX5_heatOf_69 : decode cX5_heatOf 69 = .ok (.iadd, 1) := by decide +kernel
theorem dX5_heatOf_70 : decode cX5_heatOf 70 = .ok (.istore_n 2, 1) := by decide +kernel
theorem dX5_heatOf_71 : decode cX5_heatOf 71 = .ok (.iinc 3 1, 3) := by decide +kernel
theorem dX5_heatOf_74 : decode cX5_heatOf 74 = .ok (.goto (-47), 3) := by decide +kernel
theorem dX5_heatOf_77 : decode cX5_heatOf 77 = .ok (.iload_n 2, 1) := by decide +kernel
theorem dX5_heatOf_78 : decode cX5_heatOf 78 = .ok (.ireturn, 1) := by decide +kernel
theorem dX5_gap_0 : decode cX5_gap 0 = .ok (.aload_n 0, 1) := by decide +kernel
theorem dX5_gap_1 : decode cX5_gap 1 = .ok (.aload_n 0, 1) := by decide +kernel
theorem dX5_gap_2 : decode cX5_gap 2 = .ok (.iload_n 1, 1) := by decide +kernel
theorem dX5_gap_3 : decode cX5_gap 3 = .ok (.invokevirtual 134, 3) := by decide +kernel
theorem dX5_gap_6 : decode cX5_gap 6 = .ok (.ifCond .eq 7, 3) := by decide +kernel
theorem dX5_gap_9 : decode cX5_gap 9 = .ok (.iconst 0, 1) := by decide +kernel
theorem dX5_gap_10 : decode cX5_gap 10 = .ok (.goto 4, 3) := by decide +kernel
theorem dX5_gap_13 : decode cX5_gap 13 = .ok (.iconst 1, 1) := by decide +kernel
theorem dX5_gap_14 : decode cX5_gap 14 = .ok (.invokevirtual 84, 3) := by decide +kernel
theorem dX5_gap_17 : decode cX5_gap 17 = .ok (.ifCond .ne 5, 3) := by decide +kernel
theorem dX5_gap_20 : decode cX5_gap 20 = .ok (.iconst 0, 1) := by decide +kernel
theorem dX5_gap_21 : decode cX5_gap 21 = .ok (.ireturn, 1) := by decide +kernel
theorem dX5_gap_22 : decode cX5_gap 22 = .ok (.iconst 0, 1) := by decide +kernel
theorem dX5_gap_23 : decode cX5_gap 23 = .ok (.istore_n 2, 1) := by decide +kernel
theorem dX5_gap_24 : decode cX5_gap 24 = .ok (.iconst 0, 1) := by decide +kernel
theorem dX5_gap_25 : decode cX5_gap 25 = .ok (.istore_n 3, 1) := by decide +kernel
theorem dX5_gap_26 : decode cX5_gap 26 = .ok (.iconst 0, 1) := by decide +kernel
theorem dX5_gap_27 : decode cX5_gap 27 = .ok (.istore 4, 2) := by decide +kernel
theorem dX5_gap_29 : decode cX5_gap 29 = .ok (.iload 4, 2) := by decide +kernel
theorem dX5_gap_31 : decode cX5_gap 31 = .ok (.aload_n 0, 1) := by decide +kernel
theorem dX5_gap_32 : decode cX5_gap 32 = .ok (.getfield 13, 3) := by decide +kernel
theorem dX5_gap_35 : decode cX5_gap 35 = .ok (.iload_n 1, 1) := by decide +kernel
theorem dX5_gap_36 : decode cX5_gap 36 = .ok (.iaload, 1) := by decide +kernel
theorem dX5_gap_37 : decode cX5_gap 37 = .ok (.if_icmp .ge 39, 3) := by decide +kernel
theorem dX5_gap_40 : decode cX5_gap 40 = .ok (.aload_n 0, 1) := by decide +kernel
theorem dX5_gap_41 : decode cX5_gap 41 = .ok (.iload_n 1, 1) := by decide +kernel
theorem dX5_gap_42 : decode cX5_gap 42 = .ok (.iload 4, 2) := by decide +kernel
theorem dX5_gap_44 : decode cX5_gap 44 = .ok (.invokevirtual 101, 3) := by decide +kernel
theorem dX5_gap_47 : decode cX5_gap 47 = .ok (.iconst (-1), 1) := by decide +kernel
theorem dX5_gap_48 : decode cX5_gap 48 = .ok (.if_icmp .ne 9, 3) := by decide +kernel
theorem dX5_gap_51 : decode cX5_gap 51 = .ok (.iload_n 3, 1) := by decide +kernel
theorem dX5_gap_52 : decode cX5_gap 52 = .ok (.iconst 1, 1) := by decide +kernel
theorem dX5_gap_53 : decode cX5_gap 53 = .ok (.iadd, 1) := by decide +kernel
theorem dX5_gap_54 : decode cX5_gap 54 = .ok (.goto 4, 3) := by decide +kernel
theorem dX5_gap_57 : decode cX5_gap 57 = .ok (.iconst 0, 1) := by decide +kernel
theorem dX5_gap_58 : decode cX5_gap 58 = .ok (.istore_n 3, 1) := by decide +kernel
theorem dX5_gap_59 : decode cX5_gap 59 = .ok (.iload_n 3, 1) := by decide +kernel
theorem dX5_gap_60 : decode cX5_gap 60 = .ok (.iload_n 2, 1) := by decide +kernel
theorem dX5_gap_61 : decode cX5_gap 61 = .ok (.if_icmp .le 7, 3) := by decide +kernel
theorem dX5_gap_64 : decode cX5_gap 64 = .ok (.iload_n 3, 1) := by decide +kernel
theorem dX5_gap_65 : decode cX5_gap 65 = .ok (.goto 4, 3) := by decide +kernel
theorem dX5_gap_68 : decode cX5_gap 68 = .ok (.iload_n 2, 1) := by decide +kernel
theorem dX5_gap_69 : decode cX5_gap 69 = .ok (.istore_n 2, 1) := by decide +kernel
theorem dX5_gap_70 : decode cX5_gap 70 = .ok (.iinc 4 1, 3) := by decide +kernel
theorem dX5_gap_73 : decode cX5_gap 73 = .ok (.goto (-44), 3) := by decide +kernel
theorem dX5_gap_76 : decode cX5_gap 76 = .ok (.iload_n 2, 1) := by decide +kernel
theorem dX5_gap_77 : decode cX5_gap 77 = .ok (.ireturn, 1) := by decide +kernel
theorem dX5_racksFor_0 : decode cX5_racksFor 0 = .ok (.aload_n 0, 1) := by decide +kernel
theorem dX5_racksFor_1 : decode cX5_racksFor 1 = .ok (.iload_n 1, 1) := by decide +kernel
theorem dX5_racksFor_2 : decode cX5_racksFor 2 = .ok (.iload_n 2, 1) := by decide +kernel
theorem dX5_racksFor_3 : decode cX5_racksFor 3 = .ok (.iload_n 3, 1) := by decide +kernel
theorem dX5_racksFor_4 : decode cX5_racksFor 4 = .ok (.iload 4, 2) := by decide +kernel
theorem dX5_racksFor_6 : decode cX5_racksFor 6 = .ok (.invokestatic 115, 3) := by decide +kernel
theorem dX5_racksFor_9 : decode cX5_racksFor 9 = .ok (.ifCond .eq 7, 3) := by decide +kernel
theorem dX5_racksFor_12 : decode cX5_racksFor 12 = .ok (.iconst 0, 1) := by decide +kernel
theorem dX5_racksFor_13 : decode cX5_racksFor 13 = .ok (.goto 4, 3) := by decide +kernel
theorem dX5_racksFor_16 : decode cX5_racksFor 16 = .ok (.iconst 1, 1) := by decide +kernel
theorem dX5_racksFor_17 : decode cX5_racksFor 17 = .ok (.invokevirtual 84, 3) := by decide +kernel
theorem dX5_racksFor_20 : decode cX5_racksFor 20 = .ok (.ifCond .ne 5, 3) := by decide +kernel
theorem dX5_racksFor_23 : decode cX5_racksFor 23 = .ok (.iconst 0, 1) := by decide +kernel
theorem dX5_racksFor_24 : decode cX5_racksFor 24 = .ok (.ireturn, 1) := by decide +kernel
theorem dX5_racksFor_25 : decode cX5_racksFor 25 = .ok (.iconst 0, 1) := by decide +kernel
theorem dX5_racksFor_26 : decode cX5_racksFor 26 = .ok (.istore 5, 2) := by decide +kernel
theorem dX5_racksFor_28 : decode cX5_racksFor 28 = .ok (.iconst 0, 1) := by decide +kernel
theorem dX5_racksFor_29 : decode cX5_racksFor 29 = .ok (.istore 6, 2) := by decide +kernel
theorem dX5_racksFor_31 : decode cX5_racksFor 31 = .ok (.iload 6, 2) := by decide +kernel
theorem dX5_racksFor_33 : decode cX5_racksFor 33 = .ok (.aload_n 0, 1) := by decide +kernel
theorem dX5_racksFor_34 : decode cX5_racksFor 34 = .ok (.getfield 66, 3) := by decide +kernel
theorem dX5_racksFor_37 : decode cX5_racksFor 37 = .ok (.if_icmp .ge 37, 3) := by decide +kernel
theorem dX5_racksFor_40 : decode cX5_racksFor 40 = .ok (.iload 5, 2) := by decide +kernel
theorem dX5_racksFor_42 : decode cX5_racksFor 42 = .ok (.aload_n 0, 1) := by decide +kernel
theorem dX5_racksFor_43 : decode cX5_racksFor 43 = .ok (.iload 6, 2) := by decide +kernel
theorem dX5_racksFor_45 : decode cX5_racksFor 45 = .ok (.iload_n 1, 1) := by decide +kernel
theorem dX5_racksFor_46 : decode cX5_racksFor 46 = .ok (.iload_n 2, 1) := by decide +kernel
theorem dX5_racksFor_47 : decode cX5_racksFor 47 = .ok (.iload_n 3, 1) := by decide +kernel
theorem dX5_racksFor_48 : decode cX5_racksFor 48 = .ok (.iload 4, 2) := by decide +kernel
theorem dX5_racksFor_50 : decode cX5_racksFor 50 = .ok (.invokevirtual 111, 3) := by decide +kernel
theorem dX5_racksFor_53 : decode cX5_racksFor 53 = .ok (.iconst (-1), 1) := by decide +kernel
theorem dX5_racksFor_54 : decode cX5_racksFor 54 = .ok (.if_icmp .eq 10, 3) := by decide +kernel
theorem dX5_racksFor_57 : decode cX5_racksFor 57 = .ok (.iconst 1, 1) := by decide +kernel
theorem dX5_racksFor_58 : decode cX5_racksFor 58 = .ok (.iload 6, 2) := by decide +kernel
theorem dX5_racksFor_60 : decode cX5_racksFor 60 = .ok (.ishl, 1) := by decide +kernel
theorem dX5_racksFor_61 : decode cX5_racksFor 61 = .ok (.goto 4, 3) := by decide +kernel
theorem dX5_racksFor_64 : decode cX5_racksFor 64 = .ok (.iconst 0, 1) := by decide +kernel
theorem dX5_racksFor_65 : decode cX5_racksFor 65 = .ok (.iadd, 1) := by decide +kernel
theorem dX5_racksFor_66 : decode cX5_racksFor 66 = .ok (.istore 5, 2) := by decide +kernel
theorem dX5_racksFor_68 : decode cX5_racksFor 68 = .ok (.iinc 6 1, 3) := by decide +kernel
theorem dX5_racksFor_71 : decode cX5_racksFor 71 = .ok (.goto (-40), 3) := by decide +kernel
theorem dX5_racksFor_74 : decode cX5_racksFor 74 = .ok (.iload 5, 2) := by decide +kernel
theorem dX5_racksFor_76 : decode cX5_racksFor 76 = .ok (.ireturn, 1) := by decide +kernel
theorem dX5_within_0 : decode cX5_within 0 = .ok (.iload_n 2, 1) := by decide +kernel
theorem dX5_within_1 : decode cX5_within 1 = .ok (.ifCond .eq 10, 3) := by decide +kernel
theorem dX5_within_4 : decode cX5_within 4 = .ok (.iload_n 0, 1) := by decide +kernel
theorem dX5_within_5 : decode cX5_within 5 = .ok (.iload_n 2, 1) := by decide +kernel
theorem dX5_within_6 : decode cX5_within 6 = .ok (.imul, 1) := by decide +kernel
theorem dX5_within_7 : decode cX5_within 7 = .ok (.iload_n 1, 1) := by decide +kernel
theorem dX5_within_8 : decode cX5_within 8 = .ok (.if_icmp .gt 7, 3) := by decide +kernel
theorem dX5_within_11 : decode cX5_within 11 = .ok (.iload_n 0, 1) := by decide +kernel
theorem dX5_within_12 : decode cX5_within 12 = .ok (.goto 6, 3) := by decide +kernel
theorem dX5_within_15 : decode cX5_within 15 = .ok (.iload_n 1, 1) := by decide +kernel
theorem dX5_within_16 : decode cX5_within 16 = .ok (.iload_n 2, 1) := by decide +kernel
theorem dX5_within_17 : decode cX5_within 17 = .ok (.idiv, 1) := by decide +kernel
theorem dX5_within_18 : decode cX5_within 18 = .ok (.ireturn, 1) := by decide +kernel
theorem dX5_roomIn_0 : decode cX5_roomIn 0 = .ok (.iconst 0, 1) := by decide +kernel
theorem dX5_roomIn_1 : decode cX5_roomIn 1 = .ok (.istore 6, 2) := by decide +kernel
theorem dX5_roomIn_3 : decode cX5_roomIn 3 = .ok (.iconst 0, 1) := by decide +kernel
theorem dX5_roomIn_4 : decode cX5_roomIn 4 = .ok (.istore 7, 2) := by decide +kernel
theorem dX5_roomIn_6 : decode cX5_roomIn 6 = .ok (.iconst 0, 1) := by decide +kernel
theorem dX5_roomIn_7 : decode cX5_roomIn 7 = .ok (.istore 8, 2) := by decide +kernel
theorem dX5_roomIn_9 : decode cX5_roomIn 9 = .ok (.iload 8, 2) := by decide +kernel
theorem dX5_roomIn_11 : decode cX5_roomIn 11 = .ok (.aload_n 0, 1) := by decide +kernel
theorem dX5_roomIn_12 : decode cX5_roomIn 12 = .ok (.getfield 13, 3) := by decide +kernel
theorem dX5_roomIn_15 : decode cX5_roomIn 15 = .ok (.iload_n 1, 1) := by decide +kernel
theorem dX5_roomIn_16 : decode cX5_roomIn 16 = .ok (.iaload, 1) := by decide +kernel
theorem dX5_roomIn_17 : decode cX5_roomIn 17 = .ok (.if_icmp .ge 42, 3) := by decide +kernel
theorem dX5_roomIn_20 : decode cX5_roomIn 20 = .ok (.aload_n 0, 1) := by decide +kernel
theorem dX5_roomIn_21 : decode cX5_roomIn 21 = .ok (.iload_n 1, 1) := by decide +kernel
theorem dX5_roomIn_22 : decode cX5_roomIn 22 = .ok (.iload 8, 2) := by decide +kernel
theorem dX5_roomIn_24 : decode cX5_roomIn 24 = .ok (.invokevirtual 101, 3) := by decide +kernel
theorem dX5_roomIn_27 : decode cX5_roomIn 27 = .ok (.iconst (-1), 1) := by decide +kernel
theorem dX5_roomIn_28 : decode cX5_roomIn 28 = .ok (.if_icmp .ne 10, 3) := by decide +kernel
theorem dX5_roomIn_31 : decode cX5_roomIn 31 = .ok (.iload 7, 2) := by decide +kernel
theorem dX5_roomIn_33 : decode cX5_roomIn 33 = .ok (.iconst 1, 1) := by decide +kernel
theorem dX5_roomIn_34 : decode cX5_roomIn 34 = .ok (.iadd, 1) := by decide +kernel
theorem dX5_roomIn_35 : decode cX5_roomIn 35 = .ok (.goto 4, 3) := by decide +kernel
theorem dX5_roomIn_38 : decode cX5_roomIn 38 = .ok (.iconst 0, 1) := by decide +kernel
theorem dX5_roomIn_39 : decode cX5_roomIn 39 = .ok (.istore 7, 2) := by decide +kernel
theorem dX5_roomIn_41 : decode cX5_roomIn 41 = .ok (.iload 7, 2) := by decide +kernel
theorem dX5_roomIn_43 : decode cX5_roomIn 43 = .ok (.iload_n 2, 1) := by decide +kernel
theorem dX5_roomIn_44 : decode cX5_roomIn 44 = .ok (.if_icmp .ne 9, 3) := by decide +kernel
theorem dX5_roomIn_47 : decode cX5_roomIn 47 = .ok (.iinc 6 1, 3) := by decide +kernel
theorem dX5_roomIn_50 : decode cX5_roomIn 50 = .ok (.iconst 0, 1) := by decide +kernel
theorem dX5_roomIn_51 : decode cX5_roomIn 51 = .ok (.istore 7, 2) := by decide +kernel
theorem dX5_roomIn_53 : decode cX5_roomIn 53 = .ok (.iinc 8 1, 3) := by decide +kernel
theorem dX5_roomIn_56 : decode cX5_roomIn 56 = .ok (.goto (-47), 3) := by decide +kernel
theorem dX5_roomIn_59 : decode cX5_roomIn 59 = .ok (.iload 6, 2) := by decide +kernel
theorem dX5_roomIn_61 : decode cX5_roomIn 61 = .ok (.aload_n 0, 1) := by decide +kernel
theorem dX5_roomIn_62 : decode cX5_roomIn 62 = .ok (.getfield 16, 3) := by decide +kernel
theorem dX5_roomIn_65 : decode cX5_roomIn 65 = .ok (.iload_n 1, 1) := by decide +kernel
theorem dX5_roomIn_66 : decode cX5_roomIn 66 = .ok (.iaload, 1) := by decide +kernel
theorem dX5_roomIn_67 : decode cX5_roomIn 67 = .ok (.aload_n 0, 1) := by decide +kernel
theorem dX5_roomIn_68 : decode cX5_roomIn 68 = .ok (.iload_n 1, 1) := by decide +kernel
theorem dX5_roomIn_69 : decode cX5_roomIn 69 = .ok (.invokevirtual 80, 3) := by decide +kernel
theorem dX5_roomIn_72 : decode cX5_roomIn 72 = .ok (.isub, 1) := by decide +kernel
theorem dX5_roomIn_73 : decode cX5_roomIn 73 = .ok (.iload 4, 2) := by decide +kernel
theorem dX5_roomIn_75 : decode cX5_roomIn 75 = .ok (.invokestatic 143, 3) := by decide +kernel
theorem dX5_roomIn_78 : decode cX5_roomIn 78 = .ok (.istore 6, 2) := by decide +kernel
theorem dX5_roomIn_80 : decode cX5_roomIn 80 = .ok (.iconst 0, 1) := by decide +kernel
theorem dX5_roomIn_81 : decode cX5_roomIn 81 = .ok (.istore 8, 2) := by decide +kernel
theorem dX5_roomIn_83 : decode cX5_roomIn 83 = .ok (.iload 8, 2) := by decide +kernel
theorem dX5_roomIn_85 : decode cX5_roomIn 85 = .ok (.iconst 2, 1) := by decide +kernel
theorem dX5_roomIn_86 : decode cX5_roomIn 86 = .ok (.if_icmp .ge 46, 3) := by decide +kernel
theorem dX5_roomIn_89 : decode cX5_roomIn 89 = .ok (.iload 5, 2) := by decide +kernel
theorem dX5_roomIn_91 : decode cX5_roomIn 91 = .ok (.iload 8, 2) := by decide +kernel
theorem dX5_roomIn_93 : decode cX5_roomIn 93 = .ok (.invokestatic 76, 3) := by decide +kernel
theorem dX5_roomIn_96 : decode cX5_roomIn 96 = .ok (.ifCond .eq 26, 3) := by decide +kernel
theorem dX5_roomIn_99 : decode cX5_roomIn 99 = .ok (.iload 6, 2) := by decide +kernel
theorem dX5_roomIn_101 : decode cX5_roomIn 101 = .ok (.aload_n 0, 1) := by decide +kernel
theorem dX5_roomIn_102 : decode cX5_roomIn 102 = .ok (.getfield 19, 3) := by decide +kernel
theorem dX5_roomIn_105 : decode cX5_roomIn 105 = .ok (.iload_n 1, 1) := by decide +kernel
theorem dX5_roomIn_106 : decode cX5_roomIn 106 = .ok (.iaload, 1) := by decide +kernel
theorem dX5_roomIn_107 : decode cX5_roomIn 107 = .ok (.aload_n 0, 1) := by decide +kernel
theorem dX5_roomIn_108 : decode cX5_roomIn 108 = .ok (.iload_n 1, 1) := by decide +kernel
theorem dX5_roomIn_109 : decode cX5_roomIn 109 = .ok (.iload 8, 2) := by decide +kernel
theorem dX5_roomIn_111 : decode cX5_roomIn 111 = .ok (.invokevirtual 94, 3) := by decide +kernel
theorem dX5_roomIn_114 : decode cX5_roomIn 114 = .ok (.isub, 1) := by decide +kernel
theorem dX5_roomIn_115 : decode cX5_roomIn 115 = .ok (.iload_n 3, 1) := by decide +kernel
theorem dX5_roomIn_116 : decode cX5_roomIn 116 = .ok (.invokestatic 143, 3) := by decide +kernel
theorem dX5_roomIn_119 : decode cX5_roomIn 119 = .ok (.goto 5, 3) := by decide +kernel
theorem dX5_roomIn_122 : decode cX5_roomIn 122 = .ok (.iload 6, 2) := by decide +kernel
theorem dX5_roomIn_124 : decode cX5_roomIn 124 = .ok (.istore 6, 2) := by decide +kernel
theorem dX5_roomIn_126 : decode cX5_roomIn 126 = .ok (.iinc 8 1, 3) := by decide +kernel
theorem dX5_roomIn_129 : decode cX5_roomIn 129 = .ok (.goto (-46), 3) := by decide +kernel
theorem dX5_roomIn_132 : decode cX5_roomIn 132 = .ok (.iload 6, 2) := by decide +kernel
theorem dX5_roomIn_134 : decode cX5_roomIn 134 = .ok (.ireturn, 1) := by decide +kernel
theorem dX5_roomByCounting_0 : decode cX5_roomByCounting 0 = .ok (.aload_n 0, 1) := by decide +kernel
theorem dX5_roomByCounting_1 : decode cX5_roomByCounting 1 = .ok (.iload_n 1, 1) := by decide +kernel
theorem dX5_roomByCounting_2 : decode cX5_roomByCounting 2 = .ok (.iload_n 2, 1) := by decide +kernel
theorem dX5_roomByCounting_3 : decode cX5_roomByCounting 3 = .ok (.iload_n 3, 1) := by decide +kernel
theorem dX5_roomByCounting_4 : decode cX5_roomByCounting 4 = .ok (.iload 4, 2) := by decide +kernel
theorem dX5_roomByCounting_6 : decode cX5_roomByCounting 6 = .ok (.invokestatic 115, 3) := by decide +kernel
theorem dX5_roomByCounting_9 : decode cX5_roomByCounting 9 = .ok (.ifCond .eq 7, 3) := by decide +kernel
theorem dX5_roomByCounting_12 : decode cX5_roomByCounting 12 = .ok (.iconst 0, 1) := by decide +kernel
theorem dX5_roomByCounting_13 : decode cX5_roomByCounting 13 = .ok (.goto 4, 3) := by decide +kernel
theorem dX5_roomByCounting_16 : decode cX5_roomByCounting 16 = .ok (.iconst 1, 1) := by decide +kernel
theorem dX5_roomByCounting_17 : decode cX5_roomByCounting 17 = .ok (.invokevirtual 84, 3) := by decide +kernel
theorem dX5_roomByCounting_20 : decode cX5_roomByCounting 20 = .ok (.ifCond .ne 5, 3) := by decide +kernel
theorem dX5_roomByCounting_23 : decode cX5_roomByCounting 23 = .ok (.iconst 0, 1) := by decide +kernel
theorem dX5_roomByCounting_24 : decode cX5_roomByCounting 24 = .ok (.ireturn, 1) := by decide +kernel
theorem dX5_roomByCounting_25 : decode cX5_roomByCounting 25 = .ok (.iconst 0, 1) := by decide +kernel
theorem dX5_roomByCounting_26 : decode cX5_roomByCounting 26 = .ok (.istore 5, 2) := by decide +kernel
theorem dX5_roomByCounting_28 : decode cX5_roomByCounting 28 = .ok (.iconst 0, 1) := by decide +kernel
theorem dX5_roomByCounting_29 : decode cX5_roomByCounting 29 = .ok (.istore 6, 2) := by decide +kernel
theorem dX5_roomByCounting_31 : decode cX5_roomByCounting 31 = .ok (.iload 6, 2) := by decide +kernel
theorem dX5_roomByCounting_33 : decode cX5_roomByCounting 33 = .ok (.iconst 4, 1) := by decide +kernel
theorem dX5_roomByCounting_34 : decode cX5_roomByCounting 34 = .ok (.if_icmp .ge 109, 3) := by decide +kernel
theorem dX5_roomByCounting_37 : decode cX5_roomByCounting 37 = .ok (.iconst 0, 1) := by decide +kernel
theorem dX5_roomByCounting_38 : decode cX5_roomByCounting 38 = .ok (.istore 7, 2) := by decide +kernel
theorem dX5_roomByCounting_40 : decode cX5_roomByCounting 40 = .ok (.iconst 0, 1) := by decide +kernel
theorem dX5_roomByCounting_41 : decode cX5_roomByCounting 41 = .ok (.istore 8, 2) := by decide +kernel
theorem dX5_roomByCounting_43 : decode cX5_roomByCounting 43 = .ok (.iload 8, 2) := by decide +kernel
theorem dX5_roomByCounting_45 : decode cX5_roomByCounting 45 = .ok (.aload_n 0, 1) := by decide +kernel
theorem dX5_roomByCounting_46 : decode cX5_roomByCounting 46 = .ok (.getfield 66, 3) := by decide +kernel
theorem dX5_roomByCounting_49 : decode cX5_roomByCounting 49 = .ok (.if_icmp .ge 41, 3) := by decide +kernel
theorem dX5_roomByCounting_52 : decode cX5_roomByCounting 52 = .ok (.iload 7, 2) := by decide +kernel
theorem dX5_roomByCounting_54 : decode cX5_roomByCounting 54 = .ok (.aload_n 0, 1) := by decide +kernel
theorem dX5_roomByCounting_55 : decode cX5_roomByCounting 55 = .ok (.getfield 7, 3) := by decide +kernel
theorem dX5_roomByCounting_58 : decode cX5_roomByCounting 58 = .ok (.iload 8, 2) := by decide +kernel
theorem dX5_roomByCounting_60 : decode cX5_roomByCounting 60 = .ok (.iaload, 1) := by decide +kernel
theorem dX5_roomByCounting_61 : decode cX5_roomByCounting 61 = .ok (.iload 6, 2) := by decide +kernel
theorem dX5_roomByCounting_63 : decode cX5_roomByCounting 63 = .ok (.if_icmp .ne 17, 3) := by decide +kernel
theorem dX5_roomByCounting_66 : decode cX5_roomByCounting 66 = .ok (.aload_n 0, 1) := by decide +kernel
theorem dX5_roomByCounting_67 : decode cX5_roomByCounting 67 = .ok (.iload 8, 2) := by decide +kernel
theorem dX5_roomByCounting_69 : decode cX5_roomByCounting 69 = .ok (.iload_n 1, 1) := by decide +kernel
theorem dX5_roomByCounting_70 : decode cX5_roomByCounting 70 = .ok (.iload_n 2, 1) := by decide +kernel
theorem dX5_roomByCounting_71 : decode cX5_roomByCounting 71 = .ok (.iload_n 3, 1) := by decide +kernel
theorem dX5_roomByCounting_72 : decode cX5_roomByCounting 72 = .ok (.iload 4, 2) := by decide +kernel
theorem dX5_roomByCounting_74 : decode cX5_roomByCounting 74 = .ok (.invokevirtual 147, 3) := by decide +kernel
theorem dX5_roomByCounting_77 : decode cX5_roomByCounting 77 = .ok (.goto 4, 3) := by decide +kernel
theorem dX5_roomByCounting_80 : decode cX5_roomByCounting 80 = .ok (.iconst 0, 1) := by decide +kernel
theorem dX5_roomByCounting_81 : decode cX5_roomByCounting 81 = .ok (.iadd, 1) := by decide +kernel
theorem dX5_roomByCounting_82 : decode cX5_roomByCounting 82 = .ok (.istore 7, 2) := by decide +kernel
theorem dX5_roomByCounting_84 : decode cX5_roomByCounting 84 = .ok (.iinc 8 1, 3) := by decide +kernel
theorem dX5_roomByCounting_87 : decode cX5_roomByCounting 87 = .ok (.goto (-44), 3) := by decide +kernel
theorem dX5_roomByCounting_90 : decode cX5_roomByCounting 90 = .ok (.iload 7, 2) := by decide +kernel
theorem dX5_roomByCounting_92 : decode cX5_roomByCounting 92 = .ok (.aload_n 0, 1) := by decide +kernel
theorem dX5_roomByCounting_93 : decode cX5_roomByCounting 93 = .ok (.getfield 25, 3) := by decide +kernel
theorem dX5_roomByCounting_96 : decode cX5_roomByCounting 96 = .ok (.iload 6, 2) := by decide +kernel
theorem dX5_roomByCounting_98 : decode cX5_roomByCounting 98 = .ok (.iaload, 1) := by decide +kernel
theorem dX5_roomByCounting_99 : decode cX5_roomByCounting 99 = .ok (.aload_n 0, 1) := by decide +kernel
theorem dX5_roomByCounting_100 : decode cX5_roomByCounting 100 = .ok (.iload 6, 2) := by decide +kernel
theorem dX5_roomByCounting_102 : decode cX5_roomByCounting 102 = .ok (.invokevirtual 91, 3) := by decide +kernel
theorem dX5_roomByCounting_105 : decode cX5_roomByCounting 105 = .ok (.isub, 1) := by decide +kernel
theorem dX5_roomByCounting_106 : decode cX5_roomByCounting 106 = .ok (.iload_n 3, 1) := by decide +kernel
theorem dX5_roomByCounting_107 : decode cX5_roomByCounting 107 = .ok (.invokestatic 143, 3) := by decide +kernel
theorem dX5_roomByCounting_110 : decode cX5_roomByCounting 110 = .ok (.istore 7, 2) := by decide +kernel
theorem dX5_roomByCounting_112 : decode cX5_roomByCounting 112 = .ok (.iload 5, 2) := by decide +kernel
theorem dX5_roomByCounting_114 : decode cX5_roomByCounting 114 = .ok (.iload 7, 2) := by decide +kernel
theorem dX5_roomByCounting_116 : decode cX5_roomByCounting 116 = .ok (.aload_n 0, 1) := by decide +kernel
theorem dX5_roomByCounting_117 : decode cX5_roomByCounting 117 = .ok (.getfield 22, 3) := by decide +kernel
theorem dX5_roomByCounting_120 : decode cX5_roomByCounting 120 = .ok (.iload 6, 2) := by decide +kernel
theorem dX5_roomByCounting_122 : decode cX5_roomByCounting 122 = .ok (.iaload, 1) := by decide +kernel
theorem dX5_roomByCounting_123 : decode cX5_roomByCounting 123 = .ok (.aload_n 0, 1) := by decide +kernel
theorem dX5_roomByCounting_124 : decode cX5_roomByCounting 124 = .ok (.iload 6, 2) := by decide +kernel
theorem dX5_roomByCounting_126 : decode cX5_roomByCounting 126 = .ok (.invokevirtual 88, 3) := by decide +kernel
theorem dX5_roomByCounting_129 : decode cX5_roomByCounting 129 = .ok (.isub, 1) := by decide +kernel
theorem dX5_roomByCounting_130 : decode cX5_roomByCounting 130 = .ok (.iload_n 2, 1) := by decide +kernel
theorem dX5_roomByCounting_131 : decode cX5_roomByCounting 131 = .ok (.invokestatic 143, 3) := by decide +kernel
theorem dX5_roomByCounting_134 : decode cX5_roomByCounting 134 = .ok (.iadd, 1) := by decide +kernel
theorem dX5_roomByCounting_135 : decode cX5_roomByCounting 135 = .ok (.istore 5, 2) := by decide +kernel
theorem dX5_roomByCounting_137 : decode cX5_roomByCounting 137 = .ok (.iinc 6 1, 3) := by decide +kernel
theorem dX5_roomByCounting_140 : decode cX5_roomByCounting 140 = .ok (.goto (-109), 3) := by decide +kernel
theorem dX5_roomByCounting_143 : decode cX5_roomByCounting 143 = .ok (.iconst 0, 1) := by decide +kernel
theorem dX5_roomByCounting_144 : decode cX5_roomByCounting 144 = .ok (.istore 6, 2) := by decide +kernel
theorem dX5_roomByCounting_146 : decode cX5_roomByCounting 146 = .ok (.iload 6, 2) := by decide +kernel
theorem dX5_roomByCounting_148 : decode cX5_roomByCounting 148 = .ok (.iconst 2, 1) := by decide +kernel
theorem dX5_roomByCounting_149 : decode cX5_roomByCounting 149 = .ok (.if_icmp .ge 47, 3) := by decide +kernel
theorem dX5_roomByCounting_152 : decode cX5_roomByCounting 152 = .ok (.iload 4, 2) := by decide +kernel
theorem dX5_roomByCounting_154 : decode cX5_roomByCounting 154 = .ok (.iload 6, 2) := by decide +kernel
theorem dX5_roomByCounting_156 : decode cX5_roomByCounting 156 = .ok (.invokestatic 76, 3) := by decide +kernel
theorem dX5_roomByCounting_159 : decode cX5_roomByCounting 159 = .ok (.ifCond .eq 27, 3) := by decide +kernel
theorem dX5_roomByCounting_162 : decode cX5_roomByCounting 162 = .ok (.iload 5, 2) := by decide +kernel
theorem dX5_roomByCounting_164 : decode cX5_roomByCounting 164 = .ok (.aload_n 0, 1) := by decide +kernel
theorem dX5_roomByCounting_165 : decode cX5_roomByCounting 165 = .ok (.getfield 28, 3) := by decide +kernel
theorem dX5_roomByCounting_168 : decode cX5_roomByCounting 168 = .ok (.iload 6, 2) := by decide +kernel
theorem dX5_roomByCounting_170 : decode cX5_roomByCounting 170 = .ok (.iaload, 1) := by decide +kernel
theorem dX5_roomByCounting_171 : decode cX5_roomByCounting 171 = .ok (.aload_n 0, 1) := by decide +kernel
theorem dX5_roomByCounting_172 : decode cX5_roomByCounting 172 = .ok (.iconst (-1), 1) := by decide +kernel
theorem dX5_roomByCounting_173 : decode cX5_roomByCounting 173 = .ok (.iload 6, 2) := by decide +kernel
theorem dX5_roomByCounting_175 : decode cX5_roomByCounting 175 = .ok (.invokevirtual 94, 3) := by decide +kernel
theorem dX5_roomByCounting_178 : decode cX5_roomByCounting 178 = .ok (.isub, 1) := by decide +kernel
theorem dX5_roomByCounting_179 : decode cX5_roomByCounting 179 = .ok (.iload_n 2, 1) := by decide +kernel
theorem dX5_roomByCounting_180 : decode cX5_roomByCounting 180 = .ok (.invokestatic 143, 3) := by decide +kernel
theorem dX5_roomByCounting_183 : decode cX5_roomByCounting 183 = .ok (.goto 5, 3) := by decide +kernel
theorem dX5_roomByCounting_186 : decode cX5_roomByCounting 186 = .ok (.iload 5, 2) := by decide +kernel
theorem dX5_roomByCounting_188 : decode cX5_roomByCounting 188 = .ok (.istore 5, 2) := by decide +kernel
theorem dX5_roomByCounting_190 : decode cX5_roomByCounting 190 = .ok (.iinc 6 1, 3) := by decide +kernel
theorem dX5_roomByCounting_193 : decode cX5_roomByCounting 193 = .ok (.goto (-47), 3) := by decide +kernel
theorem dX5_roomByCounting_196 : decode cX5_roomByCounting 196 = .ok (.iload 5, 2) := by decide +kernel
theorem dX5_roomByCounting_198 : decode cX5_roomByCounting 198 = .ok (.ireturn, 1) := by decide +kernel
theorem dX5_roomFor_0 : decode cX5_roomFor 0 = .ok (.aload_n 0, 1) := by decide +kernel
theorem dX5_roomFor_1 : decode cX5_roomFor 1 = .ok (.iload_n 1, 1) := by decide +kernel
theorem dX5_roomFor_2 : decode cX5_roomFor 2 = .ok (.iload_n 2, 1) := by decide +kernel
theorem dX5_roomFor_3 : decode cX5_roomFor 3 = .ok (.iload_n 3, 1) := by decide +kernel
theorem dX5_roomFor_4 : decode cX5_roomFor 4 = .ok (.iload 4, 2) := by decide +kernel
theorem dX5_roomFor_6 : decode cX5_roomFor 6 = .ok (.invokevirtual 150, 3) := by decide +kernel
theorem dX5_roomFor_9 : decode cX5_roomFor 9 = .ok (.ireturn, 1) := by decide +kernel
end
section
theorem dL_addRack_0 : decode cL_addRack 0 = .ok (.aload 5, 2) := by decide +kernel
theorem dL_addRack_2 : decode cL_addRack 2 = .ok (.iconst 0, 1) := by decide +kernel
theorem dL_addRack_3 : decode cL_addRack 3 = .ok (.aload_n 0, 1) := by decide +kernel
theorem dL_addRack_4 : decode cL_addRack 4 = .ok (.iload_n 1, 1) := by decide +kernel
theorem dL_addRack_5 : decode cL_addRack 5 = .ok (.iload_n 2, 1) := by decide +kernel
theorem dL_addRack_6 : decode cL_addRack 6 = .ok (.iload_n 3, 1) := by decide +kernel
theorem dL_addRack_7 : decode cL_addRack 7 = .ok (.iload 4, 2) := by decide +kernel
theorem dL_addRack_9 : decode cL_addRack 9 = .ok (.invokevirtual 7, 3) := by decide +kernel
theorem dL_addRack_12 : decode cL_addRack 12 = .ok (.i2l, 1) := by decide +kernel
theorem dL_addRack_13 : decode cL_addRack 13 = .ok (.lastore, 1) := by decide +kernel
theorem dL_addRack_14 : decode cL_addRack 14 = .ok (.goto 11, 3) := by decide +kernel
theorem dL_addRack_17 : decode cL_addRack 17 = .ok (.astore 6, 2) := by decide +kernel
theorem dL_addRack_19 : decode cL_addRack 19 = .ok (.iconst 1, 1) := by decide +kernel
theorem dL_addRack_20 : decode cL_addRack 20 = .ok (.ireturn, 1) := by decide +kernel
theorem dL_addRack_21 : decode cL_addRack 21 = .ok (.astore 6, 2) := by decide +kernel
theorem dL_addRack_23 : decode cL_addRack 23 = .ok (.iconst 2, 1) := by decide +kernel
theorem dL_addRack_24 : decode cL_addRack 24 = .ok (.ireturn, 1) := by decide +kernel
theorem dL_addRack_25 : decode cL_addRack 25 = .ok (.iconst 0, 1) := by decide +kernel
theorem dL_addRack_26 : decode cL_addRack 26 = .ok (.ireturn, 1) := by decide +kernel
theorem dL_setRow_0 : decode cL_setRow 0 = .ok (.aload_n 0, 1) := by decide +kernel
theorem dL_setRow_1 : decode cL_setRow 1 = .ok (.iload_n 1, 1) := by decide +kernel
theorem dL_setRow_2 : decode cL_setRow 2 = .ok (.iload_n 2, 1) := by decide +kernel
theorem dL_setRow_3 : decode cL_setRow 3 = .ok (.iload_n 3, 1) := by decide +kernel
theorem dL_setRow_4 : decode cL_setRow 4 = .ok (.invokevirtual 17, 3) := by decide +kernel
theorem dL_setRow_7 : decode cL_setRow 7 = .ok (.goto 11, 3) := by decide +kernel
theorem dL_setRow_10 : decode cL_setRow 10 = .ok (.astore 4, 2) := by decide +kernel
theorem dL_setRow_12 : decode cL_setRow 12 = .ok (.iconst 1, 1) := by decide +kernel
theorem dL_setRow_13 : decode cL_setRow 13 = .ok (.ireturn, 1) := by decide +kernel
theorem dL_setRow_14 : decode cL_setRow 14 = .ok (.astore 4, 2) := by decide +kernel
theorem dL_setRow_16 : decode cL_setRow 16 = .ok (.iconst 2, 1) := by decide +kernel
theorem dL_setRow_17 : decode cL_setRow 17 = .ok (.ireturn, 1) := by decide +kernel
theorem dL_setRow_18 : decode cL_setRow 18 = .ok (.iconst 0, 1) := by decide +kernel
theorem dL_setRow_19 : decode cL_setRow 19 = .ok (.ireturn, 1) := by decide +kernel
theorem dL_setFeed_0 : decode cL_setFeed 0 = .ok (.aload_n 3, 1) := by decide +kernel
theorem dL_setFeed_1 : decode cL_setFeed 1 = .ok (.iconst 0, 1) := by decide +kernel
theorem dL_setFeed_2 : decode cL_setFeed 2 = .ok (.aload_n 0, 1) := by decide +kernel
theorem dL_setFeed_3 : decode cL_setFeed 3 = .ok (.iload_n 1, 1) := by decide +kernel
theorem dL_setFeed_4 : decode cL_setFeed 4 = .ok (.iload_n 2, 1) := by decide +kernel
theorem dL_setFeed_5 : decode cL_setFeed 5 = .ok (.invokevirtual 21, 3) := by decide +kernel
theorem dL_setFeed_8 : decode cL_setFeed 8 = .ok (.i2l, 1) := by decide +kernel
theorem dL_setFeed_9 : decode cL_setFeed 9 = .ok (.lastore, 1) := by decide +kernel
theorem dL_setFeed_10 : decode cL_setFeed 10 = .ok (.goto 11, 3) := by decide +kernel
theorem dL_setFeed_13 : decode cL_setFeed 13 = .ok (.astore 4, 2) := by decide +kernel
theorem dL_setFeed_15 : decode cL_setFeed 15 = .ok (.iconst 1, 1) := by decide +kernel
theorem dL_setFeed_16 : decode cL_setFeed 16 = .ok (.ireturn, 1) := by decide +kernel
theorem dL_setFeed_17 : decode cL_setFeed 17 = .ok (.astore 4, 2) := by decide +kernel
theorem dL_setFeed_19 : decode cL_setFeed 19 = .ok (.iconst 2, 1) := by decide +kernel
theorem dL_setFeed_20 : decode cL_setFeed 20 = .ok (.ireturn, 1) := by decide +kernel
theorem dL_setFeed_21 : decode cL_setFeed 21 = .ok (.iconst 0, 1) := by decide +kernel
theorem dL_setFeed_22 : decode cL_setFeed 22 = .ok (.ireturn, 1) := by decide +kernel
theorem dL_switchFeed_0 : decode cL_switchFeed 0 = .ok (.aload_n 2, 1) := by decide +kernel
theorem dL_switchFeed_1 : decode cL_switchFeed 1 = .ok (.iconst 0, 1) := by decide +kernel
theorem dL_switchFeed_2 : decode cL_switchFeed 2 = .ok (.aload_n 0, 1) := by decide +kernel
theorem dL_switchFeed_3 : decode cL_switchFeed 3 = .ok (.iload_n 1, 1) := by decide +kernel
theorem dL_switchFeed_4 : decode cL_switchFeed 4 = .ok (.invokevirtual 25, 3) := by decide +kernel
theorem dL_switchFeed_7 : decode cL_switchFeed 7 = .ok (.i2l, 1) := by decide +kernel
theorem dL_switchFeed_8 : decode cL_switchFeed 8 = .ok (.lastore, 1) := by decide +kernel
theorem dL_switchFeed_9 : decode cL_switchFeed 9 = .ok (.goto 6, 3) := by decide +kernel
theorem dL_switchFeed_12 : decode cL_switchFeed 12 = .ok (.astore_n 3, 1) := by decide +kernel
theorem dL_switchFeed_13 : decode cL_switchFeed 13 = .ok (.iconst 1, 1) := by decide +kernel
theorem dL_switchFeed_14 : decode cL_switchFeed 14 = .ok (.ireturn, 1) := by decide +kernel
theorem dL_switchFeed_15 : decode cL_switchFeed 15 = .ok (.iconst 0, 1) := by decide +kernel
theorem dL_switchFeed_16 : decode cL_switchFeed 16 = .ok (.ireturn, 1) := by decide +kernel
theorem dL_hasFailed_0 : decode cL_hasFailed 0 = .ok (.aload_n 2, 1) := by decide +kernel
theorem dL_hasFailed_1 : decode cL_hasFailed 1 = .ok (.iconst 0, 1) := by decide +kernel
theorem dL_hasFailed_2 : decode cL_hasFailed 2 = .ok (.aload_n 0, 1) := by decide +kernel
theorem dL_hasFailed_3 : decode cL_hasFailed 3 = .ok (.iload_n 1, 1) := by decide +kernel
theorem dL_hasFailed_4 : decode cL_hasFailed 4 = .ok (.invokevirtual 29, 3) := by decide +kernel
theorem dL_hasFailed_7 : decode cL_hasFailed 7 = .ok (.ifCond .eq 7, 3) := by decide +kernel
theorem dL_hasFailed_10 : decode cL_hasFailed 10 = .ok (.lconst 1, 1) := by decide +kernel
theorem dL_hasFailed_11 : decode cL_hasFailed 11 = .ok (.goto 4, 3) := by decide +kernel
theorem dL_hasFailed_14 : decode cL_hasFailed 14 = .ok (.lconst 0, 1) := by decide +kernel
theorem dL_hasFailed_15 : decode cL_hasFailed 15 = .ok (.lastore, 1) := by decide +kernel
theorem dL_hasFailed_16 : decode cL_hasFailed 16 = .ok (.goto 6, 3) := by decide +kernel
theorem dL_hasFailed_19 : decode cL_hasFailed 19 = .ok (.astore_n 3, 1) := by decide +kernel
theorem dL_hasFailed_20 : decode cL_hasFailed 20 = .ok (.iconst 1, 1) := by decide +kernel
theorem dL_hasFailed_21 : decode cL_hasFailed 21 = .ok (.ireturn, 1) := by decide +kernel
theorem dL_hasFailed_22 : decode cL_hasFailed 22 = .ok (.iconst 0, 1) := by decide +kernel
theorem dL_hasFailed_23 : decode cL_hasFailed 23 = .ok (.ireturn, 1) := by decide +kernel
theorem dL_place_0 : decode cL_place 0 = .ok (.aload 5, 2) := by decide +kernel
theorem dL_place_2 : decode cL_place 2 = .ok (.iconst 0, 1) := by decide +kernel
theorem dL_place_3 : decode cL_place 3 = .ok (.aload_n 0, 1) := by decide +kernel
theorem dL_place_4 : decode cL_place 4 = .ok (.iload_n 1, 1) := by decide +kernel
theorem dL_place_5 : decode cL_place 5 = .ok (.iload_n 2, 1) := by decide +kernel
theorem dL_place_6 : decode cL_place 6 = .ok (.iload_n 3, 1) := by decide +kernel
theorem dL_place_7 : decode cL_place 7 = .ok (.iload 4, 2) := by decide +kernel
theorem dL_place_9 : decode cL_place 9 = .ok (.invokevirtual 33, 3) := by decide +kernel
theorem dL_place_12 : decode cL_place 12 = .ok (.i2l, 1) := by decide +kernel
theorem dL_place_13 : decode cL_place 13 = .ok (.lastore, 1) := by decide +kernel
theorem dL_place_14 : decode cL_place 14 = .ok (.goto 11, 3) := by decide +kernel
theorem dL_place_17 : decode cL_place 17 = .ok (.astore 6, 2) := by decide +kernel
theorem dL_place_19 : decode cL_place 19 = .ok (.iconst 1, 1) := by decide +kernel
theorem dL_place_20 : decode cL_place 20 = .ok (.ireturn, 1) := by decide +kernel
theorem dL_place_21 : decode cL_place 21 = .ok (.astore 6, 2) := by decide +kernel
theorem dL_place_23 : decode cL_place 23 = .ok (.iconst 2, 1) := by decide +kernel
theorem dL_place_24 : decode cL_place 24 = .ok (.ireturn, 1) := by decide +kernel
theorem dL_place_25 : decode cL_place 25 = .ok (.iconst 0, 1) := by decide +kernel
theorem dL_place_26 : decode cL_place 26 = .ok (.ireturn, 1) := by decide +kernel
theorem dL_takeOut_0 : decode cL_takeOut 0 = .ok (.aload_n 2, 1) := by decide +kernel
theorem dL_takeOut_1 : decode cL_takeOut 1 = .ok (.iconst 0, 1) := by decide +kernel
theorem dL_takeOut_2 : decode cL_takeOut 2 = .ok (.aload_n 0, 1) := by decide +kernel
theorem dL_takeOut_3 : decode cL_takeOut 3 = .ok (.iload_n 1, 1) := by decide +kernel
theorem dL_takeOut_4 : decode cL_takeOut 4 = .ok (.invokevirtual 36, 3) := by decide +kernel
theorem dL_takeOut_7 : decode cL_takeOut 7 = .ok (.i2l, 1) := by decide +kernel
theorem dL_takeOut_8 : decode cL_takeOut 8 = .ok (.lastore, 1) := by decide +kernel
theorem dL_takeOut_9 : decode cL_takeOut 9 = .ok (.goto 6, 3) := by decide +kernel
theorem dL_takeOut_12 : decode cL_takeOut 12 = .ok (.astore_n 3, 1) := by decide +kernel
theorem dL_takeOut_13 : decode cL_takeOut 13 = .ok (.iconst 1, 1) := by decide +kernel
theorem dL_takeOut_14 : decode cL_takeOut 14 = .ok (.ireturn, 1) := by decide +kernel
theorem dL_takeOut_15 : decode cL_takeOut 15 = .ok (.iconst 0, 1) := by decide +kernel
theorem dL_takeOut_16 : decode cL_takeOut 16 = .ok (.ireturn, 1) := by decide +kernel
theorem dL_cord_0 : decode cL_cord 0 = .ok (.aload_n 3, 1) := by decide +kernel
theorem dL_cord_1 : decode cL_cord 1 = .ok (.iconst 0, 1) := by decide +kernel
theorem dL_cord_2 : decode cL_cord 2 = .ok (.aload_n 0, 1) := by decide +kernel
theorem dL_cord_3 : decode cL_cord 3 = .ok (.iload_n 1, 1) := by decide +kernel
theorem dL_cord_4 : decode cL_cord 4 = .ok (.iload_n 2, 1) := by decide +kernel
theorem dL_cord_5 : decode cL_cord 5 = .ok (.invokevirtual 41, 3) := by decide +kernel
theorem dL_cord_8 : decode cL_cord 8 = .ok (.i2l, 1) := by decide +kernel
theorem dL_cord_9 : decode cL_cord 9 = .ok (.lastore, 1) := by decide +kernel
theorem dL_cord_10 : decode cL_cord 10 = .ok (.goto 15, 3) := by decide +kernel
theorem dL_cord_13 : decode cL_cord 13 = .ok (.astore 4, 2) := by decide +kernel
theorem dL_cord_15 : decode cL_cord 15 = .ok (.iconst 1, 1) := by decide +kernel
theorem dL_cord_16 : decode cL_cord 16 = .ok (.ireturn, 1) := by decide +kernel
theorem dL_cord_17 : decode cL_cord 17 = .ok (.astore 4, 2) := by decide +kernel
theorem dL_cord_19 : decode cL_cord 19 = .ok (.iconst 2, 1) := by decide +kernel
theorem dL_cord_20 : decode cL_cord 20 = .ok (.ireturn, 1) := by decide +kernel
theorem dL_cord_21 : decode cL_cord 21 = .ok (.astore 4, 2) := by decide +kernel
theorem dL_cord_23 : decode cL_cord 23 = .ok (.iconst 3, 1) := by decide +kernel
theorem dL_cord_24 : decode cL_cord 24 = .ok (.ireturn, 1) := by decide +kernel
theorem dL_cord_25 : decode cL_cord 25 = .ok (.iconst 0, 1) := by decide +kernel
theorem dL_cord_26 : decode cL_cord 26 = .ok (.ireturn, 1) := by decide +kernel
theorem dL_rackOf_0 : decode cL_rackOf 0 = .ok (.aload_n 2, 1) := by decide +kernel
theorem dL_rackOf_1 : decode cL_rackOf 1 = .ok (.iconst 0, 1) := by decide +kernel
theorem dL_rackOf_2 : decode cL_rackOf 2 = .ok (.aload_n 0, 1) := by decide +kernel
theorem dL_rackOf_3 : decode cL_rackOf 3 = .ok (.iload_n 1, 1) := by decide +kernel
theorem dL_rackOf_4 : decode cL_rackOf 4 = .ok (.invokevirtual 44, 3) := by decide +kernel
theorem dL_rackOf_7 : decode cL_rackOf 7 = .ok (.i2l, 1) := by decide +kernel
theorem dL_rackOf_8 : decode cL_rackOf 8 = .ok (.lastore, 1) := by decide +kernel
theorem dL_rackOf_9 : decode cL_rackOf 9 = .ok (.goto 6, 3) := by decide +kernel
theorem dL_rackOf_12 : decode cL_rackOf 12 = .ok (.astore_n 3, 1) := by decide +kernel
theorem dL_rackOf_13 : decode cL_rackOf 13 = .ok (.iconst 1, 1) := by decide +kernel
theorem dL_rackOf_14 : decode cL_rackOf 14 = .ok (.ireturn, 1) := by decide +kernel
theorem dL_rackOf_15 : decode cL_rackOf 15 = .ok (.iconst 0, 1) := by decide +kernel
theorem dL_rackOf_16 : decode cL_rackOf 16 = .ok (.ireturn, 1) := by decide +kernel
theorem dL_slotOf_0 : decode cL_slotOf 0 = .ok (.aload_n 2, 1) := by decide +kernel
theorem dL_slotOf_1 : decode cL_slotOf 1 = .ok (.iconst 0, 1) := by decide +kernel
theorem dL_slotOf_2 : decode cL_slotOf 2 = .ok (.aload_n 0, 1) := by decide +kernel
theorem dL_slotOf_3 : decode cL_slotOf 3 = .ok (.iload_n 1, 1) := by decide +kernel
theorem dL_slotOf_4 : decode cL_slotOf 4 = .ok (.invokevirtual 47, 3) := by decide +kernel
theorem dL_slotOf_7 : decode cL_slotOf 7 = .ok (.i2l, 1) := by decide +kernel
theorem dL_slotOf_8 : decode cL_slotOf 8 = .ok (.lastore, 1) := by decide +kernel
theorem dL_slotOf_9 : decode cL_slotOf 9 = .ok (.goto 6, 3) := by decide +kernel
theorem dL_slotOf_12 : decode cL_slotOf 12 = .ok (.astore_n 3, 1) := by decide +kernel
theorem dL_slotOf_13 : decode cL_slotOf 13 = .ok (.iconst 1, 1) := by decide +kernel
theorem dL_slotOf_14 : decode cL_slotOf 14 = .ok (.ireturn, 1) := by decide +kernel
theorem dL_slotOf_15 : decode cL_slotOf 15 = .ok (.iconst 0, 1) := by decide +kernel
theorem dL_slotOf_16 : decode cL_slotOf 16 = .ok (.ireturn, 1) := by decide +kernel
theorem dL_isDark_0 : decode cL_isDark 0 = .ok (.aload_n 2, 1) := by decide +kernel
theorem dL_isDark_1 : decode cL_isDark 1 = .ok (.iconst 0, 1) := by decide +kernel
theorem dL_isDark_2 : decode cL_isDark 2 = .ok (.aload_n 0, 1) := by decide +kernel
theorem dL_isDark_3 : decode cL_isDark 3 = .ok (.iload_n 1, 1) := by decide +kernel
theorem dL_isDark_4 : decode cL_isDark 4 = .ok (.invokevirtual 50, 3) := by decide +kernel
theorem dL_isDark_7 : decode cL_isDark 7 = .ok (.ifCond .eq 7, 3) := by decide +kernel
theorem dL_isDark_10 : decode cL_isDark 10 = .ok (.lconst 1, 1) := by decide +kernel
theorem dL_isDark_11 : decode cL_isDark 11 = .ok (.goto 4, 3) := by decide +kernel
theorem dL_isDark_14 : decode cL_isDark 14 = .ok (.lconst 0, 1) := by decide +kernel
theorem dL_isDark_15 : decode cL_isDark 15 = .ok (.lastore, 1) := by decide +kernel
theorem dL_isDark_16 : decode cL_isDark 16 = .ok (.goto 6, 3) := by decide +kernel
theorem dL_isDark_19 : decode cL_isDark 19 = .ok (.astore_n 3, 1) := by decide +kernel
theorem dL_isDark_20 : decode cL_isDark 20 = .ok (.iconst 1, 1) := by decide +kernel
theorem dL_isDark_21 : decode cL_isDark 21 = .ok (.ireturn, 1) := by decide +kernel
theorem dL_isDark_22 : decode cL_isDark 22 = .ok (.iconst 0, 1) := by decide +kernel
theorem dL_isDark_23 : decode cL_isDark 23 = .ok (.ireturn, 1) := by decide +kernel
theorem dL_machineAt_0 : decode cL_machineAt 0 = .ok (.aload_n 3, 1) := by decide +kernel
theorem dL_machineAt_1 : decode cL_machineAt 1 = .ok (.iconst 0, 1) := by decide +kernel
theorem dL_machineAt_2 : decode cL_machineAt 2 = .ok (.aload_n 0, 1) := by decide +kernel
theorem dL_machineAt_3 : decode cL_machineAt 3 = .ok (.iload_n 1, 1) := by decide +kernel
theorem dL_machineAt_4 : decode cL_machineAt 4 = .ok (.iload_n 2, 1) := by decide +kernel
theorem dL_machineAt_5 : decode cL_machineAt 5 = .ok (.invokevirtual 53, 3) := by decide +kernel
theorem dL_machineAt_8 : decode cL_machineAt 8 = .ok (.i2l, 1) := by decide +kernel
theorem dL_machineAt_9 : decode cL_machineAt 9 = .ok (.lastore, 1) := by decide +kernel
theorem dL_machineAt_10 : decode cL_machineAt 10 = .ok (.goto 7, 3) := by decide +kernel
theorem dL_machineAt_13 : decode cL_machineAt 13 = .ok (.astore 4, 2) := by decide +kernel
theorem dL_machineAt_15 : decode cL_machineAt 15 = .ok (.iconst 1, 1) := by decide +kernel
theorem dL_machineAt_16 : decode cL_machineAt 16 = .ok (.ireturn, 1) := by decide +kernel
theorem dL_machineAt_17 : decode cL_machineAt 17 = .ok (.iconst 0, 1) := by decide +kernel
theorem dL_machineAt_18 : decode cL_machineAt 18 = .ok (.ireturn, 1) := by decide +kernel
theorem dL_next_0 : decode cL_next 0 = .ok (.aload_n 2, 1) := by decide +kernel
theorem dL_next_1 : decode cL_next 1 = .ok (.iconst 0, 1) := by decide +kernel
theorem dL_next_2 : decode cL_next 2 = .ok (.aload_n 0, 1) := by decide +kernel
theorem dL_next_3 : decode cL_next 3 = .ok (.iload_n 1, 1) := by decide +kernel
theorem dL_next_4 : decode cL_next 4 = .ok (.invokevirtual 56, 3) := by decide +kernel
theorem dL_next_7 : decode cL_next 7 = .ok (.i2l, 1) := by decide +kernel
theorem dL_next_8 : decode cL_next 8 = .ok (.lastore, 1) := by decide +kernel
theorem dL_next_9 : decode cL_next 9 = .ok (.goto 6, 3) := by decide +kernel
theorem dL_next_12 : decode cL_next 12 = .ok (.astore_n 3, 1) := by decide +kernel
theorem dL_next_13 : decode cL_next 13 = .ok (.iconst 1, 1) := by decide +kernel
theorem dL_next_14 : decode cL_next 14 = .ok (.ireturn, 1) := by decide +kernel
theorem dL_next_15 : decode cL_next 15 = .ok (.iconst 0, 1) := by decide +kernel
theorem dL_next_16 : decode cL_next 16 = .ok (.ireturn, 1) := by decide +kernel
theorem dL_powerOf_0 : decode cL_powerOf 0 = .ok (.aload_n 3, 1) := by decide +kernel
theorem dL_powerOf_1 : decode cL_powerOf 1 = .ok (.iconst 0, 1) := by decide +kernel
theorem dL_powerOf_2 : decode cL_powerOf 2 = .ok (.aload_n 0, 1) := by decide +kernel
theorem dL_powerOf_3 : decode cL_powerOf 3 = .ok (.iload_n 1, 1) := by decide +kernel
theorem dL_powerOf_4 : decode cL_powerOf 4 = .ok (.iload_n 2, 1) := by decide +kernel
theorem dL_powerOf_5 : decode cL_powerOf 5 = .ok (.invokevirtual 59, 3) := by decide +kernel
theorem dL_powerOf_8 : decode cL_powerOf 8 = .ok (.i2l, 1) := by decide +kernel
theorem dL_powerOf_9 : decode cL_powerOf 9 = .ok (.lastore, 1) := by decide +kernel
theorem dL_powerOf_10 : decode cL_powerOf 10 = .ok (.goto 11, 3) := by decide +kernel
theorem dL_powerOf_13 : decode cL_powerOf 13 = .ok (.astore 4, 2) := by decide +kernel
theorem dL_powerOf_15 : decode cL_powerOf 15 = .ok (.iconst 1, 1) := by decide +kernel
theorem dL_powerOf_16 : decode cL_powerOf 16 = .ok (.ireturn, 1) := by decide +kernel
theorem dL_powerOf_17 : decode cL_powerOf 17 = .ok (.astore 4, 2) := by decide +kernel
theorem dL_powerOf_19 : decode cL_powerOf 19 = .ok (.iconst 2, 1) := by decide +kernel
theorem dL_powerOf_20 : decode cL_powerOf 20 = .ok (.ireturn, 1) := by decide +kernel
theorem dL_powerOf_21 : decode cL_powerOf 21 = .ok (.iconst 0, 1) := by decide +kernel
theorem dL_powerOf_22 : decode cL_powerOf 22 = .ok (.ireturn, 1) := by decide +kernel
theorem dL_worstOf_0 : decode cL_worstOf 0 = .ok (.aload_n 3, 1) := by decide +kernel
theorem dL_worstOf_1 : decode cL_worstOf 1 = .ok (.iconst 0, 1) := by decide +kernel
theorem dL_worstOf_2 : decode cL_worstOf 2 = .ok (.aload_n 0, 1) := by decide +kernel
theorem dL_worstOf_3 : decode cL_worstOf 3 = .ok (.iload_n 1, 1) := by decide +kernel
theorem dL_worstOf_4 : decode cL_worstOf 4 = .ok (.iload_n 2, 1) := by decide +kernel
theorem dL_worstOf_5 : decode cL_worstOf 5 = .ok (.invokevirtual 62, 3) := by decide +kernel
theorem dL_worstOf_8 : decode cL_worstOf 8 = .ok (.i2l, 1) := by decide +kernel
theorem dL_worstOf_9 : decode cL_worstOf 9 = .ok (.lastore, 1) := by decide +kernel
theorem dL_worstOf_10 : decode cL_worstOf 10 = .ok (.goto 11, 3) := by decide +kernel
theorem dL_worstOf_13 : decode cL_worstOf 13 = .ok (.astore 4, 2) := by decide +kernel
theorem dL_worstOf_15 : decode cL_worstOf 15 = .ok (.iconst 1, 1) := by decide +kernel
theorem dL_worstOf_16 : decode cL_worstOf 16 = .ok (.ireturn, 1) := by decide +kernel
theorem dL_worstOf_17 : decode cL_worstOf 17 = .ok (.astore 4, 2) := by decide +kernel
theorem dL_worstOf_19 : decode cL_worstOf 19 = .ok (.iconst 2, 1) := by decide +kernel
theorem dL_worstOf_20 : decode cL_worstOf 20 = .ok (.ireturn, 1) := by decide +kernel
theorem dL_worstOf_21 : decode cL_worstOf 21 = .ok (.iconst 0, 1) := by decide +kernel
theorem dL_worstOf_22 : decode cL_worstOf 22 = .ok (.ireturn, 1) := by decide +kernel
theorem dL_weightOf_0 : decode cL_weightOf 0 = .ok (.aload_n 2, 1) := by decide +kernel
theorem dL_weightOf_1 : decode cL_weightOf 1 = .ok (.iconst 0, 1) := by decide +kernel
theorem dL_weightOf_2 : decode cL_weightOf 2 = .ok (.aload_n 0, 1) := by decide +kernel
theorem dL_weightOf_3 : decode cL_weightOf 3 = .ok (.iload_n 1, 1) := by decide +kernel
theorem dL_weightOf_4 : decode cL_weightOf 4 = .ok (.invokevirtual 65, 3) := by decide +kernel
theorem dL_weightOf_7 : decode cL_weightOf 7 = .ok (.i2l, 1) := by decide +kernel
theorem dL_weightOf_8 : decode cL_weightOf 8 = .ok (.lastore, 1) := by decide +kernel
theorem dL_weightOf_9 : decode cL_weightOf 9 = .ok (.goto 6, 3) := by decide +kernel
theorem dL_weightOf_12 : decode cL_weightOf 12 = .ok (.astore_n 3, 1) := by decide +kernel
theorem dL_weightOf_13 : decode cL_weightOf 13 = .ok (.iconst 1, 1) := by decide +kernel
theorem dL_weightOf_14 : decode cL_weightOf 14 = .ok (.ireturn, 1) := by decide +kernel
theorem dL_weightOf_15 : decode cL_weightOf 15 = .ok (.iconst 0, 1) := by decide +kernel
theorem dL_weightOf_16 : decode cL_weightOf 16 = .ok (.ireturn, 1) := by decide +kernel
theorem dL_heatOf_0 : decode cL_heatOf 0 = .ok (.aload_n 2, 1) := by decide +kernel
theorem dL_heatOf_1 : decode cL_heatOf 1 = .ok (.iconst 0, 1) := by decide +kernel
theorem dL_heatOf_2 : decode cL_heatOf 2 = .ok (.aload_n 0, 1) := by decide +kernel
theorem dL_heatOf_3 : decode cL_heatOf 3 = .ok (.iload_n 1, 1) := by decide +kernel
theorem dL_heatOf_4 : decode cL_heatOf 4 = .ok (.invokevirtual 68, 3) := by decide +kernel
theorem dL_heatOf_7 : decode cL_heatOf 7 = .ok (.i2l, 1) := by decide +kernel
theorem dL_heatOf_8 : decode cL_heatOf 8 = .ok (.lastore, 1) := by decide +kernel
theorem dL_heatOf_9 : decode cL_heatOf 9 = .ok (.goto 6, 3) := by decide +kernel
theorem dL_heatOf_12 : decode cL_heatOf 12 = .ok (.astore_n 3, 1) := by decide +kernel
theorem dL_heatOf_13 : decode cL_heatOf 13 = .ok (.iconst 1, 1) := by decide +kernel
theorem dL_heatOf_14 : decode cL_heatOf 14 = .ok (.ireturn, 1) := by decide +kernel
theorem dL_heatOf_15 : decode cL_heatOf 15 = .ok (.iconst 0, 1) := by decide +kernel
theorem dL_heatOf_16 : decode cL_heatOf 16 = .ok (.ireturn, 1) := by decide +kernel
theorem dL_gap_0 : decode cL_gap 0 = .ok (.aload_n 2, 1) := by decide +kernel
theorem dL_gap_1 : decode cL_gap 1 = .ok (.iconst 0, 1) := by decide +kernel
theorem dL_gap_2 : decode cL_gap 2 = .ok (.aload_n 0, 1) := by decide +kernel
theorem dL_gap_3 : decode cL_gap 3 = .ok (.iload_n 1, 1) := by decide +kernel
theorem dL_gap_4 : decode cL_gap 4 = .ok (.invokevirtual 71, 3) := by decide +kernel
theorem dL_gap_7 : decode cL_gap 7 = .ok (.i2l, 1) := by decide +kernel
theorem dL_gap_8 : decode cL_gap 8 = .ok (.lastore, 1) := by decide +kernel
theorem dL_gap_9 : decode cL_gap 9 = .ok (.goto 6, 3) := by decide +kernel
theorem dL_gap_12 : decode cL_gap 12 = .ok (.astore_n 3, 1) := by decide +kernel
theorem dL_gap_13 : decode cL_gap 13 = .ok (.iconst 1, 1) := by decide +kernel
theorem dL_gap_14 : decode cL_gap 14 = .ok (.ireturn, 1) := by decide +kernel
theorem dL_gap_15 : decode cL_gap 15 = .ok (.iconst 0, 1) := by decide +kernel
theorem dL_gap_16 : decode cL_gap 16 = .ok (.ireturn, 1) := by decide +kernel
theorem dL_racksFor_0 : decode cL_racksFor 0 = .ok (.aload 5, 2) := by decide +kernel
theorem dL_racksFor_2 : decode cL_racksFor 2 = .ok (.iconst 0, 1) := by decide +kernel
theorem dL_racksFor_3 : decode cL_racksFor 3 = .ok (.aload_n 0, 1) := by decide +kernel
theorem dL_racksFor_4 : decode cL_racksFor 4 = .ok (.iload_n 1, 1) := by decide +kernel
theorem dL_racksFor_5 : decode cL_racksFor 5 = .ok (.iload_n 2, 1) := by decide +kernel
theorem dL_racksFor_6 : decode cL_racksFor 6 = .ok (.iload_n 3, 1) := by decide +kernel
theorem dL_racksFor_7 : decode cL_racksFor 7 = .ok (.iload 4, 2) := by decide +kernel
theorem dL_racksFor_9 : decode cL_racksFor 9 = .ok (.invokevirtual 74, 3) := by decide +kernel
theorem dL_racksFor_12 : decode cL_racksFor 12 = .ok (.i2l, 1) := by decide +kernel
theorem dL_racksFor_13 : decode cL_racksFor 13 = .ok (.lastore, 1) := by decide +kernel
theorem dL_racksFor_14 : decode cL_racksFor 14 = .ok (.goto 7, 3) := by decide +kernel
theorem dL_racksFor_17 : decode cL_racksFor 17 = .ok (.astore 6, 2) := by decide +kernel
theorem dL_racksFor_19 : decode cL_racksFor 19 = .ok (.iconst 1, 1) := by decide +kernel
theorem dL_racksFor_20 : decode cL_racksFor 20 = .ok (.ireturn, 1) := by decide +kernel
theorem dL_racksFor_21 : decode cL_racksFor 21 = .ok (.iconst 0, 1) := by decide +kernel
theorem dL_racksFor_22 : decode cL_racksFor 22 = .ok (.ireturn, 1) := by decide +kernel
theorem dL_roomFor_0 : decode cL_roomFor 0 = .ok (.aload 5, 2) := by decide +kernel
theorem dL_roomFor_2 : decode cL_roomFor 2 = .ok (.iconst 0, 1) := by decide +kernel
theorem dL_roomFor_3 : decode cL_roomFor 3 = .ok (.aload_n 0, 1) := by decide +kernel
theorem dL_roomFor_4 : decode cL_roomFor 4 = .ok (.iload_n 1, 1) := by decide +kernel
theorem dL_roomFor_5 : decode cL_roomFor 5 = .ok (.iload_n 2, 1) := by decide +kernel
theorem dL_roomFor_6 : decode cL_roomFor 6 = .ok (.iload_n 3, 1) := by decide +kernel
theorem dL_roomFor_7 : decode cL_roomFor 7 = .ok (.iload 4, 2) := by decide +kernel
theorem dL_roomFor_9 : decode cL_roomFor 9 = .ok (.invokevirtual 77, 3) := by decide +kernel
theorem dL_roomFor_12 : decode cL_roomFor 12 = .ok (.i2l, 1) := by decide +kernel
theorem dL_roomFor_13 : decode cL_roomFor 13 = .ok (.lastore, 1) := by decide +kernel
theorem dL_roomFor_14 : decode cL_roomFor 14 = .ok (.goto 7, 3) := by decide +kernel
theorem dL_roomFor_17 : decode cL_roomFor 17 = .ok (.astore 6, 2) := by decide +kernel
theorem dL_roomFor_19 : decode cL_roomFor 19 = .ok (.iconst 1, 1) := by decide +kernel
theorem dL_roomFor_20 : decode cL_roomFor 20 = .ok (.ireturn, 1) := by decide +kernel
theorem dL_roomFor_21 : decode cL_roomFor 21 = .ok (.iconst 0, 1) := by decide +kernel
theorem dL_roomFor_22 : decode cL_roomFor 22 = .ok (.ireturn, 1) := by decide +kernel
theorem dL_roomByCounting_0 : decode cL_roomByCounting 0 = .ok (.aload 5, 2) := by decide +kernel
theorem dL_roomByCounting_2 : decode cL_roomByCounting 2 = .ok (.iconst 0, 1) := by decide +kernel
theorem dL_roomByCounting_3 : decode cL_roomByCounting 3 = .ok (.aload_n 0, 1) := by decide +kernel
theorem dL_roomByCounting_4 : decode cL_roomByCounting 4 = .ok (.iload_n 1, 1) := by decide +kernel
theorem dL_roomByCounting_5 : decode cL_roomByCounting 5 = .ok (.iload_n 2, 1) := by decide +kernel
theorem dL_roomByCounting_6 : decode cL_roomByCounting 6 = .ok (.iload_n 3, 1) := by decide +kernel
theorem dL_roomByCounting_7 : decode cL_roomByCounting 7 = .ok (.iload 4, 2) := by decide +kernel
theorem dL_roomByCounting_9 : decode cL_roomByCounting 9 = .ok (.invokevirtual 80, 3) := by decide +kernel
theorem dL_roomByCounting_12 : decode cL_roomByCounting 12 = .ok (.i2l, 1) := by decide +kernel
theorem dL_roomByCounting_13 : decode cL_roomByCounting 13 = .ok (.lastore, 1) := by decide +kernel
theorem dL_roomByCounting_14 : decode cL_roomByCounting 14 = .ok (.goto 7, 3) := by decide +kernel
theorem dL_roomByCounting_17 : decode cL_roomByCounting 17 = .ok (.astore 6, 2) := by decide +kernel
theorem dL_roomByCounting_19 : decode cL_roomByCounting 19 = .ok (.iconst 1, 1) := by decide +kernel
theorem dL_roomByCounting_20 : decode cL_roomByCounting 20 = .ok (.ireturn, 1) := by decide +kernel
theorem dL_roomByCounting_21 : decode cL_roomByCounting 21 = .ok (.iconst 0, 1) := by decide +kernel
theorem dL_roomByCounting_22 : decode cL_roomByCounting 22 = .ok (.ireturn, 1) := by decide +kernel
theorem dL_law_0 : decode cL_law 0 = .ok (.new 8, 3) := by decide +kernel
theorem dL_law_3 : decode cL_law 3 = .ok (.dup, 1) := by decide +kernel
theorem dL_law_4 : decode cL_law 4 = .ok (.invokespecial 83, 3) := by decide +kernel
theorem dL_law_7 : decode cL_law 7 = .ok (.astore_n 1, 1) := by decide +kernel
theorem dL_law_8 : decode cL_law 8 = .ok (.new 84, 3) := by decide +kernel
theorem dL_law_11 : decode cL_law 11 = .ok (.dup, 1) := by decide +kernel
theorem dL_law_12 : decode cL_law 12 = .ok (.invokespecial 86, 3) := by decide +kernel
theorem dL_law_15 : decode cL_law 15 = .ok (.astore_n 2, 1) := by decide +kernel
theorem dL_law_16 : decode cL_law 16 = .ok (.iconst 1, 1) := by decide +kernel
theorem dL_law_17 : decode cL_law 17 = .ok (.newarray .long, 2) := by decide +kernel
theorem dL_law_19 : decode cL_law 19 = .ok (.astore_n 3, 1) := by decide +kernel
theorem dL_law_20 : decode cL_law 20 = .ok (.iconst 0, 1) := by decide +kernel
theorem dL_law_21 : decode cL_law 21 = .ok (.istore 4, 2) := by decide +kernel
theorem dL_law_23 : decode cL_law 23 = .ok (.iload 4, 2) := by decide +kernel
theorem dL_law_25 : decode cL_law 25 = .ok (.aload_n 0, 1) := by decide +kernel
theorem dL_law_26 : decode cL_law 26 = .ok (.arraylength, 1) := by decide +kernel
theorem dL_law_27 : decode cL_law 27 = .ok (.iconst 5, 1) := by decide +kernel
theorem dL_law_28 : decode cL_law 28 = .ok (.isub, 1) := by decide +kernel
theorem dL_law_29 : decode cL_law 29 = .ok (.if_icmp .gt 1598, 3) := by decide +kernel
theorem dL_law_32 : decode cL_law 32 = .ok (.aload_n 0, 1) := by decide +kernel
theorem dL_law_33 : decode cL_law 33 = .ok (.iload 4, 2) := by decide +kernel
theorem dL_law_35 : decode cL_law 35 = .ok (.iaload, 1) := by decide +kernel
theorem dL_law_36 : decode cL_law 36 = .ok (.bipush 31, 2) := by decide +kernel
theorem dL_law_38 : decode cL_law 38 = .ok (.iand, 1) := by decide +kernel
theorem dL_law_39 : decode cL_law 39 = .ok (.tableswitch 1582 0 23 #[109, 201, 261, 329, 385, 448, 461, 553, 609, 677, 690, 703, 759, 815, 878, 946, 1002, 1070, 1138, 1194, 1250, 1306, 1398, 1490], 109) := by decide +kernel
theorem dL_law_148 : decode cL_law 148 = .ok (.aload_n 1, 1) := by decide +kernel
theorem dL_law_149 : decode cL_law 149 = .ok (.aload_n 0, 1) := by decide +kernel
theorem dL_law_150 : decode cL_law 150 = .ok (.iload 4, 2) := by decide +kernel
theorem dL_law_152 : decode cL_law 152 = .ok (.iconst 1, 1) := by decide +kernel
theorem dL_law_153 : decode cL_law 153 = .ok (.iadd, 1) := by decide +kernel
theorem dL_law_154 : decode cL_law 154 = .ok (.iaload, 1) := by decide +kernel
theorem dL_law_155 : decode cL_law 155 = .ok (.aload_n 0, 1) := by decide +kernel
theorem dL_law_156 : decode cL_law 156 = .ok (.iload 4, 2) := by decide +kernel
theorem dL_law_158 : decode cL_law 158 = .ok (.iconst 2, 1) := by decide +kernel
theorem dL_law_159 : decode cL_law 159 = .ok (.iadd, 1) := by decide +kernel
theorem dL_law_160 : decode cL_law 160 = .ok (.iaload, 1) := by decide +kernel
theorem dL_law_161 : decode cL_law 161 = .ok (.aload_n 0, 1) := by decide +kernel
theorem dL_law_162 : decode cL_law 162 = .ok (.iload 4, 2) := by decide +kernel
theorem dL_law_164 : decode cL_law 164 = .ok (.iconst 3, 1) := by decide +kernel
theorem dL_law_165 : decode cL_law 165 = .ok (.iadd, 1) := by decide +kernel
theorem dL_law_166 : decode cL_law 166 = .ok (.iaload, 1) := by decide +kernel
theorem dL_law_167 : decode cL_law 167 = .ok (.aload_n 0, 1) := by decide +kernel
theorem dL_law_168 : decode cL_law 168 = .ok (.iload 4, 2) := by decide +kernel
theorem dL_law_170 : decode cL_law 170 = .ok (.iconst 4, 1) := by decide +kernel
theorem dL_law_171 : decode cL_law 171 = .ok (.iadd, 1) := by decide +kernel
theorem dL_law_172 : decode cL_law 172 = .ok (.iaload, 1) := by decide +kernel
theorem dL_law_173 : decode cL_law 173 = .ok (.aload_n 3, 1) := by decide +kernel
theorem dL_law_174 : decode cL_law 174 = .ok (.invokestatic 87, 3) := by decide +kernel
theorem dL_law_177 : decode cL_law 177 = .ok (.istore 5, 2) := by decide +kernel
theorem dL_law_179 : decode cL_law 179 = .ok (.aload_n 2, 1) := by decide +kernel
theorem dL_law_180 : decode cL_law 180 = .ok (.aload_n 0, 1) := by decide +kernel
theorem dL_law_181 : decode cL_law 181 = .ok (.iload 4, 2) := by decide +kernel
theorem dL_law_183 : decode cL_law 183 = .ok (.iconst 1, 1) := by decide +kernel
theorem dL_law_184 : decode cL_law 184 = .ok (.iadd, 1) := by decide +kernel
theorem dL_law_185 : decode cL_law 185 = .ok (.iaload, 1) := by decide +kernel
theorem dL_law_186 : decode cL_law 186 = .ok (.aload_n 0, 1) := by decide +kernel
theorem dL_law_187 : decode cL_law 187 = .ok (.iload 4, 2) := by decide +kernel
theorem dL_law_189 : decode cL_law 189 = .ok (.iconst 2, 1) := by decide +kernel
theorem dL_law_190 : decode cL_law 190 = .ok (.iadd, 1) := by decide +kernel
theorem dL_law_191 : decode cL_law 191 = .ok (.iaload, 1) := by decide +kernel
theorem dL_law_192 : decode cL_law 192 = .ok (.aload_n 0, 1) := by decide +kernel
theorem dL_law_193 : decode cL_law 193 = .ok (.iload 4, 2) := by decide +kernel
theorem dL_law_195 : decode cL_law 195 = .ok (.iconst 3, 1) := by decide +kernel
theorem dL_law_196 : decode cL_law 196 = .ok (.iadd, 1) := by decide +kernel
theorem dL_law_197 : decode cL_law 197 = .ok (.iaload, 1) := by decide +kernel
theorem dL_law_198 : decode cL_law 198 = .ok (.aload_n 0, 1) := by decide +kernel
theorem dL_law_199 : decode cL_law 199 = .ok (.iload 4, 2) := by decide +kernel
theorem dL_law_201 : decode cL_law 201 = .ok (.iconst 4, 1) := by decide +kernel
theorem dL_law_202 : decode cL_law 202 = .ok (.iadd, 1) := by decide +kernel
theorem dL_law_203 : decode cL_law 203 = .ok (.iaload, 1) := by decide +kernel
theorem dL_law_204 : decode cL_law 204 = .ok (.invokevirtual 92, 3) := by decide +kernel
theorem dL_law_207 : decode cL_law 207 = .ok (.istore 6, 2) := by decide +kernel
theorem dL_law_209 : decode cL_law 209 = .ok (.aload_n 2, 1) := by decide +kernel
theorem dL_law_210 : decode cL_law 210 = .ok (.invokevirtual 93, 3) := by decide +kernel
theorem dL_law_213 : decode cL_law 213 = .ok (.iload 5, 2) := by decide +kernel
theorem dL_law_215 : decode cL_law 215 = .ok (.if_icmp .eq 5, 3) := by decide +kernel
theorem dL_law_218 : decode cL_law 218 = .ok (.iconst 0, 1) := by decide +kernel
theorem dL_law_219 : decode cL_law 219 = .ok (.ireturn, 1) := by decide +kernel
theorem dL_law_220 : decode cL_law 220 = .ok (.iload 5, 2) := by decide +kernel
theorem dL_law_222 : decode cL_law 222 = .ok (.ifCond .ne 15, 3) := by decide +kernel
theorem dL_law_225 : decode cL_law 225 = .ok (.aload_n 3, 1) := by decide +kernel
theorem dL_law_226 : decode cL_law 226 = .ok (.iconst 0, 1) := by decide +kernel
theorem dL_law_227 : decode cL_law 227 = .ok (.laload, 1) := by decide +kernel
theorem dL_law_228 : decode cL_law 228 = .ok (.iload 6, 2) := by decide +kernel
theorem dL_law_230 : decode cL_law 230 = .ok (.i2l, 1) := by decide +kernel
theorem dL_law_231 : decode cL_law 231 = .ok (.lcmp, 1) := by decide +kernel
theorem dL_law_232 : decode cL_law 232 = .ok (.ifCond .eq 5, 3) := by decide +kernel
theorem dL_law_235 : decode cL_law 235 = .ok (.iconst 0, 1) := by decide +kernel
theorem dL_law_236 : decode cL_law 236 = .ok (.ireturn, 1) := by decide +kernel
theorem dL_law_237 : decode cL_law 237 = .ok (.goto 1384, 3) := by decide +kernel
theorem dL_law_240 : decode cL_law 240 = .ok (.aload_n 1, 1) := by decide +kernel
theorem dL_law_241 : decode cL_law 241 = .ok (.aload_n 0, 1) := by decide +kernel
theorem dL_law_242 : decode cL_law 242 = .ok (.iload 4, 2) := by decide +kernel
theorem dL_law_244 : decode cL_law 244 = .ok (.iconst 1, 1) := by decide +kernel
theorem dL_law_245 : decode cL_law 245 = .ok (.iadd, 1) := by decide +kernel
theorem dL_law_246 : decode cL_law 246 = .ok (.iaload, 1) := by decide +kernel
theorem dL_law_247 : decode cL_law 247 = .ok (.aload_n 0, 1) := by decide +kernel
theorem dL_law_248 : decode cL_law 248 = .ok (.iload 4, 2) := by decide +kernel
theorem dL_law_250 : decode cL_law 250 = .ok (.iconst 2, 1) := by decide +kernel
theorem dL_law_251 : decode cL_law 251 = .ok (.iadd, 1) := by decide +kernel
theorem dL_law_252 : decode cL_law 252 = .ok (.iaload, 1) := by decide +kernel
theorem dL_law_253 : decode cL_law 253 = .ok (.aload_n 0, 1) := by decide +kernel
theorem dL_law_254 : decode cL_law 254 = .ok (.iload 4, 2) := by decide +kernel
theorem dL_law_256 : decode cL_law 256 = .ok (.iconst 3, 1) := by decide +kernel
theorem dL_law_257 : decode cL_law 257 = .ok (.iadd, 1) := by decide +kernel
theorem dL_law_258 : decode cL_law 258 = .ok (.iaload, 1) := by decide +kernel
theorem dL_law_259 : decode cL_law 259 = .ok (.invokestatic 97, 3) := by decide +kernel
theorem dL_law_262 : decode cL_law 262 = .ok (.istore 5, 2) := by decide +kernel
theorem dL_law_264 : decode cL_law 264 = .ok (.aload_n 2, 1) := by decide +kernel
theorem dL_law_265 : decode cL_law 265 = .ok (.aload_n 0, 1) := by decide +kernel
theorem dL_law_266 : decode cL_law 266 = .ok (.iload 4, 2) := by decide +kernel
theorem dL_law_268 : decode cL_law 268 = .ok (.iconst 1, 1) := by decide +kernel
theorem dL_law_269 : decode cL_law 269 = .ok (.iadd, 1) := by decide +kernel
theorem dL_law_270 : decode cL_law 270 = .ok (.iaload, 1) := by decide +kernel
theorem dL_law_271 : decode cL_law 271 = .ok (.aload_n 0, 1) := by decide +kernel
theorem dL_law_272 : decode cL_law 272 = .ok (.iload 4, 2) := by decide +kernel
theorem dL_law_274 : decode cL_law 274 = .ok (.iconst 2, 1) := by decide +kernel
theorem dL_law_275 : decode cL_law 275 = .ok (.iadd, 1) := by decide +kernel
theorem dL_law_276 : decode cL_law 276 = .ok (.iaload, 1) := by decide +kernel
theorem dL_law_277 : decode cL_law 277 = .ok (.aload_n 0, 1) := by decide +kernel
theorem dL_law_278 : decode cL_law 278 = .ok (.iload 4, 2) := by decide +kernel
theorem dL_law_280 : decode cL_law 280 = .ok (.iconst 3, 1) := by decide +kernel
theorem dL_law_281 : decode cL_law 281 = .ok (.iadd, 1) := by decide +kernel
theorem dL_law_282 : decode cL_law 282 = .ok (.iaload, 1) := by decide +kernel
theorem dL_law_283 : decode cL_law 283 = .ok (.invokevirtual 100, 3) := by decide +kernel
theorem dL_law_286 : decode cL_law 286 = .ok (.aload_n 2, 1) := by decide +kernel
theorem dL_law_287 : decode cL_law 287 = .ok (.invokevirtual 93, 3) := by decide +kernel
theorem dL_law_290 : decode cL_law 290 = .ok (.iload 5, 2) := by decide +kernel
theorem dL_law_292 : decode cL_law 292 = .ok (.if_icmp .eq 5, 3) := by decide +kernel
theorem dL_law_295 : decode cL_law 295 = .ok (.iconst 0, 1) := by decide +kernel
theorem dL_law_296 : decode cL_law 296 = .ok (.ireturn, 1) := by decide +kernel
theorem dL_law_297 : decode cL_law 297 = .ok (.goto 1324, 3) := by decide +kernel
theorem dL_law_300 : decode cL_law 300 = .ok (.aload_n 1, 1) := by decide +kernel
theorem dL_law_301 : decode cL_law 301 = .ok (.aload_n 0, 1) := by decide +kernel
theorem dL_law_302 : decode cL_law 302 = .ok (.iload 4, 2) := by decide +kernel
theorem dL_law_304 : decode cL_law 304 = .ok (.iconst 1, 1) := by decide +kernel
theorem dL_law_305 : decode cL_law 305 = .ok (.iadd, 1) := by decide +kernel
theorem dL_law_306 : decode cL_law 306 = .ok (.iaload, 1) := by decide +kernel
theorem dL_law_307 : decode cL_law 307 = .ok (.aload_n 0, 1) := by decide +kernel
theorem dL_law_308 : decode cL_law 308 = .ok (.iload 4, 2) := by decide +kernel
theorem dL_law_310 : decode cL_law 310 = .ok (.iconst 2, 1) := by decide +kernel
theorem dL_law_311 : decode cL_law 311 = .ok (.iadd, 1) := by decide +kernel
theorem dL_law_312 : decode cL_law 312 = .ok (.iaload, 1) := by decide +kernel
theorem dL_law_313 : decode cL_law 313 = .ok (.aload_n 3, 1) := by decide +kernel
theorem dL_law_314 : decode cL_law 314 = .ok (.invokestatic 101, 3) := by decide +kernel
theorem dL_law_317 : decode cL_law 317 = .ok (.istore 5, 2) := by decide +kernel
theorem dL_law_319 : decode cL_law 319 = .ok (.aload_n 2, 1) := by decide +kernel
theorem dL_law_320 : decode cL_law 320 = .ok (.aload_n 0, 1) := by decide +kernel
theorem dL_law_321 : decode cL_law 321 = .ok (.iload 4, 2) := by decide +kernel
theorem dL_law_323 : decode cL_law 323 = .ok (.iconst 1, 1) := by decide +kernel
theorem dL_law_324 : decode cL_law 324 = .ok (.iadd, 1) := by decide +kernel
theorem dL_law_325 : decode cL_law 325 = .ok (.iaload, 1) := by decide +kernel
theorem dL_law_326 : decode cL_law 326 = .ok (.aload_n 0, 1) := by decide +kernel
theorem dL_law_327 : decode cL_law 327 = .ok (.iload 4, 2) := by decide +kernel
theorem dL_law_329 : decode cL_law 329 = .ok (.iconst 2, 1) := by decide +kernel
theorem dL_law_330 : decode cL_law 330 = .ok (.iadd, 1) := by decide +kernel
theorem dL_law_331 : decode cL_law 331 = .ok (.iaload, 1) := by decide +kernel
theorem dL_law_332 : decode cL_law 332 = .ok (.invokevirtual 104, 3) := by decide +kernel
theorem dL_law_335 : decode cL_law 335 = .ok (.istore 6, 2) := by decide +kernel
theorem dL_law_337 : decode cL_law 337 = .ok (.aload_n 2, 1) := by decide +kernel
theorem dL_law_338 : decode cL_law 338 = .ok (.invokevirtual 93, 3) := by decide +kernel
theorem dL_law_341 : decode cL_law 341 = .ok (.iload 5, 2) := by decide +kernel
theorem dL_law_343 : decode cL_law 343 = .ok (.if_icmp .eq 5, 3) := by decide +kernel
theorem dL_law_346 : decode cL_law 346 = .ok (.iconst 0, 1) := by decide +kernel
theorem dL_law_347 : decode cL_law 347 = .ok (.ireturn, 1) := by decide +kernel
theorem dL_law_348 : decode cL_law 348 = .ok (.iload 5, 2) := by decide +kernel
theorem dL_law_350 : decode cL_law 350 = .ok (.ifCond .ne 15, 3) := by decide +kernel
theorem dL_law_353 : decode cL_law 353 = .ok (.aload_n 3, 1) := by decide +kernel
theorem dL_law_354 : decode cL_law 354 = .ok (.iconst 0, 1) := by decide +kernel
theorem dL_law_355 : decode cL_law 355 = .ok (.laload, 1) := by decide +kernel
theorem dL_law_356 : decode cL_law 356 = .ok (.iload 6, 2) := by decide +kernel
theorem dL_law_358 : decode cL_law 358 = .ok (.i2l, 1) := by decide +kernel
theorem dL_law_359 : decode cL_law 359 = .ok (.lcmp, 1) := by decide +kernel
theorem dL_law_360 : decode cL_law 360 = .ok (.ifCond .eq 5, 3) := by decide +kernel
theorem dL_law_363 : decode cL_law 363 = .ok (.iconst 0, 1) := by decide +kernel
theorem dL_law_364 : decode cL_law 364 = .ok (.ireturn, 1) := by decide +kernel
theorem dL_law_365 : decode cL_law 365 = .ok (.goto 1256, 3) := by decide +kernel
theorem dL_law_368 : decode cL_law 368 = .ok (.aload_n 1, 1) := by decide +kernel
theorem dL_law_369 : decode cL_law 369 = .ok (.aload_n 0, 1) := by decide +kernel
theorem dL_law_370 : decode cL_law 370 = .ok (.iload 4, 2) := by decide +kernel
theorem dL_law_372 : decode cL_law 372 = .ok (.iconst 1, 1) := by decide +kernel
theorem dL_law_373 : decode cL_law 373 = .ok (.iadd, 1) := by decide +kernel
theorem dL_law_374 : decode cL_law 374 = .ok (.iaload, 1) := by decide +kernel
theorem dL_law_375 : decode cL_law 375 = .ok (.aload_n 3, 1) := by decide +kernel
theorem dL_law_376 : decode cL_law 376 = .ok (.invokestatic 105, 3) := by decide +kernel
theorem dL_law_379 : decode cL_law 379 = .ok (.istore 5, 2) := by decide +kernel
theorem dL_law_381 : decode cL_law 381 = .ok (.aload_n 2, 1) := by decide +kernel
theorem dL_law_382 : decode cL_law 382 = .ok (.aload_n 0, 1) := by decide +kernel
theorem dL_law_383 : decode cL_law 383 = .ok (.iload 4, 2) := by decide +kernel
theorem dL_law_385 : decode cL_law 385 = .ok (.iconst 1, 1) := by decide +kernel
theorem dL_law_386 : decode cL_law 386 = .ok (.iadd, 1) := by decide +kernel
theorem dL_law_387 : decode cL_law 387 = .ok (.iaload, 1) := by decide +kernel
theorem dL_law_388 : decode cL_law 388 = .ok (.invokevirtual 108, 3) := by decide +kernel
theorem dL_law_391 : decode cL_law 391 = .ok (.istore 6, 2) := by decide +kernel
theorem dL_law_393 : decode cL_law 393 = .ok (.aload_n 2, 1) := by decide +kernel
theorem dL_law_394 : decode cL_law 394 = .ok (.invokevirtual 93, 3) := by decide +kernel
theorem dL_law_397 : decode cL_law 397 = .ok (.iload 5, 2) := by decide +kernel
theorem dL_law_399 : decode cL_law 399 = .ok (.if_icmp .eq 5, 3) := by decide +kernel
theorem dL_law_402 : decode cL_law 402 = .ok (.iconst 0, 1) := by decide +kernel
theorem dL_law_403 : decode cL_law 403 = .ok (.ireturn, 1) := by decide +kernel
theorem dL_law_404 : decode cL_law 404 = .ok (.iload 5, 2) := by decide +kernel
theorem dL_law_406 : decode cL_law 406 = .ok (.ifCond .ne 15, 3) := by decide +kernel
theorem dL_law_409 : decode cL_law 409 = .ok (.aload_n 3, 1) := by decide +kernel
theorem dL_law_410 : decode cL_law 410 = .ok (.iconst 0, 1) := by decide +kernel
theorem dL_law_411 : decode cL_law 411 = .ok (.laload, 1) := by decide +kernel
theorem dL_law_412 : decode cL_law 412 = .ok (.iload 6, 2) := by decide +kernel
theorem dL_law_414 : decode cL_law 414 = .ok (.i2l, 1) := by decide +kernel
theorem dL_law_415 : decode cL_law 415 = .ok (.lcmp, 1) := by decide +kernel
theorem dL_law_416 : decode cL_law 416 = .ok (.ifCond .eq 5, 3) := by decide +kernel
theorem dL_law_419 : decode cL_law 419 = .ok (.iconst 0, 1) := by decide +kernel
theorem dL_law_420 : decode cL_law 420 = .ok (.ireturn, 1) := by decide +kernel
theorem dL_law_421 : decode cL_law 421 = .ok (.goto 1200, 3) := by decide +kernel
theorem dL_law_424 : decode cL_law 424 = .ok (.aload_n 1, 1) := by decide +kernel
theorem dL_law_425 : decode cL_law 425 = .ok (.aload_n 0, 1) := by decide +kernel
theorem dL_law_426 : decode cL_law 426 = .ok (.iload 4, 2) := by decide +kernel
theorem dL_law_428 : decode cL_law 428 = .ok (.iconst 1, 1) := by decide +kernel
theorem dL_law_429 : decode cL_law 429 = .ok (.iadd, 1) := by decide +kernel
theorem dL_law_430 : decode cL_law 430 = .ok (.iaload, 1) := by decide +kernel
theorem dL_law_431 : decode cL_law 431 = .ok (.aload_n 3, 1) := by decide +kernel
theorem dL_law_432 : decode cL_law 432 = .ok (.invokestatic 109, 3) := by decide +kernel
theorem dL_law_435 : decode cL_law 435 = .ok (.istore 5, 2) := by decide +kernel
theorem dL_law_437 : decode cL_law 437 = .ok (.aload_n 2, 1) := by decide +kernel
theorem dL_law_438 : decode cL_law 438 = .ok (.aload_n 0, 1) := by decide +kernel
theorem dL_law_439 : decode cL_law 439 = .ok (.iload 4, 2) := by decide +kernel
theorem dL_law_441 : decode cL_law 441 = .ok (.iconst 1, 1) := by decide +kernel
theorem dL_law_442 : decode cL_law 442 = .ok (.iadd, 1) := by decide +kernel
theorem dL_law_443 : decode cL_law 443 = .ok (.iaload, 1) := by decide +kernel
theorem dL_law_444 : decode cL_law 444 = .ok (.invokevirtual 111, 3) := by decide +kernel
theorem dL_law_447 : decode cL_law 447 = .ok (.istore 6, 2) := by decide +kernel
theorem dL_law_449 : decode cL_law 449 = .ok (.aload_n 2, 1) := by decide +kernel
theorem dL_law_450 : decode cL_law 450 = .ok (.invokevirtual 93, 3) := by decide +kernel
theorem dL_law_453 : decode cL_law 453 = .ok (.iload 5, 2) := by decide +kernel
theorem dL_law_455 : decode cL_law 455 = .ok (.if_icmp .eq 5, 3) := by decide +kernel
theorem dL_law_458 : decode cL_law 458 = .ok (.iconst 0, 1) := by decide +kernel
theorem dL_law_459 : decode cL_law 459 = .ok (.ireturn, 1) := by decide +kernel
theorem dL_law_460 : decode cL_law 460 = .ok (.iload 5, 2) := by decide +kernel
theorem dL_law_462 : decode cL_law 462 = .ok (.ifCond .ne 22, 3) := by decide +kernel
theorem dL_law_465 : decode cL_law 465 = .ok (.aload_n 3, 1) := by decide +kernel
theorem dL_law_466 : decode cL_law 466 = .ok (.iconst 0, 1) := by decide +kernel
theorem dL_law_467 : decode cL_law 467 = .ok (.laload, 1) := by decide +kernel
theorem dL_law_468 : decode cL_law 468 = .ok (.iload 6, 2) := by decide +kernel
theorem dL_law_470 : decode cL_law 470 = .ok (.ifCond .eq 7, 3) := by decide +kernel
theorem dL_law_473 : decode cL_law 473 = .ok (.lconst 1, 1) := by decide +kernel
theorem dL_law_474 : decode cL_law 474 = .ok (.goto 4, 3) := by decide +kernel
theorem dL_law_477 : decode cL_law 477 = .ok (.lconst 0, 1) := by decide +kernel
theorem dL_law_478 : decode cL_law 478 = .ok (.lcmp, 1) := by decide +kernel
theorem dL_law_479 : decode cL_law 479 = .ok (.ifCond .eq 5, 3) := by decide +kernel
theorem dL_law_482 : decode cL_law 482 = .ok (.iconst 0, 1) := by decide +kernel
theorem dL_law_483 : decode cL_law 483 = .ok (.ireturn, 1) := by decide +kernel
theorem dL_law_484 : decode cL_law 484 = .ok (.goto 1137, 3) := by decide +kernel
theorem dL_law_487 : decode cL_law 487 = .ok (.aload_n 1, 1) := by decide +kernel
theorem dL_law_488 : decode cL_law 488 = .ok (.invokevirtual 112, 3) := by decide +kernel
theorem dL_law_491 : decode cL_law 491 = .ok (.aload_n 2, 1) := by decide +kernel
theorem dL_law_492 : decode cL_law 492 = .ok (.invokevirtual 115, 3) := by decide +kernel
theorem dL_law_495 : decode cL_law 495 = .ok (.if_icmp .eq 1126, 3) := by decide +kernel
theorem dL_law_498 : decode cL_law 498 = .ok (.iconst 0, 1) := by decide +kernel
theorem dL_law_499 : decode cL_law 499 = .ok (.ireturn, 1) := by decide +kernel
theorem dL_law_500 : decode cL_law 500 = .ok (.aload_n 1, 1) := by decide +kernel
theorem dL_law_501 : decode cL_law 501 = .ok (.aload_n 0, 1) := by decide +kernel
theorem dL_law_502 : decode cL_law 502 = .ok (.iload 4, 2) := by decide +kernel
theorem dL_law_504 : decode cL_law 504 = .ok (.iconst 1, 1) := by decide +kernel
theorem dL_law_505 : decode cL_law 505 = .ok (.iadd, 1) := by decide +kernel
theorem dL_law_506 : decode cL_law 506 = .ok (.iaload, 1) := by decide +kernel
theorem dL_law_507 : decode cL_law 507 = .ok (.aload_n 0, 1) := by decide +kernel
theorem dL_law_508 : decode cL_law 508 = .ok (.iload 4, 2) := by decide +kernel
theorem dL_law_510 : decode cL_law 510 = .ok (.iconst 2, 1) := by decide +kernel
theorem dL_law_511 : decode cL_law 511 = .ok (.iadd, 1) := by decide +kernel
theorem dL_law_512 : decode cL_law 512 = .ok (.iaload, 1) := by decide +kernel
theorem dL_law_513 : decode cL_law 513 = .ok (.aload_n 0, 1) := by decide +kernel
theorem dL_law_514 : decode cL_law 514 = .ok (.iload 4, 2) := by decide +kernel
theorem dL_law_516 : decode cL_law 516 = .ok (.iconst 3, 1) := by decide +kernel
theorem dL_law_517 : decode cL_law 517 = .ok (.iadd, 1) := by decide +kernel
theorem dL_law_518 : decode cL_law 518 = .ok (.iaload, 1) := by decide +kernel
theorem dL_law_519 : decode cL_law 519 = .ok (.aload_n 0, 1) := by decide +kernel
theorem dL_law_520 : decode cL_law 520 = .ok (.iload 4, 2) := by decide +kernel
theorem dL_law_522 : decode cL_law 522 = .ok (.iconst 4, 1) := by decide +kernel
theorem dL_law_523 : decode cL_law 523 = .ok (.iadd, 1) := by decide +kernel
theorem dL_law_524 : decode cL_law 524 = .ok (.iaload, 1) := by decide +kernel
theorem dL_law_525 : decode cL_law 525 = .ok (.aload_n 3, 1) := by decide +kernel
theorem dL_law_526 : decode cL_law 526 = .ok (.invokestatic 116, 3) := by decide +kernel
theorem dL_law_529 : decode cL_law 529 = .ok (.istore 5, 2) := by decide +kernel
theorem dL_law_531 : decode cL_law 531 = .ok (.aload_n 2, 1) := by decide +kernel
theorem dL_law_532 : decode cL_law 532 = .ok (.aload_n 0, 1) := by decide +kernel
theorem dL_law_533 : decode cL_law 533 = .ok (.iload 4, 2) := by decide +kernel
theorem dL_law_535 : decode cL_law 535 = .ok (.iconst 1, 1) := by decide +kernel
theorem dL_law_536 : decode cL_law 536 = .ok (.iadd, 1) := by decide +kernel
theorem dL_law_537 : decode cL_law 537 = .ok (.iaload, 1) := by decide +kernel
theorem dL_law_538 : decode cL_law 538 = .ok (.aload_n 0, 1) := by decide +kernel
theorem dL_law_539 : decode cL_law 539 = .ok (.iload 4, 2) := by decide +kernel
theorem dL_law_541 : decode cL_law 541 = .ok (.iconst 2, 1) := by decide +kernel
theorem dL_law_542 : decode cL_law 542 = .ok (.iadd, 1) := by decide +kernel
theorem dL_law_543 : decode cL_law 543 = .ok (.iaload, 1) := by decide +kernel
theorem dL_law_544 : decode cL_law 544 = .ok (.aload_n 0, 1) := by decide +kernel
theorem dL_law_545 : decode cL_law 545 = .ok (.iload 4, 2) := by decide +kernel
theorem dL_law_547 : decode cL_law 547 = .ok (.iconst 3, 1) := by decide +kernel
theorem dL_law_548 : decode cL_law 548 = .ok (.iadd, 1) := by decide +kernel
theorem dL_law_549 : decode cL_law 549 = .ok (.iaload, 1) := by decide +kernel
theorem dL_law_550 : decode cL_law 550 = .ok (.aload_n 0, 1) := by decide +kernel
theorem dL_law_551 : decode cL_law 551 = .ok (.iload 4, 2) := by decide +kernel
theorem dL_law_553 : decode cL_law 553 = .ok (.iconst 4, 1) := by decide +kernel
theorem dL_law_554 : decode cL_law 554 = .ok (.iadd, 1) := by decide +kernel
theorem dL_law_555 : decode cL_law 555 = .ok (.iaload, 1) := by decide +kernel
theorem dL_law_556 : decode cL_law 556 = .ok (.invokevirtual 118, 3) := by decide +kernel
theorem dL_law_559 : decode cL_law 559 = .ok (.istore 6, 2) := by decide +kernel
theorem dL_law_561 : decode cL_law 561 = .ok (.aload_n 2, 1) := by decide +kernel
theorem dL_law_562 : decode cL_law 562 = .ok (.invokevirtual 93, 3) := by decide +kernel
theorem dL_law_565 : decode cL_law 565 = .ok (.iload 5, 2) := by decide +kernel
theorem dL_law_567 : decode cL_law 567 = .ok (.if_icmp .eq 5, 3) := by decide +kernel
theorem dL_law_570 : decode cL_law 570 = .ok (.iconst 0, 1) := by decide +kernel
theorem dL_law_571 : decode cL_law 571 = .ok (.ireturn, 1) := by decide +kernel
theorem dL_law_572 : decode cL_law 572 = .ok (.iload 5, 2) := by decide +kernel
theorem dL_law_574 : decode cL_law 574 = .ok (.ifCond .ne 15, 3) := by decide +kernel
theorem dL_law_577 : decode cL_law 577 = .ok (.aload_n 3, 1) := by decide +kernel
theorem dL_law_578 : decode cL_law 578 = .ok (.iconst 0, 1) := by decide +kernel
theorem dL_law_579 : decode cL_law 579 = .ok (.laload, 1) := by decide +kernel
theorem dL_law_580 : decode cL_law 580 = .ok (.iload 6, 2) := by decide +kernel
theorem dL_law_582 : decode cL_law 582 = .ok (.i2l, 1) := by decide +kernel
theorem dL_law_583 : decode cL_law 583 = .ok (.lcmp, 1) := by decide +kernel
theorem dL_law_584 : decode cL_law 584 = .ok (.ifCond .eq 5, 3) := by decide +kernel
theorem dL_law_587 : decode cL_law 587 = .ok (.iconst 0, 1) := by decide +kernel
theorem dL_law_588 : decode cL_law 588 = .ok (.ireturn, 1) := by decide +kernel
theorem dL_law_589 : decode cL_law 589 = .ok (.goto 1032, 3) := by decide +kernel
theorem dL_law_592 : decode cL_law 592 = .ok (.aload_n 1, 1) := by decide +kernel
theorem dL_law_593 : decode cL_law 593 = .ok (.aload_n 0, 1) := by decide +kernel
theorem dL_law_594 : decode cL_law 594 = .ok (.iload 4, 2) := by decide +kernel
theorem dL_law_596 : decode cL_law 596 = .ok (.iconst 1, 1) := by decide +kernel
theorem dL_law_597 : decode cL_law 597 = .ok (.iadd, 1) := by decide +kernel
theorem dL_law_598 : decode cL_law 598 = .ok (.iaload, 1) := by decide +kernel
theorem dL_law_599 : decode cL_law 599 = .ok (.aload_n 3, 1) := by decide +kernel
theorem dL_law_600 : decode cL_law 600 = .ok (.invokestatic 119, 3) := by decide +kernel
theorem dL_law_603 : decode cL_law 603 = .ok (.istore 5, 2) := by decide +kernel
theorem dL_law_605 : decode cL_law 605 = .ok (.aload_n 2, 1) := by decide +kernel
theorem dL_law_606 : decode cL_law 606 = .ok (.aload_n 0, 1) := by decide +kernel
theorem dL_law_607 : decode cL_law 607 = .ok (.iload 4, 2) := by decide +kernel
theorem dL_law_609 : decode cL_law 609 = .ok (.iconst 1, 1) := by decide +kernel
theorem dL_law_610 : decode cL_law 610 = .ok (.iadd, 1) := by decide +kernel
theorem dL_law_611 : decode cL_law 611 = .ok (.iaload, 1) := by decide +kernel
theorem dL_law_612 : decode cL_law 612 = .ok (.invokevirtual 121, 3) := by decide +kernel
theorem dL_law_615 : decode cL_law 615 = .ok (.istore 6, 2) := by decide +kernel
theorem dL_law_617 : decode cL_law 617 = .ok (.aload_n 2, 1) := by decide +kernel
theorem dL_law_618 : decode cL_law 618 = .ok (.invokevirtual 93, 3) := by decide +kernel
theorem dL_law_621 : decode cL_law 621 = .ok (.iload 5, 2) := by decide +kernel
theorem dL_law_623 : decode cL_law 623 = .ok (.if_icmp .eq 5, 3) := by decide +kernel
theorem dL_law_626 : decode cL_law 626 = .ok (.iconst 0, 1) := by decide +kernel
theorem dL_law_627 : decode cL_law 627 = .ok (.ireturn, 1) := by decide +kernel
theorem dL_law_628 : decode cL_law 628 = .ok (.iload 5, 2) := by decide +kernel
theorem dL_law_630 : decode cL_law 630 = .ok (.ifCond .ne 15, 3) := by decide +kernel
theorem dL_law_633 : decode cL_law 633 = .ok (.aload_n 3, 1) := by decide +kernel
theorem dL_law_634 : decode cL_law 634 = .ok (.iconst 0, 1) := by decide +kernel
theorem dL_law_635 : decode cL_law 635 = .ok (.laload, 1) := by decide +kernel
theorem dL_law_636 : decode cL_law 636 = .ok (.iload 6, 2) := by decide +kernel
theorem dL_law_638 : decode cL_law 638 = .ok (.i2l, 1) := by decide +kernel
theorem dL_law_639 : decode cL_law 639 = .ok (.lcmp, 1) := by decide +kernel
theorem dL_law_640 : decode cL_law 640 = .ok (.ifCond .eq 5, 3) := by decide +kernel
theorem dL_law_643 : decode cL_law 643 = .ok (.iconst 0, 1) := by decide +kernel
theorem dL_law_644 : decode cL_law 644 = .ok (.ireturn, 1) := by decide +kernel
theorem dL_law_645 : decode cL_law 645 = .ok (.goto 976, 3) := by decide +kernel
theorem dL_law_648 : decode cL_law 648 = .ok (.aload_n 1, 1) := by decide +kernel
theorem dL_law_649 : decode cL_law 649 = .ok (.aload_n 0, 1) := by decide +kernel
theorem dL_law_650 : decode cL_law 650 = .ok (.iload 4, 2) := by decide +kernel
theorem dL_law_652 : decode cL_law 652 = .ok (.iconst 1, 1) := by decide +kernel
theorem dL_law_653 : decode cL_law 653 = .ok (.iadd, 1) := by decide +kernel
theorem dL_law_654 : decode cL_law 654 = .ok (.iaload, 1) := by decide +kernel
theorem dL_law_655 : decode cL_law 655 = .ok (.aload_n 0, 1) := by decide +kernel
theorem dL_law_656 : decode cL_law 656 = .ok (.iload 4, 2) := by decide +kernel
theorem dL_law_658 : decode cL_law 658 = .ok (.iconst 2, 1) := by decide +kernel
theorem dL_law_659 : decode cL_law 659 = .ok (.iadd, 1) := by decide +kernel
theorem dL_law_660 : decode cL_law 660 = .ok (.iaload, 1) := by decide +kernel
theorem dL_law_661 : decode cL_law 661 = .ok (.aload_n 3, 1) := by decide +kernel
theorem dL_law_662 : decode cL_law 662 = .ok (.invokestatic 122, 3) := by decide +kernel
theorem dL_law_665 : decode cL_law 665 = .ok (.istore 5, 2) := by decide +kernel
theorem dL_law_667 : decode cL_law 667 = .ok (.aload_n 2, 1) := by decide +kernel
theorem dL_law_668 : decode cL_law 668 = .ok (.aload_n 0, 1) := by decide +kernel
theorem dL_law_669 : decode cL_law 669 = .ok (.iload 4, 2) := by decide +kernel
theorem dL_law_671 : decode cL_law 671 = .ok (.iconst 1, 1) := by decide +kernel
theorem dL_law_672 : decode cL_law 672 = .ok (.iadd, 1) := by decide +kernel
theorem dL_law_673 : decode cL_law 673 = .ok (.iaload, 1) := by decide +kernel
theorem dL_law_674 : decode cL_law 674 = .ok (.aload_n 0, 1) := by decide +kernel
theorem dL_law_675 : decode cL_law 675 = .ok (.iload 4, 2) := by decide +kernel
theorem dL_law_677 : decode cL_law 677 = .ok (.iconst 2, 1) := by decide +kernel
theorem dL_law_678 : decode cL_law 678 = .ok (.iadd, 1) := by decide +kernel
theorem dL_law_679 : decode cL_law 679 = .ok (.iaload, 1) := by decide +kernel
theorem dL_law_680 : decode cL_law 680 = .ok (.invokevirtual 124, 3) := by decide +kernel
theorem dL_law_683 : decode cL_law 683 = .ok (.istore 6, 2) := by decide +kernel
theorem dL_law_685 : decode cL_law 685 = .ok (.aload_n 2, 1) := by decide +kernel
theorem dL_law_686 : decode cL_law 686 = .ok (.invokevirtual 93, 3) := by decide +kernel
theorem dL_law_689 : decode cL_law 689 = .ok (.iload 5, 2) := by decide +kernel
theorem dL_law_691 : decode cL_law 691 = .ok (.if_icmp .eq 5, 3) := by decide +kernel
theorem dL_law_694 : decode cL_law 694 = .ok (.iconst 0, 1) := by decide +kernel
theorem dL_law_695 : decode cL_law 695 = .ok (.ireturn, 1) := by decide +kernel
theorem dL_law_696 : decode cL_law 696 = .ok (.iload 5, 2) := by decide +kernel
theorem dL_law_698 : decode cL_law 698 = .ok (.ifCond .ne 15, 3) := by decide +kernel
theorem dL_law_701 : decode cL_law 701 = .ok (.aload_n 3, 1) := by decide +kernel
theorem dL_law_702 : decode cL_law 702 = .ok (.iconst 0, 1) := by decide +kernel
theorem dL_law_703 : decode cL_law 703 = .ok (.laload, 1) := by decide +kernel
theorem dL_law_704 : decode cL_law 704 = .ok (.iload 6, 2) := by decide +kernel
theorem dL_law_706 : decode cL_law 706 = .ok (.i2l, 1) := by decide +kernel
theorem dL_law_707 : decode cL_law 707 = .ok (.lcmp, 1) := by decide +kernel
theorem dL_law_708 : decode cL_law 708 = .ok (.ifCond .eq 5, 3) := by decide +kernel
theorem dL_law_711 : decode cL_law 711 = .ok (.iconst 0, 1) := by decide +kernel
theorem dL_law_712 : decode cL_law 712 = .ok (.ireturn, 1) := by decide +kernel
theorem dL_law_713 : decode cL_law 713 = .ok (.goto 908, 3) := by decide +kernel
theorem dL_law_716 : decode cL_law 716 = .ok (.aload_n 1, 1) := by decide +kernel
theorem dL_law_717 : decode cL_law 717 = .ok (.invokevirtual 125, 3) := by decide +kernel
theorem dL_law_720 : decode cL_law 720 = .ok (.aload_n 2, 1) := by decide +kernel
theorem dL_law_721 : decode cL_law 721 = .ok (.invokevirtual 128, 3) := by decide +kernel
theorem dL_law_724 : decode cL_law 724 = .ok (.if_icmp .eq 897, 3) := by decide +kernel
theorem dL_law_727 : decode cL_law 727 = .ok (.iconst 0, 1) := by decide +kernel
theorem dL_law_728 : decode cL_law 728 = .ok (.ireturn, 1) := by decide +kernel
theorem dL_law_729 : decode cL_law 729 = .ok (.aload_n 1, 1) := by decide +kernel
theorem dL_law_730 : decode cL_law 730 = .ok (.invokevirtual 129, 3) := by decide +kernel
theorem dL_law_733 : decode cL_law 733 = .ok (.aload_n 2, 1) := by decide +kernel
theorem dL_law_734 : decode cL_law 734 = .ok (.invokevirtual 132, 3) := by decide +kernel
theorem dL_law_737 : decode cL_law 737 = .ok (.if_icmp .eq 884, 3) := by decide +kernel
theorem dL_law_740 : decode cL_law 740 = .ok (.iconst 0, 1) := by decide +kernel
theorem dL_law_741 : decode cL_law 741 = .ok (.ireturn, 1) := by decide +kernel
theorem dL_law_742 : decode cL_law 742 = .ok (.aload_n 1, 1) := by decide +kernel
theorem dL_law_743 : decode cL_law 743 = .ok (.aload_n 0, 1) := by decide +kernel
theorem dL_law_744 : decode cL_law 744 = .ok (.iload 4, 2) := by decide +kernel
theorem dL_law_746 : decode cL_law 746 = .ok (.iconst 1, 1) := by decide +kernel
theorem dL_law_747 : decode cL_law 747 = .ok (.iadd, 1) := by decide +kernel
theorem dL_law_748 : decode cL_law 748 = .ok (.iaload, 1) := by decide +kernel
theorem dL_law_749 : decode cL_law 749 = .ok (.aload_n 3, 1) := by decide +kernel
theorem dL_law_750 : decode cL_law 750 = .ok (.invokestatic 133, 3) := by decide +kernel
theorem dL_law_753 : decode cL_law 753 = .ok (.istore 5, 2) := by decide +kernel
theorem dL_law_755 : decode cL_law 755 = .ok (.aload_n 2, 1) := by decide +kernel
theorem dL_law_756 : decode cL_law 756 = .ok (.aload_n 0, 1) := by decide +kernel
theorem dL_law_757 : decode cL_law 757 = .ok (.iload 4, 2) := by decide +kernel
theorem dL_law_759 : decode cL_law 759 = .ok (.iconst 1, 1) := by decide +kernel
theorem dL_law_760 : decode cL_law 760 = .ok (.iadd, 1) := by decide +kernel
theorem dL_law_761 : decode cL_law 761 = .ok (.iaload, 1) := by decide +kernel
theorem dL_law_762 : decode cL_law 762 = .ok (.invokevirtual 135, 3) := by decide +kernel
theorem dL_law_765 : decode cL_law 765 = .ok (.istore 6, 2) := by decide +kernel
theorem dL_law_767 : decode cL_law 767 = .ok (.aload_n 2, 1) := by decide +kernel
theorem dL_law_768 : decode cL_law 768 = .ok (.invokevirtual 93, 3) := by decide +kernel
theorem dL_law_771 : decode cL_law 771 = .ok (.iload 5, 2) := by decide +kernel
theorem dL_law_773 : decode cL_law 773 = .ok (.if_icmp .eq 5, 3) := by decide +kernel
theorem dL_law_776 : decode cL_law 776 = .ok (.iconst 0, 1) := by decide +kernel
theorem dL_law_777 : decode cL_law 777 = .ok (.ireturn, 1) := by decide +kernel
theorem dL_law_778 : decode cL_law 778 = .ok (.iload 5, 2) := by decide +kernel
theorem dL_law_780 : decode cL_law 780 = .ok (.ifCond .ne 15, 3) := by decide +kernel
theorem dL_law_783 : decode cL_law 783 = .ok (.aload_n 3, 1) := by decide +kernel
theorem dL_law_784 : decode cL_law 784 = .ok (.iconst 0, 1) := by decide +kernel
theorem dL_law_785 : decode cL_law 785 = .ok (.laload, 1) := by decide +kernel
theorem dL_law_786 : decode cL_law 786 = .ok (.iload 6, 2) := by decide +kernel
theorem dL_law_788 : decode cL_law 788 = .ok (.i2l, 1) := by decide +kernel
theorem dL_law_789 : decode cL_law 789 = .ok (.lcmp, 1) := by decide +kernel
theorem dL_law_790 : decode cL_law 790 = .ok (.ifCond .eq 5, 3) := by decide +kernel
theorem dL_law_793 : decode cL_law 793 = .ok (.iconst 0, 1) := by decide +kernel
theorem dL_law_794 : decode cL_law 794 = .ok (.ireturn, 1) := by decide +kernel
theorem dL_law_795 : decode cL_law 795 = .ok (.goto 826, 3) := by decide +kernel
theorem dL_law_798 : decode cL_law 798 = .ok (.aload_n 1, 1) := by decide +kernel
theorem dL_law_799 : decode cL_law 799 = .ok (.aload_n 0, 1) := by decide +kernel
theorem dL_law_800 : decode cL_law 800 = .ok (.iload 4, 2) := by decide +kernel
theorem dL_law_802 : decode cL_law 802 = .ok (.iconst 1, 1) := by decide +kernel
theorem dL_law_803 : decode cL_law 803 = .ok (.iadd, 1) := by decide +kernel
theorem dL_law_804 : decode cL_law 804 = .ok (.iaload, 1) := by decide +kernel
theorem dL_law_805 : decode cL_law 805 = .ok (.aload_n 3, 1) := by decide +kernel
theorem dL_law_806 : decode cL_law 806 = .ok (.invokestatic 136, 3) := by decide +kernel
theorem dL_law_809 : decode cL_law 809 = .ok (.istore 5, 2) := by decide +kernel
theorem dL_law_811 : decode cL_law 811 = .ok (.aload_n 2, 1) := by decide +kernel
theorem dL_law_812 : decode cL_law 812 = .ok (.aload_n 0, 1) := by decide +kernel
theorem dL_law_813 : decode cL_law 813 = .ok (.iload 4, 2) := by decide +kernel
theorem dL_law_815 : decode cL_law 815 = .ok (.iconst 1, 1) := by decide +kernel
theorem dL_law_816 : decode cL_law 816 = .ok (.iadd, 1) := by decide +kernel
theorem dL_law_817 : decode cL_law 817 = .ok (.iaload, 1) := by decide +kernel
theorem dL_law_818 : decode cL_law 818 = .ok (.invokevirtual 138, 3) := by decide +kernel
theorem dL_law_821 : decode cL_law 821 = .ok (.istore 6, 2) := by decide +kernel
theorem dL_law_823 : decode cL_law 823 = .ok (.aload_n 2, 1) := by decide +kernel
theorem dL_law_824 : decode cL_law 824 = .ok (.invokevirtual 93, 3) := by decide +kernel
theorem dL_law_827 : decode cL_law 827 = .ok (.iload 5, 2) := by decide +kernel
theorem dL_law_829 : decode cL_law 829 = .ok (.if_icmp .eq 5, 3) := by decide +kernel
theorem dL_law_832 : decode cL_law 832 = .ok (.iconst 0, 1) := by decide +kernel
theorem dL_law_833 : decode cL_law 833 = .ok (.ireturn, 1) := by decide +kernel
theorem dL_law_834 : decode cL_law 834 = .ok (.iload 5, 2) := by decide +kernel
theorem dL_law_836 : decode cL_law 836 = .ok (.ifCond .ne 15, 3) := by decide +kernel
theorem dL_law_839 : decode cL_law 839 = .ok (.aload_n 3, 1) := by decide +kernel
theorem dL_law_840 : decode cL_law 840 = .ok (.iconst 0, 1) := by decide +kernel
theorem dL_law_841 : decode cL_law 841 = .ok (.laload, 1) := by decide +kernel
theorem dL_law_842 : decode cL_law 842 = .ok (.iload 6, 2) := by decide +kernel
theorem dL_law_844 : decode cL_law 844 = .ok (.i2l, 1) := by decide +kernel
theorem dL_law_845 : decode cL_law 845 = .ok (.lcmp, 1) := by decide +kernel
theorem dL_law_846 : decode cL_law 846 = .ok (.ifCond .eq 5, 3) := by decide +kernel
theorem dL_law_849 : decode cL_law 849 = .ok (.iconst 0, 1) := by decide +kernel
theorem dL_law_850 : decode cL_law 850 = .ok (.ireturn, 1) := by decide +kernel
theorem dL_law_851 : decode cL_law 851 = .ok (.goto 770, 3) := by decide +kernel
theorem dL_law_854 : decode cL_law 854 = .ok (.aload_n 1, 1) := by decide +kernel
theorem dL_law_855 : decode cL_law 855 = .ok (.aload_n 0, 1) := by decide +kernel
theorem dL_law_856 : decode cL_law 856 = .ok (.iload 4, 2) := by decide +kernel
theorem dL_law_858 : decode cL_law 858 = .ok (.iconst 1, 1) := by decide +kernel
theorem dL_law_859 : decode cL_law 859 = .ok (.iadd, 1) := by decide +kernel
theorem dL_law_860 : decode cL_law 860 = .ok (.iaload, 1) := by decide +kernel
theorem dL_law_861 : decode cL_law 861 = .ok (.aload_n 3, 1) := by decide +kernel
theorem dL_law_862 : decode cL_law 862 = .ok (.invokestatic 139, 3) := by decide +kernel
theorem dL_law_865 : decode cL_law 865 = .ok (.istore 5, 2) := by decide +kernel
theorem dL_law_867 : decode cL_law 867 = .ok (.aload_n 2, 1) := by decide +kernel
theorem dL_law_868 : decode cL_law 868 = .ok (.aload_n 0, 1) := by decide +kernel
theorem dL_law_869 : decode cL_law 869 = .ok (.iload 4, 2) := by decide +kernel
theorem dL_law_871 : decode cL_law 871 = .ok (.iconst 1, 1) := by decide +kernel
theorem dL_law_872 : decode cL_law 872 = .ok (.iadd, 1) := by decide +kernel
theorem dL_law_873 : decode cL_law 873 = .ok (.iaload, 1) := by decide +kernel
theorem dL_law_874 : decode cL_law 874 = .ok (.invokevirtual 141, 3) := by decide +kernel
theorem dL_law_877 : decode cL_law 877 = .ok (.istore 6, 2) := by decide +kernel
theorem dL_law_879 : decode cL_law 879 = .ok (.aload_n 2, 1) := by decide +kernel
theorem dL_law_880 : decode cL_law 880 = .ok (.invokevirtual 93, 3) := by decide +kernel
theorem dL_law_883 : decode cL_law 883 = .ok (.iload 5, 2) := by decide +kernel
theorem dL_law_885 : decode cL_law 885 = .ok (.if_icmp .eq 5, 3) := by decide +kernel
theorem dL_law_888 : decode cL_law 888 = .ok (.iconst 0, 1) := by decide +kernel
theorem dL_law_889 : decode cL_law 889 = .ok (.ireturn, 1) := by decide +kernel
theorem dL_law_890 : decode cL_law 890 = .ok (.iload 5, 2) := by decide +kernel
theorem dL_law_892 : decode cL_law 892 = .ok (.ifCond .ne 22, 3) := by decide +kernel
theorem dL_law_895 : decode cL_law 895 = .ok (.aload_n 3, 1) := by decide +kernel
theorem dL_law_896 : decode cL_law 896 = .ok (.iconst 0, 1) := by decide +kernel
theorem dL_law_897 : decode cL_law 897 = .ok (.laload, 1) := by decide +kernel
theorem dL_law_898 : decode cL_law 898 = .ok (.iload 6, 2) := by decide +kernel
theorem dL_law_900 : decode cL_law 900 = .ok (.ifCond .eq 7, 3) := by decide +kernel
theorem dL_law_903 : decode cL_law 903 = .ok (.lconst 1, 1) := by decide +kernel
theorem dL_law_904 : decode cL_law 904 = .ok (.goto 4, 3) := by decide +kernel
theorem dL_law_907 : decode cL_law 907 = .ok (.lconst 0, 1) := by decide +kernel
theorem dL_law_908 : decode cL_law 908 = .ok (.lcmp, 1) := by decide +kernel
theorem dL_law_909 : decode cL_law 909 = .ok (.ifCond .eq 5, 3) := by decide +kernel
theorem dL_law_912 : decode cL_law 912 = .ok (.iconst 0, 1) := by decide +kernel
theorem dL_law_913 : decode cL_law 913 = .ok (.ireturn, 1) := by decide +kernel
theorem dL_law_914 : decode cL_law 914 = .ok (.goto 707, 3) := by decide +kernel
theorem dL_law_917 : decode cL_law 917 = .ok (.aload_n 1, 1) := by decide +kernel
theorem dL_law_918 : decode cL_law 918 = .ok (.aload_n 0, 1) := by decide +kernel
theorem dL_law_919 : decode cL_law 919 = .ok (.iload 4, 2) := by decide +kernel
theorem dL_law_921 : decode cL_law 921 = .ok (.iconst 1, 1) := by decide +kernel
theorem dL_law_922 : decode cL_law 922 = .ok (.iadd, 1) := by decide +kernel
theorem dL_law_923 : decode cL_law 923 = .ok (.iaload, 1) := by decide +kernel
theorem dL_law_924 : decode cL_law 924 = .ok (.aload_n 0, 1) := by decide +kernel
theorem dL_law_925 : decode cL_law 925 = .ok (.iload 4, 2) := by decide +kernel
theorem dL_law_927 : decode cL_law 927 = .ok (.iconst 2, 1) := by decide +kernel
theorem dL_law_928 : decode cL_law 928 = .ok (.iadd, 1) := by decide +kernel
theorem dL_law_929 : decode cL_law 929 = .ok (.iaload, 1) := by decide +kernel
theorem dL_law_930 : decode cL_law 930 = .ok (.aload_n 3, 1) := by decide +kernel
theorem dL_law_931 : decode cL_law 931 = .ok (.invokestatic 142, 3) := by decide +kernel
theorem dL_law_934 : decode cL_law 934 = .ok (.istore 5, 2) := by decide +kernel
theorem dL_law_936 : decode cL_law 936 = .ok (.aload_n 2, 1) := by decide +kernel
theorem dL_law_937 : decode cL_law 937 = .ok (.aload_n 0, 1) := by decide +kernel
theorem dL_law_938 : decode cL_law 938 = .ok (.iload 4, 2) := by decide +kernel
theorem dL_law_940 : decode cL_law 940 = .ok (.iconst 1, 1) := by decide +kernel
theorem dL_law_941 : decode cL_law 941 = .ok (.iadd, 1) := by decide +kernel
theorem dL_law_942 : decode cL_law 942 = .ok (.iaload, 1) := by decide +kernel
theorem dL_law_943 : decode cL_law 943 = .ok (.aload_n 0, 1) := by decide +kernel
theorem dL_law_944 : decode cL_law 944 = .ok (.iload 4, 2) := by decide +kernel
theorem dL_law_946 : decode cL_law 946 = .ok (.iconst 2, 1) := by decide +kernel
theorem dL_law_947 : decode cL_law 947 = .ok (.iadd, 1) := by decide +kernel
theorem dL_law_948 : decode cL_law 948 = .ok (.iaload, 1) := by decide +kernel
theorem dL_law_949 : decode cL_law 949 = .ok (.invokevirtual 144, 3) := by decide +kernel
theorem dL_law_952 : decode cL_law 952 = .ok (.istore 6, 2) := by decide +kernel
theorem dL_law_954 : decode cL_law 954 = .ok (.aload_n 2, 1) := by decide +kernel
theorem dL_law_955 : decode cL_law 955 = .ok (.invokevirtual 93, 3) := by decide +kernel
theorem dL_law_958 : decode cL_law 958 = .ok (.iload 5, 2) := by decide +kernel
theorem dL_law_960 : decode cL_law 960 = .ok (.if_icmp .eq 5, 3) := by decide +kernel
theorem dL_law_963 : decode cL_law 963 = .ok (.iconst 0, 1) := by decide +kernel
theorem dL_law_964 : decode cL_law 964 = .ok (.ireturn, 1) := by decide +kernel
theorem dL_law_965 : decode cL_law 965 = .ok (.iload 5, 2) := by decide +kernel
theorem dL_law_967 : decode cL_law 967 = .ok (.ifCond .ne 15, 3) := by decide +kernel
theorem dL_law_970 : decode cL_law 970 = .ok (.aload_n 3, 1) := by decide +kernel
theorem dL_law_971 : decode cL_law 971 = .ok (.iconst 0, 1) := by decide +kernel
theorem dL_law_972 : decode cL_law 972 = .ok (.laload, 1) := by decide +kernel
theorem dL_law_973 : decode cL_law 973 = .ok (.iload 6, 2) := by decide +kernel
theorem dL_law_975 : decode cL_law 975 = .ok (.i2l, 1) := by decide +kernel
theorem dL_law_976 : decode cL_law 976 = .ok (.lcmp, 1) := by decide +kernel
theorem dL_law_977 : decode cL_law 977 = .ok (.ifCond .eq 5, 3) := by decide +kernel
theorem dL_law_980 : decode cL_law 980 = .ok (.iconst 0, 1) := by decide +kernel
theorem dL_law_981 : decode cL_law 981 = .ok (.ireturn, 1) := by decide +kernel
theorem dL_law_982 : decode cL_law 982 = .ok (.goto 639, 3) := by decide +kernel
theorem dL_law_985 : decode cL_law 985 = .ok (.aload_n 1, 1) := by decide +kernel
theorem dL_law_986 : decode cL_law 986 = .ok (.aload_n 0, 1) := by decide +kernel
theorem dL_law_987 : decode cL_law 987 = .ok (.iload 4, 2) := by decide +kernel
theorem dL_law_989 : decode cL_law 989 = .ok (.iconst 1, 1) := by decide +kernel
theorem dL_law_990 : decode cL_law 990 = .ok (.iadd, 1) := by decide +kernel
theorem dL_law_991 : decode cL_law 991 = .ok (.iaload, 1) := by decide +kernel
theorem dL_law_992 : decode cL_law 992 = .ok (.aload_n 3, 1) := by decide +kernel
theorem dL_law_993 : decode cL_law 993 = .ok (.invokestatic 145, 3) := by decide +kernel
theorem dL_law_996 : decode cL_law 996 = .ok (.istore 5, 2) := by decide +kernel
theorem dL_law_998 : decode cL_law 998 = .ok (.aload_n 2, 1) := by decide +kernel
theorem dL_law_999 : decode cL_law 999 = .ok (.aload_n 0, 1) := by decide +kernel
theorem dL_law_1000 : decode cL_law 1000 = .ok (.iload 4, 2) := by decide +kernel
theorem dL_law_1002 : decode cL_law 1002 = .ok (.iconst 1, 1) := by decide +kernel
theorem dL_law_1003 : decode cL_law 1003 = .ok (.iadd, 1) := by decide +kernel
theorem dL_law_1004 : decode cL_law 1004 = .ok (.iaload, 1) := by decide +kernel
theorem dL_law_1005 : decode cL_law 1005 = .ok (.invokevirtual 147, 3) := by decide +kernel
theorem dL_law_1008 : decode cL_law 1008 = .ok (.istore 6, 2) := by decide +kernel
theorem dL_law_1010 : decode cL_law 1010 = .ok (.aload_n 2, 1) := by decide +kernel
theorem dL_law_1011 : decode cL_law 1011 = .ok (.invokevirtual 93, 3) := by decide +kernel
theorem dL_law_1014 : decode cL_law 1014 = .ok (.iload 5, 2) := by decide +kernel
theorem dL_law_1016 : decode cL_law 1016 = .ok (.if_icmp .eq 5, 3) := by decide +kernel
theorem dL_law_1019 : decode cL_law 1019 = .ok (.iconst 0, 1) := by decide +kernel
theorem dL_law_1020 : decode cL_law 1020 = .ok (.ireturn, 1) := by decide +kernel
theorem dL_law_1021 : decode cL_law 1021 = .ok (.iload 5, 2) := by decide +kernel
theorem dL_law_1023 : decode cL_law 1023 = .ok (.ifCond .ne 15, 3) := by decide +kernel
theorem dL_law_1026 : decode cL_law 1026 = .ok (.aload_n 3, 1) := by decide +kernel
theorem dL_law_1027 : decode cL_law 1027 = .ok (.iconst 0, 1) := by decide +kernel
theorem dL_law_1028 : decode cL_law 1028 = .ok (.laload, 1) := by decide +kernel
theorem dL_law_1029 : decode cL_law 1029 = .ok (.iload 6, 2) := by decide +kernel
theorem dL_law_1031 : decode cL_law 1031 = .ok (.i2l, 1) := by decide +kernel
theorem dL_law_1032 : decode cL_law 1032 = .ok (.lcmp, 1) := by decide +kernel
theorem dL_law_1033 : decode cL_law 1033 = .ok (.ifCond .eq 5, 3) := by decide +kernel
theorem dL_law_1036 : decode cL_law 1036 = .ok (.iconst 0, 1) := by decide +kernel
theorem dL_law_1037 : decode cL_law 1037 = .ok (.ireturn, 1) := by decide +kernel
theorem dL_law_1038 : decode cL_law 1038 = .ok (.goto 583, 3) := by decide +kernel
theorem dL_law_1041 : decode cL_law 1041 = .ok (.aload_n 1, 1) := by decide +kernel
theorem dL_law_1042 : decode cL_law 1042 = .ok (.aload_n 0, 1) := by decide +kernel
theorem dL_law_1043 : decode cL_law 1043 = .ok (.iload 4, 2) := by decide +kernel
theorem dL_law_1045 : decode cL_law 1045 = .ok (.iconst 1, 1) := by decide +kernel
theorem dL_law_1046 : decode cL_law 1046 = .ok (.iadd, 1) := by decide +kernel
theorem dL_law_1047 : decode cL_law 1047 = .ok (.iaload, 1) := by decide +kernel
theorem dL_law_1048 : decode cL_law 1048 = .ok (.aload_n 0, 1) := by decide +kernel
theorem dL_law_1049 : decode cL_law 1049 = .ok (.iload 4, 2) := by decide +kernel
theorem dL_law_1051 : decode cL_law 1051 = .ok (.iconst 2, 1) := by decide +kernel
theorem dL_law_1052 : decode cL_law 1052 = .ok (.iadd, 1) := by decide +kernel
theorem dL_law_1053 : decode cL_law 1053 = .ok (.iaload, 1) := by decide +kernel
theorem dL_law_1054 : decode cL_law 1054 = .ok (.aload_n 3, 1) := by decide +kernel
theorem dL_law_1055 : decode cL_law 1055 = .ok (.invokestatic 148, 3) := by decide +kernel
theorem dL_law_1058 : decode cL_law 1058 = .ok (.istore 5, 2) := by decide +kernel
theorem dL_law_1060 : decode cL_law 1060 = .ok (.aload_n 2, 1) := by decide +kernel
theorem dL_law_1061 : decode cL_law 1061 = .ok (.aload_n 0, 1) := by decide +kernel
theorem dL_law_1062 : decode cL_law 1062 = .ok (.iload 4, 2) := by decide +kernel
theorem dL_law_1064 : decode cL_law 1064 = .ok (.iconst 1, 1) := by decide +kernel
theorem dL_law_1065 : decode cL_law 1065 = .ok (.iadd, 1) := by decide +kernel
theorem dL_law_1066 : decode cL_law 1066 = .ok (.iaload, 1) := by decide +kernel
theorem dL_law_1067 : decode cL_law 1067 = .ok (.aload_n 0, 1) := by decide +kernel
theorem dL_law_1068 : decode cL_law 1068 = .ok (.iload 4, 2) := by decide +kernel
theorem dL_law_1070 : decode cL_law 1070 = .ok (.iconst 2, 1) := by decide +kernel
theorem dL_law_1071 : decode cL_law 1071 = .ok (.iadd, 1) := by decide +kernel
theorem dL_law_1072 : decode cL_law 1072 = .ok (.iaload, 1) := by decide +kernel
theorem dL_law_1073 : decode cL_law 1073 = .ok (.invokevirtual 150, 3) := by decide +kernel
theorem dL_law_1076 : decode cL_law 1076 = .ok (.istore 6, 2) := by decide +kernel
theorem dL_law_1078 : decode cL_law 1078 = .ok (.aload_n 2, 1) := by decide +kernel
theorem dL_law_1079 : decode cL_law 1079 = .ok (.invokevirtual 93, 3) := by decide +kernel
theorem dL_law_1082 : decode cL_law 1082 = .ok (.iload 5, 2) := by decide +kernel
theorem dL_law_1084 : decode cL_law 1084 = .ok (.if_icmp .eq 5, 3) := by decide +kernel
theorem dL_law_1087 : decode cL_law 1087 = .ok (.iconst 0, 1) := by decide +kernel
theorem dL_law_1088 : decode cL_law 1088 = .ok (.ireturn, 1) := by decide +kernel
theorem dL_law_1089 : decode cL_law 1089 = .ok (.iload 5, 2) := by decide +kernel
theorem dL_law_1091 : decode cL_law 1091 = .ok (.ifCond .ne 15, 3) := by decide +kernel
theorem dL_law_1094 : decode cL_law 1094 = .ok (.aload_n 3, 1) := by decide +kernel
theorem dL_law_1095 : decode cL_law 1095 = .ok (.iconst 0, 1) := by decide +kernel
theorem dL_law_1096 : decode cL_law 1096 = .ok (.laload, 1) := by decide +kernel
theorem dL_law_1097 : decode cL_law 1097 = .ok (.iload 6, 2) := by decide +kernel
theorem dL_law_1099 : decode cL_law 1099 = .ok (.i2l, 1) := by decide +kernel
theorem dL_law_1100 : decode cL_law 1100 = .ok (.lcmp, 1) := by decide +kernel
theorem dL_law_1101 : decode cL_law 1101 = .ok (.ifCond .eq 5, 3) := by decide +kernel
theorem dL_law_1104 : decode cL_law 1104 = .ok (.iconst 0, 1) := by decide +kernel
theorem dL_law_1105 : decode cL_law 1105 = .ok (.ireturn, 1) := by decide +kernel
theorem dL_law_1106 : decode cL_law 1106 = .ok (.goto 515, 3) := by decide +kernel
theorem dL_law_1109 : decode cL_law 1109 = .ok (.aload_n 1, 1) := by decide +kernel
theorem dL_law_1110 : decode cL_law 1110 = .ok (.aload_n 0, 1) := by decide +kernel
theorem dL_law_1111 : decode cL_law 1111 = .ok (.iload 4, 2) := by decide +kernel
theorem dL_law_1113 : decode cL_law 1113 = .ok (.iconst 1, 1) := by decide +kernel
theorem dL_law_1114 : decode cL_law 1114 = .ok (.iadd, 1) := by decide +kernel
theorem dL_law_1115 : decode cL_law 1115 = .ok (.iaload, 1) := by decide +kernel
theorem dL_law_1116 : decode cL_law 1116 = .ok (.aload_n 0, 1) := by decide +kernel
theorem dL_law_1117 : decode cL_law 1117 = .ok (.iload 4, 2) := by decide +kernel
theorem dL_law_1119 : decode cL_law 1119 = .ok (.iconst 2, 1) := by decide +kernel
theorem dL_law_1120 : decode cL_law 1120 = .ok (.iadd, 1) := by decide +kernel
theorem dL_law_1121 : decode cL_law 1121 = .ok (.iaload, 1) := by decide +kernel
theorem dL_law_1122 : decode cL_law 1122 = .ok (.aload_n 3, 1) := by decide +kernel
theorem dL_law_1123 : decode cL_law 1123 = .ok (.invokestatic 151, 3) := by decide +kernel
theorem dL_law_1126 : decode cL_law 1126 = .ok (.istore 5, 2) := by decide +kernel
theorem dL_law_1128 : decode cL_law 1128 = .ok (.aload_n 2, 1) := by decide +kernel
theorem dL_law_1129 : decode cL_law 1129 = .ok (.aload_n 0, 1) := by decide +kernel
theorem dL_law_1130 : decode cL_law 1130 = .ok (.iload 4, 2) := by decide +kernel
theorem dL_law_1132 : decode cL_law 1132 = .ok (.iconst 1, 1) := by decide +kernel
theorem dL_law_1133 : decode cL_law 1133 = .ok (.iadd, 1) := by decide +kernel
theorem dL_law_1134 : decode cL_law 1134 = .ok (.iaload, 1) := by decide +kernel
theorem dL_law_1135 : decode cL_law 1135 = .ok (.aload_n 0, 1) := by decide +kernel
theorem dL_law_1136 : decode cL_law 1136 = .ok (.iload 4, 2) := by decide +kernel
theorem dL_law_1138 : decode cL_law 1138 = .ok (.iconst 2, 1) := by decide +kernel
theorem dL_law_1139 : decode cL_law 1139 = .ok (.iadd, 1) := by decide +kernel
theorem dL_law_1140 : decode cL_law 1140 = .ok (.iaload, 1) := by decide +kernel
theorem dL_law_1141 : decode cL_law 1141 = .ok (.invokevirtual 153, 3) := by decide +kernel
theorem dL_law_1144 : decode cL_law 1144 = .ok (.istore 6, 2) := by decide +kernel
theorem dL_law_1146 : decode cL_law 1146 = .ok (.aload_n 2, 1) := by decide +kernel
theorem dL_law_1147 : decode cL_law 1147 = .ok (.invokevirtual 93, 3) := by decide +kernel
theorem dL_law_1150 : decode cL_law 1150 = .ok (.iload 5, 2) := by decide +kernel
theorem dL_law_1152 : decode cL_law 1152 = .ok (.if_icmp .eq 5, 3) := by decide +kernel
theorem dL_law_1155 : decode cL_law 1155 = .ok (.iconst 0, 1) := by decide +kernel
theorem dL_law_1156 : decode cL_law 1156 = .ok (.ireturn, 1) := by decide +kernel
theorem dL_law_1157 : decode cL_law 1157 = .ok (.iload 5, 2) := by decide +kernel
theorem dL_law_1159 : decode cL_law 1159 = .ok (.ifCond .ne 15, 3) := by decide +kernel
theorem dL_law_1162 : decode cL_law 1162 = .ok (.aload_n 3, 1) := by decide +kernel
theorem dL_law_1163 : decode cL_law 1163 = .ok (.iconst 0, 1) := by decide +kernel
theorem dL_law_1164 : decode cL_law 1164 = .ok (.laload, 1) := by decide +kernel
theorem dL_law_1165 : decode cL_law 1165 = .ok (.iload 6, 2) := by decide +kernel
theorem dL_law_1167 : decode cL_law 1167 = .ok (.i2l, 1) := by decide +kernel
theorem dL_law_1168 : decode cL_law 1168 = .ok (.lcmp, 1) := by decide +kernel
theorem dL_law_1169 : decode cL_law 1169 = .ok (.ifCond .eq 5, 3) := by decide +kernel
theorem dL_law_1172 : decode cL_law 1172 = .ok (.iconst 0, 1) := by decide +kernel
theorem dL_law_1173 : decode cL_law 1173 = .ok (.ireturn, 1) := by decide +kernel
theorem dL_law_1174 : decode cL_law 1174 = .ok (.goto 447, 3) := by decide +kernel
theorem dL_law_1177 : decode cL_law 1177 = .ok (.aload_n 1, 1) := by decide +kernel
theorem dL_law_1178 : decode cL_law 1178 = .ok (.aload_n 0, 1) := by decide +kernel
theorem dL_law_1179 : decode cL_law 1179 = .ok (.iload 4, 2) := by decide +kernel
theorem dL_law_1181 : decode cL_law 1181 = .ok (.iconst 1, 1) := by decide +kernel
theorem dL_law_1182 : decode cL_law 1182 = .ok (.iadd, 1) := by decide +kernel
theorem dL_law_1183 : decode cL_law 1183 = .ok (.iaload, 1) := by decide +kernel
theorem dL_law_1184 : decode cL_law 1184 = .ok (.aload_n 3, 1) := by decide +kernel
theorem dL_law_1185 : decode cL_law 1185 = .ok (.invokestatic 154, 3) := by decide +kernel
theorem dL_law_1188 : decode cL_law 1188 = .ok (.istore 5, 2) := by decide +kernel
theorem dL_law_1190 : decode cL_law 1190 = .ok (.aload_n 2, 1) := by decide +kernel
theorem dL_law_1191 : decode cL_law 1191 = .ok (.aload_n 0, 1) := by decide +kernel
theorem dL_law_1192 : decode cL_law 1192 = .ok (.iload 4, 2) := by decide +kernel
theorem dL_law_1194 : decode cL_law 1194 = .ok (.iconst 1, 1) := by decide +kernel
theorem dL_law_1195 : decode cL_law 1195 = .ok (.iadd, 1) := by decide +kernel
theorem dL_law_1196 : decode cL_law 1196 = .ok (.iaload, 1) := by decide +kernel
theorem dL_law_1197 : decode cL_law 1197 = .ok (.invokevirtual 156, 3) := by decide +kernel
theorem dL_law_1200 : decode cL_law 1200 = .ok (.istore 6, 2) := by decide +kernel
theorem dL_law_1202 : decode cL_law 1202 = .ok (.aload_n 2, 1) := by decide +kernel
theorem dL_law_1203 : decode cL_law 1203 = .ok (.invokevirtual 93, 3) := by decide +kernel
theorem dL_law_1206 : decode cL_law 1206 = .ok (.iload 5, 2) := by decide +kernel
theorem dL_law_1208 : decode cL_law 1208 = .ok (.if_icmp .eq 5, 3) := by decide +kernel
theorem dL_law_1211 : decode cL_law 1211 = .ok (.iconst 0, 1) := by decide +kernel
theorem dL_law_1212 : decode cL_law 1212 = .ok (.ireturn, 1) := by decide +kernel
theorem dL_law_1213 : decode cL_law 1213 = .ok (.iload 5, 2) := by decide +kernel
theorem dL_law_1215 : decode cL_law 1215 = .ok (.ifCond .ne 15, 3) := by decide +kernel
theorem dL_law_1218 : decode cL_law 1218 = .ok (.aload_n 3, 1) := by decide +kernel
theorem dL_law_1219 : decode cL_law 1219 = .ok (.iconst 0, 1) := by decide +kernel
theorem dL_law_1220 : decode cL_law 1220 = .ok (.laload, 1) := by decide +kernel
theorem dL_law_1221 : decode cL_law 1221 = .ok (.iload 6, 2) := by decide +kernel
theorem dL_law_1223 : decode cL_law 1223 = .ok (.i2l, 1) := by decide +kernel
theorem dL_law_1224 : decode cL_law 1224 = .ok (.lcmp, 1) := by decide +kernel
theorem dL_law_1225 : decode cL_law 1225 = .ok (.ifCond .eq 5, 3) := by decide +kernel
theorem dL_law_1228 : decode cL_law 1228 = .ok (.iconst 0, 1) := by decide +kernel
theorem dL_law_1229 : decode cL_law 1229 = .ok (.ireturn, 1) := by decide +kernel
theorem dL_law_1230 : decode cL_law 1230 = .ok (.goto 391, 3) := by decide +kernel
theorem dL_law_1233 : decode cL_law 1233 = .ok (.aload_n 1, 1) := by decide +kernel
theorem dL_law_1234 : decode cL_law 1234 = .ok (.aload_n 0, 1) := by decide +kernel
theorem dL_law_1235 : decode cL_law 1235 = .ok (.iload 4, 2) := by decide +kernel
theorem dL_law_1237 : decode cL_law 1237 = .ok (.iconst 1, 1) := by decide +kernel
theorem dL_law_1238 : decode cL_law 1238 = .ok (.iadd, 1) := by decide +kernel
theorem dL_law_1239 : decode cL_law 1239 = .ok (.iaload, 1) := by decide +kernel
theorem dL_law_1240 : decode cL_law 1240 = .ok (.aload_n 3, 1) := by decide +kernel
theorem dL_law_1241 : decode cL_law 1241 = .ok (.invokestatic 157, 3) := by decide +kernel
theorem dL_law_1244 : decode cL_law 1244 = .ok (.istore 5, 2) := by decide +kernel
theorem dL_law_1246 : decode cL_law 1246 = .ok (.aload_n 2, 1) := by decide +kernel
theorem dL_law_1247 : decode cL_law 1247 = .ok (.aload_n 0, 1) := by decide +kernel
theorem dL_law_1248 : decode cL_law 1248 = .ok (.iload 4, 2) := by decide +kernel
theorem dL_law_1250 : decode cL_law 1250 = .ok (.iconst 1, 1) := by decide +kernel
theorem dL_law_1251 : decode cL_law 1251 = .ok (.iadd, 1) := by decide +kernel
theorem dL_law_1252 : decode cL_law 1252 = .ok (.iaload, 1) := by decide +kernel
theorem dL_law_1253 : decode cL_law 1253 = .ok (.invokevirtual 159, 3) := by decide +kernel
theorem dL_law_1256 : decode cL_law 1256 = .ok (.istore 6, 2) := by decide +kernel
theorem dL_law_1258 : decode cL_law 1258 = .ok (.aload_n 2, 1) := by decide +kernel
theorem dL_law_1259 : decode cL_law 1259 = .ok (.invokevirtual 93, 3) := by decide +kernel
theorem dL_law_1262 : decode cL_law 1262 = .ok (.iload 5, 2) := by decide +kernel
theorem dL_law_1264 : decode cL_law 1264 = .ok (.if_icmp .eq 5, 3) := by decide +kernel
theorem dL_law_1267 : decode cL_law 1267 = .ok (.iconst 0, 1) := by decide +kernel
theorem dL_law_1268 : decode cL_law 1268 = .ok (.ireturn, 1) := by decide +kernel
theorem dL_law_1269 : decode cL_law 1269 = .ok (.iload 5, 2) := by decide +kernel
theorem dL_law_1271 : decode cL_law 1271 = .ok (.ifCond .ne 15, 3) := by decide +kernel
theorem dL_law_1274 : decode cL_law 1274 = .ok (.aload_n 3, 1) := by decide +kernel
theorem dL_law_1275 : decode cL_law 1275 = .ok (.iconst 0, 1) := by decide +kernel
theorem dL_law_1276 : decode cL_law 1276 = .ok (.laload, 1) := by decide +kernel
theorem dL_law_1277 : decode cL_law 1277 = .ok (.iload 6, 2) := by decide +kernel
theorem dL_law_1279 : decode cL_law 1279 = .ok (.i2l, 1) := by decide +kernel
theorem dL_law_1280 : decode cL_law 1280 = .ok (.lcmp, 1) := by decide +kernel
theorem dL_law_1281 : decode cL_law 1281 = .ok (.ifCond .eq 5, 3) := by decide +kernel
theorem dL_law_1284 : decode cL_law 1284 = .ok (.iconst 0, 1) := by decide +kernel
theorem dL_law_1285 : decode cL_law 1285 = .ok (.ireturn, 1) := by decide +kernel
theorem dL_law_1286 : decode cL_law 1286 = .ok (.goto 335, 3) := by decide +kernel
theorem dL_law_1289 : decode cL_law 1289 = .ok (.aload_n 1, 1) := by decide +kernel
theorem dL_law_1290 : decode cL_law 1290 = .ok (.aload_n 0, 1) := by decide +kernel
theorem dL_law_1291 : decode cL_law 1291 = .ok (.iload 4, 2) := by decide +kernel
theorem dL_law_1293 : decode cL_law 1293 = .ok (.iconst 1, 1) := by decide +kernel
theorem dL_law_1294 : decode cL_law 1294 = .ok (.iadd, 1) := by decide +kernel
theorem dL_law_1295 : decode cL_law 1295 = .ok (.iaload, 1) := by decide +kernel
theorem dL_law_1296 : decode cL_law 1296 = .ok (.aload_n 3, 1) := by decide +kernel
theorem dL_law_1297 : decode cL_law 1297 = .ok (.invokestatic 160, 3) := by decide +kernel
theorem dL_law_1300 : decode cL_law 1300 = .ok (.istore 5, 2) := by decide +kernel
theorem dL_law_1302 : decode cL_law 1302 = .ok (.aload_n 2, 1) := by decide +kernel
theorem dL_law_1303 : decode cL_law 1303 = .ok (.aload_n 0, 1) := by decide +kernel
theorem dL_law_1304 : decode cL_law 1304 = .ok (.iload 4, 2) := by decide +kernel
theorem dL_law_1306 : decode cL_law 1306 = .ok (.iconst 1, 1) := by decide +kernel
theorem dL_law_1307 : decode cL_law 1307 = .ok (.iadd, 1) := by decide +kernel
theorem dL_law_1308 : decode cL_law 1308 = .ok (.iaload, 1) := by decide +kernel
theorem dL_law_1309 : decode cL_law 1309 = .ok (.invokevirtual 162, 3) := by decide +kernel
theorem dL_law_1312 : decode cL_law 1312 = .ok (.istore 6, 2) := by decide +kernel
theorem dL_law_1314 : decode cL_law 1314 = .ok (.aload_n 2, 1) := by decide +kernel
theorem dL_law_1315 : decode cL_law 1315 = .ok (.invokevirtual 93, 3) := by decide +kernel
theorem dL_law_1318 : decode cL_law 1318 = .ok (.iload 5, 2) := by decide +kernel
theorem dL_law_1320 : decode cL_law 1320 = .ok (.if_icmp .eq 5, 3) := by decide +kernel
theorem dL_law_1323 : decode cL_law 1323 = .ok (.iconst 0, 1) := by decide +kernel
theorem dL_law_1324 : decode cL_law 1324 = .ok (.ireturn, 1) := by decide +kernel
theorem dL_law_1325 : decode cL_law 1325 = .ok (.iload 5, 2) := by decide +kernel
theorem dL_law_1327 : decode cL_law 1327 = .ok (.ifCond .ne 15, 3) := by decide +kernel
theorem dL_law_1330 : decode cL_law 1330 = .ok (.aload_n 3, 1) := by decide +kernel
theorem dL_law_1331 : decode cL_law 1331 = .ok (.iconst 0, 1) := by decide +kernel
theorem dL_law_1332 : decode cL_law 1332 = .ok (.laload, 1) := by decide +kernel
theorem dL_law_1333 : decode cL_law 1333 = .ok (.iload 6, 2) := by decide +kernel
theorem dL_law_1335 : decode cL_law 1335 = .ok (.i2l, 1) := by decide +kernel
theorem dL_law_1336 : decode cL_law 1336 = .ok (.lcmp, 1) := by decide +kernel
theorem dL_law_1337 : decode cL_law 1337 = .ok (.ifCond .eq 5, 3) := by decide +kernel
theorem dL_law_1340 : decode cL_law 1340 = .ok (.iconst 0, 1) := by decide +kernel
theorem dL_law_1341 : decode cL_law 1341 = .ok (.ireturn, 1) := by decide +kernel
theorem dL_law_1342 : decode cL_law 1342 = .ok (.goto 279, 3) := by decide +kernel
theorem dL_law_1345 : decode cL_law 1345 = .ok (.aload_n 1, 1) := by decide +kernel
theorem dL_law_1346 : decode cL_law 1346 = .ok (.aload_n 0, 1) := by decide +kernel
theorem dL_law_1347 : decode cL_law 1347 = .ok (.iload 4, 2) := by decide +kernel
theorem dL_law_1349 : decode cL_law 1349 = .ok (.iconst 1, 1) := by decide +kernel
theorem dL_law_1350 : decode cL_law 1350 = .ok (.iadd, 1) := by decide +kernel
theorem dL_law_1351 : decode cL_law 1351 = .ok (.iaload, 1) := by decide +kernel
theorem dL_law_1352 : decode cL_law 1352 = .ok (.aload_n 0, 1) := by decide +kernel
theorem dL_law_1353 : decode cL_law 1353 = .ok (.iload 4, 2) := by decide +kernel
theorem dL_law_1355 : decode cL_law 1355 = .ok (.iconst 2, 1) := by decide +kernel
theorem dL_law_1356 : decode cL_law 1356 = .ok (.iadd, 1) := by decide +kernel
theorem dL_law_1357 : decode cL_law 1357 = .ok (.iaload, 1) := by decide +kernel
theorem dL_law_1358 : decode cL_law 1358 = .ok (.aload_n 0, 1) := by decide +kernel
theorem dL_law_1359 : decode cL_law 1359 = .ok (.iload 4, 2) := by decide +kernel
theorem dL_law_1361 : decode cL_law 1361 = .ok (.iconst 3, 1) := by decide +kernel
theorem dL_law_1362 : decode cL_law 1362 = .ok (.iadd, 1) := by decide +kernel
theorem dL_law_1363 : decode cL_law 1363 = .ok (.iaload, 1) := by decide +kernel
theorem dL_law_1364 : decode cL_law 1364 = .ok (.aload_n 0, 1) := by decide +kernel
theorem dL_law_1365 : decode cL_law 1365 = .ok (.iload 4, 2) := by decide +kernel
theorem dL_law_1367 : decode cL_law 1367 = .ok (.iconst 4, 1) := by decide +kernel
theorem dL_law_1368 : decode cL_law 1368 = .ok (.iadd, 1) := by decide +kernel
theorem dL_law_1369 : decode cL_law 1369 = .ok (.iaload, 1) := by decide +kernel
theorem dL_law_1370 : decode cL_law 1370 = .ok (.aload_n 3, 1) := by decide +kernel
theorem dL_law_1371 : decode cL_law 1371 = .ok (.invokestatic 163, 3) := by decide +kernel
theorem dL_law_1374 : decode cL_law 1374 = .ok (.istore 5, 2) := by decide +kernel
theorem dL_law_1376 : decode cL_law 1376 = .ok (.aload_n 2, 1) := by decide +kernel
theorem dL_law_1377 : decode cL_law 1377 = .ok (.aload_n 0, 1) := by decide +kernel
theorem dL_law_1378 : decode cL_law 1378 = .ok (.iload 4, 2) := by decide +kernel
theorem dL_law_1380 : decode cL_law 1380 = .ok (.iconst 1, 1) := by decide +kernel
theorem dL_law_1381 : decode cL_law 1381 = .ok (.iadd, 1) := by decide +kernel
theorem dL_law_1382 : decode cL_law 1382 = .ok (.iaload, 1) := by decide +kernel
theorem dL_law_1383 : decode cL_law 1383 = .ok (.aload_n 0, 1) := by decide +kernel
theorem dL_law_1384 : decode cL_law 1384 = .ok (.iload 4, 2) := by decide +kernel
theorem dL_law_1386 : decode cL_law 1386 = .ok (.iconst 2, 1) := by decide +kernel
theorem dL_law_1387 : decode cL_law 1387 = .ok (.iadd, 1) := by decide +kernel
theorem dL_law_1388 : decode cL_law 1388 = .ok (.iaload, 1) := by decide +kernel
theorem dL_law_1389 : decode cL_law 1389 = .ok (.aload_n 0, 1) := by decide +kernel
theorem dL_law_1390 : decode cL_law 1390 = .ok (.iload 4, 2) := by decide +kernel
theorem dL_law_1392 : decode cL_law 1392 = .ok (.iconst 3, 1) := by decide +kernel
theorem dL_law_1393 : decode cL_law 1393 = .ok (.iadd, 1) := by decide +kernel
theorem dL_law_1394 : decode cL_law 1394 = .ok (.iaload, 1) := by decide +kernel
theorem dL_law_1395 : decode cL_law 1395 = .ok (.aload_n 0, 1) := by decide +kernel
theorem dL_law_1396 : decode cL_law 1396 = .ok (.iload 4, 2) := by decide +kernel
theorem dL_law_1398 : decode cL_law 1398 = .ok (.iconst 4, 1) := by decide +kernel
theorem dL_law_1399 : decode cL_law 1399 = .ok (.iadd, 1) := by decide +kernel
theorem dL_law_1400 : decode cL_law 1400 = .ok (.iaload, 1) := by decide +kernel
theorem dL_law_1401 : decode cL_law 1401 = .ok (.invokevirtual 165, 3) := by decide +kernel
theorem dL_law_1404 : decode cL_law 1404 = .ok (.istore 6, 2) := by decide +kernel
theorem dL_law_1406 : decode cL_law 1406 = .ok (.aload_n 2, 1) := by decide +kernel
theorem dL_law_1407 : decode cL_law 1407 = .ok (.invokevirtual 93, 3) := by decide +kernel
theorem dL_law_1410 : decode cL_law 1410 = .ok (.iload 5, 2) := by decide +kernel
theorem dL_law_1412 : decode cL_law 1412 = .ok (.if_icmp .eq 5, 3) := by decide +kernel
theorem dL_law_1415 : decode cL_law 1415 = .ok (.iconst 0, 1) := by decide +kernel
theorem dL_law_1416 : decode cL_law 1416 = .ok (.ireturn, 1) := by decide +kernel
theorem dL_law_1417 : decode cL_law 1417 = .ok (.iload 5, 2) := by decide +kernel
theorem dL_law_1419 : decode cL_law 1419 = .ok (.ifCond .ne 15, 3) := by decide +kernel
theorem dL_law_1422 : decode cL_law 1422 = .ok (.aload_n 3, 1) := by decide +kernel
theorem dL_law_1423 : decode cL_law 1423 = .ok (.iconst 0, 1) := by decide +kernel
theorem dL_law_1424 : decode cL_law 1424 = .ok (.laload, 1) := by decide +kernel
theorem dL_law_1425 : decode cL_law 1425 = .ok (.iload 6, 2) := by decide +kernel
theorem dL_law_1427 : decode cL_law 1427 = .ok (.i2l, 1) := by decide +kernel
theorem dL_law_1428 : decode cL_law 1428 = .ok (.lcmp, 1) := by decide +kernel
theorem dL_law_1429 : decode cL_law 1429 = .ok (.ifCond .eq 5, 3) := by decide +kernel
theorem dL_law_1432 : decode cL_law 1432 = .ok (.iconst 0, 1) := by decide +kernel
theorem dL_law_1433 : decode cL_law 1433 = .ok (.ireturn, 1) := by decide +kernel
theorem dL_law_1434 : decode cL_law 1434 = .ok (.goto 187, 3) := by decide +kernel
theorem dL_law_1437 : decode cL_law 1437 = .ok (.aload_n 1, 1) := by decide +kernel
theorem dL_law_1438 : decode cL_law 1438 = .ok (.aload_n 0, 1) := by decide +kernel
theorem dL_law_1439 : decode cL_law 1439 = .ok (.iload 4, 2) := by decide +kernel
theorem dL_law_1441 : decode cL_law 1441 = .ok (.iconst 1, 1) := by decide +kernel
theorem dL_law_1442 : decode cL_law 1442 = .ok (.iadd, 1) := by decide +kernel
theorem dL_law_1443 : decode cL_law 1443 = .ok (.iaload, 1) := by decide +kernel
theorem dL_law_1444 : decode cL_law 1444 = .ok (.aload_n 0, 1) := by decide +kernel
theorem dL_law_1445 : decode cL_law 1445 = .ok (.iload 4, 2) := by decide +kernel
theorem dL_law_1447 : decode cL_law 1447 = .ok (.iconst 2, 1) := by decide +kernel
theorem dL_law_1448 : decode cL_law 1448 = .ok (.iadd, 1) := by decide +kernel
theorem dL_law_1449 : decode cL_law 1449 = .ok (.iaload, 1) := by decide +kernel
theorem dL_law_1450 : decode cL_law 1450 = .ok (.aload_n 0, 1) := by decide +kernel
theorem dL_law_1451 : decode cL_law 1451 = .ok (.iload 4, 2) := by decide +kernel
theorem dL_law_1453 : decode cL_law 1453 = .ok (.iconst 3, 1) := by decide +kernel
theorem dL_law_1454 : decode cL_law 1454 = .ok (.iadd, 1) := by decide +kernel
theorem dL_law_1455 : decode cL_law 1455 = .ok (.iaload, 1) := by decide +kernel
theorem dL_law_1456 : decode cL_law 1456 = .ok (.aload_n 0, 1) := by decide +kernel
theorem dL_law_1457 : decode cL_law 1457 = .ok (.iload 4, 2) := by decide +kernel
theorem dL_law_1459 : decode cL_law 1459 = .ok (.iconst 4, 1) := by decide +kernel
theorem dL_law_1460 : decode cL_law 1460 = .ok (.iadd, 1) := by decide +kernel
theorem dL_law_1461 : decode cL_law 1461 = .ok (.iaload, 1) := by decide +kernel
theorem dL_law_1462 : decode cL_law 1462 = .ok (.aload_n 3, 1) := by decide +kernel
theorem dL_law_1463 : decode cL_law 1463 = .ok (.invokestatic 166, 3) := by decide +kernel
theorem dL_law_1466 : decode cL_law 1466 = .ok (.istore 5, 2) := by decide +kernel
theorem dL_law_1468 : decode cL_law 1468 = .ok (.aload_n 2, 1) := by decide +kernel
theorem dL_law_1469 : decode cL_law 1469 = .ok (.aload_n 0, 1) := by decide +kernel
theorem dL_law_1470 : decode cL_law 1470 = .ok (.iload 4, 2) := by decide +kernel
theorem dL_law_1472 : decode cL_law 1472 = .ok (.iconst 1, 1) := by decide +kernel
theorem dL_law_1473 : decode cL_law 1473 = .ok (.iadd, 1) := by decide +kernel
theorem dL_law_1474 : decode cL_law 1474 = .ok (.iaload, 1) := by decide +kernel
theorem dL_law_1475 : decode cL_law 1475 = .ok (.aload_n 0, 1) := by decide +kernel
theorem dL_law_1476 : decode cL_law 1476 = .ok (.iload 4, 2) := by decide +kernel
theorem dL_law_1478 : decode cL_law 1478 = .ok (.iconst 2, 1) := by decide +kernel
theorem dL_law_1479 : decode cL_law 1479 = .ok (.iadd, 1) := by decide +kernel
theorem dL_law_1480 : decode cL_law 1480 = .ok (.iaload, 1) := by decide +kernel
theorem dL_law_1481 : decode cL_law 1481 = .ok (.aload_n 0, 1) := by decide +kernel
theorem dL_law_1482 : decode cL_law 1482 = .ok (.iload 4, 2) := by decide +kernel
theorem dL_law_1484 : decode cL_law 1484 = .ok (.iconst 3, 1) := by decide +kernel
theorem dL_law_1485 : decode cL_law 1485 = .ok (.iadd, 1) := by decide +kernel
theorem dL_law_1486 : decode cL_law 1486 = .ok (.iaload, 1) := by decide +kernel
theorem dL_law_1487 : decode cL_law 1487 = .ok (.aload_n 0, 1) := by decide +kernel
theorem dL_law_1488 : decode cL_law 1488 = .ok (.iload 4, 2) := by decide +kernel
theorem dL_law_1490 : decode cL_law 1490 = .ok (.iconst 4, 1) := by decide +kernel
theorem dL_law_1491 : decode cL_law 1491 = .ok (.iadd, 1) := by decide +kernel
theorem dL_law_1492 : decode cL_law 1492 = .ok (.iaload, 1) := by decide +kernel
theorem dL_law_1493 : decode cL_law 1493 = .ok (.invokevirtual 168, 3) := by decide +kernel
theorem dL_law_1496 : decode cL_law 1496 = .ok (.istore 6, 2) := by decide +kernel
theorem dL_law_1498 : decode cL_law 1498 = .ok (.aload_n 2, 1) := by decide +kernel
theorem dL_law_1499 : decode cL_law 1499 = .ok (.invokevirtual 93, 3) := by decide +kernel
theorem dL_law_1502 : decode cL_law 1502 = .ok (.iload 5, 2) := by decide +kernel
theorem dL_law_1504 : decode cL_law 1504 = .ok (.if_icmp .eq 5, 3) := by decide +kernel
theorem dL_law_1507 : decode cL_law 1507 = .ok (.iconst 0, 1) := by decide +kernel
theorem dL_law_1508 : decode cL_law 1508 = .ok (.ireturn, 1) := by decide +kernel
theorem dL_law_1509 : decode cL_law 1509 = .ok (.iload 5, 2) := by decide +kernel
theorem dL_law_1511 : decode cL_law 1511 = .ok (.ifCond .ne 15, 3) := by decide +kernel
theorem dL_law_1514 : decode cL_law 1514 = .ok (.aload_n 3, 1) := by decide +kernel
theorem dL_law_1515 : decode cL_law 1515 = .ok (.iconst 0, 1) := by decide +kernel
theorem dL_law_1516 : decode cL_law 1516 = .ok (.laload, 1) := by decide +kernel
theorem dL_law_1517 : decode cL_law 1517 = .ok (.iload 6, 2) := by decide +kernel
theorem dL_law_1519 : decode cL_law 1519 = .ok (.i2l, 1) := by decide +kernel
theorem dL_law_1520 : decode cL_law 1520 = .ok (.lcmp, 1) := by decide +kernel
theorem dL_law_1521 : decode cL_law 1521 = .ok (.ifCond .eq 5, 3) := by decide +kernel
theorem dL_law_1524 : decode cL_law 1524 = .ok (.iconst 0, 1) := by decide +kernel
theorem dL_law_1525 : decode cL_law 1525 = .ok (.ireturn, 1) := by decide +kernel
theorem dL_law_1526 : decode cL_law 1526 = .ok (.goto 95, 3) := by decide +kernel
theorem dL_law_1529 : decode cL_law 1529 = .ok (.aload_n 1, 1) := by decide +kernel
theorem dL_law_1530 : decode cL_law 1530 = .ok (.aload_n 0, 1) := by decide +kernel
theorem dL_law_1531 : decode cL_law 1531 = .ok (.iload 4, 2) := by decide +kernel
theorem dL_law_1533 : decode cL_law 1533 = .ok (.iconst 1, 1) := by decide +kernel
theorem dL_law_1534 : decode cL_law 1534 = .ok (.iadd, 1) := by decide +kernel
theorem dL_law_1535 : decode cL_law 1535 = .ok (.iaload, 1) := by decide +kernel
theorem dL_law_1536 : decode cL_law 1536 = .ok (.aload_n 0, 1) := by decide +kernel
theorem dL_law_1537 : decode cL_law 1537 = .ok (.iload 4, 2) := by decide +kernel
theorem dL_law_1539 : decode cL_law 1539 = .ok (.iconst 2, 1) := by decide +kernel
theorem dL_law_1540 : decode cL_law 1540 = .ok (.iadd, 1) := by decide +kernel
theorem dL_law_1541 : decode cL_law 1541 = .ok (.iaload, 1) := by decide +kernel
theorem dL_law_1542 : decode cL_law 1542 = .ok (.aload_n 0, 1) := by decide +kernel
theorem dL_law_1543 : decode cL_law 1543 = .ok (.iload 4, 2) := by decide +kernel
theorem dL_law_1545 : decode cL_law 1545 = .ok (.iconst 3, 1) := by decide +kernel
theorem dL_law_1546 : decode cL_law 1546 = .ok (.iadd, 1) := by decide +kernel
theorem dL_law_1547 : decode cL_law 1547 = .ok (.iaload, 1) := by decide +kernel
theorem dL_law_1548 : decode cL_law 1548 = .ok (.aload_n 0, 1) := by decide +kernel
theorem dL_law_1549 : decode cL_law 1549 = .ok (.iload 4, 2) := by decide +kernel
theorem dL_law_1551 : decode cL_law 1551 = .ok (.iconst 4, 1) := by decide +kernel
theorem dL_law_1552 : decode cL_law 1552 = .ok (.iadd, 1) := by decide +kernel
theorem dL_law_1553 : decode cL_law 1553 = .ok (.iaload, 1) := by decide +kernel
theorem dL_law_1554 : decode cL_law 1554 = .ok (.aload_n 3, 1) := by decide +kernel
theorem dL_law_1555 : decode cL_law 1555 = .ok (.invokestatic 169, 3) := by decide +kernel
theorem dL_law_1558 : decode cL_law 1558 = .ok (.istore 5, 2) := by decide +kernel
theorem dL_law_1560 : decode cL_law 1560 = .ok (.aload_n 2, 1) := by decide +kernel
theorem dL_law_1561 : decode cL_law 1561 = .ok (.aload_n 0, 1) := by decide +kernel
theorem dL_law_1562 : decode cL_law 1562 = .ok (.iload 4, 2) := by decide +kernel
theorem dL_law_1564 : decode cL_law 1564 = .ok (.iconst 1, 1) := by decide +kernel
theorem dL_law_1565 : decode cL_law 1565 = .ok (.iadd, 1) := by decide +kernel
theorem dL_law_1566 : decode cL_law 1566 = .ok (.iaload, 1) := by decide +kernel
theorem dL_law_1567 : decode cL_law 1567 = .ok (.aload_n 0, 1) := by decide +kernel
theorem dL_law_1568 : decode cL_law 1568 = .ok (.iload 4, 2) := by decide +kernel
theorem dL_law_1570 : decode cL_law 1570 = .ok (.iconst 2, 1) := by decide +kernel
theorem dL_law_1571 : decode cL_law 1571 = .ok (.iadd, 1) := by decide +kernel
theorem dL_law_1572 : decode cL_law 1572 = .ok (.iaload, 1) := by decide +kernel
theorem dL_law_1573 : decode cL_law 1573 = .ok (.aload_n 0, 1) := by decide +kernel
theorem dL_law_1574 : decode cL_law 1574 = .ok (.iload 4, 2) := by decide +kernel
theorem dL_law_1576 : decode cL_law 1576 = .ok (.iconst 3, 1) := by decide +kernel
theorem dL_law_1577 : decode cL_law 1577 = .ok (.iadd, 1) := by decide +kernel
theorem dL_law_1578 : decode cL_law 1578 = .ok (.iaload, 1) := by decide +kernel
theorem dL_law_1579 : decode cL_law 1579 = .ok (.aload_n 0, 1) := by decide +kernel
theorem dL_law_1580 : decode cL_law 1580 = .ok (.iload 4, 2) := by decide +kernel
theorem dL_law_1582 : decode cL_law 1582 = .ok (.iconst 4, 1) := by decide +kernel
theorem dL_law_1583 : decode cL_law 1583 = .ok (.iadd, 1) := by decide +kernel
theorem dL_law_1584 : decode cL_law 1584 = .ok (.iaload, 1) := by decide +kernel
theorem dL_law_1585 : decode cL_law 1585 = .ok (.invokevirtual 171, 3) := by decide +kernel
theorem dL_law_1588 : decode cL_law 1588 = .ok (.istore 6, 2) := by decide +kernel
theorem dL_law_1590 : decode cL_law 1590 = .ok (.aload_n 2, 1) := by decide +kernel
theorem dL_law_1591 : decode cL_law 1591 = .ok (.invokevirtual 93, 3) := by decide +kernel
theorem dL_law_1594 : decode cL_law 1594 = .ok (.iload 5, 2) := by decide +kernel
theorem dL_law_1596 : decode cL_law 1596 = .ok (.if_icmp .eq 5, 3) := by decide +kernel
theorem dL_law_1599 : decode cL_law 1599 = .ok (.iconst 0, 1) := by decide +kernel
theorem dL_law_1600 : decode cL_law 1600 = .ok (.ireturn, 1) := by decide +kernel
theorem dL_law_1601 : decode cL_law 1601 = .ok (.iload 5, 2) := by decide +kernel
theorem dL_law_1603 : decode cL_law 1603 = .ok (.ifCond .ne 15, 3) := by decide +kernel
theorem dL_law_1606 : decode cL_law 1606 = .ok (.aload_n 3, 1) := by decide +kernel
theorem dL_law_1607 : decode cL_law 1607 = .ok (.iconst 0, 1) := by decide +kernel
theorem dL_law_1608 : decode cL_law 1608 = .ok (.laload, 1) := by decide +kernel
theorem dL_law_1609 : decode cL_law 1609 = .ok (.iload 6, 2) := by decide +kernel
theorem dL_law_1611 : decode cL_law 1611 = .ok (.i2l, 1) := by decide +kernel
theorem dL_law_1612 : decode cL_law 1612 = .ok (.lcmp, 1) := by decide +kernel
theorem dL_law_1613 : decode cL_law 1613 = .ok (.ifCond .eq 5, 3) := by decide +kernel
theorem dL_law_1616 : decode cL_law 1616 = .ok (.iconst 0, 1) := by decide +kernel
theorem dL_law_1617 : decode cL_law 1617 = .ok (.ireturn, 1) := by decide +kernel
theorem dL_law_1618 : decode cL_law 1618 = .ok (.goto 3, 3) := by decide +kernel
theorem dL_law_1621 : decode cL_law 1621 = .ok (.iinc 4 5, 3) := by decide +kernel
theorem dL_law_1624 : decode cL_law 1624 = .ok (.goto (-1601), 3) := by decide +kernel
theorem dL_law_1627 : decode cL_law 1627 = .ok (.iconst 1, 1) := by decide +kernel
theorem dL_law_1628 : decode cL_law 1628 = .ok (.ireturn, 1) := by decide +kernel
end
section
/-! ===== the layer: heaps as partial functions, ints as whole numbers ===== -/
def iI (z : Int) : Int32 := Int32.ofInt z
theorem iI_toInt {z : Int} (h : -2147483648 ≤ z ∧ z ≤ 2147483647) : (iI z).toInt = z := Int32.toInt_ofInt_of_le (by omega) (by omega)
theorem iI_of (x : Int32) : ∃ z : Int, x = iI z ∧ -2147483648 ≤ z ∧ z ≤ 2147483647 := ⟨x.toInt, (Int32.ofInt_toInt x).symm, by have := Int32.le_toInt x; omega, by have := Int32.toInt_lt x; omega⟩
theorem iI_add (a b : Int) : iI a + iI b = iI (a + b) := (Int32.ofInt_add a b).symm
theorem iI_sub (a b : Int) : iI a - iI b = iI (a - b) := (Int32.ofInt_sub a b).symm
theorem iI_mul (a b : Int) : iI a * iI b = iI (a * b) := (Int32.ofInt_mul a b).symm
theorem iI_neg (a : Int) : -iI a = iI (-a) := (Int32.ofInt_neg a).symm
theorem iI_0 : (0 : Int32) = iI 0 := by decide
theorem iI_lt {a b : Int} (ha : -2147483648 ≤ a ∧ a ≤ 2147483647) (hb : -2147483648 ≤ b ∧ b ≤ 2147483647) : iI a < iI b ↔ a < b := by rw [Int32.lt_iff_toInt_lt, iI_toInt ha, iI_toInt hb]
theorem iI_le {a b : Int} (ha : -2147483648 ≤ a ∧ a ≤ 2147483647) (hb : -2147483648 ≤ b ∧ b ≤ 2147483647) : iI a ≤ iI b ↔ a ≤ b := by rw [Int32.le_iff_toInt_le, iI_toInt ha, iI_toInt hb]
theorem iI_eq {a b : Int} (ha : -2147483648 ≤ a ∧ a ≤ 2147483647) (hb : -2147483648 ≤ b ∧ b ≤ 2147483647) : iI a = iI b ↔ a = b := by rw [← Int32.toInt_inj, iI_toInt ha, iI_toInt hb]
theorem iI_div {a b : Int} (ha : 0 ≤ a ∧ a ≤ 2147483647) (hb : 0 < b ∧ b ≤ 2147483647) : iI a / iI b = iI (a / b) := by
  have h1 : iI b ≠ -1 := fun q => by
    have := congrArg Int32.toInt q
    rw [iI_toInt (by omega), show ((-1 : Int32)).toInt = -1 from by decide] at this
    omega
  have h2 : a / b ≤ a := Int.ediv_le_self b ha.1
  have h3 : 0 ≤ a / b := Int.ediv_nonneg ha.1 (by omega)
  rw [← Int32.toInt_inj, Int32.toInt_div_of_ne_right _ _ h1, iI_toInt (by omega), iI_toInt (by omega), iI_toInt (by omega), Int.tdiv_eq_ediv_of_nonneg ha.1]
theorem iI_rem {a b : Int} (ha : 0 ≤ a ∧ a ≤ 2147483647) (hb : 0 < b ∧ b ≤ 2147483647) : iI a - iI a / iI b * iI b = iI (a % b) := by
  rw [iI_div ha hb, iI_mul, iI_sub, Int.emod_def, Int.mul_comm b]
theorem iI_cl {z : Int} (h : 0 ≤ z ∧ z ≤ 2147483647) : (iI z).toNatClampNeg = z.toNat := Int32.toNatClampNeg_ofInt_of_le (by omega) (by omega)
theorem iI_in {z : Int} {n : Nat} (h : 0 ≤ z ∧ z < n) (hn : n < 2147483648) : vp_in (iI z) n := by
  rw [vp_in_iff, iI_toInt (by omega)]; exact h
theorem iI_nat (n : Nat) : Int32.ofNat n = iI n := (Int32.ofInt_eq_ofNat).symm
/-- g, but v at k -/
def iup {α : Type} (g : Int → α) (k : Int) (v : α) : Int → α := fun j => if j = k then v else g j
theorem iup_s {α : Type} (g : Int → α) (k : Int) (v : α) : iup g k v k = v := if_pos rfl
theorem iup_n {α : Type} {g : Int → α} {k j : Int} {v : α} (h : j ≠ k) : iup g k v j = g j := if_neg h
abbrev iar (c : ClassId) (n : Nat) (g : Int → Int) : va_E := .inl (c, n, .inl (fun k => iI (g (k : Int))))
abbrev qar (c : ClassId) (n : Nat) (r : Int → Option Nat) : va_E := .inl (c, n, .inr (.inr (.inr (.inr (fun k => r (k : Int))))))
theorem iup_upd {g : Int → Int} {z v : Int} (hz : 0 ≤ z) : upd (fun k : Nat => iI (g (k : Int))) z.toNat (iI v) = fun k : Nat => iI (iup g z v (k : Int)) := by
  funext k
  unfold upd iup
  by_cases h : k = z.toNat
  · subst h
    rw [if_pos rfl, if_pos (by omega)]
  · rw [if_neg h, if_neg (by omega)]
theorem iup_upq {r : Int → Option Nat} {z : Int} {v : Option Nat} (hz : 0 ≤ z) : va_up (fun k : Nat => r (k : Int)) z.toNat v = fun k : Nat => iup r z v (k : Int) := by
  funext k
  unfold va_up iup
  by_cases h : k = z.toNat
  · subst h
    rw [if_pos rfl, if_pos (by omega)]
  · rw [if_neg h, if_neg (by omega)]
/-- a heap: what the cells of the system hold -/
abbrev fH : Type := Nat → Option va_E
def f_up (h : fH) (a : Nat) (e : va_E) : fH := fun q => if q = a then some e else h q
theorem f_up_s (h : fH) (a : Nat) (e : va_E) : f_up h a e a = some e := if_pos rfl
theorem f_up_n {h : fH} {a b : Nat} {e : va_E} (n : b ≠ a) : f_up h a e b = h b := if_neg n
def f_at (G : va_G) (A : Nat → Prop) (h : fH) (H : Heap) : Prop := ∀ a e, h a = some e → va_at G vwCl (a, e) H ∧ A a
/-- the same heap as a list -/
theorem f_ws {G : va_G} {A : Nat → Prop} {h : fH} {H : Heap} (hP : f_at G A h H) : ∃ ws : va_W, va_P G vwCl ws H ∧ va_D A ws ∧ (∀ a e, h a = some e → ∃ k : Nat, ws[k]? = some (a, e)) ∧ ∀ (k : Nat) (a : Nat) (e : va_E), ws[k]? = some (a, e) → h a = some e := by
  let ws : va_W := (List.range H.size).filterMap (fun a => (h a).map (fun e => (a, e)))
  have hm : ∀ a e, (a, e) ∈ ws ↔ a < H.size ∧ h a = some e := by
    intro a e
    simp only [ws, List.mem_filterMap, List.mem_range, Option.map_eq_some_iff, Prod.mk.injEq]
    constructor
    · rintro ⟨b, hb, e', he, rfl, rfl⟩
      exact ⟨hb, he⟩
    · rintro ⟨hb, he⟩
      exact ⟨a, hb, e, he, rfl, rfl⟩
  have hpw : ws.Pairwise (fun p q => p.1 < q.1) := by
    refine List.Pairwise.filterMap _ ?_ List.pairwise_lt_range
    intro a a' haa b hb b' hb'
    simp only [Option.map_eq_some_iff] at hb hb'
    obtain ⟨_, _, rfl⟩ := hb
    obtain ⟨_, _, rfl⟩ := hb'
    exact haa
  have hget : ∀ (k : Nat) (a : Nat) (e : va_E), ws[k]? = some (a, e) → h a = some e := fun k a e hk => ((hm a e).mp (List.mem_of_getElem? hk)).2
  refine ⟨ws, fun k q hk => (hP q.1 q.2 (hget k q.1 q.2 hk)).1, ⟨fun i j p q hi hj hpq => ?_, fun k q hk => (hP q.1 q.2 (hget k q.1 q.2 hk)).2⟩, fun a e he => ?_, hget⟩
  · have key : ∀ (i j : Nat) (p q : Nat × va_E), i < j → ws[i]? = some p → ws[j]? = some q → p.1 < q.1 := by
      intro i j p q hij hi hj
      obtain ⟨hi1, rfl⟩ := List.getElem?_eq_some_iff.mp hi
      obtain ⟨hj1, rfl⟩ := List.getElem?_eq_some_iff.mp hj
      exact List.pairwise_iff_getElem.mp hpw i j hi1 hj1 hij
    rcases Nat.lt_trichotomy i j with h1 | h1 | h1
    · have := key i j p q h1 hi hj; omega
    · exact h1
    · have := key j i q p h1 hj hi; omega
  · exact List.getElem?_of_mem ((hm a e).mpr ⟨(hP a e he).1.lt, he⟩)
theorem f_set {G : va_G} {A : Nat → Prop} {h : fH} {H1 : Heap} {ws : va_W} {k a : Nat} {e0 e : va_E} (h2 : ∀ a e, h a = some e → ∃ k : Nat, ws[k]? = some (a, e)) (hk : ws[k]? = some (a, e0)) (hP : va_P G vwCl (ws.set k (a, e)) H1) (hD : va_D A (ws.set k (a, e))) : f_at G A (f_up h a e) H1 := by
  have hl := (List.getElem?_eq_some_iff.mp hk).1
  have hs : (ws.set k (a, e))[k]? = some (a, e) := List.getElem?_set_self hl
  intro b e1 hb
  by_cases n : b = a
  · subst n
    rw [f_up_s] at hb
    cases hb
    exact ⟨hP k _ hs, hD.2 k _ hs⟩
  · rw [f_up_n n] at hb
    obtain ⟨j, hj⟩ := h2 b e1 hb
    have hjk : k ≠ j := fun q => by
      subst q
      rw [hk] at hj
      cases hj
      exact n rfl
    have hs2 : (ws.set k (a, e))[j]? = some (b, e1) := by rw [List.getElem?_set_ne hjk]; exact hj
    exact ⟨hP j _ hs2, hD.2 j _ hs2⟩
theorem f_add {G : va_G} {A : Nat → Prop} {h : fH} {H1 : Heap} {ws : va_W} {a : Nat} {e : va_E} (h2 : ∀ a e, h a = some e → ∃ k : Nat, ws[k]? = some (a, e)) (hP : va_P G vwCl (ws ++ [(a, e)]) H1) (hD : va_D A (ws ++ [(a, e)])) : h a = none ∧ f_at G A (f_up h a e) H1 := by
  have hs : (ws ++ [(a, e)])[ws.length]? = some (a, e) := by rw [List.getElem?_append_right (Nat.le_refl _), Nat.sub_self]; rfl
  have old : ∀ b e1, h b = some e1 → ∃ j, j < ws.length ∧ (ws ++ [(a, e)])[j]? = some (b, e1) := by
    intro b e1 hb
    obtain ⟨j, hj⟩ := h2 b e1 hb
    have hl := (List.getElem?_eq_some_iff.mp hj).1
    exact ⟨j, hl, by rw [List.getElem?_append_left hl]; exact hj⟩
  refine ⟨?_, fun b e1 hb => ?_⟩
  · cases hq : h a with
    | none => rfl
    | some e1 =>
      obtain ⟨j, hl, hj⟩ := old a e1 hq
      have := hD.1 j ws.length _ _ hj hs rfl
      omega
  · by_cases n : b = a
    · subst n
      rw [f_up_s] at hb
      cases hb
      exact ⟨hP _ _ hs, hD.2 _ _ hs⟩
    · rw [f_up_n n] at hb
      obtain ⟨j, -, hj⟩ := old b e1 hb
      exact ⟨hP j _ hj, hD.2 j _ hj⟩
/-- which words of the tables last -/
def q_nest : Cond → Bool
  | .fieldLinkNest .. => true
  | .methodLinkNest .. => true
  | _ => false
def q_arr : Cond → Bool
  | .arrayClass _ => true
  | _ => false
def q_lasts (w : Cond) : Bool := (w.onTables && (w.keepsFace || q_nest w)) || q_arr w
def lw_T : List Cond := lw_tbl.filter q_lasts
theorem lw_T_mem {w : Cond} (h : w ∈ lw_tbl) (k : q_lasts w = true) : w ∈ lw_T := List.mem_filter.mpr ⟨h, k⟩
theorem va_lwT {w : Cond} (hw : w ∈ lw_T) {a a' : Array Value} {u U : State} (hvm : u.vm = U.vm) (h : w.before a u = true) : w.before a' U = true := by
  have k := (List.mem_filter.mp hw).2
  unfold q_lasts at k
  rw [Bool.or_eq_true] at k
  rcases k with k | k
  · rw [Bool.and_eq_true] at k
    exact va_tabs k.1 hvm h
  · cases w with
    | arrayClass ty => exact word_at (s := u) (U := U) (by rw [← hvm]; exact State.WarmedH.refl _) (Or.inr ⟨ty, rfl⟩) h
    | _ => cases k
theorem lwT_warm {w : Cond} {a a' : Array Value} {s U : State} (hW : s.WarmedH U.vm) (hw : w ∈ lw_T) (h : w.before a s = true) : w.before a' U = true := by
  have k := (List.mem_filter.mp hw).2
  unfold q_lasts at k
  rw [Bool.or_eq_true] at k
  rcases k with k | k
  · rw [Bool.and_eq_true, Bool.or_eq_true] at k
    obtain ⟨k1, k2 | k2⟩ := k
    · exact va_tabs k1 (rfl : (s.setVm U.vm).vm = U.vm) (Cond.before_shiftedFace (State.Shifted.of_warmed hW) _ k2 h)
    · cases w with
      | fieldLinkNest a i b n d h9 => exact va_tabs k1 (rfl : (s.setVm U.vm).vm = U.vm) (Cond.fieldLinkNest_warmed hW h)
      | methodLinkNest a i x h9 => exact va_tabs k1 (rfl : (s.setVm U.vm).vm = U.vm) (Cond.methodLinkNest_warmed hW h)
      | _ => cases k2
  · cases w with
    | arrayClass ty => exact word_at hW (Or.inr ⟨ty, rfl⟩) h
    | _ => cases k
/-- the numbers of the classes, of the arrays' classes, the address of the empty list's array -/
abbrev gT : Type := va_G × (Nat → ClassId) × Nat
abbrev qtys (g : gT) : List (ClassId × FieldType) := [(g.2.1 0, .int), (g.2.1 1, .boolean), (g.2.1 2, .object "java/lang/Object"), (g.2.1 3, .array .int), (g.2.1 4, .long)]
def KK (g : gT) (U : State) : Prop := va_K g.1 vwCl (qtys g) U ∧ ∀ w ∈ lw_T, w.before #[] U = true
def q_strs : List (String × Nat × String) := [("RackPlanner", 243, "out of range"), ("RackPlanner", 59, "no more racks"), ("RackPlanner", 80, "the row's machines are above that"), ("RackPlanner", 96, "the worst on the feed is above that"), ("RackPlanner", 115, "no more machines"), ("RackPlanner", 121, "the machine fits nowhere"), ("RackPlanner", 248, "no such machine"), ("RackPlanner", 154, "the worst on a feed would be above its limit"), ("RackPlanner", 246, "no such rack"), ("RackPlanner", 186, "no such slot")]
/-- what the start gives of statics and strings -/
def ST (g : gT) (A : Nat → Prop) (U : State) (H : Heap) : Prop :=
  (vx_Zq Bundle.tN "UNASSIGNED_STACK" Bundle.steD A U H ∧ vx_Zq Bundle.tN "SUPPRESSED_SENTINEL" Bundle.listD A U H) ∧
  (va_Z "java/util/ArrayList" "DEFAULTCAPACITY_EMPTY_ELEMENTDATA" "[Ljava/lang/Object;" (.ref g.2.2) A U H ∧ H[g.2.2]? = some (vp_cell (g.2.1 2) (0, .inr (.inr (.inr (.inr (fun _ => none)))))) ∧ ¬ A g.2.2) ∧
  ∀ q ∈ q_strs, ∃ a, vk_R q.1 q.2.1 q.2.2 a U
/-- what every method finds at its start, of a heap h in the places A -/
def PS (g : gT) (A : Nat → Prop) (h : fH) (U : State) : Prop := f_at g.1 A h U.heap ∧ KK g U ∧ ST g A U U.heap ∧ ∀ q, U.heap.size ≤ q → A q
def q_Q (g : gT) (A : Nat → Prop) (post : Option Value → fH → Prop) : Array Value → State → Outcome → State → Prop := fun _ st o t => ∃ (v : Option Value) (h' : fH), o = .returned v ∧ post v h' ∧ f_at g.1 A h' t.heap ∧ va_F A st t
def q_X (g : gT) (A : Nat → Prop) (px : String → fH → Prop) : String → State → State → Prop := fun E st t => ∃ h' : fH, px E h' ∧ f_at g.1 A h' t.heap ∧ va_F A st t
/-- a method's contract: from the heap h, with the arguments av, it comes to its end with what post says of value and heap, or throws with what px says -/
def CM (l : Launch) (g : gT) (y : MethodName) (cc : ByteArray) (nl : Nat) (ret : Option FieldType) (rm : Room) (av : List Value) (h : fH) (post : Option Value → fH → Prop) (px : String → fH → Prop) : Prop :=
  l.stackTraces = false → ∀ A : Nat → Prop, vx_Met l y [.code y cc nl ret] rm (va_Pc av (PS g A h)) (q_Q g A post) (q_X g A px) rm.cells rm.slots A
abbrev noX : String → fH → Prop := fun _ _ => False
def Fx (p : Program) (l : Launch) (s : State) (m : MethodId) (args : Array Value) (meth : Method) (c : Code) (cc : ByteArray) (nl : Nat) (ret : Option FieldType) (own : String) (g : gT) (A : Nat → Prop) : Prop :=
  p.tables.exec = Jvm.exec ∧ c.code = cc ∧ c.maxLocals = nl ∧ meth.sig.returnType = ret ∧ s.vm.findClass own = some m.cls ∧ meth.locks = false ∧ KK g s ∧ ST g A s s.heap ∧ (∀ q, s.heap.size ≤ q → A q) ∧ l.stackTraces = false ∧ ∀ w ∈ lw_T, w.before args s = true
/-- the locals -/
def v_lo (ls : Array Slot) (nl : Nat) (lo : List (Option Value)) : Prop := ls.size = nl ∧ lv_wf ls ∧ ∀ (i : Nat) (v : Value), lo[i]? = some (some v) → v.category = 1 ∧ ls[i]? = some (.val v)
def V (p : Program) (l : Launch) (e : Env) (R : Room) (s : State) (m : MethodId) (args : Array Value) (below : List Frame) (meth : Method) (c : Code) (Q : State → Prop) (nl : Nat) (g : gT) (A : Nat → Prop) (h : fH) (cells slots pc : Nat) (lo : List (Option Value)) (st : List Value) : Prop :=
  ∀ (H : Heap) (locs : List Loc) (ls : Array Slot), f_at g.1 A h H → va_S A s.heap H locs → v_lo ls nl lo → W p l e R s m args below meth c H locs cells slots Q (F0 m pc ls st)
theorem v_lo.has {ls : Array Slot} {nl : Nat} {lo : List (Option Value)} (h : v_lo ls nl lo) : lv_has ls nl [] := ⟨h.1, h.2.1, fun _ q => by cases q⟩
theorem v_lo.set {ls : Array Slot} {nl : Nat} {lo : List (Option Value)} (h : v_lo ls nl lo) {i : Nat} {v : Value} (hi : i < nl) (hv : v.category = 1) : ∃ ls', storeLocals ls i v = some ls' ∧ v_lo ls' nl (lo.set i (some v)) := by
  obtain ⟨ls', e1, e2⟩ := lv_store1 (l := []) h.has hi hv
  refine ⟨ls', e1, e2.1, e2.2.1, fun j w hj => ?_⟩
  by_cases hij : i = j
  · subst hij
    rw [List.getElem?_set] at hj
    rw [if_pos rfl] at hj
    split at hj
    · cases hj
      exact ⟨hv, e2.2.2 (i, v) List.mem_cons_self⟩
    · cases hj
  · rw [List.getElem?_set_ne hij] at hj
    obtain ⟨a1, a2⟩ := h.2.2 j w hj
    have h3 : lv_has ls nl [(j, w)] := ⟨h.1, h.2.1, fun q hq => by rw [List.mem_singleton] at hq; subst hq; exact a2⟩
    obtain ⟨ls2, f1, f2⟩ := lv_store1 h3 hi hv
    cases e1.symm.trans f1
    refine ⟨a1, f2.2.2 (j, w) (List.mem_cons_of_mem _ (List.mem_filter.mpr ⟨List.mem_singleton_self _, ?_⟩))⟩
    simp [Ne.symm hij, a1]
/-- statics move with the machine's tables -/
theorem ST.moved {g : gT} {A : Nat → Prop} {u U : State} {H : Heap} (hvm : u.vm.Alike U.vm) (hs : ∀ own k tx a, vk_R own k tx a u → vk_R own k tx a U) (h : ST g A u H) : ST g A U H := by
  obtain ⟨⟨a1, a2⟩, ⟨b1, b2, b3⟩, c1⟩ := h
  exact ⟨⟨a1.moved hvm, a2.moved hvm⟩, ⟨va_Z.moved hvm b1, b2, b3⟩, fun q hq => by obtain ⟨a, ha⟩ := c1 q hq; exact ⟨a, hs _ _ _ _ ha⟩⟩
set_option maxRecDepth 100000 in
theorem tw_ac0 : Cond.arrayClass .int ∈ lw_T := lw_T_mem (by decide +kernel) (by decide +kernel)
set_option maxRecDepth 100000 in
theorem tw_ac1 : Cond.arrayClass .boolean ∈ lw_T := lw_T_mem (by decide +kernel) (by decide +kernel)
section VROWS
variable {p : Program} {l : Launch} {e : Env} {R : Room} {s : State} {m : MethodId} {args : Array Value} {below : List Frame} {meth : Method} {c : Code} {Q : State → Prop} {nl : Nat} {g : gT} {A : Nat → Prop} {h : fH} {cells slots pc : Nat} {lo : List (Option Value)} {st : List Value} {cc : ByteArray} {ret : Option FieldType} {own : String}
/-- another way to say the same state -/
theorem V.to {pc' : Nat} {lo' : List (Option Value)} {st' : List Value} (k : V p l e R s m args below meth c Q nl g A h cells slots pc' lo' st') (h1 : pc = pc') (h2 : lo = lo') (h3 : st = st') : V p l e R s m args below meth c Q nl g A h cells slots pc lo st := by
  subst h1; subst h2; subst h3; exact k
theorem v_iconst (F : Fx p l s m args meth c cc nl ret own g A) {n : Int} (d : decode cc pc = .ok (.iconst n, 1)) (k : V p l e R s m args below meth c Q nl g A h cells slots (pc + 1) lo (.int (iI n) :: st)) : V p l e R s m args below meth c Q nl g A h cells slots pc lo st :=
  fun H locs ls hP hS hl => lv_iconst F.1 F.2.1 d rfl (k H locs ls hP hS hl)
theorem v_bipush (F : Fx p l s m args meth c cc nl ret own g A) {n : Int} (d : decode cc pc = .ok (.bipush n, 2)) (hn : (Int8.ofInt n).toInt32 = iI n) (k : V p l e R s m args below meth c Q nl g A h cells slots (pc + 2) lo (.int (iI n) :: st)) : V p l e R s m args below meth c Q nl g A h cells slots pc lo st :=
  fun H locs ls hP hS hl => lv_bipush F.1 F.2.1 d hn (k H locs ls hP hS hl)
theorem v_sipush (F : Fx p l s m args meth c cc nl ret own g A) {n : Int} (d : decode cc pc = .ok (.sipush n, 3)) (hn : (Int16.ofInt n).toInt32 = iI n) (k : V p l e R s m args below meth c Q nl g A h cells slots (pc + 3) lo (.int (iI n) :: st)) : V p l e R s m args below meth c Q nl g A h cells slots pc lo st :=
  fun H locs ls hP hS hl => lv_sipush F.1 F.2.1 d hn (k H locs ls hP hS hl)
theorem v_iload_n (F : Fx p l s m args meth c cc nl ret own g A) {i : Fin 4} {x : Int32} (d : decode cc pc = .ok (.iload_n i, 1)) (hi : lo[(i : Nat)]? = some (some (.int x))) (k : V p l e R s m args below meth c Q nl g A h cells slots (pc + 1) lo (.int x :: st)) : V p l e R s m args below meth c Q nl g A h cells slots pc lo st :=
  fun H locs ls hP hS hl => lv_iload_n F.1 F.2.1 d rfl (hl.2.2 _ _ hi).2 (k H locs ls hP hS hl)
theorem v_iload (F : Fx p l s m args meth c cc nl ret own g A) {i : Nat} {x : Int32} (d : decode cc pc = .ok (.iload i, 2)) (hi : lo[i]? = some (some (.int x))) (k : V p l e R s m args below meth c Q nl g A h cells slots (pc + 2) lo (.int x :: st)) : V p l e R s m args below meth c Q nl g A h cells slots pc lo st :=
  fun H locs ls hP hS hl => lv_iload F.1 F.2.1 d (hl.2.2 _ _ hi).2 (k H locs ls hP hS hl)
theorem v_aload_n (F : Fx p l s m args meth c cc nl ret own g A) {i : Fin 4} {x : Nat} (d : decode cc pc = .ok (.aload_n i, 1)) (hi : lo[(i : Nat)]? = some (some (.ref x))) (k : V p l e R s m args below meth c Q nl g A h cells slots (pc + 1) lo (.ref x :: st)) : V p l e R s m args below meth c Q nl g A h cells slots pc lo st :=
  fun H locs ls hP hS hl => lv_aload_n F.1 F.2.1 d rfl (hl.2.2 _ _ hi).2 (k H locs ls hP hS hl)
theorem v_aload (F : Fx p l s m args meth c cc nl ret own g A) {i : Nat} {x : Nat} (d : decode cc pc = .ok (.aload i, 2)) (hi : lo[i]? = some (some (.ref x))) (k : V p l e R s m args below meth c Q nl g A h cells slots (pc + 2) lo (.ref x :: st)) : V p l e R s m args below meth c Q nl g A h cells slots pc lo st :=
  fun H locs ls hP hS hl => lv_aload F.1 F.2.1 d (hl.2.2 _ _ hi).2 (k H locs ls hP hS hl)
end VROWS
end
section
section VROWS2
variable {p : Program} {l : Launch} {e : Env} {R : Room} {s : State} {m : MethodId} {args : Array Value} {below : List Frame} {meth : Method} {c : Code} {Q : State → Prop} {nl : Nat} {g : gT} {A : Nat → Prop} {h : fH} {cells slots pc : Nat} {lo lo' : List (Option Value)} {st : List Value} {cc : ByteArray} {ret : Option FieldType} {own : String}
theorem V.of {h : fH} {v : Value} {v' : Value} (k : V p l e R s m args below meth c Q nl g A h cells slots pc lo (v' :: st)) (hv : v = v') : V p l e R s m args below meth c Q nl g A h cells slots pc lo (v :: st) := by subst hv; exact k

theorem v_istore_n (F : Fx p l s m args meth c cc nl ret own g A) {i : Fin 4} {x : Int32} (d : decode cc pc = .ok (.istore_n i, 1)) (hn : (i : Nat) < nl) (hl' : lo.set (i : Nat) (some (.int x)) = lo') (k : V p l e R s m args below meth c Q nl g A h cells slots (pc + 1) lo' st) : V p l e R s m args below meth c Q nl g A h cells slots pc lo (.int x :: st) := by
  intro H locs ls hP hS hl
  obtain ⟨ls', e', h'⟩ := hl.set (v := .int x) hn rfl
  rw [hl'] at h'
  intro T hT X
  obtain ⟨t, a, b⟩ := k H locs ls' hP hS h' T hT X
  refine ⟨t, ?_, b⟩
  have hexec := F.1
  have hb := F.2.1
  jvm_step X.here [X.here.top, ↓top_set X.here.top, hexec, hb, d, e']
  exact a
theorem v_istore (F : Fx p l s m args meth c cc nl ret own g A) {i : Nat} {x : Int32} (d : decode cc pc = .ok (.istore i, 2)) (hn : i < nl) (hl' : lo.set i (some (.int x)) = lo') (k : V p l e R s m args below meth c Q nl g A h cells slots (pc + 2) lo' st) : V p l e R s m args below meth c Q nl g A h cells slots pc lo (.int x :: st) := by
  intro H locs ls hP hS hl
  obtain ⟨ls', e', h'⟩ := hl.set (v := .int x) hn rfl
  rw [hl'] at h'
  intro T hT X
  obtain ⟨t, a, b⟩ := k H locs ls' hP hS h' T hT X
  refine ⟨t, ?_, b⟩
  have hexec := F.1
  have hb := F.2.1
  jvm_step X.here [X.here.top, ↓top_set X.here.top, hexec, hb, d, e']
  exact a
theorem v_astore_n (F : Fx p l s m args meth c cc nl ret own g A) {i : Fin 4} {x : Nat} (d : decode cc pc = .ok (.astore_n i, 1)) (hn : (i : Nat) < nl) (hl' : lo.set (i : Nat) (some (.ref x)) = lo') (k : V p l e R s m args below meth c Q nl g A h cells slots (pc + 1) lo' st) : V p l e R s m args below meth c Q nl g A h cells slots pc lo (.ref x :: st) := by
  intro H locs ls hP hS hl
  obtain ⟨ls', e', h'⟩ := hl.set (v := .ref x) hn rfl
  rw [hl'] at h'
  intro T hT X
  obtain ⟨t, a, b⟩ := k H locs ls' hP hS h' T hT X
  refine ⟨t, ?_, b⟩
  have hexec := F.1
  have hb := F.2.1
  jvm_step X.here [X.here.top, ↓top_set X.here.top, hexec, hb, d, e', Value.isRef]
  exact a
theorem v_astore (F : Fx p l s m args meth c cc nl ret own g A) {i : Nat} {x : Nat} (d : decode cc pc = .ok (.astore i, 2)) (hn : i < nl) (hl' : lo.set i (some (.ref x)) = lo') (k : V p l e R s m args below meth c Q nl g A h cells slots (pc + 2) lo' st) : V p l e R s m args below meth c Q nl g A h cells slots pc lo (.ref x :: st) := by
  intro H locs ls hP hS hl
  obtain ⟨ls', e', h'⟩ := hl.set (v := .ref x) hn rfl
  rw [hl'] at h'
  intro T hT X
  obtain ⟨t, a, b⟩ := k H locs ls' hP hS h' T hT X
  refine ⟨t, ?_, b⟩
  have hexec := F.1
  have hb := F.2.1
  jvm_step X.here [X.here.top, ↓top_set X.here.top, hexec, hb, d, e', Value.isRef]
  exact a
theorem v_iinc (F : Fx p l s m args meth c cc nl ret own g A) {i : Nat} {n z : Int} (d : decode cc pc = .ok (.iinc i n, 3)) (hi : lo[i]? = some (some (.int (iI z)))) (hn : i < nl) (hl' : lo.set i (some (.int (iI (z + n)))) = lo') (k : V p l e R s m args below meth c Q nl g A h cells slots (pc + 3) lo' st) : V p l e R s m args below meth c Q nl g A h cells slots pc lo st := by
  intro H locs ls hP hS hl
  obtain ⟨ls', e', h'⟩ := hl.set (v := .int (iI (z + n))) hn rfl
  rw [hl'] at h'
  intro T hT X
  obtain ⟨t, a, b⟩ := k H locs ls' hP hS h' T hT X
  refine ⟨t, ?_, b⟩
  have hexec := F.1
  have hb := F.2.1
  have hg := (hl.2.2 _ _ hi).2
  have hz : iI z + Int32.ofInt n = iI (z + n) := iI_add z n
  jvm_step X.here [X.here.top, ↓top_set X.here.top, hexec, hb, d, hg, hz, e']
  exact a
theorem v_iadd (F : Fx p l s m args meth c cc nl ret own g A) {a b : Int} (d : decode cc pc = .ok (.iadd, 1)) (k : V p l e R s m args below meth c Q nl g A h cells slots (pc + 1) lo (.int (iI (a + b)) :: st)) : V p l e R s m args below meth c Q nl g A h cells slots pc lo (.int (iI b) :: .int (iI a) :: st) :=
  fun H locs ls hP hS hl => lv_iadd F.1 F.2.1 d (by rw [iI_add]; exact k H locs ls hP hS hl)
theorem v_isub (F : Fx p l s m args meth c cc nl ret own g A) {a b : Int} (d : decode cc pc = .ok (.isub, 1)) (k : V p l e R s m args below meth c Q nl g A h cells slots (pc + 1) lo (.int (iI (a - b)) :: st)) : V p l e R s m args below meth c Q nl g A h cells slots pc lo (.int (iI b) :: .int (iI a) :: st) :=
  fun H locs ls hP hS hl => lv_isub F.1 F.2.1 d (by rw [iI_sub]; exact k H locs ls hP hS hl)
theorem v_imul (F : Fx p l s m args meth c cc nl ret own g A) {a b : Int} (d : decode cc pc = .ok (.imul, 1)) (k : V p l e R s m args below meth c Q nl g A h cells slots (pc + 1) lo (.int (iI (a * b)) :: st)) : V p l e R s m args below meth c Q nl g A h cells slots pc lo (.int (iI b) :: .int (iI a) :: st) :=
  fun H locs ls hP hS hl => lv_imul F.1 F.2.1 d (by rw [iI_mul]; exact k H locs ls hP hS hl)
theorem v_ineg (F : Fx p l s m args meth c cc nl ret own g A) {a : Int} (d : decode cc pc = .ok (.ineg, 1)) (k : V p l e R s m args below meth c Q nl g A h cells slots (pc + 1) lo (.int (iI (-a)) :: st)) : V p l e R s m args below meth c Q nl g A h cells slots pc lo (.int (iI a) :: st) :=
  fun H locs ls hP hS hl => lv_ineg F.1 F.2.1 d (by rw [iI_neg]; exact k H locs ls hP hS hl)
theorem v_idiv (F : Fx p l s m args meth c cc nl ret own g A) {a b : Int} (d : decode cc pc = .ok (.idiv, 1)) (ha : 0 ≤ a ∧ a ≤ 2147483647) (hb : 0 < b ∧ b ≤ 2147483647) (k : V p l e R s m args below meth c Q nl g A h cells slots (pc + 1) lo (.int (iI (a / b)) :: st)) : V p l e R s m args below meth c Q nl g A h cells slots pc lo (.int (iI b) :: .int (iI a) :: st) :=
  fun H locs ls hP hS hl => lv_idiv F.1 F.2.1 d (by rw [iI_0, iI_eq (by omega) (by omega)]; omega) (by rw [iI_div ha hb]; exact k H locs ls hP hS hl)
theorem v_irem (F : Fx p l s m args meth c cc nl ret own g A) {a b : Int} (d : decode cc pc = .ok (.irem, 1)) (ha : 0 ≤ a ∧ a ≤ 2147483647) (hb : 0 < b ∧ b ≤ 2147483647) (k : V p l e R s m args below meth c Q nl g A h cells slots (pc + 1) lo (.int (iI (a % b)) :: st)) : V p l e R s m args below meth c Q nl g A h cells slots pc lo (.int (iI b) :: .int (iI a) :: st) :=
  fun H locs ls hP hS hl => lv_irem F.1 F.2.1 d (by rw [iI_0, iI_eq (by omega) (by omega)]; omega) (by rw [iI_rem ha hb]; exact k H locs ls hP hS hl)
theorem v_icmp_eq (F : Fx p l s m args meth c cc nl ret own g A) {a b : Int} {off : Int} (tgt : Nat) (d : decode cc pc = .ok (.if_icmp .eq off, 3)) (ht : (pc : Int) + off = (tgt : Int)) (hA : -2147483648 ≤ a ∧ a ≤ 2147483647) (hB : -2147483648 ≤ b ∧ b ≤ 2147483647) (kt : a = b → V p l e R s m args below meth c Q nl g A h cells slots tgt lo st) (kf : ¬ a = b → V p l e R s m args below meth c Q nl g A h cells slots (pc + 3) lo st) : V p l e R s m args below meth c Q nl g A h cells slots pc lo (.int (iI b) :: .int (iI a) :: st) :=
  fun H locs ls hP hS hl => lv_icmp_eq F.1 F.2.1 d ht (fun q => kt ((iI_eq hA hB).mp q) H locs ls hP hS hl) (fun q => kf (fun z => q ((iI_eq hA hB).mpr z)) H locs ls hP hS hl)
theorem v_if_eq (F : Fx p l s m args meth c cc nl ret own g A) {a : Int} {off : Int} (tgt : Nat) (d : decode cc pc = .ok (.ifCond .eq off, 3)) (ht : (pc : Int) + off = (tgt : Int)) (hA : -2147483648 ≤ a ∧ a ≤ 2147483647) (kt : a = 0 → V p l e R s m args below meth c Q nl g A h cells slots tgt lo st) (kf : ¬ a = 0 → V p l e R s m args below meth c Q nl g A h cells slots (pc + 3) lo st) : V p l e R s m args below meth c Q nl g A h cells slots pc lo (.int (iI a) :: st) :=
  have hB : -2147483648 ≤ (0 : Int) ∧ (0 : Int) ≤ 2147483647 := ⟨by decide, by decide⟩
  fun H locs ls hP hS hl => lv_if_eq F.1 F.2.1 d ht (fun q => kt ((iI_eq hA hB).mp q) H locs ls hP hS hl) (fun q => kf (fun z => q ((iI_eq hA hB).mpr z)) H locs ls hP hS hl)
theorem v_icmp_ne (F : Fx p l s m args meth c cc nl ret own g A) {a b : Int} {off : Int} (tgt : Nat) (d : decode cc pc = .ok (.if_icmp .ne off, 3)) (ht : (pc : Int) + off = (tgt : Int)) (hA : -2147483648 ≤ a ∧ a ≤ 2147483647) (hB : -2147483648 ≤ b ∧ b ≤ 2147483647) (kt : ¬ a = b → V p l e R s m args below meth c Q nl g A h cells slots tgt lo st) (kf : a = b → V p l e R s m args below meth c Q nl g A h cells slots (pc + 3) lo st) : V p l e R s m args below meth c Q nl g A h cells slots pc lo (.int (iI b) :: .int (iI a) :: st) :=
  fun H locs ls hP hS hl => lv_icmp_ne F.1 F.2.1 d ht (fun q => kt (fun z => q ((iI_eq hA hB).mpr z)) H locs ls hP hS hl) (fun q => kf ((iI_eq hA hB).mp q) H locs ls hP hS hl)
theorem v_if_ne (F : Fx p l s m args meth c cc nl ret own g A) {a : Int} {off : Int} (tgt : Nat) (d : decode cc pc = .ok (.ifCond .ne off, 3)) (ht : (pc : Int) + off = (tgt : Int)) (hA : -2147483648 ≤ a ∧ a ≤ 2147483647) (kt : ¬ a = 0 → V p l e R s m args below meth c Q nl g A h cells slots tgt lo st) (kf : a = 0 → V p l e R s m args below meth c Q nl g A h cells slots (pc + 3) lo st) : V p l e R s m args below meth c Q nl g A h cells slots pc lo (.int (iI a) :: st) :=
  have hB : -2147483648 ≤ (0 : Int) ∧ (0 : Int) ≤ 2147483647 := ⟨by decide, by decide⟩
  fun H locs ls hP hS hl => lv_if_ne F.1 F.2.1 d ht (fun q => kt (fun z => q ((iI_eq hA hB).mpr z)) H locs ls hP hS hl) (fun q => kf ((iI_eq hA hB).mp q) H locs ls hP hS hl)
theorem v_icmp_lt (F : Fx p l s m args meth c cc nl ret own g A) {a b : Int} {off : Int} (tgt : Nat) (d : decode cc pc = .ok (.if_icmp .lt off, 3)) (ht : (pc : Int) + off = (tgt : Int)) (hA : -2147483648 ≤ a ∧ a ≤ 2147483647) (hB : -2147483648 ≤ b ∧ b ≤ 2147483647) (kt : a < b → V p l e R s m args below meth c Q nl g A h cells slots tgt lo st) (kf : ¬ a < b → V p l e R s m args below meth c Q nl g A h cells slots (pc + 3) lo st) : V p l e R s m args below meth c Q nl g A h cells slots pc lo (.int (iI b) :: .int (iI a) :: st) :=
  fun H locs ls hP hS hl => lv_icmp_lt F.1 F.2.1 d ht (fun q => kt ((iI_lt hA hB).mp q) H locs ls hP hS hl) (fun q => kf (fun z => q ((iI_lt hA hB).mpr z)) H locs ls hP hS hl)
theorem v_if_lt (F : Fx p l s m args meth c cc nl ret own g A) {a : Int} {off : Int} (tgt : Nat) (d : decode cc pc = .ok (.ifCond .lt off, 3)) (ht : (pc : Int) + off = (tgt : Int)) (hA : -2147483648 ≤ a ∧ a ≤ 2147483647) (kt : a < 0 → V p l e R s m args below meth c Q nl g A h cells slots tgt lo st) (kf : ¬ a < 0 → V p l e R s m args below meth c Q nl g A h cells slots (pc + 3) lo st) : V p l e R s m args below meth c Q nl g A h cells slots pc lo (.int (iI a) :: st) :=
  have hB : -2147483648 ≤ (0 : Int) ∧ (0 : Int) ≤ 2147483647 := ⟨by decide, by decide⟩
  fun H locs ls hP hS hl => lv_if_lt F.1 F.2.1 d ht (fun q => kt ((iI_lt hA hB).mp q) H locs ls hP hS hl) (fun q => kf (fun z => q ((iI_lt hA hB).mpr z)) H locs ls hP hS hl)
theorem v_icmp_ge (F : Fx p l s m args meth c cc nl ret own g A) {a b : Int} {off : Int} (tgt : Nat) (d : decode cc pc = .ok (.if_icmp .ge off, 3)) (ht : (pc : Int) + off = (tgt : Int)) (hA : -2147483648 ≤ a ∧ a ≤ 2147483647) (hB : -2147483648 ≤ b ∧ b ≤ 2147483647) (kt : b ≤ a → V p l e R s m args below meth c Q nl g A h cells slots tgt lo st) (kf : ¬ b ≤ a → V p l e R s m args below meth c Q nl g A h cells slots (pc + 3) lo st) : V p l e R s m args below meth c Q nl g A h cells slots pc lo (.int (iI b) :: .int (iI a) :: st) :=
  fun H locs ls hP hS hl => lv_icmp_ge F.1 F.2.1 d ht (fun q => kt ((iI_le hB hA).mp q) H locs ls hP hS hl) (fun q => kf (fun z => q ((iI_le hB hA).mpr z)) H locs ls hP hS hl)
theorem v_if_ge (F : Fx p l s m args meth c cc nl ret own g A) {a : Int} {off : Int} (tgt : Nat) (d : decode cc pc = .ok (.ifCond .ge off, 3)) (ht : (pc : Int) + off = (tgt : Int)) (hA : -2147483648 ≤ a ∧ a ≤ 2147483647) (kt : 0 ≤ a → V p l e R s m args below meth c Q nl g A h cells slots tgt lo st) (kf : ¬ 0 ≤ a → V p l e R s m args below meth c Q nl g A h cells slots (pc + 3) lo st) : V p l e R s m args below meth c Q nl g A h cells slots pc lo (.int (iI a) :: st) :=
  have hB : -2147483648 ≤ (0 : Int) ∧ (0 : Int) ≤ 2147483647 := ⟨by decide, by decide⟩
  fun H locs ls hP hS hl => lv_if_ge F.1 F.2.1 d ht (fun q => kt ((iI_le hB hA).mp q) H locs ls hP hS hl) (fun q => kf (fun z => q ((iI_le hB hA).mpr z)) H locs ls hP hS hl)
theorem v_icmp_gt (F : Fx p l s m args meth c cc nl ret own g A) {a b : Int} {off : Int} (tgt : Nat) (d : decode cc pc = .ok (.if_icmp .gt off, 3)) (ht : (pc : Int) + off = (tgt : Int)) (hA : -2147483648 ≤ a ∧ a ≤ 2147483647) (hB : -2147483648 ≤ b ∧ b ≤ 2147483647) (kt : b < a → V p l e R s m args below meth c Q nl g A h cells slots tgt lo st) (kf : ¬ b < a → V p l e R s m args below meth c Q nl g A h cells slots (pc + 3) lo st) : V p l e R s m args below meth c Q nl g A h cells slots pc lo (.int (iI b) :: .int (iI a) :: st) :=
  fun H locs ls hP hS hl => lv_icmp_gt F.1 F.2.1 d ht (fun q => kt ((iI_lt hB hA).mp q) H locs ls hP hS hl) (fun q => kf (fun z => q ((iI_lt hB hA).mpr z)) H locs ls hP hS hl)
theorem v_if_gt (F : Fx p l s m args meth c cc nl ret own g A) {a : Int} {off : Int} (tgt : Nat) (d : decode cc pc = .ok (.ifCond .gt off, 3)) (ht : (pc : Int) + off = (tgt : Int)) (hA : -2147483648 ≤ a ∧ a ≤ 2147483647) (kt : 0 < a → V p l e R s m args below meth c Q nl g A h cells slots tgt lo st) (kf : ¬ 0 < a → V p l e R s m args below meth c Q nl g A h cells slots (pc + 3) lo st) : V p l e R s m args below meth c Q nl g A h cells slots pc lo (.int (iI a) :: st) :=
  have hB : -2147483648 ≤ (0 : Int) ∧ (0 : Int) ≤ 2147483647 := ⟨by decide, by decide⟩
  fun H locs ls hP hS hl => lv_if_gt F.1 F.2.1 d ht (fun q => kt ((iI_lt hB hA).mp q) H locs ls hP hS hl) (fun q => kf (fun z => q ((iI_lt hB hA).mpr z)) H locs ls hP hS hl)
theorem v_icmp_le (F : Fx p l s m args meth c cc nl ret own g A) {a b : Int} {off : Int} (tgt : Nat) (d : decode cc pc = .ok (.if_icmp .le off, 3)) (ht : (pc : Int) + off = (tgt : Int)) (hA : -2147483648 ≤ a ∧ a ≤ 2147483647) (hB : -2147483648 ≤ b ∧ b ≤ 2147483647) (kt : a ≤ b → V p l e R s m args below meth c Q nl g A h cells slots tgt lo st) (kf : ¬ a ≤ b → V p l e R s m args below meth c Q nl g A h cells slots (pc + 3) lo st) : V p l e R s m args below meth c Q nl g A h cells slots pc lo (.int (iI b) :: .int (iI a) :: st) :=
  fun H locs ls hP hS hl => lv_icmp_le F.1 F.2.1 d ht (fun q => kt ((iI_le hA hB).mp q) H locs ls hP hS hl) (fun q => kf (fun z => q ((iI_le hA hB).mpr z)) H locs ls hP hS hl)
theorem v_if_le (F : Fx p l s m args meth c cc nl ret own g A) {a : Int} {off : Int} (tgt : Nat) (d : decode cc pc = .ok (.ifCond .le off, 3)) (ht : (pc : Int) + off = (tgt : Int)) (hA : -2147483648 ≤ a ∧ a ≤ 2147483647) (kt : a ≤ 0 → V p l e R s m args below meth c Q nl g A h cells slots tgt lo st) (kf : ¬ a ≤ 0 → V p l e R s m args below meth c Q nl g A h cells slots (pc + 3) lo st) : V p l e R s m args below meth c Q nl g A h cells slots pc lo (.int (iI a) :: st) :=
  have hB : -2147483648 ≤ (0 : Int) ∧ (0 : Int) ≤ 2147483647 := ⟨by decide, by decide⟩
  fun H locs ls hP hS hl => lv_if_le F.1 F.2.1 d ht (fun q => kt ((iI_le hA hB).mp q) H locs ls hP hS hl) (fun q => kf (fun z => q ((iI_le hA hB).mpr z)) H locs ls hP hS hl)
theorem v_goto (F : Fx p l s m args meth c cc nl ret own g A) {off : Int} (tgt : Nat) (d : decode cc pc = .ok (.goto off, 3)) (ht : (pc : Int) + off = (tgt : Int)) (k : V p l e R s m args below meth c Q nl g A h cells slots tgt lo st) : V p l e R s m args below meth c Q nl g A h cells slots pc lo st :=
  fun H locs ls hP hS hl => lv_goto F.1 F.2.1 d ht (k H locs ls hP hS hl)
theorem v_dup (F : Fx p l s m args meth c cc nl ret own g A) {va : Value} (d : decode cc pc = .ok (.dup, 1)) (hva : va.category = 1) (k : V p l e R s m args below meth c Q nl g A h cells slots (pc + 1) lo (va :: va :: st)) : V p l e R s m args below meth c Q nl g A h cells slots pc lo (va :: st) :=
  fun H locs ls hP hS hl => lv_dup F.1 F.2.1 d hva (k H locs ls hP hS hl)
theorem v_pop (F : Fx p l s m args meth c cc nl ret own g A) {va : Value} (d : decode cc pc = .ok (.pop, 1)) (hva : va.category = 1) (k : V p l e R s m args below meth c Q nl g A h cells slots (pc + 1) lo (st)) : V p l e R s m args below meth c Q nl g A h cells slots pc lo (va :: st) :=
  fun H locs ls hP hS hl => lv_pop F.1 F.2.1 d hva (k H locs ls hP hS hl)
theorem v_dup_x1 (F : Fx p l s m args meth c cc nl ret own g A) {va : Value} {vb : Value} (d : decode cc pc = .ok (.dup_x1, 1)) (hva : va.category = 1) (hvb : vb.category = 1) (k : V p l e R s m args below meth c Q nl g A h cells slots (pc + 1) lo (va :: vb :: va :: st)) : V p l e R s m args below meth c Q nl g A h cells slots pc lo (va :: vb :: st) :=
  fun H locs ls hP hS hl => lv_dup_x1 F.1 F.2.1 d hva hvb (k H locs ls hP hS hl)
theorem v_dup2 (F : Fx p l s m args meth c cc nl ret own g A) {va vb : Value} (d : decode cc pc = .ok (.dup2, 1)) (ha : va.category = 1) (hb : vb.category = 1) (k : V p l e R s m args below meth c Q nl g A h cells slots (pc + 1) lo (va :: vb :: va :: vb :: st)) : V p l e R s m args below meth c Q nl g A h cells slots pc lo (va :: vb :: st) :=
  fun H locs ls hP hS hl => lv_dup2_11 F.1 F.2.1 d ha hb (k H locs ls hP hS hl)
def bI (b : Bool) : Int := if b = true then 1 else 0
theorem bI_t : bI true = 1 := rfl
theorem bI_f : bI false = 0 := rfl
theorem bI_01 (b : Bool) : bI b = 0 ∨ bI b = 1 := by cases b <;> simp [bI]
theorem bI_eq {b : Bool} : bI b = 0 ↔ b = false := by cases b <;> simp [bI]
theorem nar_bI (b : Bool) : narrow .boolean (.int (iI (bI b))) = .int (iI (bI b)) := by cases b <;> decide
theorem nar_01 {z : Int} (h : z = 0 ∨ z = 1) : narrow .boolean (.int (iI z)) = .int (iI z) := by rcases h with rfl | rfl <;> decide
theorem v_if_eqB (F : Fx p l s m args meth c cc nl ret own g A) {b : Bool} {off : Int} (tgt : Nat) (d : decode cc pc = .ok (.ifCond .eq off, 3)) (ht : (pc : Int) + off = (tgt : Int)) (kt : b = false → V p l e R s m args below meth c Q nl g A h cells slots tgt lo st) (kf : b = true → V p l e R s m args below meth c Q nl g A h cells slots (pc + 3) lo st) : V p l e R s m args below meth c Q nl g A h cells slots pc lo (.int (iI (bI b)) :: st) :=
  v_if_eq F tgt d ht (by have := bI_01 b; omega) (fun q => kt (bI_eq.mp q)) (fun q => kf (by cases b; exact absurd rfl q; rfl))
theorem v_if_neB (F : Fx p l s m args meth c cc nl ret own g A) {b : Bool} {off : Int} (tgt : Nat) (d : decode cc pc = .ok (.ifCond .ne off, 3)) (ht : (pc : Int) + off = (tgt : Int)) (kt : b = true → V p l e R s m args below meth c Q nl g A h cells slots tgt lo st) (kf : b = false → V p l e R s m args below meth c Q nl g A h cells slots (pc + 3) lo st) : V p l e R s m args below meth c Q nl g A h cells slots pc lo (.int (iI (bI b)) :: st) :=
  v_if_ne F tgt d ht (by have := bI_01 b; omega) (fun q => kt (by cases b; exact absurd rfl q; rfl)) (fun q => kf (bI_eq.mp q))
/-- a field's link: own class, place in its pool, kind of the object, place of the field -/
def FD (own : String) (index ci k : Nat) : Prop := ∃ (C : String) (T : u_T) (N : Nat) (ref : String), vwCl[ci]? = some (C, T, N) ∧ (∀ w ∈ u_ws C T N, w ∈ lw_T) ∧ k < N ∧ Cond.fieldLink own index ref (T k).2.1 (T k).2.2.1 ∈ lw_T ∧ (∀ (s : State) (args : Array Value) x, (∀ w ∈ lw_T, w.before args s = true) → s.fieldFound? (T k).1 (T k).2.1 (T k).2.2.1 = some x → s.fieldFound? ref (T k).2.1 (T k).2.2.1 = some x)
def FP (own : String) (index ci k : Nat) (ty : FieldType) (fin : Bool) : Prop := ∃ (C : String) (T : u_T) (N : Nat) (ref : String) (tf : Nat → FieldType), (vwCl[ci]? = some (C, T, N) ∧ (∀ w ∈ u_ws C T N, w ∈ lw_T) ∧ k < N ∧ Cond.fieldLink own index ref (T k).2.1 (T k).2.2.1 ∈ lw_T ∧ (∀ (s : State) (args : Array Value) x, (∀ w ∈ lw_T, w.before args s = true) → s.fieldFound? (T k).1 (T k).2.1 (T k).2.2.1 = some x → s.fieldFound? ref (T k).2.1 (T k).2.2.1 = some x)) ∧ (∀ k, k < N → parseFieldDescriptor (T k).2.2.1 = some (tf k)) ∧ (∀ a, a < N → ∀ b, b < N → a ≠ b → (T a).2.1 ≠ (T b).2.1) ∧ parseFieldDescriptor (T k).2.2.1 = some ty ∧ (T k).2.2.2 = fin ∧ (fin = true → (T k).1 = own)
theorem v_getf (F : Fx p l s m args meth c cc nl ret own g A) {index ci k : Nat} (fd : FD own index ci k) {a : Nat} {fs : List Value} {v : Value} (d : decode cc pc = .ok (.getfield index, 3)) (hc : h a = some (.inr (ci, fs))) (hv : fs[k]? = some v) (kk : V p l e R s m args below meth c Q nl g A h cells slots (pc + 3) lo (v :: st)) : V p l e R s m args below meth c Q nl g A h cells slots pc lo (.ref a :: st) := by
  intro H locs ls hP hS hl
  obtain ⟨C, T, N, ref, h1, h2, h3, h4, h5⟩ := fd
  obtain ⟨hx, hb, hml, hr, hown, hlk, hK, hST, hA, hl9, hts⟩ := F
  have hP1 : va_P g.1 vwCl [(a, .inr (ci, fs))] H := fun k q hq => by
    have hz : k < 1 := (List.getElem?_eq_some_iff.mp hq).1
    rw [show k = 0 by omega] at hq
    cases hq
    exact (hP a _ hc).1
  exact va_get (D := g.1) hx hb hts h2 hown hK.1 hP1 0 rfl h1 k h3 (hts _ h4) (fun x hx => h5 s args x hts hx) hv d (kk H locs ls hP hS hl)
theorem v_putf (F : Fx p l s m args meth c cc nl ret own g A) {index ci k : Nat} {ty : FieldType} (fp : FP own index ci k ty false) {a : Nat} {fs : List Value} {v : Value} (d : decode cc pc = .ok (.putfield index, 3)) (hc : h a = some (.inr (ci, fs)))  (hn : narrow ty v = v) (hf : fits ty v = true) (hl0 : k < fs.length) {h' : fH} (hh : f_up h a (.inr (ci, fs.set k v)) = h') (kk : V p l e R s m args below meth c Q nl g A h' cells slots (pc + 3) lo st) : V p l e R s m args below meth c Q nl g A h cells slots pc lo (v :: .ref a :: st) := by
  subst hh
  intro H locs ls hP hS hl
  obtain ⟨C, T, N, ref, tf, ⟨h1, h2, h3, h4, h5⟩, h6, h7, h8, h80, h9⟩ := fp
  obtain ⟨hx, hb, hml, hr, hown, hlk, hK, hST, hA, hl9, hts⟩ := F
  obtain ⟨ws, w1, w2, w3, w4⟩ := f_ws hP
  obtain ⟨q0, hq⟩ := w3 a _ hc
  exact va_put (D := g.1) hx hb hts h2 tf h6 h7 hown hK.1 w1 w2 hS q0 hq h1 k h3 (hts _ h4) (fun x hx => h5 s args x hts hx) h80 h8 hn hf hl0 d (fun H1 locs1 p1 p2 p3 => kk H1 locs1 ls (f_set w3 hq p1 p2) p3 hl)
theorem v_putF (F : Fx p l s m args meth c cc nl ret own g A) {index ci k : Nat} {ty : FieldType} (fp : FP own index ci k ty true) {a : Nat} {fs : List Value} {v : Value} (d : decode cc pc = .ok (.putfield index, 3)) (hc : h a = some (.inr (ci, fs))) (hin : meth.name = "<init>") (hn : narrow ty v = v) (hf : fits ty v = true) (hl0 : k < fs.length) {h' : fH} (hh : f_up h a (.inr (ci, fs.set k v)) = h') (kk : V p l e R s m args below meth c Q nl g A h' cells slots (pc + 3) lo st) : V p l e R s m args below meth c Q nl g A h cells slots pc lo (v :: .ref a :: st) := by
  subst hh
  intro H locs ls hP hS hl
  obtain ⟨C, T, N, ref, tf, ⟨h1, h2, h3, h4, h5⟩, h6, h7, h8, h80, h9⟩ := fp
  obtain ⟨hx, hb, hml, hr, hown, hlk, hK, hST, hA, hl9, hts⟩ := F
  obtain ⟨ws, w1, w2, w3, w4⟩ := f_ws hP
  obtain ⟨q0, hq⟩ := w3 a _ hc
  exact va_putF (D := g.1) hx hb hts h2 tf h6 h7 hown hK.1 w1 w2 hS q0 hq h1 k h3 (hts _ h4) (fun x hx => h5 s args x hts hx) h80 hin (h9 rfl) h8 hn hf hl0 d (fun H1 locs1 p1 p2 p3 => kk H1 locs1 ls (f_set w3 hq p1 p2) p3 hl)
theorem v_iald (F : Fx p l s m args meth c cc nl ret own g A) {a n : Nat} {f : Int → Int} {z : Int} (d : decode cc pc = .ok (.iaload, 1)) (hc : h a = some (iar (g.2.1 0) n f)) (hz : 0 ≤ z ∧ z < n) (hn : n < 2147483648) (kk : V p l e R s m args below meth c Q nl g A h cells slots (pc + 1) lo (.int (iI (f z)) :: st)) : V p l e R s m args below meth c Q nl g A h cells slots pc lo (.int (iI z) :: .ref a :: st) := by
  intro H locs ls hP hS hl
  obtain ⟨hx, hb, hml, hr, hown, hlk, hK, hST, hA, hl9, hts⟩ := F
  obtain ⟨ws, w1, w2, w3, w4⟩ := f_ws hP
  obtain ⟨q0, hq⟩ := w3 a _ hc
  refine va_iald (D := g.1) hx hb hK.1 w1 q0 0 hq rfl (iI_in hz hn) d ?_
  have e1 : (((iI z).toNatClampNeg : Nat) : Int) = z := by rw [iI_cl (by omega)]; omega
  rw [e1]
  exact kk H locs ls hP hS hl
theorem v_zald (F : Fx p l s m args meth c cc nl ret own g A) {a n : Nat} {f : Int → Int} {z : Int} (d : decode cc pc = .ok (.baload, 1)) (hc : h a = some (iar (g.2.1 1) n f)) (hz : 0 ≤ z ∧ z < n) (hn : n < 2147483648) (kk : V p l e R s m args below meth c Q nl g A h cells slots (pc + 1) lo (.int (iI (f z)) :: st)) : V p l e R s m args below meth c Q nl g A h cells slots pc lo (.int (iI z) :: .ref a :: st) := by
  intro H locs ls hP hS hl
  obtain ⟨hx, hb, hml, hr, hown, hlk, hK, hST, hA, hl9, hts⟩ := F
  obtain ⟨ws, w1, w2, w3, w4⟩ := f_ws hP
  obtain ⟨q0, hq⟩ := w3 a _ hc
  refine va_zald (D := g.1) hx hb hK.1 w1 q0 1 hq rfl (iI_in hz hn) d ?_
  have e1 : (((iI z).toNatClampNeg : Nat) : Int) = z := by rw [iI_cl (by omega)]; omega
  rw [e1]
  exact kk H locs ls hP hS hl
theorem v_iast (F : Fx p l s m args meth c cc nl ret own g A) {a n : Nat} {f : Int → Int} {z x : Int} (d : decode cc pc = .ok (.iastore, 1)) (hc : h a = some (iar (g.2.1 0) n f)) (hz : 0 ≤ z ∧ z < n) (hn : n < 2147483648) {h' : fH} (hh : f_up h a (iar (g.2.1 0) n (iup f z x)) = h') (kk : V p l e R s m args below meth c Q nl g A h' cells slots (pc + 1) lo st) : V p l e R s m args below meth c Q nl g A h cells slots pc lo (.int (iI x) :: .int (iI z) :: .ref a :: st) := by
  subst hh
  intro H locs ls hP hS hl
  obtain ⟨hx, hb, hml, hr, hown, hlk, hK, hST, hA, hl9, hts⟩ := F
  obtain ⟨ws, w1, w2, w3, w4⟩ := f_ws hP
  obtain ⟨q0, hq⟩ := w3 a _ hc
  refine va_iast (D := g.1) hx hb hK.1 w1 w2 hS q0 0 hq rfl (iI_in hz hn) d (fun H1 locs1 p1 p2 p3 => kk H1 locs1 ls ?_ p3 hl)
  rw [iI_cl (by omega), iup_upd hz.1] at p1 p2
  exact f_set w3 hq p1 p2
theorem v_zast (F : Fx p l s m args meth c cc nl ret own g A) {a n : Nat} {f : Int → Int} {z x : Int} (d : decode cc pc = .ok (.bastore, 1)) (hc : h a = some (iar (g.2.1 1) n f)) (hz : 0 ≤ z ∧ z < n) (hn : n < 2147483648) (hx01 : x = 0 ∨ x = 1) {h' : fH} (hh : f_up h a (iar (g.2.1 1) n (iup f z x)) = h') (kk : V p l e R s m args below meth c Q nl g A h' cells slots (pc + 1) lo st) : V p l e R s m args below meth c Q nl g A h cells slots pc lo (.int (iI x) :: .int (iI z) :: .ref a :: st) := by
  subst hh
  intro H locs ls hP hS hl
  obtain ⟨hx, hb, hml, hr, hown, hlk, hK, hST, hA, hl9, hts⟩ := F
  obtain ⟨ws, w1, w2, w3, w4⟩ := f_ws hP
  obtain ⟨q0, hq⟩ := w3 a _ hc
  refine va_zast (D := g.1) hx hb hK.1 w1 w2 hS q0 1 hq rfl (iI_in hz hn) d (fun H1 locs1 p1 p2 p3 => kk H1 locs1 ls ?_ p3 hl)
  have e9 : vp_nar .boolean (iI x) = iI x := by rcases hx01 with rfl | rfl <;> decide
  rw [iI_cl (by omega), e9, iup_upd hz.1] at p1 p2
  exact f_set w3 hq p1 p2
theorem v_aald (F : Fx p l s m args meth c cc nl ret own g A) {a n q : Nat} {r : Int → Option Nat} {z : Int} (d : decode cc pc = .ok (.aaload, 1)) (hc : h a = some (qar (g.2.1 2) n r)) (hz : 0 ≤ z ∧ z < n) (hn : n < 2147483648) (hr9 : r z = some q) (kk : V p l e R s m args below meth c Q nl g A h cells slots (pc + 1) lo (.ref q :: st)) : V p l e R s m args below meth c Q nl g A h cells slots pc lo (.int (iI z) :: .ref a :: st) := by
  intro H locs ls hP hS hl
  obtain ⟨hx, hb, hml, hr, hown, hlk, hK, hST, hA, hl9, hts⟩ := F
  obtain ⟨ws, w1, w2, w3, w4⟩ := f_ws hP
  obtain ⟨q0, hq⟩ := w3 a _ hc
  refine va_aldq (D := g.1) hx hb hK.1 w1 q0 2 hq rfl (iI_in hz hn) d ?_
  have e1 : (((iI z).toNatClampNeg : Nat) : Int) = z := by rw [iI_cl (by omega)]; omega
  rw [e1, hr9]
  exact kk H locs ls hP hS hl
theorem v_alen (F : Fx p l s m args meth c cc nl ret own g A) {a : Nat} {t : Nat} {ty : FieldType} {x : vp_A} (d : decode cc pc = .ok (.arraylength, 1)) (hc : h a = some (.inl (g.2.1 t, x))) (ht : (qtys g)[t]? = some (g.2.1 t, ty)) (kk : V p l e R s m args below meth c Q nl g A h cells slots (pc + 1) lo (.int (iI x.1) :: st)) : V p l e R s m args below meth c Q nl g A h cells slots pc lo (.ref a :: st) := by
  intro H locs ls hP hS hl
  obtain ⟨hx, hb, hml, hr, hown, hlk, hK, hST, hA, hl9, hts⟩ := F
  obtain ⟨ws, w1, w2, w3, w4⟩ := f_ws hP
  obtain ⟨q0, hq⟩ := w3 a _ hc
  exact va_alen (D := g.1) hx hb hK.1 w1 q0 t hq ht (iI_nat x.1) d (kk H locs ls hP hS hl)
end VROWS2
end
section
section VCALLS
variable {p : Program} {l : Launch} {e : Env} {R : Room} {s : State} {m : MethodId} {args : Array Value} {below : List Frame} {meth : Method} {c : Code} {Q : State → Prop} {nl : Nat} {g : gT} {A : Nat → Prop} {h : fH} {cells slots pc : Nat} {lo lo' : List (Option Value)} {st : List Value} {cc : ByteArray} {ret : Option FieldType} {own : String}
/-- a new object's link -/
def FN (own : String) (index ci N : Nat) (fs : List Value) : Prop := ∃ (C : String) (T : u_T) (tf : Nat → FieldType), vwCl[ci]? = some (C, T, N) ∧ (∀ w ∈ u_ws C T N, w ∈ lw_T) ∧ (∀ k, k < N → parseFieldDescriptor (T k).2.2.1 = some (tf k)) ∧ Cond.classLink own index C ∈ lw_T ∧ Cond.instantiable C N ∈ lw_T ∧ Cond.initialized C ∈ lw_T ∧ ∀ j, j < N → defaultValue (tf j) = vp_V fs j
theorem v_new (F : Fx p l s m args meth c cc nl ret own g A) {index ci N : Nat} {fs : List Value} (fn : FN own index ci N fs) (d : decode cc pc = .ok (.new index, 3)) (h1 : cells + 1 ≤ R.cells) (h2 : slots + N ≤ R.slots) (kk : ∀ q, h q = none → V p l e R s m args below meth c Q nl g A (f_up h q (.inr (ci, fs))) (cells + 1) (slots + N) (pc + 3) lo (.ref q :: st)) : V p l e R s m args below meth c Q nl g A h cells slots pc lo st := by
  intro H locs ls hP hS hl
  obtain ⟨hx, hb, hml, hr, hown, hlk, hK, hST, hA, hl9, hts⟩ := F
  obtain ⟨C, T, tf, e1, e2, e3, e4, e5, e6, e7⟩ := fn
  obtain ⟨ws, w1, w2, w3, w4⟩ := f_ws hP
  refine va_new (D := g.1) hx hb hts e2 tf e3 hown (hts _ e4) (hts _ e5) (hts _ e6) hK.1 w1 w2 hS hA e1 e7 h1 h2 d (fun q H1 p1 p2 p3 => ?_)
  obtain ⟨n1, n2⟩ := f_add w3 p1 p2
  exact kk q n1 H1 locs ls n2 p3 hl

theorem v_newi (F : Fx p l s m args meth c cc nl ret own g A) {n : Nat} (d : decode cc pc = .ok (.newarray .int, 2)) (hn : n ≤ 1000) (h1 : cells + 1 ≤ R.cells) (h2 : slots + n ≤ R.slots) (kk : ∀ q, h q = none → V p l e R s m args below meth c Q nl g A (f_up h q (iar (g.2.1 0) n (fun _ => 0))) (cells + 1) (slots + n) (pc + 2) lo (.ref q :: st)) : V p l e R s m args below meth c Q nl g A h cells slots pc lo (.int (iI (n : Int)) :: st) := by
  intro H locs ls hP hS hl
  obtain ⟨hx, hb, hml, hr, hown, hlk, hK, hST, hA, hl9, hts⟩ := F
  obtain ⟨ws, w1, w2, w3, w4⟩ := f_ws hP
  have e0 : (iI (n : Int)).toNatClampNeg = n := by rw [iI_cl (by omega)]; omega
  refine va_newa (D := g.1) (atype := .int) (ty := .int) (a0 := (n, .inl (fun k => iI ((fun _ => 0 : Int → Int) (k : Int))))) hx hb (hts _ tw_ac0) rfl hK.1 w1 w2 hS hA (fun cA => rfl) (by rw [iI_0, iI_lt (by omega) (by omega)]; omega) e0 (Nat.le_trans (Nat.mul_le_mul hn (show componentBytes .int ≤ 4 by decide)) (by decide)) h1 h2 d (fun q cA H1 k1 p1 p2 p3 => ?_)
  have e1 : s.vm.findClass ("[" ++ FieldType.toString .int) = some (g.2.1 0) := (hK.1.2 0 (g.2.1 0, .int) rfl).2
  have e2 : s.vm.findClass ("[" ++ FieldType.toString .int) = some cA := (k1.2 5 (cA, .int) rfl).2
  cases Option.some.inj (e1.symm.trans e2)
  obtain ⟨n1, n2⟩ := f_add w3 p1 p2
  exact kk q n1 H1 locs ls n2 p3 hl

theorem v_newz (F : Fx p l s m args meth c cc nl ret own g A) {n : Nat} (d : decode cc pc = .ok (.newarray .boolean, 2)) (hn : n ≤ 1000) (h1 : cells + 1 ≤ R.cells) (h2 : slots + n ≤ R.slots) (kk : ∀ q, h q = none → V p l e R s m args below meth c Q nl g A (f_up h q (iar (g.2.1 1) n (fun _ => 0))) (cells + 1) (slots + n) (pc + 2) lo (.ref q :: st)) : V p l e R s m args below meth c Q nl g A h cells slots pc lo (.int (iI (n : Int)) :: st) := by
  intro H locs ls hP hS hl
  obtain ⟨hx, hb, hml, hr, hown, hlk, hK, hST, hA, hl9, hts⟩ := F
  obtain ⟨ws, w1, w2, w3, w4⟩ := f_ws hP
  have e0 : (iI (n : Int)).toNatClampNeg = n := by rw [iI_cl (by omega)]; omega
  refine va_newa (D := g.1) (atype := .boolean) (ty := .boolean) (a0 := (n, .inl (fun k => iI ((fun _ => 0 : Int → Int) (k : Int))))) hx hb (hts _ tw_ac1) rfl hK.1 w1 w2 hS hA (fun cA => rfl) (by rw [iI_0, iI_lt (by omega) (by omega)]; omega) e0 (Nat.le_trans (Nat.mul_le_mul hn (show componentBytes .boolean ≤ 4 by decide)) (by decide)) h1 h2 d (fun q cA H1 k1 p1 p2 p3 => ?_)
  have e1 : s.vm.findClass ("[" ++ FieldType.toString .boolean) = some (g.2.1 1) := (hK.1.2 1 (g.2.1 1, .boolean) rfl).2
  have e2 : s.vm.findClass ("[" ++ FieldType.toString .boolean) = some cA := (k1.2 5 (cA, .boolean) rfl).2
  cases Option.some.inj (e1.symm.trans e2)
  obtain ⟨n1, n2⟩ := f_add w3 p1 p2
  exact kk q n1 H1 locs ls n2 p3 hl

/-- int[feeds][racks] at the inner rows -/
theorem v_aaldA (F : Fx p l s m args meth c cc nl ret own g A) {a n q : Nat} {r : Int → Option Nat} {z : Int} (d : decode cc pc = .ok (.aaload, 1)) (hc : h a = some (qar (g.2.1 3) n r)) (hz : 0 ≤ z ∧ z < n) (hn : n < 2147483648) (hr9 : r z = some q) (kk : V p l e R s m args below meth c Q nl g A h cells slots (pc + 1) lo (.ref q :: st)) : V p l e R s m args below meth c Q nl g A h cells slots pc lo (.int (iI z) :: .ref a :: st) := by
  intro H locs ls hP hS hl
  obtain ⟨hx, hb, hml, hr, hown, hlk, hK, hST, hA, hl9, hts⟩ := F
  have hP0 : H[a]? = some (vp_cell (g.2.1 3) (n, .inr (.inr (.inr (.inr (fun k => r (k : Int))))))) := (hP a _ hc).1
  have hin := iI_in hz hn
  have e1 : (((iI z).toNatClampNeg : Nat) : Int) = z := by rw [iI_cl (by omega)]; omega
  have hlt : (iI z).toNatClampNeg < n := by omega
  refine W.aald (v := .ref q) (ty := .array .int) hx hb hP0 ((hK.1.2 3 (g.2.1 3, .array .int) rfl).1 n (fun j => va_rf (r (j : Int)))) rfl (fun q => by cases q) (by show ¬ (iI z < 0 ∨ (arrV _ _ _).slots.size ≤ _); rw [arrV_size]; exact hin) ?_ rfl rfl d (kk H locs ls hP hS hl)
  show (arrV _ _ _).slots[_]? = _
  rw [arrV_read _ _ hlt]
  show some (va_rf (r (((iI z).toNatClampNeg : Nat) : Int))) = _
  rw [e1, hr9]
  rfl
/-- a call's link -/
def CI (own : String) (index : Nat) (y : MethodName) (cc2 : ByteArray) (nl2 : Nat) (ret2 : Option FieldType) (n : Nat) : Prop := Cond.methodLink own index y ∈ lw_T ∧ Cond.initialized y.cls ∈ lw_T ∧ Cond.code y cc2 nl2 ret2 ∈ lw_T ∧ (y.cls ≠ "java/lang/invoke/MethodHandle" ∧ y.cls ≠ "java/lang/invoke/VarHandle" ∧ (parseMethodDescriptor y.desc).map (fun d => d.parameters.length) = some n)
def VX (p : Program) (l : Launch) (e : Env) (R : Room) (s : State) (m : MethodId) (args : Array Value) (below : List Frame) (meth : Method) (c : Code) (Q : State → Prop) (nl : Nat) (g : gT) (A : Nat → Prop) (h : fH) (cells slots pc : Nat) (lo : List (Option Value)) (st : List Value) (E : String) : Prop :=
  ∀ (H : Heap) (locs : List Loc) (ls : Array Slot) (ce : Cell) (q : Nat), f_at g.1 A h H → va_S A s.heap H locs → v_lo ls nl lo → H[q]? = some ce → ce.vm = .none → s.vm.findClass E = some ce.cls → vx_W p l e R s m args below meth c H locs cells slots Q (F0 m pc ls st) q
theorem q_blind {g : gT} {A : Nat → Prop} {h : fH} {av : List Value} : FrameBlind (va_Pc av (PS g A h)) := by
  intro a U fr mk hp
  obtain ⟨h0, h1, ⟨h2, h3⟩, h4, h5⟩ := hp
  refine ⟨h0, h1, ⟨va_K.moved (u := U) (U := U.calling fr mk a) (Vm.Alike.refl U.vm) h2, fun w hw => va_lwT (u := U) (U := U.calling fr mk a) hw rfl (h3 w hw)⟩, ST.moved (u := U) (U := U.calling fr mk a) (Vm.Alike.refl U.vm) (fun _ _ _ _ k => k.same rfl) h4, h5⟩
theorem PS.warm {g : gT} {A : Nat → Prop} {h : fH} {s U : State} {H : Heap} (hW : s.WarmedH U.vm) (hU : U.heap = H) (hP : f_at g.1 A h H) (hK : KK g s) (hST : ST g A s H) (hA : ∀ q, H.size ≤ q → A q) : PS g A h U := by
  subst hU
  exact ⟨hP, ⟨va_K.moved hW.alike hK.1, fun w hw => lwT_warm hW hw (hK.2 w hw)⟩, ST.moved hW.alike (fun _ _ _ _ k => k.warm hW) hST, hA⟩
theorem v_go {rest : List Value} {mc ms : Nat} {av : Array Value} {post : Option Value → fH → Prop} {px : String → fH → Prop} (F : Fx p l s m args meth c cc nl ret own g A) (hrun : ∀ (H : Heap) (locs : List Loc) (ls : Array Slot), f_at g.1 A h H → va_S A s.heap H locs → v_lo ls nl lo → vx_Run p l e R s m args below meth c H locs cells slots mc ms (F0 m pc ls st) rest (q_Q g A post av) (q_X g A px) A)
    (kk : ∀ v h', post v h' → V p l e R s m args below meth c Q nl g A h' (cells + mc) (slots + ms) (pc + 3) lo (v.toList ++ rest)) (kx : ∀ E h', px E h' → VX p l e R s m args below meth c Q nl g A h' (cells + mc) (slots + ms) pc lo rest E) : V p l e R s m args below meth c Q nl g A h cells slots pc lo st := by
  intro H locs ls hP hS hl T hT X
  rcases hrun H locs ls hP hS hl T hT X with ⟨v, st₀, t, T', L, h0, X', hL, e1, e2, ⟨v', h', hv, hpo, hat, hF⟩, st⟩ | ⟨q, st₀, t, T', L, E, ce, h0, X', hL, e1, e2, ⟨h', hpo, hat, hF⟩, hce, hcv, hcl, st⟩
  · cases hv
    obtain ⟨k1, k2, k3⟩ := vx_keep h0 e1 hS (fun q _ z => z) (fun q z => z) hL hF
    obtain ⟨t2, a1, b1⟩ := kk v h' hpo T'.heap (locs ++ L) ls (by rw [e1]; exact hat) k3 hl T' rfl X'
    exact ⟨t2, st t2 a1, b1⟩
  · obtain ⟨k1, k2, k3⟩ := vx_keep h0 e1 hS (fun q _ z => z) (fun q z => z) hL hF
    obtain ⟨t2, a1, b1⟩ := kx E h' hpo T'.heap (locs ++ L) ls ce q (by rw [e1]; exact hat) k3 hl (by rw [e1]; exact hce) hcv hcl T' rfl X'
    exact ⟨t2, st.trans a1, b1⟩
theorem CM.met {y : MethodName} {cc2 : ByteArray} {nl2 : Nat} {ret2 : Option FieldType} {rm : Room} {av : List Value} {post : Option Value → fH → Prop} (hM : CM l g y cc2 nl2 ret2 rm av h post noX) (hl : l.stackTraces = false) (A : Nat → Prop) : Met l y [.code y cc2 nl2 ret2] rm (va_Pc av (PS g A h)) (q_Q g A post) rm.cells rm.slots A := by
  intro p e ha hc hk s m args below hf hap hP hK
  obtain ⟨n, o, h1, h2, h3, h4⟩ := hM hl A p e ha hc hk s m args below hf hap hP hK
  refine ⟨n, o, h1, h2, h3, ?_⟩
  rcases h4 with h4 | ⟨q, -, E, ce, L, ⟨h', hx, -⟩, -⟩
  · exact h4
  · exact hx.elim
/-- the heap's place of a start is the same behind a write -/
theorem ST.at {H : Heap} {locs : List Loc} (hST : ST g A s s.heap) (hS : va_S A s.heap H locs) : ST g A s H := by
  obtain ⟨⟨a1, a2⟩, ⟨b1, b2, b3⟩, c1⟩ := hST
  have hb := (Array.getElem?_eq_some_iff.mp b2).1
  exact ⟨⟨a1.kept hS.2.1, a2.kept hS.2.1⟩, ⟨b1.kept hS.2.1, by rw [hS.2.1 _ hb b3]; exact b2, b3⟩, c1⟩
theorem good_code {y : MethodName} {cc2 : ByteArray} {nl2 : Nat} {ret2 : Option FieldType} (hc : Cond.code y cc2 nl2 ret2 ∈ lw_T) : GoodIn lw_T [.code y cc2 nl2 ret2] := fun w hw => by
  rw [List.mem_singleton] at hw
  subst hw
  exact ⟨hc, Or.inl rfl⟩

theorem v_callV (F : Fx p l s m args meth c cc nl ret own g A) {y : MethodName} {cc2 : ByteArray} {nl2 index n : Nat} {ret2 : Option FieldType} {rm : Room} {b : Nat} {As : List Value} {post : Option Value → fH → Prop} {px : String → fH → Prop} {rest : List Value} (ci : CI own index y cc2 nl2 ret2 n) (hi : Cond.instanceMethod y ∈ lw_T) (hse : Cond.selects y.cls y y ∈ lw_T) (hM : CM l g y cc2 nl2 ret2 rm (.ref b :: As) h post px) (d : decode cc pc = .ok (.invokevirtual index, 3)) {k0 : Nat} {r : vw_C} {fs : List Value} (hcl : vwCl[k0]? = some r) (hcn : r.1 = y.cls) (hc : h b = some (.inr (k0, fs))) (hst : st = As.reverse ++ .ref b :: rest) (hn : As.length = n) (hW : (rest.map fun v => v.category).sum ≤ 8) (hfr : rm.frames + 1 ≤ R.frames) (hlo : 8 + (nl2 + 11) + rm.locals ≤ R.locals) (hmc : cells + rm.cells ≤ R.cells) (hms : slots + rm.slots ≤ R.slots) (kk : ∀ v h', post v h' → V p l e R s m args below meth c Q nl g A h' (cells + rm.cells) (slots + rm.slots) (pc + 3) lo (v.toList ++ rest)) (kx : ∀ E h', px E h' → VX p l e R s m args below meth c Q nl g A h' (cells + rm.cells) (slots + rm.slots) pc lo rest E) : V p l e R s m args below meth c Q nl g A h cells slots pc lo st := by
  subst hst
  refine v_go (av := (Value.ref b :: As).toArray) F (fun H locs ls hP hS hl => ?_) kk kx
  obtain ⟨hx, hb, hml, hr, hown, hlk, hK, hST, hA, hl9, hts⟩ := F
  obtain ⟨c1, c2, c3, c4⟩ := ci
  have hrecv : ∃ cell : Cell, H[b]? = some cell ∧ cell.vm.isStatics = false ∧ s.vm.findClass y.cls = some cell.cls := by
    obtain ⟨q', h1, cell, g1, g2, g3, -⟩ := (hP b _ hc).1
    exact ⟨cell, g1, by rw [g3]; rfl, by rw [g2, ← hcn]; exact (hK.1.1 k0 r hcl).2.1⟩
  have hAH : ∀ q, H.size ≤ q → A q := fun q z => hA q (Nat.le_trans hS.1 z)
  exact vx_runV (Ts := lw_T) (own := own) ⟨hx, hb, hml, hown, hts⟩ (hM hl9 A) ⟨callB_of n hts (good_code c3) rfl rfl rfl (hts _ c2) (hts _ c1) c4 ⟨hfr, hlo⟩, hts _ hi, hts _ hse⟩
    ⟨q_blind, hrecv, fun U hU hW9 => ⟨rfl, PS.warm hW9 hU hP hK (hST.at hS) hAH⟩⟩ rfl hn hl.1 rfl (lv_room hW) d ⟨hmc, hms⟩

theorem v_callS (F : Fx p l s m args meth c cc nl ret own g A) {y : MethodName} {cc2 : ByteArray} {nl2 index n : Nat} {ret2 : Option FieldType} {rm : Room} {As : List Value} {post : Option Value → fH → Prop} {px : String → fH → Prop} {rest : List Value} (ci : CI own index y cc2 nl2 ret2 n) (hi : Cond.static y ∈ lw_T) (hM : CM l g y cc2 nl2 ret2 rm As h post px) (d : decode cc pc = .ok (.invokestatic index, 3)) (hst : st = As.reverse ++ rest) (hn : As.length = n) (hW : (rest.map fun v => v.category).sum ≤ 8) (hfr : rm.frames + 1 ≤ R.frames) (hlo : 8 + (nl2 + 11) + rm.locals ≤ R.locals) (hmc : cells + rm.cells ≤ R.cells) (hms : slots + rm.slots ≤ R.slots) (kk : ∀ v h', post v h' → V p l e R s m args below meth c Q nl g A h' (cells + rm.cells) (slots + rm.slots) (pc + 3) lo (v.toList ++ rest)) (kx : ∀ E h', px E h' → VX p l e R s m args below meth c Q nl g A h' (cells + rm.cells) (slots + rm.slots) pc lo rest E) : V p l e R s m args below meth c Q nl g A h cells slots pc lo st := by
  subst hst
  refine v_go (av := As.toArray) F (fun H locs ls hP hS hl => ?_) kk kx
  obtain ⟨hx, hb, hml, hr, hown, hlk, hK, hST, hA, hl9, hts⟩ := F
  obtain ⟨c1, c2, c3, c4⟩ := ci
  have hAH : ∀ q, H.size ≤ q → A q := fun q z => hA q (Nat.le_trans hS.1 z)
  exact vx_runS (Ts := lw_T) (own := own) ⟨hx, hb, hml, hown, hts⟩ (hM hl9 A) ⟨callB_of n hts (good_code c3) rfl rfl rfl (hts _ c2) (hts _ c1) c4 ⟨hfr, hlo⟩, hts _ hi⟩
    ⟨q_blind, fun U hU hW9 => ⟨rfl, PS.warm hW9 hU hP hK (hST.at hS) hAH⟩⟩ rfl hn hl.1 rfl (lv_room hW) d ⟨hmc, hms⟩

theorem v_callI (F : Fx p l s m args meth c cc nl ret own g A) {y : MethodName} {cc2 : ByteArray} {nl2 index n : Nat} {rm : Room} {b : Nat} {As : List Value} {post : Option Value → fH → Prop} {rest : List Value} (ci : CI own index y cc2 nl2 none n) (hi : Cond.instanceMethod y ∈ lw_T) (hin : y.name = "<init>") (hM : CM l g y cc2 nl2 none rm (.ref b :: As) h post noX) (d : decode cc pc = .ok (.invokespecial index, 3)) (hst : st = As.reverse ++ .ref b :: rest) (hn : As.length = n) (hW : (rest.map fun v => v.category).sum ≤ 8) (hfr : rm.frames + 1 ≤ R.frames) (hlo : 8 + (nl2 + 11) + rm.locals ≤ R.locals) (hmc : cells + rm.cells ≤ R.cells) (hms : slots + rm.slots ≤ R.slots) (kk : ∀ v h', post v h' → V p l e R s m args below meth c Q nl g A h' (cells + rm.cells) (slots + rm.slots) (pc + 3) lo (v.toList ++ rest)) : V p l e R s m args below meth c Q nl g A h cells slots pc lo st := by
  subst hst
  refine v_go (av := (Value.ref b :: As).toArray) (px := noX) F (fun H locs ls hP hS hl => ?_) kk (fun _ _ z => z.elim)
  obtain ⟨hx, hb, hml, hr, hown, hlk, hK, hST, hA, hl9, hts⟩ := F
  obtain ⟨c1, c2, c3, c4⟩ := ci
  have hAH : ∀ q, H.size ≤ q → A q := fun q z => hA q (Nat.le_trans hS.1 z)
  exact fun T hT X => Or.inl (va_runI (Ts := lw_T) (own := own) ⟨hx, hb, hml, hown, hts⟩ (hM.met hl9 A) ⟨callB_of n hts (good_code c3) rfl rfl rfl (hts _ c2) (hts _ c1) c4 ⟨hfr, hlo⟩, hin, hts _ hi⟩
    ⟨q_blind, fun U hU hW9 => ⟨rfl, PS.warm hW9 hU hP hK (hST.at hS) hAH⟩⟩ rfl hn hl.1 rfl (lv_room hW) d ⟨hmc, hms⟩ T hT X)
theorem v_callN (F : Fx p l s m args meth c cc nl ret own g A) {y : MethodName} {cc2 : ByteArray} {nl2 index n : Nat} {ret2 : Option FieldType} {rm : Room} {As : List Value} {post : Option Value → fH → Prop} {rest : List Value} {host : String} (ci : Cond.methodLinkNest own index y host ∈ lw_T ∧ Cond.initialized y.cls ∈ lw_T ∧ Cond.code y cc2 nl2 ret2 ∈ lw_T ∧ (y.cls ≠ "java/lang/invoke/MethodHandle" ∧ y.cls ≠ "java/lang/invoke/VarHandle" ∧ (parseMethodDescriptor y.desc).map (fun d => d.parameters.length) = some n)) (hi : Cond.static y ∈ lw_T) (hM : CM l g y cc2 nl2 ret2 rm As h post noX) (d : decode cc pc = .ok (.invokestatic index, 3)) (hst : st = As.reverse ++ rest) (hn : As.length = n) (hW : (rest.map fun v => v.category).sum ≤ 8) (hfr : rm.frames + 1 ≤ R.frames) (hlo : 8 + (nl2 + 11) + rm.locals ≤ R.locals) (hmc : cells + rm.cells ≤ R.cells) (hms : slots + rm.slots ≤ R.slots) (kk : ∀ v h', post v h' → V p l e R s m args below meth c Q nl g A h' (cells + rm.cells) (slots + rm.slots) (pc + 3) lo (v.toList ++ rest)) : V p l e R s m args below meth c Q nl g A h cells slots pc lo st := by
  subst hst
  refine v_go (av := As.toArray) (px := noX) F (fun H locs ls hP hS hl => ?_) kk (fun _ _ z => z.elim)
  obtain ⟨hx, hb, hml, hr, hown, hlk, hK, hST, hA, hl9, hts⟩ := F
  obtain ⟨c1, c2, c3, c4⟩ := ci
  have hAH : ∀ q, H.size ≤ q → A q := fun q z => hA q (Nat.le_trans hS.1 z)
  exact fun T hT X => Or.inl (va_runSN (Ts := lw_T) (own := own) ⟨hx, hb, hml, hown, hts⟩ (hM.met hl9 A) ⟨va_cnB n hts (good_code c3) rfl rfl rfl (va_Nw.of rfl (hts _ c1)) (hts _ c2) c4 ⟨hfr, hlo⟩, hts _ hi, trivial⟩
    ⟨q_blind, fun U hU hW9 => ⟨rfl, PS.warm hW9 hU hP hK (hST.at hS) hAH⟩⟩ rfl hn hl.1 rfl (lv_room hW) d ⟨hmc, hms⟩ T hT X)
/-- Object.<init> -/
theorem v_objInit (F : Fx p l s m args meth c cc nl ret own g A) {index : Nat} {a : Nat} (ci : Cond.methodLink own index objectInit ∈ lw_T) (ci2 : Cond.instanceMethod objectInit ∈ lw_T) (ci3 : Cond.code objectInit ⟨#[0xb1]⟩ 1 none ∈ lw_T) (d : decode cc pc = .ok (.invokespecial index, 3)) (hfr : 1 ≤ R.frames) (hlo : 20 ≤ R.locals) (hW : (st.map fun v => v.category).sum ≤ 8) (kk : V p l e R s m args below meth c Q nl g A h cells slots (pc + 3) lo st) : V p l e R s m args below meth c Q nl g A h cells slots pc lo (.ref a :: st) := by
  intro H locs ls hP hS hl
  obtain ⟨hx, hb, hml, hr, hown, hlk, hK, hST, hA, hl9, hts⟩ := F
  have h9 := lv_room (m := m) (pc := pc) (ls := ls) (rest := .ref a :: st) hW
  exact W.objInit hx hb hown (hts _ ci) (hts _ ci2) (hts _ ci3) rfl (hl.1.trans hml.symm) rfl d hfr (by omega) (kk H locs ls hP hS hl)
end VCALLS
section VENDS
variable {p : Program} {l : Launch} {e : Env} {R : Room} {s : State} {m : MethodId} {args : Array Value} {below : List Frame} {meth : Method} {c : Code} {Q : State → Prop} {nl : Nat} {g : gT} {A : Nat → Prop} {h : fH} {cells slots pc : Nat} {lo lo' : List (Option Value)} {st : List Value} {cc : ByteArray} {ret : Option FieldType} {own : String}
  {post : Option Value → fH → Prop} {px : String → fH → Prop} {mc ms : Nat}
abbrev VE (p : Program) (l : Launch) (e : Env) (R : Room) (s : State) (m : MethodId) (args : Array Value) (below : List Frame) (meth : Method) (c : Code) (nl : Nat) (g : gT) (A : Nat → Prop) (h : fH) (cells slots pc : Nat) (lo : List (Option Value)) (st : List Value) (post : Option Value → fH → Prop) (px : String → fH → Prop) (mc ms : Nat) : Prop := V p l e R s m args below meth c (vx_MQ below (q_Q g A post) (q_X g A px) args s mc ms A) nl g A h cells slots pc lo st
theorem v_wid {k n : Nat} (h1 : cells ≤ k) (h2 : slots ≤ n) (kk : V p l e R s m args below meth c Q nl g A h k n pc lo st) : V p l e R s m args below meth c Q nl g A h cells slots pc lo st :=
  fun H locs ls hP hS hl => W.widen h1 h2 (kk H locs ls hP hS hl)
theorem v_iret (F : Fx p l s m args meth c cc nl ret own g A) {z : Int32} {ty : FieldType} (d : decode cc pc = .ok (.ireturn, 1)) (hr9 : ret = some ty) (hn : narrow ty (.int z) = .int z) (h1 : cells ≤ mc) (h2 : slots ≤ ms) (hq : post (some (.int z)) h) : VE p l e R s m args below meth c nl g A h cells slots pc lo (.int z :: []) post px mc ms :=
  v_wid h1 h2 (fun H locs ls hP hS hl => by
    obtain ⟨hx, hb, hml, hr, hown, hlk, hK, hST, hA, hl9, hts⟩ := F
    exact vx_ret (W.zret (ty := ty) hx hb (hr.trans hr9) hn (fun t ht hW => ⟨some (.int z), h, rfl, hq, by rw [ht]; exact hP, hS.F ht⟩) hS.2.2 d hlk))
theorem v_vret (F : Fx p l s m args meth c cc nl ret own g A) (d : decode cc pc = .ok (.return_, 1)) (hr9 : ret = none) (h1 : cells ≤ mc) (h2 : slots ≤ ms) (hq : post none h) : VE p l e R s m args below meth c nl g A h cells slots pc lo [] post px mc ms :=
  v_wid h1 h2 (fun H locs ls hP hS hl => by
    obtain ⟨hx, hb, hml, hr, hown, hlk, hK, hST, hA, hl9, hts⟩ := F
    exact vx_ret (W.vret hx hb (hr.trans hr9) (fun t ht hW => ⟨none, h, rfl, hq, by rw [ht]; exact hP, hS.F ht⟩) hS.2.2 d hlk))
theorem v_aret (F : Fx p l s m args meth c cc nl ret own g A) {a : Nat} {ty : FieldType} (d : decode cc pc = .ok (.areturn, 1)) (hr9 : ret = some ty) (hn : (∃ n, ty = .object n) ∨ ∃ t, ty = .array t) (h1 : cells ≤ mc) (h2 : slots ≤ ms) (hq : post (some (.ref a)) h) : VE p l e R s m args below meth c nl g A h cells slots pc lo (.ref a :: []) post px mc ms :=
  v_wid h1 h2 (fun H locs ls hP hS hl => by
    obtain ⟨hx, hb, hml, hr, hown, hlk, hK, hST, hA, hl9, hts⟩ := F
    exact vx_ret (W.aret hx hb (hr.trans hr9) hn (Or.inr ⟨a, rfl⟩) (fun t ht hW => ⟨some (.ref a), h, rfl, hq, by rw [ht]; exact hP, hS.F ht⟩) hS.2.2 d hlk))
/-- what a callee threw leaves a method without a table -/
theorem v_xout {E : String} (hlk : meth.locks = false) (htab : ∀ x ∈ c.exceptionTable.toList, False) (h1 : cells ≤ mc) (h2 : slots ≤ ms) (hq : px E h) : VX p l e R s m args below meth c (vx_MQ below (q_Q g A post) (q_X g A px) args s mc ms A) nl g A h cells slots pc lo st E :=
  fun H locs ls ce q hP hS hl hce hcv hcl => vx_out (fun x z => (htab x z).elim) hlk hce hcv hcl (fun t ht hW => ⟨h, hq, by rw [ht]; exact hP, hS.F ht⟩) hS.2.2 h1 h2
/-- a throw of the class's own -/
theorem v_throw (F : Fx p l s m args meth c cc nl ret own g A) {cls text : String} {names : List String} {ik is ic : Nat} (hcls : Bundle.fit cls = true) (hnames : ∀ n ∈ names, Bundle.fit n = true) (hk : Cond.classLink own ik cls ∈ lw_T) (hini : Cond.initialized cls ∈ lw_T) (hs : (own, is, text) ∈ q_strs) (hat : ∀ w ∈ vx_atS own ic cls names, w ∈ lw_T) (hgood : ∀ w ∈ Cond.classLink own ik cls :: Cond.initialized cls :: vx_atS own ic cls names, vx_ot w = true)
    (htab : ∀ x ∈ c.exceptionTable.toList, False) (d0 : decode cc pc = .ok (.new ik, 3)) (d3 : decode cc (pc + 3) = .ok (.dup, 1)) (d4 : decode cc (pc + 4) = .ok (.ldc is, 2)) (d6 : decode cc (pc + 6) = .ok (.invokespecial ic, 3)) (d9 : decode cc (pc + 9) = .ok (.athrow, 1))
    (hf1 : names.length + 3 < R.frames) (hf2 : (st.map fun v => v.category).sum + (13 * (names.length + 1) + 43) ≤ R.locals) (hc1 : cells + 1 ≤ R.cells) (hc2 : slots + 6 ≤ R.slots) (h1 : cells + 1 ≤ mc) (h2 : slots + 6 ≤ ms) (hq : px cls h) : VE p l e R s m args below meth c nl g A h cells slots pc lo st post px mc ms := by
  intro H locs ls hP hS hl
  obtain ⟨hx, hb, hml, hr, hown, hlk, hK, hST, hA, hl9, hts⟩ := F
  obtain ⟨sa, hsa⟩ := hST.2.2 _ hs
  refine vx_throwS hx hb hl9 hown hcls hnames (hts _ hk) (hts _ hini) hsa (fun w hw => hts _ (hat w hw)) hgood hST.1.1 hST.1.2 hS (hl.1.trans hml.symm) d0 d3 d4 d6 d9 (fun x z => (htab x z).elim) hf1 hf2 hc1 hc2 hlk (fun t hW hz ho => ?_) hS.2.2 h1 h2
  refine ⟨h, hq, fun a e9 he => ⟨(hP a e9 he).1.kept (ho a ((hP a e9 he).1.lt)), (hP a e9 he).2⟩, Nat.le_trans hS.1 hz, fun q hq1 hq2 => ?_⟩
  rw [ho q (Nat.lt_of_lt_of_le hq1 hS.1)]
  exact hS.2.1 q hq1 hq2
theorem v_lo_entry {av : List Value} {n : Nat} (hn : av.length ≤ n) (hcat : ∀ v ∈ av, v.category = 1) : v_lo ((lg_sl av ++ List.replicate (n - (lg_sl av).length) Slot.unset).toArray) n (av.map some ++ List.replicate (n - av.length) none) := by
  have e : lg_sl av = av.map Slot.val := by
    unfold lg_sl
    clear hn
    induction av with
    | nil => rfl
    | cons v t ih =>
      have h1 := hcat v List.mem_cons_self
      rw [List.flatMap_cons, ih (fun w hw => hcat w (List.mem_cons_of_mem _ hw)), if_neg (by omega)]
      rfl
  have h0 := lv_entry av (n := n) (by rw [e, List.length_map]; exact hn)
  refine ⟨h0.1, h0.2.1, fun i v hi => ?_⟩
  have hi2 : i < av.length := by
    rcases Nat.lt_or_ge i av.length with h1 | h1
    · exact h1
    · rw [List.getElem?_append_right (by rw [List.length_map]; exact h1)] at hi
      have := List.mem_replicate.mp (List.mem_of_getElem? hi)
      cases this.2
  rw [List.getElem?_append_left (by rw [List.length_map]; exact hi2), List.getElem?_map] at hi
  have hv : av[i]? = some v := by
    cases h2 : av[i]? with
    | none => rw [h2] at hi; cases hi
    | some w => rw [h2] at hi; cases hi; rfl
  refine ⟨hcat v (List.mem_of_getElem? hv), ?_⟩
  rw [List.getElem?_toArray, List.getElem?_append_left (by rw [e, List.length_map]; exact hi2), e, List.getElem?_map, hv]
  rfl
theorem CM.of {y : MethodName} {cc2 : ByteArray} {nl2 : Nat} {ret2 : Option FieldType} {rm : Room} {av : List Value} (hy : plainName y.cls = true) (hn : av.length ≤ nl2) (hcat : ∀ v ∈ av, v.category = 1) (hlo : lo = av.map some ++ List.replicate (nl2 - av.length) none)
    (body : ∀ (p : Program) (e : Env) (s : State) (m : MethodId) (below : List Frame) (meth : Method) (c : Code) (A : Nat → Prop), Fx p l s m av.toArray meth c cc2 nl2 ret2 y.cls g A → (∀ x ∈ c.exceptionTable.toList, False) → meth.name = y.name → VE p l e rm s m av.toArray below meth c nl2 g A h 0 0 0 lo [] post px rm.cells rm.slots) : CM l g y cc2 nl2 ret2 rm av h post px := by
  intro hl A
  refine vx_ofW hy rfl ?_
  intro p e s m args below meth c s₁ B hml htab hv
  obtain ⟨rfl, hP, hK, hST, hA⟩ := hv
  have hown : s.vm.findClass y.cls = some m.cls := findClass_of_methodNamed B.named
  have k := body p e s m below meth c A ⟨B.exec, B.bytes, hml, B.returns, hown, B.notSynchronized, hK, hST, hA, hl, fun w hw => va_lwT (u := s) (U := s) hw rfl (hK.2 w hw)⟩ htab (name_of_methodNamed B.named B.method).1
  rw [lg_entry_eq]
  subst hlo
  exact k s.heap [] _ hP va_S.rf (v_lo_entry hn hcat)
end VENDS

section VPURE
variable {p : Program} {l : Launch} {e : Env} {R : Room} {s : State} {m : MethodId} {args : Array Value} {below : List Frame} {meth : Method} {c : Code} {Q : State → Prop} {nl : Nat} {g : gT} {A : Nat → Prop} {h : fH} {cells slots pc : Nat} {lo lo' : List (Option Value)} {st : List Value} {cc : ByteArray} {ret : Option FieldType} {own : String}
/-- a plain answer: this value, this heap -/
abbrev pV (r : Option Value) (h1 : fH) : Option Value → fH → Prop := fun v h' => v = r ∧ h' = h1

theorem v_callVp (F : Fx p l s m args meth c cc nl ret own g A) {y : MethodName} {cc2 : ByteArray} {nl2 index n : Nat} {ret2 : Option FieldType} {rm : Room} {b : Nat} {As : List Value} {h1 : fH} {px : String → fH → Prop} {rest : List Value} {w : Value} (ci : CI own index y cc2 nl2 ret2 n) (hi : Cond.instanceMethod y ∈ lw_T) (hse : Cond.selects y.cls y y ∈ lw_T) (hM : CM l g y cc2 nl2 ret2 rm (.ref b :: As) h (pV (some w) h1) px) (d : decode cc pc = .ok (.invokevirtual index, 3)) {k0 : Nat} {r : vw_C} {fs : List Value} (hcl : vwCl[k0]? = some r) (hcn : r.1 = y.cls) (hc : h b = some (.inr (k0, fs))) (hst : st = As.reverse ++ .ref b :: rest) (hn : As.length = n) (hW : (rest.map fun v => v.category).sum ≤ 8) (hfr : rm.frames + 1 ≤ R.frames) (hlo : 8 + (nl2 + 11) + rm.locals ≤ R.locals) (hmc : cells + rm.cells ≤ R.cells) (hms : slots + rm.slots ≤ R.slots) (kk : V p l e R s m args below meth c Q nl g A h1 (cells + rm.cells) (slots + rm.slots) (pc + 3) lo (w :: rest)) (kx : ∀ E h', px E h' → VX p l e R s m args below meth c Q nl g A h' (cells + rm.cells) (slots + rm.slots) pc lo rest E) : V p l e R s m args below meth c Q nl g A h cells slots pc lo st :=
  v_callV F ci hi hse hM d hcl hcn hc hst hn hW hfr hlo hmc hms (fun v h' hp => by obtain ⟨rfl, rfl⟩ := hp; exact kk) kx
theorem v_callSp (F : Fx p l s m args meth c cc nl ret own g A) {y : MethodName} {cc2 : ByteArray} {nl2 index n : Nat} {ret2 : Option FieldType} {rm : Room} {As : List Value} {h1 : fH} {px : String → fH → Prop} {rest : List Value} {w : Value} (ci : CI own index y cc2 nl2 ret2 n) (hi : Cond.static y ∈ lw_T) (hM : CM l g y cc2 nl2 ret2 rm As h (pV (some w) h1) px) (d : decode cc pc = .ok (.invokestatic index, 3)) (hst : st = As.reverse ++ rest) (hn : As.length = n) (hW : (rest.map fun v => v.category).sum ≤ 8) (hfr : rm.frames + 1 ≤ R.frames) (hlo : 8 + (nl2 + 11) + rm.locals ≤ R.locals) (hmc : cells + rm.cells ≤ R.cells) (hms : slots + rm.slots ≤ R.slots) (kk : V p l e R s m args below meth c Q nl g A h1 (cells + rm.cells) (slots + rm.slots) (pc + 3) lo (w :: rest)) (kx : ∀ E h', px E h' → VX p l e R s m args below meth c Q nl g A h' (cells + rm.cells) (slots + rm.slots) pc lo rest E) : V p l e R s m args below meth c Q nl g A h cells slots pc lo st :=
  v_callS F ci hi hM d hst hn hW hfr hlo hmc hms (fun v h' hp => by obtain ⟨rfl, rfl⟩ := hp; exact kk) kx
theorem v_callNp (F : Fx p l s m args meth c cc nl ret own g A) {y : MethodName} {cc2 : ByteArray} {nl2 index n : Nat} {ret2 : Option FieldType} {rm : Room} {As : List Value} {h1 : fH} {rest : List Value} {w : Value} {host : String} (ci : Cond.methodLinkNest own index y host ∈ lw_T ∧ Cond.initialized y.cls ∈ lw_T ∧ Cond.code y cc2 nl2 ret2 ∈ lw_T ∧ (y.cls ≠ "java/lang/invoke/MethodHandle" ∧ y.cls ≠ "java/lang/invoke/VarHandle" ∧ (parseMethodDescriptor y.desc).map (fun d => d.parameters.length) = some n)) (hi : Cond.static y ∈ lw_T) (hM : CM l g y cc2 nl2 ret2 rm As h (pV (some w) h1) noX) (d : decode cc pc = .ok (.invokestatic index, 3)) (hst : st = As.reverse ++ rest) (hn : As.length = n) (hW : (rest.map fun v => v.category).sum ≤ 8) (hfr : rm.frames + 1 ≤ R.frames) (hlo : 8 + (nl2 + 11) + rm.locals ≤ R.locals) (hmc : cells + rm.cells ≤ R.cells) (hms : slots + rm.slots ≤ R.slots) (kk : V p l e R s m args below meth c Q nl g A h1 (cells + rm.cells) (slots + rm.slots) (pc + 3) lo (w :: rest)) : V p l e R s m args below meth c Q nl g A h cells slots pc lo st :=
  v_callN F ci hi hM d hst hn hW hfr hlo hmc hms (fun v h' hp => by obtain ⟨rfl, rfl⟩ := hp; exact kk)

theorem v_callVn (F : Fx p l s m args meth c cc nl ret own g A) {y : MethodName} {cc2 : ByteArray} {nl2 index n : Nat} {ret2 : Option FieldType} {rm : Room} {b : Nat} {As : List Value} {h1 : fH} {px : String → fH → Prop} {rest : List Value} (ci : CI own index y cc2 nl2 ret2 n) (hi : Cond.instanceMethod y ∈ lw_T) (hse : Cond.selects y.cls y y ∈ lw_T) (hM : CM l g y cc2 nl2 ret2 rm (.ref b :: As) h (pV none h1) px) (d : decode cc pc = .ok (.invokevirtual index, 3)) {k0 : Nat} {r : vw_C} {fs : List Value} (hcl : vwCl[k0]? = some r) (hcn : r.1 = y.cls) (hc : h b = some (.inr (k0, fs))) (hst : st = As.reverse ++ .ref b :: rest) (hn : As.length = n) (hW : (rest.map fun v => v.category).sum ≤ 8) (hfr : rm.frames + 1 ≤ R.frames) (hlo : 8 + (nl2 + 11) + rm.locals ≤ R.locals) (hmc : cells + rm.cells ≤ R.cells) (hms : slots + rm.slots ≤ R.slots) (kk : V p l e R s m args below meth c Q nl g A h1 (cells + rm.cells) (slots + rm.slots) (pc + 3) lo rest) (kx : ∀ E h', px E h' → VX p l e R s m args below meth c Q nl g A h' (cells + rm.cells) (slots + rm.slots) pc lo rest E) : V p l e R s m args below meth c Q nl g A h cells slots pc lo st :=
  v_callV F ci hi hse hM d hcl hcn hc hst hn hW hfr hlo hmc hms (fun v h' hp => by obtain ⟨rfl, rfl⟩ := hp; exact kk) kx
theorem v_callSn (F : Fx p l s m args meth c cc nl ret own g A) {y : MethodName} {cc2 : ByteArray} {nl2 index n : Nat} {ret2 : Option FieldType} {rm : Room} {As : List Value} {h1 : fH} {px : String → fH → Prop} {rest : List Value} (ci : CI own index y cc2 nl2 ret2 n) (hi : Cond.static y ∈ lw_T) (hM : CM l g y cc2 nl2 ret2 rm As h (pV none h1) px) (d : decode cc pc = .ok (.invokestatic index, 3)) (hst : st = As.reverse ++ rest) (hn : As.length = n) (hW : (rest.map fun v => v.category).sum ≤ 8) (hfr : rm.frames + 1 ≤ R.frames) (hlo : 8 + (nl2 + 11) + rm.locals ≤ R.locals) (hmc : cells + rm.cells ≤ R.cells) (hms : slots + rm.slots ≤ R.slots) (kk : V p l e R s m args below meth c Q nl g A h1 (cells + rm.cells) (slots + rm.slots) (pc + 3) lo rest) (kx : ∀ E h', px E h' → VX p l e R s m args below meth c Q nl g A h' (cells + rm.cells) (slots + rm.slots) pc lo rest E) : V p l e R s m args below meth c Q nl g A h cells slots pc lo st :=
  v_callS F ci hi hM d hst hn hW hfr hlo hmc hms (fun v h' hp => by obtain ⟨rfl, rfl⟩ := hp; exact kk) kx
theorem v_callNn (F : Fx p l s m args meth c cc nl ret own g A) {y : MethodName} {cc2 : ByteArray} {nl2 index n : Nat} {ret2 : Option FieldType} {rm : Room} {As : List Value} {h1 : fH} {rest : List Value} {host : String} (ci : Cond.methodLinkNest own index y host ∈ lw_T ∧ Cond.initialized y.cls ∈ lw_T ∧ Cond.code y cc2 nl2 ret2 ∈ lw_T ∧ (y.cls ≠ "java/lang/invoke/MethodHandle" ∧ y.cls ≠ "java/lang/invoke/VarHandle" ∧ (parseMethodDescriptor y.desc).map (fun d => d.parameters.length) = some n)) (hi : Cond.static y ∈ lw_T) (hM : CM l g y cc2 nl2 ret2 rm As h (pV none h1) noX) (d : decode cc pc = .ok (.invokestatic index, 3)) (hst : st = As.reverse ++ rest) (hn : As.length = n) (hW : (rest.map fun v => v.category).sum ≤ 8) (hfr : rm.frames + 1 ≤ R.frames) (hlo : 8 + (nl2 + 11) + rm.locals ≤ R.locals) (hmc : cells + rm.cells ≤ R.cells) (hms : slots + rm.slots ≤ R.slots) (kk : V p l e R s m args below meth c Q nl g A h1 (cells + rm.cells) (slots + rm.slots) (pc + 3) lo rest) : V p l e R s m args below meth c Q nl g A h cells slots pc lo st :=
  v_callN F ci hi hM d hst hn hW hfr hlo hmc hms (fun v h' hp => by obtain ⟨rfl, rfl⟩ := hp; exact kk)

theorem v_callIn (F : Fx p l s m args meth c cc nl ret own g A) {y : MethodName} {cc2 : ByteArray} {nl2 index n : Nat} {rm : Room} {b : Nat} {As : List Value} {h1 : fH} {rest : List Value} (ci : CI own index y cc2 nl2 none n) (hi : Cond.instanceMethod y ∈ lw_T) (hin : y.name = "<init>") (hM : CM l g y cc2 nl2 none rm (.ref b :: As) h (pV none h1) noX) (d : decode cc pc = .ok (.invokespecial index, 3)) (hst : st = As.reverse ++ .ref b :: rest) (hn : As.length = n) (hW : (rest.map fun v => v.category).sum ≤ 8) (hfr : rm.frames + 1 ≤ R.frames) (hlo : 8 + (nl2 + 11) + rm.locals ≤ R.locals) (hmc : cells + rm.cells ≤ R.cells) (hms : slots + rm.slots ≤ R.slots) (kk : V p l e R s m args below meth c Q nl g A h1 (cells + rm.cells) (slots + rm.slots) (pc + 3) lo rest) : V p l e R s m args below meth c Q nl g A h cells slots pc lo st :=
  v_callI F ci hi hin hM d hst hn hW hfr hlo hmc hms (fun v h' hp => by obtain ⟨rfl, rfl⟩ := hp; exact kk)
/-- a cast among the class's own -/
theorem v_cast (F : Fx p l s m args meth c cc nl ret own g A) {index ci : Nat} {C nm : String} {T : u_T} {N a : Nat} {fs : List Value} (cc9 : vwCl[ci]? = some (C, T, N) ∧ Cond.classLink own index nm ∈ lw_T ∧ Cond.castable C nm ∈ lw_T) (d : decode cc pc = .ok (.checkcast index, 3)) (hc : h a = some (.inr (ci, fs))) (kk : V p l e R s m args below meth c Q nl g A h cells slots (pc + 3) lo (.ref a :: st)) : V p l e R s m args below meth c Q nl g A h cells slots pc lo (.ref a :: st) := by
  intro H locs ls hP hS hl
  obtain ⟨hx, hb, hml, hr, hown, hlk, hK, hST, hA, hl9, hts⟩ := F
  obtain ⟨c1, c2, c3⟩ := cc9
  obtain ⟨q', h1, cell, g1, g2, g3, -⟩ := (hP a _ hc).1
  exact va_castY hx hb hown (hts _ c2) (va_Nw.of rfl (hts _ c3)) ⟨cell, g1, by rw [g3]; rfl, by rw [g2]; exact (hK.1.1 ci _ c1).2.1⟩ d (kk H locs ls hP hS hl)
end VPURE
end
section
set_option maxRecDepth 100000 in
theorem in_Jx4a65c : ∀ w ∈ u_ws RJx4a65c TJx4a65c 3, w ∈ lw_T := fun w hw => lw_T_mem ((by decide +kernel : ∀ w ∈ u_ws RJx4a65c TJx4a65c 3, w ∈ lw_tbl) w hw) ((by decide +kernel : ∀ w ∈ u_ws RJx4a65c TJx4a65c 3, q_lasts w = true) w hw)
set_option maxRecDepth 100000 in
theorem in_X0 : ∀ w ∈ u_ws RX0 TX0 5, w ∈ lw_T := fun w hw => lw_T_mem ((by decide +kernel : ∀ w ∈ u_ws RX0 TX0 5, w ∈ lw_tbl) w hw) ((by decide +kernel : ∀ w ∈ u_ws RX0 TX0 5, q_lasts w = true) w hw)
set_option maxRecDepth 100000 in
theorem in_X1 : ∀ w ∈ u_ws RX1 TX1 7, w ∈ lw_T := fun w hw => lw_T_mem ((by decide +kernel : ∀ w ∈ u_ws RX1 TX1 7, w ∈ lw_tbl) w hw) ((by decide +kernel : ∀ w ∈ u_ws RX1 TX1 7, q_lasts w = true) w hw)
set_option maxRecDepth 100000 in
theorem in_X2 : ∀ w ∈ u_ws RX2 TX2 4, w ∈ lw_T := fun w hw => lw_T_mem ((by decide +kernel : ∀ w ∈ u_ws RX2 TX2 4, w ∈ lw_tbl) w hw) ((by decide +kernel : ∀ w ∈ u_ws RX2 TX2 4, q_lasts w = true) w hw)
set_option maxRecDepth 100000 in
theorem in_X3 : ∀ w ∈ u_ws RX3 TX3 4, w ∈ lw_T := fun w hw => lw_T_mem ((by decide +kernel : ∀ w ∈ u_ws RX3 TX3 4, w ∈ lw_tbl) w hw) ((by decide +kernel : ∀ w ∈ u_ws RX3 TX3 4, q_lasts w = true) w hw)
set_option maxRecDepth 100000 in
theorem in_X4 : ∀ w ∈ u_ws RX4 TX4 7, w ∈ lw_T := fun w hw => lw_T_mem ((by decide +kernel : ∀ w ∈ u_ws RX4 TX4 7, w ∈ lw_tbl) w hw) ((by decide +kernel : ∀ w ∈ u_ws RX4 TX4 7, q_lasts w = true) w hw)
set_option maxRecDepth 100000 in
theorem in_X5 : ∀ w ∈ u_ws RX5 TX5 21, w ∈ lw_T := fun w hw => lw_T_mem ((by decide +kernel : ∀ w ∈ u_ws RX5 TX5 21, w ∈ lw_tbl) w hw) ((by decide +kernel : ∀ w ∈ u_ws RX5 TX5 21, q_lasts w = true) w hw)
set_option maxRecDepth 100000 in
theorem tw_oi : Cond.instanceMethod objectInit ∈ lw_T := lw_T_mem (by decide +kernel) (by decide +kernel)
set_option maxRecDepth 100000 in
theorem tw_oc : Cond.code objectInit ⟨#[0xb1]⟩ 1 none ∈ lw_T := lw_T_mem (by decide +kernel) (by decide +kernel)
set_option maxRecDepth 100000 in
theorem tw_m_X4_3 : Cond.methodLink RX4 3 objectInit ∈ lw_T := lw_T_mem (List.mem_of_getElem? (i := 77) (by decide +kernel)) (by decide +kernel)
set_option maxRecDepth 100000 in
theorem tk_X4_9 : Cond.classLink RX4 9 "RackPlanner$Site" ∈ lw_T := lw_T_mem (List.mem_of_getElem? (i := 80) (by decide +kernel)) (by decide +kernel)
set_option maxRecDepth 100000 in
theorem iw_X4_9 : Cond.instantiable RX3 4 ∈ lw_T := lw_T_mem (List.mem_of_getElem? (i := 81) (by decide +kernel)) (by decide +kernel)
set_option maxRecDepth 100000 in
theorem ix_X4_9 : Cond.initialized RX3 ∈ lw_T := lw_T_mem (List.mem_of_getElem? (i := 45) (by decide +kernel)) (by decide +kernel)
theorem fn_X4_9 : FN RX4 9 6 4 [.null, .null, .null, .null] := ⟨RX3, TX3, tyX3, rfl, in_X3, tyX3_ok, tk_X4_9, iw_X4_9, ix_X4_9, by intro j hj; rcases (show j = 0 ∨ j = 1 ∨ j = 2 ∨ j = 3 by omega) with rfl | rfl | rfl | rfl <;> rfl⟩
set_option maxRecDepth 100000 in
theorem cw_X3_init : Cond.code yX3_init cX3_init 1 none ∈ lw_T := lw_T_mem (List.mem_of_getElem? (i := 84) (by decide +kernel)) (by decide +kernel)
set_option maxRecDepth 100000 in
theorem cx_X3_init : Cond.initialized yX3_init.cls ∈ lw_T := lw_T_mem (List.mem_of_getElem? (i := 45) (by decide +kernel)) (by decide +kernel)
set_option maxRecDepth 100000 in
theorem ct_X3_init : Cond.instanceMethod yX3_init ∈ lw_T := lw_T_mem (List.mem_of_getElem? (i := 83) (by decide +kernel)) (by decide +kernel)
set_option maxRecDepth 100000 in
theorem mw_X4_11 : Cond.methodLink RX4 11 yX3_init ∈ lw_T := lw_T_mem (List.mem_of_getElem? (i := 82) (by decide +kernel)) (by decide +kernel)
theorem ci_X4_11 : CI RX4 11 yX3_init cX3_init 1 none 0 := ⟨mw_X4_11, cx_X3_init, cw_X3_init, by decide, by decide, by decide +kernel⟩
set_option maxRecDepth 100000 in
theorem fw_X4_12 : Cond.fieldLink RX4 12 "RackPlanner" "site" "LRackPlanner$Site;" ∈ lw_T := lw_T_mem (List.mem_of_getElem? (i := 168) (by decide +kernel)) (by decide +kernel)
theorem fd_X4_12_7 : FD RX4 12 7 0 := ⟨RX4, TX4, 7, "RackPlanner", rfl, in_X4, by decide, fw_X4_12, (fun s args x _ h => h)⟩
theorem fp_X4_12_7 : FP RX4 12 7 0 (.object "RackPlanner$Site") true := ⟨RX4, TX4, 7, "RackPlanner", tyX4, ⟨rfl, in_X4, by decide, fw_X4_12, (fun s args x _ h => h)⟩, tyX4_ok, nmX4, by decide +kernel, rfl, fun _ => rfl⟩
set_option maxRecDepth 100000 in
theorem fw_X4_16 : Cond.fieldLink RX4 16 "RackPlanner" "failed" "[Z" ∈ lw_T := lw_T_mem (List.mem_of_getElem? (i := 169) (by decide +kernel)) (by decide +kernel)
theorem fd_X4_16_7 : FD RX4 16 7 1 := ⟨RX4, TX4, 7, "RackPlanner", rfl, in_X4, by decide, fw_X4_16, (fun s args x _ h => h)⟩
theorem fp_X4_16_7 : FP RX4 16 7 1 (.array .boolean) true := ⟨RX4, TX4, 7, "RackPlanner", tyX4, ⟨rfl, in_X4, by decide, fw_X4_16, (fun s args x _ h => h)⟩, tyX4_ok, nmX4, by decide +kernel, rfl, fun _ => rfl⟩
set_option maxRecDepth 100000 in
theorem tk_X4_20 : Cond.classLink RX4 20 "java/util/ArrayList" ∈ lw_T := lw_T_mem (List.mem_of_getElem? (i := 137) (by decide +kernel)) (by decide +kernel)
set_option maxRecDepth 100000 in
theorem iw_X4_20 : Cond.instantiable RJx4a65c 3 ∈ lw_T := lw_T_mem (List.mem_of_getElem? (i := 87) (by decide +kernel)) (by decide +kernel)
set_option maxRecDepth 100000 in
theorem ix_X4_20 : Cond.initialized RJx4a65c ∈ lw_T := lw_T_mem (List.mem_of_getElem? (i := 48) (by decide +kernel)) (by decide +kernel)
theorem fn_X4_20 : FN RX4 20 2 3 [.int 0, .null, .int 0] := ⟨RJx4a65c, TJx4a65c, tyJx4a65c, rfl, in_Jx4a65c, tyJx4a65c_ok, tk_X4_20, iw_X4_20, ix_X4_20, by intro j hj; rcases (show j = 0 ∨ j = 1 ∨ j = 2 by omega) with rfl | rfl | rfl <;> rfl⟩
set_option maxRecDepth 100000 in
theorem cw_Jx4a65c_init_da8c8 : Cond.code yJx4a65c_init_da8c8 cJx4a65c_init_da8c8 1 none ∈ lw_T := lw_T_mem (List.mem_of_getElem? (i := 90) (by decide +kernel)) (by decide +kernel)
set_option maxRecDepth 100000 in
theorem cx_Jx4a65c_init_da8c8 : Cond.initialized yJx4a65c_init_da8c8.cls ∈ lw_T := lw_T_mem (List.mem_of_getElem? (i := 48) (by decide +kernel)) (by decide +kernel)
set_option maxRecDepth 100000 in
theorem ct_Jx4a65c_init_da8c8 : Cond.instanceMethod yJx4a65c_init_da8c8 ∈ lw_T := lw_T_mem (List.mem_of_getElem? (i := 89) (by decide +kernel)) (by decide +kernel)
set_option maxRecDepth 100000 in
theorem mw_X4_22 : Cond.methodLink RX4 22 yJx4a65c_init_da8c8 ∈ lw_T := lw_T_mem (List.mem_of_getElem? (i := 138) (by decide +kernel)) (by decide +kernel)
theorem ci_X4_22 : CI RX4 22 yJx4a65c_init_da8c8 cJx4a65c_init_da8c8 1 none 0 := ⟨mw_X4_22, cx_Jx4a65c_init_da8c8, cw_Jx4a65c_init_da8c8, by decide, by decide, by decide +kernel⟩
set_option maxRecDepth 100000 in
theorem fw_X4_23 : Cond.fieldLink RX4 23 "RackPlanner" "placed" "Ljava/util/ArrayList;" ∈ lw_T := lw_T_mem (List.mem_of_getElem? (i := 170) (by decide +kernel)) (by decide +kernel)
theorem fd_X4_23_7 : FD RX4 23 7 2 := ⟨RX4, TX4, 7, "RackPlanner", rfl, in_X4, by decide, fw_X4_23, (fun s args x _ h => h)⟩
theorem fp_X4_23_7 : FP RX4 23 7 2 (.object "java/util/ArrayList") true := ⟨RX4, TX4, 7, "RackPlanner", tyX4, ⟨rfl, in_X4, by decide, fw_X4_23, (fun s args x _ h => h)⟩, tyX4_ok, nmX4, by decide +kernel, rfl, fun _ => rfl⟩
set_option maxRecDepth 100000 in
theorem fw_X4_27 : Cond.fieldLink RX4 27 "RackPlanner" "packing" "Ljava/util/ArrayList;" ∈ lw_T := lw_T_mem (List.mem_of_getElem? (i := 171) (by decide +kernel)) (by decide +kernel)
theorem fd_X4_27_7 : FD RX4 27 7 3 := ⟨RX4, TX4, 7, "RackPlanner", rfl, in_X4, by decide, fw_X4_27, (fun s args x _ h => h)⟩
theorem fp_X4_27_7 : FP RX4 27 7 3 (.object "java/util/ArrayList") true := ⟨RX4, TX4, 7, "RackPlanner", tyX4, ⟨rfl, in_X4, by decide, fw_X4_27, (fun s args x _ h => h)⟩, tyX4_ok, nmX4, by decide +kernel, rfl, fun _ => rfl⟩
set_option maxRecDepth 100000 in
theorem tk_X4_30 : Cond.classLink RX4 30 "RackPlanner$Layout" ∈ lw_T := lw_T_mem (List.mem_of_getElem? (i := 139) (by decide +kernel)) (by decide +kernel)
set_option maxRecDepth 100000 in
theorem iw_X4_30 : Cond.instantiable RX0 5 ∈ lw_T := lw_T_mem (List.mem_of_getElem? (i := 140) (by decide +kernel)) (by decide +kernel)
set_option maxRecDepth 100000 in
theorem ix_X4_30 : Cond.initialized RX0 ∈ lw_T := lw_T_mem (List.mem_of_getElem? (i := 50) (by decide +kernel)) (by decide +kernel)
theorem fn_X4_30 : FN RX4 30 3 5 [.null, .null, .null, .null, .null] := ⟨RX0, TX0, tyX0, rfl, in_X0, tyX0_ok, tk_X4_30, iw_X4_30, ix_X4_30, by intro j hj; rcases (show j = 0 ∨ j = 1 ∨ j = 2 ∨ j = 3 ∨ j = 4 by omega) with rfl | rfl | rfl | rfl | rfl <;> rfl⟩
set_option maxRecDepth 100000 in
theorem cw_X0_init : Cond.code yX0_init cX0_init 2 none ∈ lw_T := lw_T_mem (List.mem_of_getElem? (i := 143) (by decide +kernel)) (by decide +kernel)
set_option maxRecDepth 100000 in
theorem cx_X0_init : Cond.initialized yX0_init.cls ∈ lw_T := lw_T_mem (List.mem_of_getElem? (i := 50) (by decide +kernel)) (by decide +kernel)
set_option maxRecDepth 100000 in
theorem ct_X0_init : Cond.instanceMethod yX0_init ∈ lw_T := lw_T_mem (List.mem_of_getElem? (i := 142) (by decide +kernel)) (by decide +kernel)
set_option maxRecDepth 100000 in
theorem mw_X4_32 : Cond.methodLink RX4 32 yX0_init ∈ lw_T := lw_T_mem (List.mem_of_getElem? (i := 141) (by decide +kernel)) (by decide +kernel)
theorem ci_X4_32 : CI RX4 32 yX0_init cX0_init 2 none 1 := ⟨mw_X4_32, cx_X0_init, cw_X0_init, by decide, by decide, by decide +kernel⟩
set_option maxRecDepth 100000 in
theorem fw_X4_35 : Cond.fieldLink RX4 35 "RackPlanner" "layout" "LRackPlanner$Layout;" ∈ lw_T := lw_T_mem (List.mem_of_getElem? (i := 172) (by decide +kernel)) (by decide +kernel)
theorem fd_X4_35_7 : FD RX4 35 7 4 := ⟨RX4, TX4, 7, "RackPlanner", rfl, in_X4, by decide, fw_X4_35, (fun s args x _ h => h)⟩
theorem fp_X4_35_7 : FP RX4 35 7 4 (.object "RackPlanner$Layout") false := ⟨RX4, TX4, 7, "RackPlanner", tyX4, ⟨rfl, in_X4, by decide, fw_X4_35, (fun s args x _ h => h)⟩, tyX4_ok, nmX4, by decide +kernel, rfl, fun h => by cases h⟩
set_option maxRecDepth 100000 in
theorem fw_X4_39 : Cond.fieldLink RX4 39 "RackPlanner" "spare" "LRackPlanner$Layout;" ∈ lw_T := lw_T_mem (List.mem_of_getElem? (i := 173) (by decide +kernel)) (by decide +kernel)
theorem fd_X4_39_7 : FD RX4 39 7 5 := ⟨RX4, TX4, 7, "RackPlanner", rfl, in_X4, by decide, fw_X4_39, (fun s args x _ h => h)⟩
theorem fp_X4_39_7 : FP RX4 39 7 5 (.object "RackPlanner$Layout") false := ⟨RX4, TX4, 7, "RackPlanner", tyX4, ⟨rfl, in_X4, by decide, fw_X4_39, (fun s args x _ h => h)⟩, tyX4_ok, nmX4, by decide +kernel, rfl, fun h => by cases h⟩
set_option maxRecDepth 100000 in
theorem fw_X4_42 : Cond.fieldLink RX4 42 "RackPlanner" "nextNumber" "I" ∈ lw_T := lw_T_mem (List.mem_of_getElem? (i := 174) (by decide +kernel)) (by decide +kernel)
theorem fd_X4_42_7 : FD RX4 42 7 6 := ⟨RX4, TX4, 7, "RackPlanner", rfl, in_X4, by decide, fw_X4_42, (fun s args x _ h => h)⟩
theorem fp_X4_42_7 : FP RX4 42 7 6 .int false := ⟨RX4, TX4, 7, "RackPlanner", tyX4, ⟨rfl, in_X4, by decide, fw_X4_42, (fun s args x _ h => h)⟩, tyX4_ok, nmX4, by decide +kernel, rfl, fun h => by cases h⟩
set_option maxRecDepth 100000 in
theorem cw_X4_requireRange : Cond.code yX4_requireRange cX4_requireRange 3 none ∈ lw_T := lw_T_mem (List.mem_of_getElem? (i := 699) (by decide +kernel)) (by decide +kernel)
set_option maxRecDepth 100000 in
theorem cx_X4_requireRange : Cond.initialized yX4_requireRange.cls ∈ lw_T := lw_T_mem (List.mem_of_getElem? (i := 44) (by decide +kernel)) (by decide +kernel)
set_option maxRecDepth 100000 in
theorem ct_X4_requireRange : Cond.static yX4_requireRange ∈ lw_T := lw_T_mem (List.mem_of_getElem? (i := 698) (by decide +kernel)) (by decide +kernel)
set_option maxRecDepth 100000 in
theorem mw_X4_46 : Cond.methodLink RX4 46 yX4_requireRange ∈ lw_T := lw_T_mem (List.mem_of_getElem? (i := 697) (by decide +kernel)) (by decide +kernel)
theorem ci_X4_46 : CI RX4 46 yX4_requireRange cX4_requireRange 3 none 3 := ⟨mw_X4_46, cx_X4_requireRange, cw_X4_requireRange, by decide, by decide, by decide +kernel⟩
set_option maxRecDepth 100000 in
theorem fw_X4_50 : Cond.fieldLink RX4 50 "RackPlanner$Site" "racks" "Ljava/util/ArrayList;" ∈ lw_T := lw_T_mem (List.mem_of_getElem? (i := 116) (by decide +kernel)) (by decide +kernel)
theorem fd_X4_50_6 : FD RX4 50 6 0 := ⟨RX3, TX3, 4, "RackPlanner$Site", rfl, in_X3, by decide, fw_X4_50, (fun s args x _ h => h)⟩
set_option maxRecDepth 100000 in
theorem cw_Jx4a65c_size_8abf5 : Cond.code yJx4a65c_size_8abf5 cJx4a65c_size_8abf5 1 (some .int) ∈ lw_T := lw_T_mem (List.mem_of_getElem? (i := 197) (by decide +kernel)) (by decide +kernel)
set_option maxRecDepth 100000 in
theorem cx_Jx4a65c_size_8abf5 : Cond.initialized yJx4a65c_size_8abf5.cls ∈ lw_T := lw_T_mem (List.mem_of_getElem? (i := 48) (by decide +kernel)) (by decide +kernel)
set_option maxRecDepth 100000 in
theorem ct_Jx4a65c_size_8abf5 : Cond.instanceMethod yJx4a65c_size_8abf5 ∈ lw_T := lw_T_mem (List.mem_of_getElem? (i := 195) (by decide +kernel)) (by decide +kernel)
set_option maxRecDepth 100000 in
theorem cs_Jx4a65c_size_8abf5 : Cond.selects yJx4a65c_size_8abf5.cls yJx4a65c_size_8abf5 yJx4a65c_size_8abf5 ∈ lw_T := lw_T_mem (List.mem_of_getElem? (i := 196) (by decide +kernel)) (by decide +kernel)
set_option maxRecDepth 100000 in
theorem mw_X4_53 : Cond.methodLink RX4 53 yJx4a65c_size_8abf5 ∈ lw_T := lw_T_mem (List.mem_of_getElem? (i := 194) (by decide +kernel)) (by decide +kernel)
theorem ci_X4_53 : CI RX4 53 yJx4a65c_size_8abf5 cJx4a65c_size_8abf5 1 (some .int) 0 := ⟨mw_X4_53, cx_Jx4a65c_size_8abf5, cw_Jx4a65c_size_8abf5, by decide, by decide, by decide +kernel⟩
set_option maxRecDepth 100000 in
theorem tk_X4_57 : Cond.classLink RX4 57 "java/lang/IllegalStateException" ∈ lw_T := lw_T_mem (List.mem_of_getElem? (i := 703) (by decide +kernel)) (by decide +kernel)
set_option maxRecDepth 100000 in
theorem tk_X4_64 : Cond.classLink RX4 64 "RackPlanner$Rack" ∈ lw_T := lw_T_mem (List.mem_of_getElem? (i := 719) (by decide +kernel)) (by decide +kernel)
set_option maxRecDepth 100000 in
theorem iw_X4_64 : Cond.instantiable RX2 4 ∈ lw_T := lw_T_mem (List.mem_of_getElem? (i := 720) (by decide +kernel)) (by decide +kernel)
set_option maxRecDepth 100000 in
theorem ix_X4_64 : Cond.initialized RX2 ∈ lw_T := lw_T_mem (List.mem_of_getElem? (i := 57) (by decide +kernel)) (by decide +kernel)
theorem fn_X4_64 : FN RX4 64 5 4 [.int 0, .int 0, .int 0, .int 0] := ⟨RX2, TX2, tyX2, rfl, in_X2, tyX2_ok, tk_X4_64, iw_X4_64, ix_X4_64, by intro j hj; rcases (show j = 0 ∨ j = 1 ∨ j = 2 ∨ j = 3 by omega) with rfl | rfl | rfl | rfl <;> rfl⟩
set_option maxRecDepth 100000 in
theorem cw_X2_init : Cond.code yX2_init cX2_init 5 none ∈ lw_T := lw_T_mem (List.mem_of_getElem? (i := 723) (by decide +kernel)) (by decide +kernel)
set_option maxRecDepth 100000 in
theorem cx_X2_init : Cond.initialized yX2_init.cls ∈ lw_T := lw_T_mem (List.mem_of_getElem? (i := 57) (by decide +kernel)) (by decide +kernel)
set_option maxRecDepth 100000 in
theorem ct_X2_init : Cond.instanceMethod yX2_init ∈ lw_T := lw_T_mem (List.mem_of_getElem? (i := 722) (by decide +kernel)) (by decide +kernel)
set_option maxRecDepth 100000 in
theorem mw_X4_66 : Cond.methodLink RX4 66 yX2_init ∈ lw_T := lw_T_mem (List.mem_of_getElem? (i := 721) (by decide +kernel)) (by decide +kernel)
theorem ci_X4_66 : CI RX4 66 yX2_init cX2_init 5 none 4 := ⟨mw_X4_66, cx_X2_init, cw_X2_init, by decide, by decide, by decide +kernel⟩
set_option maxRecDepth 100000 in
theorem cw_Jx4a65c_add_9ea2d : Cond.code yJx4a65c_add_9ea2d cJx4a65c_add_9ea2d 2 (some .boolean) ∈ lw_T := lw_T_mem (List.mem_of_getElem? (i := 747) (by decide +kernel)) (by decide +kernel)
set_option maxRecDepth 100000 in
theorem cx_Jx4a65c_add_9ea2d : Cond.initialized yJx4a65c_add_9ea2d.cls ∈ lw_T := lw_T_mem (List.mem_of_getElem? (i := 48) (by decide +kernel)) (by decide +kernel)
set_option maxRecDepth 100000 in
theorem ct_Jx4a65c_add_9ea2d : Cond.instanceMethod yJx4a65c_add_9ea2d ∈ lw_T := lw_T_mem (List.mem_of_getElem? (i := 745) (by decide +kernel)) (by decide +kernel)
set_option maxRecDepth 100000 in
theorem cs_Jx4a65c_add_9ea2d : Cond.selects yJx4a65c_add_9ea2d.cls yJx4a65c_add_9ea2d yJx4a65c_add_9ea2d ∈ lw_T := lw_T_mem (List.mem_of_getElem? (i := 746) (by decide +kernel)) (by decide +kernel)
set_option maxRecDepth 100000 in
theorem mw_X4_69 : Cond.methodLink RX4 69 yJx4a65c_add_9ea2d ∈ lw_T := lw_T_mem (List.mem_of_getElem? (i := 744) (by decide +kernel)) (by decide +kernel)
theorem ci_X4_69 : CI RX4 69 yJx4a65c_add_9ea2d cJx4a65c_add_9ea2d 2 (some .boolean) 1 := ⟨mw_X4_69, cx_Jx4a65c_add_9ea2d, cw_Jx4a65c_add_9ea2d, by decide, by decide, by decide +kernel⟩
set_option maxRecDepth 100000 in
theorem cw_X0_heatInRow : Cond.code yX0_heatInRow cX0_heatInRow 2 (some .int) ∈ lw_T := lw_T_mem (List.mem_of_getElem? (i := 634) (by decide +kernel)) (by decide +kernel)
set_option maxRecDepth 100000 in
theorem cx_X0_heatInRow : Cond.initialized yX0_heatInRow.cls ∈ lw_T := lw_T_mem (List.mem_of_getElem? (i := 50) (by decide +kernel)) (by decide +kernel)
set_option maxRecDepth 100000 in
theorem ct_X0_heatInRow : Cond.instanceMethod yX0_heatInRow ∈ lw_T := lw_T_mem (List.mem_of_getElem? (i := 632) (by decide +kernel)) (by decide +kernel)
set_option maxRecDepth 100000 in
theorem cs_X0_heatInRow : Cond.selects yX0_heatInRow.cls yX0_heatInRow yX0_heatInRow ∈ lw_T := lw_T_mem (List.mem_of_getElem? (i := 633) (by decide +kernel)) (by decide +kernel)
set_option maxRecDepth 100000 in
theorem mw_X4_73 : Cond.methodLink RX4 73 yX0_heatInRow ∈ lw_T := lw_T_mem (List.mem_of_getElem? (i := 759) (by decide +kernel)) (by decide +kernel)
theorem ci_X4_73 : CI RX4 73 yX0_heatInRow cX0_heatInRow 2 (some .int) 1 := ⟨mw_X4_73, cx_X0_heatInRow, cw_X0_heatInRow, by decide, by decide, by decide +kernel⟩
set_option maxRecDepth 100000 in
theorem cw_X0_weightInRow : Cond.code yX0_weightInRow cX0_weightInRow 2 (some .int) ∈ lw_T := lw_T_mem (List.mem_of_getElem? (i := 626) (by decide +kernel)) (by decide +kernel)
set_option maxRecDepth 100000 in
theorem cx_X0_weightInRow : Cond.initialized yX0_weightInRow.cls ∈ lw_T := lw_T_mem (List.mem_of_getElem? (i := 50) (by decide +kernel)) (by decide +kernel)
set_option maxRecDepth 100000 in
theorem ct_X0_weightInRow : Cond.instanceMethod yX0_weightInRow ∈ lw_T := lw_T_mem (List.mem_of_getElem? (i := 624) (by decide +kernel)) (by decide +kernel)
set_option maxRecDepth 100000 in
theorem cs_X0_weightInRow : Cond.selects yX0_weightInRow.cls yX0_weightInRow yX0_weightInRow ∈ lw_T := lw_T_mem (List.mem_of_getElem? (i := 625) (by decide +kernel)) (by decide +kernel)
set_option maxRecDepth 100000 in
theorem mw_X4_77 : Cond.methodLink RX4 77 yX0_weightInRow ∈ lw_T := lw_T_mem (List.mem_of_getElem? (i := 760) (by decide +kernel)) (by decide +kernel)
theorem ci_X4_77 : CI RX4 77 yX0_weightInRow cX0_weightInRow 2 (some .int) 1 := ⟨mw_X4_77, cx_X0_weightInRow, cw_X0_weightInRow, by decide, by decide, by decide +kernel⟩
set_option maxRecDepth 100000 in
theorem fw_X4_82 : Cond.fieldLink RX4 82 "RackPlanner$Site" "rowHeat" "[I" ∈ lw_T := lw_T_mem (List.mem_of_getElem? (i := 119) (by decide +kernel)) (by decide +kernel)
theorem fd_X4_82_6 : FD RX4 82 6 1 := ⟨RX3, TX3, 4, "RackPlanner$Site", rfl, in_X3, by decide, fw_X4_82, (fun s args x _ h => h)⟩
set_option maxRecDepth 100000 in
theorem fw_X4_86 : Cond.fieldLink RX4 86 "RackPlanner$Site" "rowWeight" "[I" ∈ lw_T := lw_T_mem (List.mem_of_getElem? (i := 122) (by decide +kernel)) (by decide +kernel)
theorem fd_X4_86_6 : FD RX4 86 6 2 := ⟨RX3, TX3, 4, "RackPlanner$Site", rfl, in_X3, by decide, fw_X4_86, (fun s args x _ h => h)⟩
set_option maxRecDepth 100000 in
theorem cw_X4_requireFeed : Cond.code yX4_requireFeed cX4_requireFeed 1 none ∈ lw_T := lw_T_mem (List.mem_of_getElem? (i := 771) (by decide +kernel)) (by decide +kernel)
set_option maxRecDepth 100000 in
theorem cx_X4_requireFeed : Cond.initialized yX4_requireFeed.cls ∈ lw_T := lw_T_mem (List.mem_of_getElem? (i := 44) (by decide +kernel)) (by decide +kernel)
set_option maxRecDepth 100000 in
theorem ct_X4_requireFeed : Cond.static yX4_requireFeed ∈ lw_T := lw_T_mem (List.mem_of_getElem? (i := 770) (by decide +kernel)) (by decide +kernel)
set_option maxRecDepth 100000 in
theorem mw_X4_89 : Cond.methodLink RX4 89 yX4_requireFeed ∈ lw_T := lw_T_mem (List.mem_of_getElem? (i := 769) (by decide +kernel)) (by decide +kernel)
theorem ci_X4_89 : CI RX4 89 yX4_requireFeed cX4_requireFeed 1 none 1 := ⟨mw_X4_89, cx_X4_requireFeed, cw_X4_requireFeed, by decide, by decide, by decide +kernel⟩
set_option maxRecDepth 100000 in
theorem cw_X0_worstOnFeed : Cond.code yX0_worstOnFeed cX0_worstOnFeed 4 (some .int) ∈ lw_T := lw_T_mem (List.mem_of_getElem? (i := 653) (by decide +kernel)) (by decide +kernel)
set_option maxRecDepth 100000 in
theorem cx_X0_worstOnFeed : Cond.initialized yX0_worstOnFeed.cls ∈ lw_T := lw_T_mem (List.mem_of_getElem? (i := 50) (by decide +kernel)) (by decide +kernel)
set_option maxRecDepth 100000 in
theorem ct_X0_worstOnFeed : Cond.instanceMethod yX0_worstOnFeed ∈ lw_T := lw_T_mem (List.mem_of_getElem? (i := 651) (by decide +kernel)) (by decide +kernel)
set_option maxRecDepth 100000 in
theorem cs_X0_worstOnFeed : Cond.selects yX0_worstOnFeed.cls yX0_worstOnFeed yX0_worstOnFeed ∈ lw_T := lw_T_mem (List.mem_of_getElem? (i := 652) (by decide +kernel)) (by decide +kernel)
set_option maxRecDepth 100000 in
theorem mw_X4_93 : Cond.methodLink RX4 93 yX0_worstOnFeed ∈ lw_T := lw_T_mem (List.mem_of_getElem? (i := 772) (by decide +kernel)) (by decide +kernel)
theorem ci_X4_93 : CI RX4 93 yX0_worstOnFeed cX0_worstOnFeed 4 (some .int) 1 := ⟨mw_X4_93, cx_X0_worstOnFeed, cw_X0_worstOnFeed, by decide, by decide, by decide +kernel⟩
set_option maxRecDepth 100000 in
theorem fw_X4_98 : Cond.fieldLink RX4 98 "RackPlanner$Site" "feedPower" "[I" ∈ lw_T := lw_T_mem (List.mem_of_getElem? (i := 125) (by decide +kernel)) (by decide +kernel)
theorem fd_X4_98_6 : FD RX4 98 6 3 := ⟨RX3, TX3, 4, "RackPlanner$Site", rfl, in_X3, by decide, fw_X4_98, (fun s args x _ h => h)⟩
set_option maxRecDepth 100000 in
theorem cw_Jx4a65c_get_915e3 : Cond.code yJx4a65c_get_915e3 cJx4a65c_get_915e3 2 (some (.object "java/lang/Object")) ∈ lw_T := lw_T_mem (List.mem_of_getElem? (i := 213) (by decide +kernel)) (by decide +kernel)
set_option maxRecDepth 100000 in
theorem cx_Jx4a65c_get_915e3 : Cond.initialized yJx4a65c_get_915e3.cls ∈ lw_T := lw_T_mem (List.mem_of_getElem? (i := 48) (by decide +kernel)) (by decide +kernel)
set_option maxRecDepth 100000 in
theorem ct_Jx4a65c_get_915e3 : Cond.instanceMethod yJx4a65c_get_915e3 ∈ lw_T := lw_T_mem (List.mem_of_getElem? (i := 211) (by decide +kernel)) (by decide +kernel)
set_option maxRecDepth 100000 in
theorem cs_Jx4a65c_get_915e3 : Cond.selects yJx4a65c_get_915e3.cls yJx4a65c_get_915e3 yJx4a65c_get_915e3 ∈ lw_T := lw_T_mem (List.mem_of_getElem? (i := 212) (by decide +kernel)) (by decide +kernel)
set_option maxRecDepth 100000 in
theorem mw_X4_101 : Cond.methodLink RX4 101 yJx4a65c_get_915e3 ∈ lw_T := lw_T_mem (List.mem_of_getElem? (i := 210) (by decide +kernel)) (by decide +kernel)
theorem ci_X4_101 : CI RX4 101 yJx4a65c_get_915e3 cJx4a65c_get_915e3 2 (some (.object "java/lang/Object")) 1 := ⟨mw_X4_101, cx_Jx4a65c_get_915e3, cw_Jx4a65c_get_915e3, by decide, by decide, by decide +kernel⟩
set_option maxRecDepth 100000 in
theorem tk_X4_105 : Cond.classLink RX4 105 "RackPlanner$Machine" ∈ lw_T := lw_T_mem (List.mem_of_getElem? (i := 224) (by decide +kernel)) (by decide +kernel)
set_option maxRecDepth 100000 in
theorem iw_X4_105 : Cond.instantiable RX1 7 ∈ lw_T := lw_T_mem (List.mem_of_getElem? (i := 807) (by decide +kernel)) (by decide +kernel)
set_option maxRecDepth 100000 in
theorem ix_X4_105 : Cond.initialized RX1 ∈ lw_T := lw_T_mem (List.mem_of_getElem? (i := 63) (by decide +kernel)) (by decide +kernel)
theorem fn_X4_105 : FN RX4 105 4 7 [.int 0, .int 0, .int 0, .int 0, .int 0, .int 0, .int 0] := ⟨RX1, TX1, tyX1, rfl, in_X1, tyX1_ok, tk_X4_105, iw_X4_105, ix_X4_105, by intro j hj; rcases (show j = 0 ∨ j = 1 ∨ j = 2 ∨ j = 3 ∨ j = 4 ∨ j = 5 ∨ j = 6 by omega) with rfl | rfl | rfl | rfl | rfl | rfl | rfl <;> rfl⟩
set_option maxRecDepth 100000 in
theorem cw_X4_hasNoFeed : Cond.code yX4_hasNoFeed cX4_hasNoFeed 3 (some .boolean) ∈ lw_T := lw_T_mem (List.mem_of_getElem? (i := 784) (by decide +kernel)) (by decide +kernel)
set_option maxRecDepth 100000 in
theorem cx_X4_hasNoFeed : Cond.initialized yX4_hasNoFeed.cls ∈ lw_T := lw_T_mem (List.mem_of_getElem? (i := 44) (by decide +kernel)) (by decide +kernel)
set_option maxRecDepth 100000 in
theorem ct_X4_hasNoFeed : Cond.instanceMethod yX4_hasNoFeed ∈ lw_T := lw_T_mem (List.mem_of_getElem? (i := 783) (by decide +kernel)) (by decide +kernel)
set_option maxRecDepth 100000 in
theorem cs_X4_hasNoFeed : Cond.selects yX4_hasNoFeed.cls yX4_hasNoFeed yX4_hasNoFeed ∈ lw_T := lw_T_mem (List.mem_of_getElem? (i := 15) (by decide +kernel)) (by decide +kernel)
set_option maxRecDepth 100000 in
theorem mw_X4_107 : Cond.methodLink RX4 107 yX4_hasNoFeed ∈ lw_T := lw_T_mem (List.mem_of_getElem? (i := 781) (by decide +kernel)) (by decide +kernel)
theorem ci_X4_107 : CI RX4 107 yX4_hasNoFeed cX4_hasNoFeed 3 (some .boolean) 1 := ⟨mw_X4_107, cx_X4_hasNoFeed, cw_X4_hasNoFeed, by decide, by decide, by decide +kernel⟩
set_option maxRecDepth 100000 in
theorem cw_X4_newMachine : Cond.code yX4_newMachine cX4_newMachine 5 (some (.object "RackPlanner$Machine")) ∈ lw_T := lw_T_mem (List.mem_of_getElem? (i := 806) (by decide +kernel)) (by decide +kernel)
set_option maxRecDepth 100000 in
theorem cx_X4_newMachine : Cond.initialized yX4_newMachine.cls ∈ lw_T := lw_T_mem (List.mem_of_getElem? (i := 44) (by decide +kernel)) (by decide +kernel)
set_option maxRecDepth 100000 in
theorem ct_X4_newMachine : Cond.instanceMethod yX4_newMachine ∈ lw_T := lw_T_mem (List.mem_of_getElem? (i := 805) (by decide +kernel)) (by decide +kernel)
set_option maxRecDepth 100000 in
theorem cs_X4_newMachine : Cond.selects yX4_newMachine.cls yX4_newMachine yX4_newMachine ∈ lw_T := lw_T_mem (List.mem_of_getElem? (i := 16) (by decide +kernel)) (by decide +kernel)
set_option maxRecDepth 100000 in
theorem mw_X4_111 : Cond.methodLink RX4 111 yX4_newMachine ∈ lw_T := lw_T_mem (List.mem_of_getElem? (i := 803) (by decide +kernel)) (by decide +kernel)
theorem ci_X4_111 : CI RX4 111 yX4_newMachine cX4_newMachine 5 (some (.object "RackPlanner$Machine")) 4 := ⟨mw_X4_111, cx_X4_newMachine, cw_X4_newMachine, by decide, by decide, by decide +kernel⟩
set_option maxRecDepth 100000 in
theorem cw_X0_firstFit : Cond.code yX0_firstFit cX0_firstFit 4 (some .int) ∈ lw_T := lw_T_mem (List.mem_of_getElem? (i := 611) (by decide +kernel)) (by decide +kernel)
set_option maxRecDepth 100000 in
theorem cx_X0_firstFit : Cond.initialized yX0_firstFit.cls ∈ lw_T := lw_T_mem (List.mem_of_getElem? (i := 50) (by decide +kernel)) (by decide +kernel)
set_option maxRecDepth 100000 in
theorem ct_X0_firstFit : Cond.instanceMethod yX0_firstFit ∈ lw_T := lw_T_mem (List.mem_of_getElem? (i := 609) (by decide +kernel)) (by decide +kernel)
set_option maxRecDepth 100000 in
theorem cs_X0_firstFit : Cond.selects yX0_firstFit.cls yX0_firstFit yX0_firstFit ∈ lw_T := lw_T_mem (List.mem_of_getElem? (i := 610) (by decide +kernel)) (by decide +kernel)
set_option maxRecDepth 100000 in
theorem mw_X4_117 : Cond.methodLink RX4 117 yX0_firstFit ∈ lw_T := lw_T_mem (List.mem_of_getElem? (i := 608) (by decide +kernel)) (by decide +kernel)
theorem ci_X4_117 : CI RX4 117 yX0_firstFit cX0_firstFit 4 (some .int) 1 := ⟨mw_X4_117, cx_X0_firstFit, cw_X0_firstFit, by decide, by decide, by decide +kernel⟩
set_option maxRecDepth 100000 in
theorem fw_X4_123 : Cond.fieldLink RX4 123 "RackPlanner$Machine" "cell" "I" ∈ lw_T := lw_T_mem (List.mem_of_getElem? (i := 828) (by decide +kernel)) (by decide +kernel)
theorem fd_X4_123_4 : FD RX4 123 4 5 := ⟨RX1, TX1, 7, "RackPlanner$Machine", rfl, in_X1, by decide, fw_X4_123, (fun s args x _ h => h)⟩
theorem fp_X4_123_4 : FP RX4 123 4 5 .int false := ⟨RX1, TX1, 7, "RackPlanner$Machine", tyX1, ⟨rfl, in_X1, by decide, fw_X4_123, (fun s args x _ h => h)⟩, tyX1_ok, nmX1, by decide +kernel, rfl, fun h => by cases h⟩
set_option maxRecDepth 100000 in
theorem cw_X0_put : Cond.code yX0_put cX0_put 3 none ∈ lw_T := lw_T_mem (List.mem_of_getElem? (i := 664) (by decide +kernel)) (by decide +kernel)
set_option maxRecDepth 100000 in
theorem cx_X0_put : Cond.initialized yX0_put.cls ∈ lw_T := lw_T_mem (List.mem_of_getElem? (i := 50) (by decide +kernel)) (by decide +kernel)
set_option maxRecDepth 100000 in
theorem ct_X0_put : Cond.instanceMethod yX0_put ∈ lw_T := lw_T_mem (List.mem_of_getElem? (i := 662) (by decide +kernel)) (by decide +kernel)
set_option maxRecDepth 100000 in
theorem cs_X0_put : Cond.selects yX0_put.cls yX0_put yX0_put ∈ lw_T := lw_T_mem (List.mem_of_getElem? (i := 663) (by decide +kernel)) (by decide +kernel)
set_option maxRecDepth 100000 in
theorem mw_X4_126 : Cond.methodLink RX4 126 yX0_put ∈ lw_T := lw_T_mem (List.mem_of_getElem? (i := 661) (by decide +kernel)) (by decide +kernel)
theorem ci_X4_126 : CI RX4 126 yX0_put cX0_put 3 none 2 := ⟨mw_X4_126, cx_X0_put, cw_X0_put, by decide, by decide, by decide +kernel⟩
set_option maxRecDepth 100000 in
theorem fw_X4_130 : Cond.fieldLink RX4 130 "RackPlanner$Machine" "number" "I" ∈ lw_T := lw_T_mem (List.mem_of_getElem? (i := 814) (by decide +kernel)) (by decide +kernel)
theorem fd_X4_130_4 : FD RX4 130 4 0 := ⟨RX1, TX1, 7, "RackPlanner$Machine", rfl, in_X1, by decide, fw_X4_130, (fun s args x _ h => h)⟩
set_option maxRecDepth 100000 in
theorem cw_X4_indexOfPlaced : Cond.code yX4_indexOfPlaced cX4_indexOfPlaced 3 (some .int) ∈ lw_T := lw_T_mem (List.mem_of_getElem? (i := 859) (by decide +kernel)) (by decide +kernel)
set_option maxRecDepth 100000 in
theorem cx_X4_indexOfPlaced : Cond.initialized yX4_indexOfPlaced.cls ∈ lw_T := lw_T_mem (List.mem_of_getElem? (i := 44) (by decide +kernel)) (by decide +kernel)
set_option maxRecDepth 100000 in
theorem ct_X4_indexOfPlaced : Cond.instanceMethod yX4_indexOfPlaced ∈ lw_T := lw_T_mem (List.mem_of_getElem? (i := 858) (by decide +kernel)) (by decide +kernel)
set_option maxRecDepth 100000 in
theorem cs_X4_indexOfPlaced : Cond.selects yX4_indexOfPlaced.cls yX4_indexOfPlaced yX4_indexOfPlaced ∈ lw_T := lw_T_mem (List.mem_of_getElem? (i := 17) (by decide +kernel)) (by decide +kernel)
set_option maxRecDepth 100000 in
theorem mw_X4_133 : Cond.methodLink RX4 133 yX4_indexOfPlaced ∈ lw_T := lw_T_mem (List.mem_of_getElem? (i := 856) (by decide +kernel)) (by decide +kernel)
theorem ci_X4_133 : CI RX4 133 yX4_indexOfPlaced cX4_indexOfPlaced 3 (some .int) 1 := ⟨mw_X4_133, cx_X4_indexOfPlaced, cw_X4_indexOfPlaced, by decide, by decide, by decide +kernel⟩
set_option maxRecDepth 100000 in
theorem cw_X0_clear : Cond.code yX0_clear cX0_clear 2 none ∈ lw_T := lw_T_mem (List.mem_of_getElem? (i := 866) (by decide +kernel)) (by decide +kernel)
set_option maxRecDepth 100000 in
theorem cx_X0_clear : Cond.initialized yX0_clear.cls ∈ lw_T := lw_T_mem (List.mem_of_getElem? (i := 50) (by decide +kernel)) (by decide +kernel)
set_option maxRecDepth 100000 in
theorem ct_X0_clear : Cond.instanceMethod yX0_clear ∈ lw_T := lw_T_mem (List.mem_of_getElem? (i := 864) (by decide +kernel)) (by decide +kernel)
set_option maxRecDepth 100000 in
theorem cs_X0_clear : Cond.selects yX0_clear.cls yX0_clear yX0_clear ∈ lw_T := lw_T_mem (List.mem_of_getElem? (i := 865) (by decide +kernel)) (by decide +kernel)
set_option maxRecDepth 100000 in
theorem mw_X4_136 : Cond.methodLink RX4 136 yX0_clear ∈ lw_T := lw_T_mem (List.mem_of_getElem? (i := 863) (by decide +kernel)) (by decide +kernel)
theorem ci_X4_136 : CI RX4 136 yX0_clear cX0_clear 2 none 1 := ⟨mw_X4_136, cx_X0_clear, cw_X0_clear, by decide, by decide, by decide +kernel⟩
set_option maxRecDepth 100000 in
theorem cw_Jx4a65c_remove_915e3 : Cond.code yJx4a65c_remove_915e3 cJx4a65c_remove_915e3 4 (some (.object "java/lang/Object")) ∈ lw_T := lw_T_mem (List.mem_of_getElem? (i := 870) (by decide +kernel)) (by decide +kernel)
set_option maxRecDepth 100000 in
theorem cx_Jx4a65c_remove_915e3 : Cond.initialized yJx4a65c_remove_915e3.cls ∈ lw_T := lw_T_mem (List.mem_of_getElem? (i := 48) (by decide +kernel)) (by decide +kernel)
set_option maxRecDepth 100000 in
theorem ct_Jx4a65c_remove_915e3 : Cond.instanceMethod yJx4a65c_remove_915e3 ∈ lw_T := lw_T_mem (List.mem_of_getElem? (i := 868) (by decide +kernel)) (by decide +kernel)
set_option maxRecDepth 100000 in
theorem cs_Jx4a65c_remove_915e3 : Cond.selects yJx4a65c_remove_915e3.cls yJx4a65c_remove_915e3 yJx4a65c_remove_915e3 ∈ lw_T := lw_T_mem (List.mem_of_getElem? (i := 869) (by decide +kernel)) (by decide +kernel)
set_option maxRecDepth 100000 in
theorem mw_X4_140 : Cond.methodLink RX4 140 yJx4a65c_remove_915e3 ∈ lw_T := lw_T_mem (List.mem_of_getElem? (i := 867) (by decide +kernel)) (by decide +kernel)
theorem ci_X4_140 : CI RX4 140 yJx4a65c_remove_915e3 cJx4a65c_remove_915e3 4 (some (.object "java/lang/Object")) 1 := ⟨mw_X4_140, cx_Jx4a65c_remove_915e3, cw_Jx4a65c_remove_915e3, by decide, by decide, by decide +kernel⟩
set_option maxRecDepth 100000 in
theorem cw_X4_rackOfCell : Cond.code yX4_rackOfCell cX4_rackOfCell 1 (some .int) ∈ lw_T := lw_T_mem (List.mem_of_getElem? (i := 671) (by decide +kernel)) (by decide +kernel)
set_option maxRecDepth 100000 in
theorem cx_X4_rackOfCell : Cond.initialized yX4_rackOfCell.cls ∈ lw_T := lw_T_mem (List.mem_of_getElem? (i := 44) (by decide +kernel)) (by decide +kernel)
set_option maxRecDepth 100000 in
theorem ct_X4_rackOfCell : Cond.static yX4_rackOfCell ∈ lw_T := lw_T_mem (List.mem_of_getElem? (i := 670) (by decide +kernel)) (by decide +kernel)
set_option maxRecDepth 100000 in
theorem mw_X4_143 : Cond.methodLink RX4 143 yX4_rackOfCell ∈ lw_T := lw_T_mem (List.mem_of_getElem? (i := 875) (by decide +kernel)) (by decide +kernel)
theorem ci_X4_143 : CI RX4 143 yX4_rackOfCell cX4_rackOfCell 1 (some .int) 1 := ⟨mw_X4_143, cx_X4_rackOfCell, cw_X4_rackOfCell, by decide, by decide, by decide +kernel⟩
set_option maxRecDepth 100000 in
theorem cw_X4_requireMachine : Cond.code yX4_requireMachine cX4_requireMachine 2 (some (.object "RackPlanner$Machine")) ∈ lw_T := lw_T_mem (List.mem_of_getElem? (i := 886) (by decide +kernel)) (by decide +kernel)
set_option maxRecDepth 100000 in
theorem cx_X4_requireMachine : Cond.initialized yX4_requireMachine.cls ∈ lw_T := lw_T_mem (List.mem_of_getElem? (i := 44) (by decide +kernel)) (by decide +kernel)
set_option maxRecDepth 100000 in
theorem ct_X4_requireMachine : Cond.instanceMethod yX4_requireMachine ∈ lw_T := lw_T_mem (List.mem_of_getElem? (i := 885) (by decide +kernel)) (by decide +kernel)
set_option maxRecDepth 100000 in
theorem cs_X4_requireMachine : Cond.selects yX4_requireMachine.cls yX4_requireMachine yX4_requireMachine ∈ lw_T := lw_T_mem (List.mem_of_getElem? (i := 19) (by decide +kernel)) (by decide +kernel)
set_option maxRecDepth 100000 in
theorem mw_X4_146 : Cond.methodLink RX4 146 yX4_requireMachine ∈ lw_T := lw_T_mem (List.mem_of_getElem? (i := 883) (by decide +kernel)) (by decide +kernel)
theorem ci_X4_146 : CI RX4 146 yX4_requireMachine cX4_requireMachine 2 (some (.object "RackPlanner$Machine")) 1 := ⟨mw_X4_146, cx_X4_requireMachine, cw_X4_requireMachine, by decide, by decide, by decide +kernel⟩
set_option maxRecDepth 100000 in
theorem cw_X0_bearsCords : Cond.code yX0_bearsCords cX0_bearsCords 4 (some .boolean) ∈ lw_T := lw_T_mem (List.mem_of_getElem? (i := 890) (by decide +kernel)) (by decide +kernel)
set_option maxRecDepth 100000 in
theorem cx_X0_bearsCords : Cond.initialized yX0_bearsCords.cls ∈ lw_T := lw_T_mem (List.mem_of_getElem? (i := 50) (by decide +kernel)) (by decide +kernel)
set_option maxRecDepth 100000 in
theorem ct_X0_bearsCords : Cond.instanceMethod yX0_bearsCords ∈ lw_T := lw_T_mem (List.mem_of_getElem? (i := 888) (by decide +kernel)) (by decide +kernel)
set_option maxRecDepth 100000 in
theorem cs_X0_bearsCords : Cond.selects yX0_bearsCords.cls yX0_bearsCords yX0_bearsCords ∈ lw_T := lw_T_mem (List.mem_of_getElem? (i := 889) (by decide +kernel)) (by decide +kernel)
set_option maxRecDepth 100000 in
theorem mw_X4_150 : Cond.methodLink RX4 150 yX0_bearsCords ∈ lw_T := lw_T_mem (List.mem_of_getElem? (i := 887) (by decide +kernel)) (by decide +kernel)
theorem ci_X4_150 : CI RX4 150 yX0_bearsCords cX0_bearsCords 4 (some .boolean) 2 := ⟨mw_X4_150, cx_X0_bearsCords, cw_X0_bearsCords, by decide, by decide, by decide +kernel⟩
set_option maxRecDepth 100000 in
theorem fw_X4_156 : Cond.fieldLink RX4 156 "RackPlanner$Machine" "cords" "I" ∈ lw_T := lw_T_mem (List.mem_of_getElem? (i := 825) (by decide +kernel)) (by decide +kernel)
theorem fd_X4_156_4 : FD RX4 156 4 4 := ⟨RX1, TX1, 7, "RackPlanner$Machine", rfl, in_X1, by decide, fw_X4_156, (fun s args x _ h => h)⟩
theorem fp_X4_156_4 : FP RX4 156 4 4 .int false := ⟨RX1, TX1, 7, "RackPlanner$Machine", tyX1, ⟨rfl, in_X1, by decide, fw_X4_156, (fun s args x _ h => h)⟩, tyX1_ok, nmX1, by decide +kernel, rfl, fun h => by cases h⟩
set_option maxRecDepth 100000 in
theorem cw_X0_changeCords : Cond.code yX0_changeCords cX0_changeCords 5 none ∈ lw_T := lw_T_mem (List.mem_of_getElem? (i := 896) (by decide +kernel)) (by decide +kernel)
set_option maxRecDepth 100000 in
theorem cx_X0_changeCords : Cond.initialized yX0_changeCords.cls ∈ lw_T := lw_T_mem (List.mem_of_getElem? (i := 50) (by decide +kernel)) (by decide +kernel)
set_option maxRecDepth 100000 in
theorem ct_X0_changeCords : Cond.instanceMethod yX0_changeCords ∈ lw_T := lw_T_mem (List.mem_of_getElem? (i := 894) (by decide +kernel)) (by decide +kernel)
set_option maxRecDepth 100000 in
theorem cs_X0_changeCords : Cond.selects yX0_changeCords.cls yX0_changeCords yX0_changeCords ∈ lw_T := lw_T_mem (List.mem_of_getElem? (i := 895) (by decide +kernel)) (by decide +kernel)
set_option maxRecDepth 100000 in
theorem mw_X4_159 : Cond.methodLink RX4 159 yX0_changeCords ∈ lw_T := lw_T_mem (List.mem_of_getElem? (i := 893) (by decide +kernel)) (by decide +kernel)
theorem ci_X4_159 : CI RX4 159 yX0_changeCords cX0_changeCords 5 none 2 := ⟨mw_X4_159, cx_X0_changeCords, cw_X0_changeCords, by decide, by decide, by decide +kernel⟩
set_option maxRecDepth 100000 in
theorem cw_X4_listForPacking : Cond.code yX4_listForPacking cX4_listForPacking 4 none ∈ lw_T := lw_T_mem (List.mem_of_getElem? (i := 205) (by decide +kernel)) (by decide +kernel)
set_option maxRecDepth 100000 in
theorem cx_X4_listForPacking : Cond.initialized yX4_listForPacking.cls ∈ lw_T := lw_T_mem (List.mem_of_getElem? (i := 44) (by decide +kernel)) (by decide +kernel)
set_option maxRecDepth 100000 in
theorem ct_X4_listForPacking : Cond.instanceMethod yX4_listForPacking ∈ lw_T := lw_T_mem (List.mem_of_getElem? (i := 204) (by decide +kernel)) (by decide +kernel)
set_option maxRecDepth 100000 in
theorem cs_X4_listForPacking : Cond.selects yX4_listForPacking.cls yX4_listForPacking yX4_listForPacking ∈ lw_T := lw_T_mem (List.mem_of_getElem? (i := 0) (by decide +kernel)) (by decide +kernel)
set_option maxRecDepth 100000 in
theorem mw_X4_162 : Cond.methodLink RX4 162 yX4_listForPacking ∈ lw_T := lw_T_mem (List.mem_of_getElem? (i := 202) (by decide +kernel)) (by decide +kernel)
theorem ci_X4_162 : CI RX4 162 yX4_listForPacking cX4_listForPacking 4 none 0 := ⟨mw_X4_162, cx_X4_listForPacking, cw_X4_listForPacking, by decide, by decide, by decide +kernel⟩
set_option maxRecDepth 100000 in
theorem cw_X0_clearAll : Cond.code yX0_clearAll cX0_clearAll 2 none ∈ lw_T := lw_T_mem (List.mem_of_getElem? (i := 607) (by decide +kernel)) (by decide +kernel)
set_option maxRecDepth 100000 in
theorem cx_X0_clearAll : Cond.initialized yX0_clearAll.cls ∈ lw_T := lw_T_mem (List.mem_of_getElem? (i := 50) (by decide +kernel)) (by decide +kernel)
set_option maxRecDepth 100000 in
theorem ct_X0_clearAll : Cond.instanceMethod yX0_clearAll ∈ lw_T := lw_T_mem (List.mem_of_getElem? (i := 605) (by decide +kernel)) (by decide +kernel)
set_option maxRecDepth 100000 in
theorem cs_X0_clearAll : Cond.selects yX0_clearAll.cls yX0_clearAll yX0_clearAll ∈ lw_T := lw_T_mem (List.mem_of_getElem? (i := 606) (by decide +kernel)) (by decide +kernel)
set_option maxRecDepth 100000 in
theorem mw_X4_165 : Cond.methodLink RX4 165 yX0_clearAll ∈ lw_T := lw_T_mem (List.mem_of_getElem? (i := 604) (by decide +kernel)) (by decide +kernel)
theorem ci_X4_165 : CI RX4 165 yX0_clearAll cX0_clearAll 2 none 0 := ⟨mw_X4_165, cx_X0_clearAll, cw_X0_clearAll, by decide, by decide, by decide +kernel⟩
set_option maxRecDepth 100000 in
theorem fw_X4_168 : Cond.fieldLink RX4 168 "RackPlanner$Machine" "packedCell" "I" ∈ lw_T := lw_T_mem (List.mem_of_getElem? (i := 830) (by decide +kernel)) (by decide +kernel)
theorem fd_X4_168_4 : FD RX4 168 4 6 := ⟨RX1, TX1, 7, "RackPlanner$Machine", rfl, in_X1, by decide, fw_X4_168, (fun s args x _ h => h)⟩
theorem fp_X4_168_4 : FP RX4 168 4 6 .int false := ⟨RX1, TX1, 7, "RackPlanner$Machine", tyX1, ⟨rfl, in_X1, by decide, fw_X4_168, (fun s args x _ h => h)⟩, tyX1_ok, nmX1, by decide +kernel, rfl, fun h => by cases h⟩
set_option maxRecDepth 100000 in
theorem cw_X4_swapLayouts : Cond.code yX4_swapLayouts cX4_swapLayouts 2 none ∈ lw_T := lw_T_mem (List.mem_of_getElem? (i := 679) (by decide +kernel)) (by decide +kernel)
set_option maxRecDepth 100000 in
theorem cx_X4_swapLayouts : Cond.initialized yX4_swapLayouts.cls ∈ lw_T := lw_T_mem (List.mem_of_getElem? (i := 44) (by decide +kernel)) (by decide +kernel)
set_option maxRecDepth 100000 in
theorem ct_X4_swapLayouts : Cond.instanceMethod yX4_swapLayouts ∈ lw_T := lw_T_mem (List.mem_of_getElem? (i := 678) (by decide +kernel)) (by decide +kernel)
set_option maxRecDepth 100000 in
theorem cs_X4_swapLayouts : Cond.selects yX4_swapLayouts.cls yX4_swapLayouts yX4_swapLayouts ∈ lw_T := lw_T_mem (List.mem_of_getElem? (i := 12) (by decide +kernel)) (by decide +kernel)
set_option maxRecDepth 100000 in
theorem mw_X4_171 : Cond.methodLink RX4 171 yX4_swapLayouts ∈ lw_T := lw_T_mem (List.mem_of_getElem? (i := 676) (by decide +kernel)) (by decide +kernel)
theorem ci_X4_171 : CI RX4 171 yX4_swapLayouts cX4_swapLayouts 2 none 0 := ⟨mw_X4_171, cx_X4_swapLayouts, cw_X4_swapLayouts, by decide, by decide, by decide +kernel⟩
set_option maxRecDepth 100000 in
theorem cw_X4_moveToPacked : Cond.code yX4_moveToPacked cX4_moveToPacked 4 (some .int) ∈ lw_T := lw_T_mem (List.mem_of_getElem? (i := 683) (by decide +kernel)) (by decide +kernel)
set_option maxRecDepth 100000 in
theorem cx_X4_moveToPacked : Cond.initialized yX4_moveToPacked.cls ∈ lw_T := lw_T_mem (List.mem_of_getElem? (i := 44) (by decide +kernel)) (by decide +kernel)
set_option maxRecDepth 100000 in
theorem ct_X4_moveToPacked : Cond.instanceMethod yX4_moveToPacked ∈ lw_T := lw_T_mem (List.mem_of_getElem? (i := 682) (by decide +kernel)) (by decide +kernel)
set_option maxRecDepth 100000 in
theorem cs_X4_moveToPacked : Cond.selects yX4_moveToPacked.cls yX4_moveToPacked yX4_moveToPacked ∈ lw_T := lw_T_mem (List.mem_of_getElem? (i := 13) (by decide +kernel)) (by decide +kernel)
set_option maxRecDepth 100000 in
theorem mw_X4_174 : Cond.methodLink RX4 174 yX4_moveToPacked ∈ lw_T := lw_T_mem (List.mem_of_getElem? (i := 680) (by decide +kernel)) (by decide +kernel)
theorem ci_X4_174 : CI RX4 174 yX4_moveToPacked cX4_moveToPacked 4 (some .int) 0 := ⟨mw_X4_174, cx_X4_moveToPacked, cw_X4_moveToPacked, by decide, by decide, by decide +kernel⟩
set_option maxRecDepth 100000 in
theorem cw_X4_requireRack : Cond.code yX4_requireRack cX4_requireRack 2 (some (.object "RackPlanner$Rack")) ∈ lw_T := lw_T_mem (List.mem_of_getElem? (i := 928) (by decide +kernel)) (by decide +kernel)
set_option maxRecDepth 100000 in
theorem cx_X4_requireRack : Cond.initialized yX4_requireRack.cls ∈ lw_T := lw_T_mem (List.mem_of_getElem? (i := 44) (by decide +kernel)) (by decide +kernel)
set_option maxRecDepth 100000 in
theorem ct_X4_requireRack : Cond.instanceMethod yX4_requireRack ∈ lw_T := lw_T_mem (List.mem_of_getElem? (i := 927) (by decide +kernel)) (by decide +kernel)
set_option maxRecDepth 100000 in
theorem cs_X4_requireRack : Cond.selects yX4_requireRack.cls yX4_requireRack yX4_requireRack ∈ lw_T := lw_T_mem (List.mem_of_getElem? (i := 20) (by decide +kernel)) (by decide +kernel)
set_option maxRecDepth 100000 in
theorem mw_X4_177 : Cond.methodLink RX4 177 yX4_requireRack ∈ lw_T := lw_T_mem (List.mem_of_getElem? (i := 925) (by decide +kernel)) (by decide +kernel)
theorem ci_X4_177 : CI RX4 177 yX4_requireRack cX4_requireRack 2 (some (.object "RackPlanner$Rack")) 1 := ⟨mw_X4_177, cx_X4_requireRack, cw_X4_requireRack, by decide, by decide, by decide +kernel⟩
set_option maxRecDepth 100000 in
theorem fw_X4_181 : Cond.fieldLink RX4 181 "RackPlanner$Rack" "slots" "I" ∈ lw_T := lw_T_mem (List.mem_of_getElem? (i := 729) (by decide +kernel)) (by decide +kernel)
theorem fd_X4_181_5 : FD RX4 181 5 1 := ⟨RX2, TX2, 4, "RackPlanner$Rack", rfl, in_X2, by decide, fw_X4_181, (fun s args x _ h => h)⟩
set_option maxRecDepth 100000 in
theorem tk_X4_184 : Cond.classLink RX4 184 "java/lang/IndexOutOfBoundsException" ∈ lw_T := lw_T_mem (List.mem_of_getElem? (i := 860) (by decide +kernel)) (by decide +kernel)
set_option maxRecDepth 100000 in
theorem fw_X4_189 : Cond.fieldLink RX4 189 "RackPlanner$Layout" "inCell" "[I" ∈ lw_T := lw_T_mem (List.mem_of_getElem? (i := 150) (by decide +kernel)) (by decide +kernel)
theorem fd_X4_189_3 : FD RX4 189 3 1 := ⟨RX0, TX0, 5, "RackPlanner$Layout", rfl, in_X0, by decide, fw_X4_189, (fun s args x _ h => h)⟩
set_option maxRecDepth 100000 in
theorem cw_X4_cellAt : Cond.code yX4_cellAt cX4_cellAt 2 (some .int) ∈ lw_T := lw_T_mem (List.mem_of_getElem? (i := 660) (by decide +kernel)) (by decide +kernel)
set_option maxRecDepth 100000 in
theorem cx_X4_cellAt : Cond.initialized yX4_cellAt.cls ∈ lw_T := lw_T_mem (List.mem_of_getElem? (i := 44) (by decide +kernel)) (by decide +kernel)
set_option maxRecDepth 100000 in
theorem ct_X4_cellAt : Cond.static yX4_cellAt ∈ lw_T := lw_T_mem (List.mem_of_getElem? (i := 659) (by decide +kernel)) (by decide +kernel)
set_option maxRecDepth 100000 in
theorem mw_X4_192 : Cond.methodLink RX4 192 yX4_cellAt ∈ lw_T := lw_T_mem (List.mem_of_getElem? (i := 931) (by decide +kernel)) (by decide +kernel)
theorem ci_X4_192 : CI RX4 192 yX4_cellAt cX4_cellAt 2 (some .int) 2 := ⟨mw_X4_192, cx_X4_cellAt, cw_X4_cellAt, by decide, by decide, by decide +kernel⟩
set_option maxRecDepth 100000 in
theorem cw_X0_firstFrom : Cond.code yX0_firstFrom cX0_firstFrom 3 (some .int) ∈ lw_T := lw_T_mem (List.mem_of_getElem? (i := 942) (by decide +kernel)) (by decide +kernel)
set_option maxRecDepth 100000 in
theorem cx_X0_firstFrom : Cond.initialized yX0_firstFrom.cls ∈ lw_T := lw_T_mem (List.mem_of_getElem? (i := 50) (by decide +kernel)) (by decide +kernel)
set_option maxRecDepth 100000 in
theorem ct_X0_firstFrom : Cond.instanceMethod yX0_firstFrom ∈ lw_T := lw_T_mem (List.mem_of_getElem? (i := 940) (by decide +kernel)) (by decide +kernel)
set_option maxRecDepth 100000 in
theorem cs_X0_firstFrom : Cond.selects yX0_firstFrom.cls yX0_firstFrom yX0_firstFrom ∈ lw_T := lw_T_mem (List.mem_of_getElem? (i := 941) (by decide +kernel)) (by decide +kernel)
set_option maxRecDepth 100000 in
theorem mw_X4_196 : Cond.methodLink RX4 196 yX0_firstFrom ∈ lw_T := lw_T_mem (List.mem_of_getElem? (i := 939) (by decide +kernel)) (by decide +kernel)
theorem ci_X4_196 : CI RX4 196 yX0_firstFrom cX0_firstFrom 3 (some .int) 1 := ⟨mw_X4_196, cx_X0_firstFrom, cw_X0_firstFrom, by decide, by decide, by decide +kernel⟩
set_option maxRecDepth 100000 in
theorem fw_X4_199 : Cond.fieldLink RX4 199 "RackPlanner$Machine" "slots" "I" ∈ lw_T := lw_T_mem (List.mem_of_getElem? (i := 817) (by decide +kernel)) (by decide +kernel)
theorem fd_X4_199_4 : FD RX4 199 4 1 := ⟨RX1, TX1, 7, "RackPlanner$Machine", rfl, in_X1, by decide, fw_X4_199, (fun s args x _ h => h)⟩
set_option maxRecDepth 100000 in
theorem cw_X4_powerNow : Cond.code yX4_powerNow cX4_powerNow 4 (some .int) ∈ lw_T := lw_T_mem (List.mem_of_getElem? (i := 953) (by decide +kernel)) (by decide +kernel)
set_option maxRecDepth 100000 in
theorem cx_X4_powerNow : Cond.initialized yX4_powerNow.cls ∈ lw_T := lw_T_mem (List.mem_of_getElem? (i := 44) (by decide +kernel)) (by decide +kernel)
set_option maxRecDepth 100000 in
theorem ct_X4_powerNow : Cond.instanceMethod yX4_powerNow ∈ lw_T := lw_T_mem (List.mem_of_getElem? (i := 952) (by decide +kernel)) (by decide +kernel)
set_option maxRecDepth 100000 in
theorem cs_X4_powerNow : Cond.selects yX4_powerNow.cls yX4_powerNow yX4_powerNow ∈ lw_T := lw_T_mem (List.mem_of_getElem? (i := 21) (by decide +kernel)) (by decide +kernel)
set_option maxRecDepth 100000 in
theorem mw_X4_200 : Cond.methodLink RX4 200 yX4_powerNow ∈ lw_T := lw_T_mem (List.mem_of_getElem? (i := 950) (by decide +kernel)) (by decide +kernel)
theorem ci_X4_200 : CI RX4 200 yX4_powerNow cX4_powerNow 4 (some .int) 2 := ⟨mw_X4_200, cx_X4_powerNow, cw_X4_powerNow, by decide, by decide, by decide +kernel⟩
set_option maxRecDepth 100000 in
theorem fw_X4_204 : Cond.fieldLink RX4 204 "RackPlanner$Layout" "worst" "[[I" ∈ lw_T := lw_T_mem (List.mem_of_getElem? (i := 155) (by decide +kernel)) (by decide +kernel)
theorem fd_X4_204_3 : FD RX4 204 3 4 := ⟨RX0, TX0, 5, "RackPlanner$Layout", rfl, in_X0, by decide, fw_X4_204, (fun s args x _ h => h)⟩
set_option maxRecDepth 100000 in
theorem fw_X4_208 : Cond.fieldLink RX4 208 "RackPlanner$Layout" "weight" "[I" ∈ lw_T := lw_T_mem (List.mem_of_getElem? (i := 152) (by decide +kernel)) (by decide +kernel)
theorem fd_X4_208_3 : FD RX4 208 3 2 := ⟨RX0, TX0, 5, "RackPlanner$Layout", rfl, in_X0, by decide, fw_X4_208, (fun s args x _ h => h)⟩
set_option maxRecDepth 100000 in
theorem cw_X4_rowOfMachine : Cond.code yX4_rowOfMachine cX4_rowOfMachine 2 (some .int) ∈ lw_T := lw_T_mem (List.mem_of_getElem? (i := 978) (by decide +kernel)) (by decide +kernel)
set_option maxRecDepth 100000 in
theorem cx_X4_rowOfMachine : Cond.initialized yX4_rowOfMachine.cls ∈ lw_T := lw_T_mem (List.mem_of_getElem? (i := 44) (by decide +kernel)) (by decide +kernel)
set_option maxRecDepth 100000 in
theorem ct_X4_rowOfMachine : Cond.instanceMethod yX4_rowOfMachine ∈ lw_T := lw_T_mem (List.mem_of_getElem? (i := 977) (by decide +kernel)) (by decide +kernel)
set_option maxRecDepth 100000 in
theorem cs_X4_rowOfMachine : Cond.selects yX4_rowOfMachine.cls yX4_rowOfMachine yX4_rowOfMachine ∈ lw_T := lw_T_mem (List.mem_of_getElem? (i := 22) (by decide +kernel)) (by decide +kernel)
set_option maxRecDepth 100000 in
theorem mw_X4_211 : Cond.methodLink RX4 211 yX4_rowOfMachine ∈ lw_T := lw_T_mem (List.mem_of_getElem? (i := 975) (by decide +kernel)) (by decide +kernel)
theorem ci_X4_211 : CI RX4 211 yX4_rowOfMachine cX4_rowOfMachine 2 (some .int) 1 := ⟨mw_X4_211, cx_X4_rowOfMachine, cw_X4_rowOfMachine, by decide, by decide, by decide +kernel⟩
set_option maxRecDepth 100000 in
theorem fw_X4_214 : Cond.fieldLink RX4 214 "RackPlanner$Machine" "power" "I" ∈ lw_T := lw_T_mem (List.mem_of_getElem? (i := 820) (by decide +kernel)) (by decide +kernel)
theorem fd_X4_214_4 : FD RX4 214 4 2 := ⟨RX1, TX1, 7, "RackPlanner$Machine", rfl, in_X1, by decide, fw_X4_214, (fun s args x _ h => h)⟩
set_option maxRecDepth 100000 in
theorem cw_X0_widestGap : Cond.code yX0_widestGap cX0_widestGap 5 (some .int) ∈ lw_T := lw_T_mem (List.mem_of_getElem? (i := 989) (by decide +kernel)) (by decide +kernel)
set_option maxRecDepth 100000 in
theorem cx_X0_widestGap : Cond.initialized yX0_widestGap.cls ∈ lw_T := lw_T_mem (List.mem_of_getElem? (i := 50) (by decide +kernel)) (by decide +kernel)
set_option maxRecDepth 100000 in
theorem ct_X0_widestGap : Cond.instanceMethod yX0_widestGap ∈ lw_T := lw_T_mem (List.mem_of_getElem? (i := 987) (by decide +kernel)) (by decide +kernel)
set_option maxRecDepth 100000 in
theorem cs_X0_widestGap : Cond.selects yX0_widestGap.cls yX0_widestGap yX0_widestGap ∈ lw_T := lw_T_mem (List.mem_of_getElem? (i := 988) (by decide +kernel)) (by decide +kernel)
set_option maxRecDepth 100000 in
theorem mw_X4_217 : Cond.methodLink RX4 217 yX0_widestGap ∈ lw_T := lw_T_mem (List.mem_of_getElem? (i := 986) (by decide +kernel)) (by decide +kernel)
theorem ci_X4_217 : CI RX4 217 yX0_widestGap cX0_widestGap 5 (some .int) 1 := ⟨mw_X4_217, cx_X0_widestGap, cw_X0_widestGap, by decide, by decide, by decide +kernel⟩
set_option maxRecDepth 100000 in
theorem cw_X0_fitIn : Cond.code yX0_fitIn cX0_fitIn 3 (some .int) ∈ lw_T := lw_T_mem (List.mem_of_getElem? (i := 616) (by decide +kernel)) (by decide +kernel)
set_option maxRecDepth 100000 in
theorem cx_X0_fitIn : Cond.initialized yX0_fitIn.cls ∈ lw_T := lw_T_mem (List.mem_of_getElem? (i := 50) (by decide +kernel)) (by decide +kernel)
set_option maxRecDepth 100000 in
theorem ct_X0_fitIn : Cond.instanceMethod yX0_fitIn ∈ lw_T := lw_T_mem (List.mem_of_getElem? (i := 614) (by decide +kernel)) (by decide +kernel)
set_option maxRecDepth 100000 in
theorem cs_X0_fitIn : Cond.selects yX0_fitIn.cls yX0_fitIn yX0_fitIn ∈ lw_T := lw_T_mem (List.mem_of_getElem? (i := 615) (by decide +kernel)) (by decide +kernel)
set_option maxRecDepth 100000 in
theorem mw_X4_220 : Cond.methodLink RX4 220 yX0_fitIn ∈ lw_T := lw_T_mem (List.mem_of_getElem? (i := 998) (by decide +kernel)) (by decide +kernel)
theorem ci_X4_220 : CI RX4 220 yX0_fitIn cX0_fitIn 3 (some .int) 2 := ⟨mw_X4_220, cx_X0_fitIn, cw_X0_fitIn, by decide, by decide, by decide +kernel⟩
set_option maxRecDepth 100000 in
theorem cw_X0_copyFrom : Cond.code yX0_copyFrom cX0_copyFrom 3 none ∈ lw_T := lw_T_mem (List.mem_of_getElem? (i := 1009) (by decide +kernel)) (by decide +kernel)
set_option maxRecDepth 100000 in
theorem cx_X0_copyFrom : Cond.initialized yX0_copyFrom.cls ∈ lw_T := lw_T_mem (List.mem_of_getElem? (i := 50) (by decide +kernel)) (by decide +kernel)
set_option maxRecDepth 100000 in
theorem ct_X0_copyFrom : Cond.instanceMethod yX0_copyFrom ∈ lw_T := lw_T_mem (List.mem_of_getElem? (i := 1007) (by decide +kernel)) (by decide +kernel)
set_option maxRecDepth 100000 in
theorem cs_X0_copyFrom : Cond.selects yX0_copyFrom.cls yX0_copyFrom yX0_copyFrom ∈ lw_T := lw_T_mem (List.mem_of_getElem? (i := 1008) (by decide +kernel)) (by decide +kernel)
set_option maxRecDepth 100000 in
theorem mw_X4_224 : Cond.methodLink RX4 224 yX0_copyFrom ∈ lw_T := lw_T_mem (List.mem_of_getElem? (i := 1006) (by decide +kernel)) (by decide +kernel)
theorem ci_X4_224 : CI RX4 224 yX0_copyFrom cX0_copyFrom 3 none 1 := ⟨mw_X4_224, cx_X0_copyFrom, cw_X0_copyFrom, by decide, by decide, by decide +kernel⟩
set_option maxRecDepth 100000 in
theorem cw_X0_fillUp : Cond.code yX0_fillUp cX0_fillUp 5 (some .int) ∈ lw_T := lw_T_mem (List.mem_of_getElem? (i := 1014) (by decide +kernel)) (by decide +kernel)
set_option maxRecDepth 100000 in
theorem cx_X0_fillUp : Cond.initialized yX0_fillUp.cls ∈ lw_T := lw_T_mem (List.mem_of_getElem? (i := 50) (by decide +kernel)) (by decide +kernel)
set_option maxRecDepth 100000 in
theorem ct_X0_fillUp : Cond.instanceMethod yX0_fillUp ∈ lw_T := lw_T_mem (List.mem_of_getElem? (i := 1012) (by decide +kernel)) (by decide +kernel)
set_option maxRecDepth 100000 in
theorem cs_X0_fillUp : Cond.selects yX0_fillUp.cls yX0_fillUp yX0_fillUp ∈ lw_T := lw_T_mem (List.mem_of_getElem? (i := 1013) (by decide +kernel)) (by decide +kernel)
set_option maxRecDepth 100000 in
theorem mw_X4_228 : Cond.methodLink RX4 228 yX0_fillUp ∈ lw_T := lw_T_mem (List.mem_of_getElem? (i := 1011) (by decide +kernel)) (by decide +kernel)
theorem ci_X4_228 : CI RX4 228 yX0_fillUp cX0_fillUp 5 (some .int) 2 := ⟨mw_X4_228, cx_X0_fillUp, cw_X0_fillUp, by decide, by decide, by decide +kernel⟩
set_option maxRecDepth 100000 in
theorem cw_X0_countForRow : Cond.code yX0_countForRow cX0_countForRow 5 (some .int) ∈ lw_T := lw_T_mem (List.mem_of_getElem? (i := 1026) (by decide +kernel)) (by decide +kernel)
set_option maxRecDepth 100000 in
theorem cx_X0_countForRow : Cond.initialized yX0_countForRow.cls ∈ lw_T := lw_T_mem (List.mem_of_getElem? (i := 50) (by decide +kernel)) (by decide +kernel)
set_option maxRecDepth 100000 in
theorem ct_X0_countForRow : Cond.instanceMethod yX0_countForRow ∈ lw_T := lw_T_mem (List.mem_of_getElem? (i := 1024) (by decide +kernel)) (by decide +kernel)
set_option maxRecDepth 100000 in
theorem cs_X0_countForRow : Cond.selects yX0_countForRow.cls yX0_countForRow yX0_countForRow ∈ lw_T := lw_T_mem (List.mem_of_getElem? (i := 1025) (by decide +kernel)) (by decide +kernel)
set_option maxRecDepth 100000 in
theorem mw_X4_231 : Cond.methodLink RX4 231 yX0_countForRow ∈ lw_T := lw_T_mem (List.mem_of_getElem? (i := 1023) (by decide +kernel)) (by decide +kernel)
theorem ci_X4_231 : CI RX4 231 yX0_countForRow cX0_countForRow 5 (some .int) 2 := ⟨mw_X4_231, cx_X0_countForRow, cw_X0_countForRow, by decide, by decide, by decide +kernel⟩
set_option maxRecDepth 100000 in
theorem cw_X1_worstOn : Cond.code yX1_worstOn cX1_worstOn 2 (some .int) ∈ lw_T := lw_T_mem (List.mem_of_getElem? (i := 638) (by decide +kernel)) (by decide +kernel)
set_option maxRecDepth 100000 in
theorem cx_X1_worstOn : Cond.initialized yX1_worstOn.cls ∈ lw_T := lw_T_mem (List.mem_of_getElem? (i := 63) (by decide +kernel)) (by decide +kernel)
set_option maxRecDepth 100000 in
theorem ct_X1_worstOn : Cond.instanceMethod yX1_worstOn ∈ lw_T := lw_T_mem (List.mem_of_getElem? (i := 636) (by decide +kernel)) (by decide +kernel)
set_option maxRecDepth 100000 in
theorem cs_X1_worstOn : Cond.selects yX1_worstOn.cls yX1_worstOn yX1_worstOn ∈ lw_T := lw_T_mem (List.mem_of_getElem? (i := 637) (by decide +kernel)) (by decide +kernel)
set_option maxRecDepth 100000 in
theorem mw_X4_234 : Cond.methodLink RX4 234 yX1_worstOn ∈ lw_T := lw_T_mem (List.mem_of_getElem? (i := 1039) (by decide +kernel)) (by decide +kernel)
theorem ci_X4_234 : CI RX4 234 yX1_worstOn cX1_worstOn 2 (some .int) 1 := ⟨mw_X4_234, cx_X1_worstOn, cw_X1_worstOn, by decide, by decide, by decide +kernel⟩
set_option maxRecDepth 100000 in
theorem cw_X4_atMost : Cond.code yX4_atMost cX4_atMost 3 (some .int) ∈ lw_T := lw_T_mem (List.mem_of_getElem? (i := 1037) (by decide +kernel)) (by decide +kernel)
set_option maxRecDepth 100000 in
theorem cx_X4_atMost : Cond.initialized yX4_atMost.cls ∈ lw_T := lw_T_mem (List.mem_of_getElem? (i := 44) (by decide +kernel)) (by decide +kernel)
set_option maxRecDepth 100000 in
theorem ct_X4_atMost : Cond.static yX4_atMost ∈ lw_T := lw_T_mem (List.mem_of_getElem? (i := 1036) (by decide +kernel)) (by decide +kernel)
set_option maxRecDepth 100000 in
theorem mw_X4_237 : Cond.methodLink RX4 237 yX4_atMost ∈ lw_T := lw_T_mem (List.mem_of_getElem? (i := 1040) (by decide +kernel)) (by decide +kernel)
theorem ci_X4_237 : CI RX4 237 yX4_atMost cX4_atMost 3 (some .int) 3 := ⟨mw_X4_237, cx_X4_atMost, cw_X4_atMost, by decide, by decide, by decide +kernel⟩
set_option maxRecDepth 100000 in
theorem tk_X4_241 : Cond.classLink RX4 241 "java/lang/IllegalArgumentException" ∈ lw_T := lw_T_mem (List.mem_of_getElem? (i := 700) (by decide +kernel)) (by decide +kernel)
set_option maxRecDepth 100000 in
theorem cw_X1_init : Cond.code yX1_init cX1_init 6 none ∈ lw_T := lw_T_mem (List.mem_of_getElem? (i := 810) (by decide +kernel)) (by decide +kernel)
set_option maxRecDepth 100000 in
theorem cx_X1_init : Cond.initialized yX1_init.cls ∈ lw_T := lw_T_mem (List.mem_of_getElem? (i := 63) (by decide +kernel)) (by decide +kernel)
set_option maxRecDepth 100000 in
theorem ct_X1_init : Cond.instanceMethod yX1_init ∈ lw_T := lw_T_mem (List.mem_of_getElem? (i := 809) (by decide +kernel)) (by decide +kernel)
set_option maxRecDepth 100000 in
theorem mw_X4_250 : Cond.methodLink RX4 250 yX1_init ∈ lw_T := lw_T_mem (List.mem_of_getElem? (i := 808) (by decide +kernel)) (by decide +kernel)
theorem ci_X4_250 : CI RX4 250 yX1_init cX1_init 6 none 5 := ⟨mw_X4_250, cx_X1_init, cw_X1_init, by decide, by decide, by decide +kernel⟩
set_option maxRecDepth 100000 in
theorem fw_X4_253 : Cond.fieldLink RX4 253 "RackPlanner$Rack" "row" "I" ∈ lw_T := lw_T_mem (List.mem_of_getElem? (i := 727) (by decide +kernel)) (by decide +kernel)
theorem fd_X4_253_5 : FD RX4 253 5 0 := ⟨RX2, TX2, 4, "RackPlanner$Rack", rfl, in_X2, by decide, fw_X4_253, (fun s args x _ h => h)⟩
set_option maxRecDepth 100000 in
theorem cw_X1_hasCordTo : Cond.code yX1_hasCordTo cX1_hasCordTo 2 (some .boolean) ∈ lw_T := lw_T_mem (List.mem_of_getElem? (i := 788) (by decide +kernel)) (by decide +kernel)
set_option maxRecDepth 100000 in
theorem cx_X1_hasCordTo : Cond.initialized yX1_hasCordTo.cls ∈ lw_T := lw_T_mem (List.mem_of_getElem? (i := 63) (by decide +kernel)) (by decide +kernel)
set_option maxRecDepth 100000 in
theorem ct_X1_hasCordTo : Cond.instanceMethod yX1_hasCordTo ∈ lw_T := lw_T_mem (List.mem_of_getElem? (i := 786) (by decide +kernel)) (by decide +kernel)
set_option maxRecDepth 100000 in
theorem cs_X1_hasCordTo : Cond.selects yX1_hasCordTo.cls yX1_hasCordTo yX1_hasCordTo ∈ lw_T := lw_T_mem (List.mem_of_getElem? (i := 787) (by decide +kernel)) (by decide +kernel)
set_option maxRecDepth 100000 in
theorem mw_X4_256 : Cond.methodLink RX4 256 yX1_hasCordTo ∈ lw_T := lw_T_mem (List.mem_of_getElem? (i := 785) (by decide +kernel)) (by decide +kernel)
theorem ci_X4_256 : CI RX4 256 yX1_hasCordTo cX1_hasCordTo 2 (some .boolean) 1 := ⟨mw_X4_256, cx_X1_hasCordTo, cw_X1_hasCordTo, by decide, by decide, by decide +kernel⟩
set_option maxRecDepth 100000 in
theorem cw_Jx4a65c_clear_da8c8 : Cond.code yJx4a65c_clear_da8c8 cJx4a65c_clear_da8c8 4 none ∈ lw_T := lw_T_mem (List.mem_of_getElem? (i := 209) (by decide +kernel)) (by decide +kernel)
set_option maxRecDepth 100000 in
theorem cx_Jx4a65c_clear_da8c8 : Cond.initialized yJx4a65c_clear_da8c8.cls ∈ lw_T := lw_T_mem (List.mem_of_getElem? (i := 48) (by decide +kernel)) (by decide +kernel)
set_option maxRecDepth 100000 in
theorem ct_Jx4a65c_clear_da8c8 : Cond.instanceMethod yJx4a65c_clear_da8c8 ∈ lw_T := lw_T_mem (List.mem_of_getElem? (i := 207) (by decide +kernel)) (by decide +kernel)
set_option maxRecDepth 100000 in
theorem cs_Jx4a65c_clear_da8c8 : Cond.selects yJx4a65c_clear_da8c8.cls yJx4a65c_clear_da8c8 yJx4a65c_clear_da8c8 ∈ lw_T := lw_T_mem (List.mem_of_getElem? (i := 208) (by decide +kernel)) (by decide +kernel)
set_option maxRecDepth 100000 in
theorem mw_X4_260 : Cond.methodLink RX4 260 yJx4a65c_clear_da8c8 ∈ lw_T := lw_T_mem (List.mem_of_getElem? (i := 206) (by decide +kernel)) (by decide +kernel)
theorem ci_X4_260 : CI RX4 260 yJx4a65c_clear_da8c8 cJx4a65c_clear_da8c8 4 none 0 := ⟨mw_X4_260, cx_Jx4a65c_clear_da8c8, cw_Jx4a65c_clear_da8c8, by decide, by decide, by decide +kernel⟩
set_option maxRecDepth 100000 in
theorem cw_X1_packsAhead : Cond.code yX1_packsAhead cX1_packsAhead 2 (some .boolean) ∈ lw_T := lw_T_mem (List.mem_of_getElem? (i := 228) (by decide +kernel)) (by decide +kernel)
set_option maxRecDepth 100000 in
theorem cx_X1_packsAhead : Cond.initialized yX1_packsAhead.cls ∈ lw_T := lw_T_mem (List.mem_of_getElem? (i := 63) (by decide +kernel)) (by decide +kernel)
set_option maxRecDepth 100000 in
theorem ct_X1_packsAhead : Cond.instanceMethod yX1_packsAhead ∈ lw_T := lw_T_mem (List.mem_of_getElem? (i := 226) (by decide +kernel)) (by decide +kernel)
set_option maxRecDepth 100000 in
theorem cs_X1_packsAhead : Cond.selects yX1_packsAhead.cls yX1_packsAhead yX1_packsAhead ∈ lw_T := lw_T_mem (List.mem_of_getElem? (i := 227) (by decide +kernel)) (by decide +kernel)
set_option maxRecDepth 100000 in
theorem mw_X4_262 : Cond.methodLink RX4 262 yX1_packsAhead ∈ lw_T := lw_T_mem (List.mem_of_getElem? (i := 225) (by decide +kernel)) (by decide +kernel)
theorem ci_X4_262 : CI RX4 262 yX1_packsAhead cX1_packsAhead 2 (some .boolean) 1 := ⟨mw_X4_262, cx_X1_packsAhead, cw_X1_packsAhead, by decide, by decide, by decide +kernel⟩
set_option maxRecDepth 100000 in
theorem cw_Jx4a65c_add_7a177 : Cond.code yJx4a65c_add_7a177 cJx4a65c_add_7a177 5 none ∈ lw_T := lw_T_mem (List.mem_of_getElem? (i := 232) (by decide +kernel)) (by decide +kernel)
set_option maxRecDepth 100000 in
theorem cx_Jx4a65c_add_7a177 : Cond.initialized yJx4a65c_add_7a177.cls ∈ lw_T := lw_T_mem (List.mem_of_getElem? (i := 48) (by decide +kernel)) (by decide +kernel)
set_option maxRecDepth 100000 in
theorem ct_Jx4a65c_add_7a177 : Cond.instanceMethod yJx4a65c_add_7a177 ∈ lw_T := lw_T_mem (List.mem_of_getElem? (i := 230) (by decide +kernel)) (by decide +kernel)
set_option maxRecDepth 100000 in
theorem cs_Jx4a65c_add_7a177 : Cond.selects yJx4a65c_add_7a177.cls yJx4a65c_add_7a177 yJx4a65c_add_7a177 ∈ lw_T := lw_T_mem (List.mem_of_getElem? (i := 231) (by decide +kernel)) (by decide +kernel)
set_option maxRecDepth 100000 in
theorem mw_X4_265 : Cond.methodLink RX4 265 yJx4a65c_add_7a177 ∈ lw_T := lw_T_mem (List.mem_of_getElem? (i := 229) (by decide +kernel)) (by decide +kernel)
theorem ci_X4_265 : CI RX4 265 yJx4a65c_add_7a177 cJx4a65c_add_7a177 5 none 2 := ⟨mw_X4_265, cx_Jx4a65c_add_7a177, cw_Jx4a65c_add_7a177, by decide, by decide, by decide +kernel⟩
set_option maxRecDepth 100000 in
theorem cw_J9_min_7cf53 : Cond.code yJ9_min_7cf53 cJ9_min_7cf53 2 (some .int) ∈ lw_T := lw_T_mem (List.mem_of_getElem? (i := 357) (by decide +kernel)) (by decide +kernel)
set_option maxRecDepth 100000 in
theorem cx_J9_min_7cf53 : Cond.initialized yJ9_min_7cf53.cls ∈ lw_T := lw_T_mem (List.mem_of_getElem? (i := 59) (by decide +kernel)) (by decide +kernel)
set_option maxRecDepth 100000 in
theorem ct_J9_min_7cf53 : Cond.static yJ9_min_7cf53 ∈ lw_T := lw_T_mem (List.mem_of_getElem? (i := 356) (by decide +kernel)) (by decide +kernel)
set_option maxRecDepth 100000 in
theorem mw_X4_268 : Cond.methodLink RX4 268 yJ9_min_7cf53 ∈ lw_T := lw_T_mem (List.mem_of_getElem? (i := 1038) (by decide +kernel)) (by decide +kernel)
theorem ci_X4_268 : CI RX4 268 yJ9_min_7cf53 cJ9_min_7cf53 2 (some .int) 2 := ⟨mw_X4_268, cx_J9_min_7cf53, cw_J9_min_7cf53, by decide, by decide, by decide +kernel⟩
set_option maxRecDepth 100000 in
theorem tw_m_X0_3 : Cond.methodLink RX0 3 objectInit ∈ lw_T := lw_T_mem (List.mem_of_getElem? (i := 144) (by decide +kernel)) (by decide +kernel)
set_option maxRecDepth 100000 in
theorem fw_X0_9 : Cond.fieldLink RX0 9 "RackPlanner$Layout" "inCell" "[I" ∈ lw_T := lw_T_mem (List.mem_of_getElem? (i := 149) (by decide +kernel)) (by decide +kernel)
theorem fd_X0_9_3 : FD RX0 9 3 1 := ⟨RX0, TX0, 5, "RackPlanner$Layout", rfl, in_X0, by decide, fw_X0_9, (fun s args x _ h => h)⟩
theorem fp_X0_9_3 : FP RX0 9 3 1 (.array .int) true := ⟨RX0, TX0, 5, "RackPlanner$Layout", tyX0, ⟨rfl, in_X0, by decide, fw_X0_9, (fun s args x _ h => h)⟩, tyX0_ok, nmX0, by decide +kernel, rfl, fun _ => rfl⟩
set_option maxRecDepth 100000 in
theorem fw_X0_15 : Cond.fieldLink RX0 15 "RackPlanner$Layout" "weight" "[I" ∈ lw_T := lw_T_mem (List.mem_of_getElem? (i := 151) (by decide +kernel)) (by decide +kernel)
theorem fd_X0_15_3 : FD RX0 15 3 2 := ⟨RX0, TX0, 5, "RackPlanner$Layout", rfl, in_X0, by decide, fw_X0_15, (fun s args x _ h => h)⟩
theorem fp_X0_15_3 : FP RX0 15 3 2 (.array .int) true := ⟨RX0, TX0, 5, "RackPlanner$Layout", tyX0, ⟨rfl, in_X0, by decide, fw_X0_15, (fun s args x _ h => h)⟩, tyX0_ok, nmX0, by decide +kernel, rfl, fun _ => rfl⟩
set_option maxRecDepth 100000 in
theorem fw_X0_18 : Cond.fieldLink RX0 18 "RackPlanner$Layout" "heat" "[I" ∈ lw_T := lw_T_mem (List.mem_of_getElem? (i := 153) (by decide +kernel)) (by decide +kernel)
theorem fd_X0_18_3 : FD RX0 18 3 3 := ⟨RX0, TX0, 5, "RackPlanner$Layout", rfl, in_X0, by decide, fw_X0_18, (fun s args x _ h => h)⟩
theorem fp_X0_18_3 : FP RX0 18 3 3 (.array .int) true := ⟨RX0, TX0, 5, "RackPlanner$Layout", tyX0, ⟨rfl, in_X0, by decide, fw_X0_18, (fun s args x _ h => h)⟩, tyX0_ok, nmX0, by decide +kernel, rfl, fun _ => rfl⟩
set_option maxRecDepth 100000 in
theorem tk_X0_21 : Cond.classLink RX0 21 "[[I" ∈ lw_T := lw_T_mem (List.mem_of_getElem? (i := 145) (by decide +kernel)) (by decide +kernel)
set_option maxRecDepth 100000 in
theorem fw_X0_23 : Cond.fieldLink RX0 23 "RackPlanner$Layout" "worst" "[[I" ∈ lw_T := lw_T_mem (List.mem_of_getElem? (i := 154) (by decide +kernel)) (by decide +kernel)
theorem fd_X0_23_3 : FD RX0 23 3 4 := ⟨RX0, TX0, 5, "RackPlanner$Layout", rfl, in_X0, by decide, fw_X0_23, (fun s args x _ h => h)⟩
theorem fp_X0_23_3 : FP RX0 23 3 4 (.array (.array .int)) true := ⟨RX0, TX0, 5, "RackPlanner$Layout", tyX0, ⟨rfl, in_X0, by decide, fw_X0_23, (fun s args x _ h => h)⟩, tyX0_ok, nmX0, by decide +kernel, rfl, fun _ => rfl⟩
set_option maxRecDepth 100000 in
theorem fw_X0_26 : Cond.fieldLink RX0 26 "RackPlanner$Layout" "site" "LRackPlanner$Site;" ∈ lw_T := lw_T_mem (List.mem_of_getElem? (i := 148) (by decide +kernel)) (by decide +kernel)
theorem fd_X0_26_3 : FD RX0 26 3 0 := ⟨RX0, TX0, 5, "RackPlanner$Layout", rfl, in_X0, by decide, fw_X0_26, (fun s args x _ h => h)⟩
theorem fp_X0_26_3 : FP RX0 26 3 0 (.object "RackPlanner$Site") true := ⟨RX0, TX0, 5, "RackPlanner$Layout", tyX0, ⟨rfl, in_X0, by decide, fw_X0_26, (fun s args x _ h => h)⟩, tyX0_ok, nmX0, by decide +kernel, rfl, fun _ => rfl⟩
set_option maxRecDepth 100000 in
theorem cw_J7_fill_53178 : Cond.code yJ7_fill_53178 cJ7_fill_53178 4 none ∈ lw_T := lw_T_mem (List.mem_of_getElem? (i := 114) (by decide +kernel)) (by decide +kernel)
set_option maxRecDepth 100000 in
theorem cx_J7_fill_53178 : Cond.initialized yJ7_fill_53178.cls ∈ lw_T := lw_T_mem (List.mem_of_getElem? (i := 49) (by decide +kernel)) (by decide +kernel)
set_option maxRecDepth 100000 in
theorem ct_J7_fill_53178 : Cond.static yJ7_fill_53178 ∈ lw_T := lw_T_mem (List.mem_of_getElem? (i := 113) (by decide +kernel)) (by decide +kernel)
set_option maxRecDepth 100000 in
theorem mw_X0_30 : Cond.methodLink RX0 30 yJ7_fill_53178 ∈ lw_T := lw_T_mem (List.mem_of_getElem? (i := 147) (by decide +kernel)) (by decide +kernel)
theorem ci_X0_30 : CI RX0 30 yJ7_fill_53178 cJ7_fill_53178 4 none 2 := ⟨mw_X0_30, cx_J7_fill_53178, cw_J7_fill_53178, by decide, by decide, by decide +kernel⟩
set_option maxRecDepth 100000 in
theorem fw_X0_42 : Cond.fieldLink RX0 42 "RackPlanner$Machine" "slots" "I" ∈ lw_T := lw_T_mem (List.mem_of_getElem? (i := 816) (by decide +kernel)) (by decide +kernel)
theorem fd_X0_42_4 : FD RX0 42 4 1 := ⟨RX1, TX1, 7, "RackPlanner$Machine", rfl, in_X1, by decide, fw_X0_42, (fun s args x _ h => h)⟩
set_option maxRecDepth 100000 in
theorem fw_X0_48 : Cond.fieldLink RX0 48 "RackPlanner$Machine" "number" "I" ∈ lw_T := lw_T_mem (List.mem_of_getElem? (i := 813) (by decide +kernel)) (by decide +kernel)
theorem fd_X0_48_4 : FD RX0 48 4 0 := ⟨RX1, TX1, 7, "RackPlanner$Machine", rfl, in_X1, by decide, fw_X0_48, (fun s args x _ h => h)⟩
set_option maxRecDepth 100000 in
theorem cw_X0_fillCells : Cond.code yX0_fillCells cX0_fillCells 5 none ∈ lw_T := lw_T_mem (List.mem_of_getElem? (i := 668) (by decide +kernel)) (by decide +kernel)
set_option maxRecDepth 100000 in
theorem cx_X0_fillCells : Cond.initialized yX0_fillCells.cls ∈ lw_T := lw_T_mem (List.mem_of_getElem? (i := 50) (by decide +kernel)) (by decide +kernel)
set_option maxRecDepth 100000 in
theorem ct_X0_fillCells : Cond.instanceMethod yX0_fillCells ∈ lw_T := lw_T_mem (List.mem_of_getElem? (i := 667) (by decide +kernel)) (by decide +kernel)
set_option maxRecDepth 100000 in
theorem cs_X0_fillCells : Cond.selects yX0_fillCells.cls yX0_fillCells yX0_fillCells ∈ lw_T := lw_T_mem (List.mem_of_getElem? (i := 10) (by decide +kernel)) (by decide +kernel)
set_option maxRecDepth 100000 in
theorem mw_X0_51 : Cond.methodLink RX0 51 yX0_fillCells ∈ lw_T := lw_T_mem (List.mem_of_getElem? (i := 665) (by decide +kernel)) (by decide +kernel)
theorem ci_X0_51 : CI RX0 51 yX0_fillCells cX0_fillCells 5 none 3 := ⟨mw_X0_51, cx_X0_fillCells, cw_X0_fillCells, by decide, by decide, by decide +kernel⟩
set_option maxRecDepth 100000 in
theorem mw_X0_55 : Cond.methodLinkNest RX0 55 yX4_rackOfCell "RackPlanner" ∈ lw_T := lw_T_mem (List.mem_of_getElem? (i := 669) (by decide +kernel)) (by decide +kernel)
theorem cn_X0_55 : Cond.methodLinkNest RX0 55 yX4_rackOfCell "RackPlanner" ∈ lw_T ∧ Cond.initialized yX4_rackOfCell.cls ∈ lw_T ∧ Cond.code yX4_rackOfCell cX4_rackOfCell 1 (some .int) ∈ lw_T ∧ (yX4_rackOfCell.cls ≠ "java/lang/invoke/MethodHandle" ∧ yX4_rackOfCell.cls ≠ "java/lang/invoke/VarHandle" ∧ (parseMethodDescriptor yX4_rackOfCell.desc).map (fun d => d.parameters.length) = some 1) := ⟨mw_X0_55, cx_X4_rackOfCell, cw_X4_rackOfCell, by decide, by decide, by decide +kernel⟩
set_option maxRecDepth 100000 in
theorem cw_X0_addLoads : Cond.code yX0_addLoads cX0_addLoads 5 none ∈ lw_T := lw_T_mem (List.mem_of_getElem? (i := 675) (by decide +kernel)) (by decide +kernel)
set_option maxRecDepth 100000 in
theorem cx_X0_addLoads : Cond.initialized yX0_addLoads.cls ∈ lw_T := lw_T_mem (List.mem_of_getElem? (i := 50) (by decide +kernel)) (by decide +kernel)
set_option maxRecDepth 100000 in
theorem ct_X0_addLoads : Cond.instanceMethod yX0_addLoads ∈ lw_T := lw_T_mem (List.mem_of_getElem? (i := 674) (by decide +kernel)) (by decide +kernel)
set_option maxRecDepth 100000 in
theorem cs_X0_addLoads : Cond.selects yX0_addLoads.cls yX0_addLoads yX0_addLoads ∈ lw_T := lw_T_mem (List.mem_of_getElem? (i := 11) (by decide +kernel)) (by decide +kernel)
set_option maxRecDepth 100000 in
theorem mw_X0_59 : Cond.methodLink RX0 59 yX0_addLoads ∈ lw_T := lw_T_mem (List.mem_of_getElem? (i := 672) (by decide +kernel)) (by decide +kernel)
theorem ci_X0_59 : CI RX0 59 yX0_addLoads cX0_addLoads 5 none 3 := ⟨mw_X0_59, cx_X0_addLoads, cw_X0_addLoads, by decide, by decide, by decide +kernel⟩
set_option maxRecDepth 100000 in
theorem fw_X0_63 : Cond.fieldLink RX0 63 "RackPlanner$Machine" "cell" "I" ∈ lw_T := lw_T_mem (List.mem_of_getElem? (i := 827) (by decide +kernel)) (by decide +kernel)
theorem fd_X0_63_4 : FD RX0 63 4 5 := ⟨RX1, TX1, 7, "RackPlanner$Machine", rfl, in_X1, by decide, fw_X0_63, (fun s args x _ h => h)⟩
theorem fp_X0_63_4 : FP RX0 63 4 5 .int false := ⟨RX1, TX1, 7, "RackPlanner$Machine", tyX1, ⟨rfl, in_X1, by decide, fw_X0_63, (fun s args x _ h => h)⟩, tyX1_ok, nmX1, by decide +kernel, rfl, fun h => by cases h⟩
set_option maxRecDepth 100000 in
theorem fw_X0_66 : Cond.fieldLink RX0 66 "RackPlanner$Machine" "weight" "I" ∈ lw_T := lw_T_mem (List.mem_of_getElem? (i := 822) (by decide +kernel)) (by decide +kernel)
theorem fd_X0_66_4 : FD RX0 66 4 3 := ⟨RX1, TX1, 7, "RackPlanner$Machine", rfl, in_X1, by decide, fw_X0_66, (fun s args x _ h => h)⟩
set_option maxRecDepth 100000 in
theorem fw_X0_68 : Cond.fieldLink RX0 68 "RackPlanner$Machine" "power" "I" ∈ lw_T := lw_T_mem (List.mem_of_getElem? (i := 819) (by decide +kernel)) (by decide +kernel)
theorem fd_X0_68_4 : FD RX0 68 4 2 := ⟨RX1, TX1, 7, "RackPlanner$Machine", rfl, in_X1, by decide, fw_X0_68, (fun s args x _ h => h)⟩
set_option maxRecDepth 100000 in
theorem mw_X0_71 : Cond.methodLink RX0 71 yX1_worstOn ∈ lw_T := lw_T_mem (List.mem_of_getElem? (i := 635) (by decide +kernel)) (by decide +kernel)
theorem ci_X0_71 : CI RX0 71 yX1_worstOn cX1_worstOn 2 (some .int) 1 := ⟨mw_X0_71, cx_X1_worstOn, cw_X1_worstOn, by decide, by decide, by decide +kernel⟩
set_option maxRecDepth 100000 in
theorem cw_X1_worstWith : Cond.code yX1_worstWith cX1_worstWith 3 (some .int) ∈ lw_T := lw_T_mem (List.mem_of_getElem? (i := 642) (by decide +kernel)) (by decide +kernel)
set_option maxRecDepth 100000 in
theorem cx_X1_worstWith : Cond.initialized yX1_worstWith.cls ∈ lw_T := lw_T_mem (List.mem_of_getElem? (i := 63) (by decide +kernel)) (by decide +kernel)
set_option maxRecDepth 100000 in
theorem ct_X1_worstWith : Cond.instanceMethod yX1_worstWith ∈ lw_T := lw_T_mem (List.mem_of_getElem? (i := 640) (by decide +kernel)) (by decide +kernel)
set_option maxRecDepth 100000 in
theorem cs_X1_worstWith : Cond.selects yX1_worstWith.cls yX1_worstWith yX1_worstWith ∈ lw_T := lw_T_mem (List.mem_of_getElem? (i := 641) (by decide +kernel)) (by decide +kernel)
set_option maxRecDepth 100000 in
theorem mw_X0_74 : Cond.methodLink RX0 74 yX1_worstWith ∈ lw_T := lw_T_mem (List.mem_of_getElem? (i := 891) (by decide +kernel)) (by decide +kernel)
theorem ci_X0_74 : CI RX0 74 yX1_worstWith cX1_worstWith 3 (some .int) 2 := ⟨mw_X0_74, cx_X1_worstWith, cw_X1_worstWith, by decide, by decide, by decide +kernel⟩
set_option maxRecDepth 100000 in
theorem fw_X0_78 : Cond.fieldLink RX0 78 "RackPlanner$Machine" "cords" "I" ∈ lw_T := lw_T_mem (List.mem_of_getElem? (i := 824) (by decide +kernel)) (by decide +kernel)
theorem fd_X0_78_4 : FD RX0 78 4 4 := ⟨RX1, TX1, 7, "RackPlanner$Machine", rfl, in_X1, by decide, fw_X0_78, (fun s args x _ h => h)⟩
theorem fp_X0_78_4 : FP RX0 78 4 4 .int false := ⟨RX1, TX1, 7, "RackPlanner$Machine", tyX1, ⟨rfl, in_X1, by decide, fw_X0_78, (fun s args x _ h => h)⟩, tyX1_ok, nmX1, by decide +kernel, rfl, fun h => by cases h⟩
set_option maxRecDepth 100000 in
theorem cw_X0_sumInRow : Cond.code yX0_sumInRow cX0_sumInRow 5 (some .int) ∈ lw_T := lw_T_mem (List.mem_of_getElem? (i := 630) (by decide +kernel)) (by decide +kernel)
set_option maxRecDepth 100000 in
theorem cx_X0_sumInRow : Cond.initialized yX0_sumInRow.cls ∈ lw_T := lw_T_mem (List.mem_of_getElem? (i := 50) (by decide +kernel)) (by decide +kernel)
set_option maxRecDepth 100000 in
theorem ct_X0_sumInRow : Cond.instanceMethod yX0_sumInRow ∈ lw_T := lw_T_mem (List.mem_of_getElem? (i := 629) (by decide +kernel)) (by decide +kernel)
set_option maxRecDepth 100000 in
theorem cs_X0_sumInRow : Cond.selects yX0_sumInRow.cls yX0_sumInRow yX0_sumInRow ∈ lw_T := lw_T_mem (List.mem_of_getElem? (i := 7) (by decide +kernel)) (by decide +kernel)
set_option maxRecDepth 100000 in
theorem mw_X0_81 : Cond.methodLink RX0 81 yX0_sumInRow ∈ lw_T := lw_T_mem (List.mem_of_getElem? (i := 627) (by decide +kernel)) (by decide +kernel)
theorem ci_X0_81 : CI RX0 81 yX0_sumInRow cX0_sumInRow 5 (some .int) 2 := ⟨mw_X0_81, cx_X0_sumInRow, cw_X0_sumInRow, by decide, by decide, by decide +kernel⟩
set_option maxRecDepth 100000 in
theorem fw_X0_85 : Cond.fieldLink RX0 85 "RackPlanner$Site" "racks" "Ljava/util/ArrayList;" ∈ lw_T := lw_T_mem (List.mem_of_getElem? (i := 117) (by decide +kernel)) (by decide +kernel)
theorem fd_X0_85_6 : FD RX0 85 6 0 := ⟨RX3, TX3, 4, "RackPlanner$Site", rfl, in_X3, by decide, fw_X0_85, (fun s args x _ h => h)⟩
set_option maxRecDepth 100000 in
theorem mw_X0_91 : Cond.methodLink RX0 91 yJx4a65c_size_8abf5 ∈ lw_T := lw_T_mem (List.mem_of_getElem? (i := 612) (by decide +kernel)) (by decide +kernel)
theorem ci_X0_91 : CI RX0 91 yJx4a65c_size_8abf5 cJx4a65c_size_8abf5 1 (some .int) 0 := ⟨mw_X0_91, cx_Jx4a65c_size_8abf5, cw_Jx4a65c_size_8abf5, by decide, by decide, by decide +kernel⟩
set_option maxRecDepth 100000 in
theorem mw_X0_97 : Cond.methodLink RX0 97 yJx4a65c_get_915e3 ∈ lw_T := lw_T_mem (List.mem_of_getElem? (i := 621) (by decide +kernel)) (by decide +kernel)
theorem ci_X0_97 : CI RX0 97 yJx4a65c_get_915e3 cJx4a65c_get_915e3 2 (some (.object "java/lang/Object")) 1 := ⟨mw_X0_97, cx_Jx4a65c_get_915e3, cw_Jx4a65c_get_915e3, by decide, by decide, by decide +kernel⟩
set_option maxRecDepth 100000 in
theorem tk_X0_101 : Cond.classLink RX0 101 "RackPlanner$Rack" ∈ lw_T := lw_T_mem (List.mem_of_getElem? (i := 622) (by decide +kernel)) (by decide +kernel)
set_option maxRecDepth 100000 in
theorem iw_X0_101 : Cond.instantiable RX2 4 ∈ lw_T := lw_T_mem (List.mem_of_getElem? (i := 720) (by decide +kernel)) (by decide +kernel)
set_option maxRecDepth 100000 in
theorem ix_X0_101 : Cond.initialized RX2 ∈ lw_T := lw_T_mem (List.mem_of_getElem? (i := 57) (by decide +kernel)) (by decide +kernel)
theorem fn_X0_101 : FN RX0 101 5 4 [.int 0, .int 0, .int 0, .int 0] := ⟨RX2, TX2, tyX2, rfl, in_X2, tyX2_ok, tk_X0_101, iw_X0_101, ix_X0_101, by intro j hj; rcases (show j = 0 ∨ j = 1 ∨ j = 2 ∨ j = 3 by omega) with rfl | rfl | rfl | rfl <;> rfl⟩
set_option maxRecDepth 100000 in
theorem fw_X0_103 : Cond.fieldLink RX0 103 "RackPlanner$Rack" "row" "I" ∈ lw_T := lw_T_mem (List.mem_of_getElem? (i := 726) (by decide +kernel)) (by decide +kernel)
theorem fd_X0_103_5 : FD RX0 103 5 0 := ⟨RX2, TX2, 4, "RackPlanner$Rack", rfl, in_X2, by decide, fw_X0_103, (fun s args x _ h => h)⟩
set_option maxRecDepth 100000 in
theorem mw_X0_106 : Cond.methodLink RX0 106 yX0_fitIn ∈ lw_T := lw_T_mem (List.mem_of_getElem? (i := 613) (by decide +kernel)) (by decide +kernel)
theorem ci_X0_106 : CI RX0 106 yX0_fitIn cX0_fitIn 3 (some .int) 2 := ⟨mw_X0_106, cx_X0_fitIn, cw_X0_fitIn, by decide, by decide, by decide +kernel⟩
set_option maxRecDepth 100000 in
theorem cw_X0_bears : Cond.code yX0_bears cX0_bears 5 (some .boolean) ∈ lw_T := lw_T_mem (List.mem_of_getElem? (i := 620) (by decide +kernel)) (by decide +kernel)
set_option maxRecDepth 100000 in
theorem cx_X0_bears : Cond.initialized yX0_bears.cls ∈ lw_T := lw_T_mem (List.mem_of_getElem? (i := 50) (by decide +kernel)) (by decide +kernel)
set_option maxRecDepth 100000 in
theorem ct_X0_bears : Cond.instanceMethod yX0_bears ∈ lw_T := lw_T_mem (List.mem_of_getElem? (i := 619) (by decide +kernel)) (by decide +kernel)
set_option maxRecDepth 100000 in
theorem cs_X0_bears : Cond.selects yX0_bears.cls yX0_bears yX0_bears ∈ lw_T := lw_T_mem (List.mem_of_getElem? (i := 6) (by decide +kernel)) (by decide +kernel)
set_option maxRecDepth 100000 in
theorem mw_X0_110 : Cond.methodLink RX0 110 yX0_bears ∈ lw_T := lw_T_mem (List.mem_of_getElem? (i := 617) (by decide +kernel)) (by decide +kernel)
theorem ci_X0_110 : CI RX0 110 yX0_bears cX0_bears 5 (some .boolean) 2 := ⟨mw_X0_110, cx_X0_bears, cw_X0_bears, by decide, by decide, by decide +kernel⟩
set_option maxRecDepth 100000 in
theorem cw_X0_lowestFree : Cond.code yX0_lowestFree cX0_lowestFree 5 (some .int) ∈ lw_T := lw_T_mem (List.mem_of_getElem? (i := 657) (by decide +kernel)) (by decide +kernel)
set_option maxRecDepth 100000 in
theorem cx_X0_lowestFree : Cond.initialized yX0_lowestFree.cls ∈ lw_T := lw_T_mem (List.mem_of_getElem? (i := 50) (by decide +kernel)) (by decide +kernel)
set_option maxRecDepth 100000 in
theorem ct_X0_lowestFree : Cond.instanceMethod yX0_lowestFree ∈ lw_T := lw_T_mem (List.mem_of_getElem? (i := 656) (by decide +kernel)) (by decide +kernel)
set_option maxRecDepth 100000 in
theorem cs_X0_lowestFree : Cond.selects yX0_lowestFree.cls yX0_lowestFree yX0_lowestFree ∈ lw_T := lw_T_mem (List.mem_of_getElem? (i := 9) (by decide +kernel)) (by decide +kernel)
set_option maxRecDepth 100000 in
theorem mw_X0_114 : Cond.methodLink RX0 114 yX0_lowestFree ∈ lw_T := lw_T_mem (List.mem_of_getElem? (i := 654) (by decide +kernel)) (by decide +kernel)
theorem ci_X0_114 : CI RX0 114 yX0_lowestFree cX0_lowestFree 5 (some .int) 2 := ⟨mw_X0_114, cx_X0_lowestFree, cw_X0_lowestFree, by decide, by decide, by decide +kernel⟩
set_option maxRecDepth 100000 in
theorem mw_X0_117 : Cond.methodLink RX0 117 yX0_put ∈ lw_T := lw_T_mem (List.mem_of_getElem? (i := 1015) (by decide +kernel)) (by decide +kernel)
theorem ci_X0_117 : CI RX0 117 yX0_put cX0_put 3 none 2 := ⟨mw_X0_117, cx_X0_put, cw_X0_put, by decide, by decide, by decide +kernel⟩
set_option maxRecDepth 100000 in
theorem fw_X0_121 : Cond.fieldLink RX0 121 "RackPlanner$Rack" "weightLimit" "I" ∈ lw_T := lw_T_mem (List.mem_of_getElem? (i := 732) (by decide +kernel)) (by decide +kernel)
theorem fd_X0_121_5 : FD RX0 121 5 2 := ⟨RX2, TX2, 4, "RackPlanner$Rack", rfl, in_X2, by decide, fw_X0_121, (fun s args x _ h => h)⟩
set_option maxRecDepth 100000 in
theorem mw_X0_124 : Cond.methodLink RX0 124 yX0_weightInRow ∈ lw_T := lw_T_mem (List.mem_of_getElem? (i := 623) (by decide +kernel)) (by decide +kernel)
theorem ci_X0_124 : CI RX0 124 yX0_weightInRow cX0_weightInRow 2 (some .int) 1 := ⟨mw_X0_124, cx_X0_weightInRow, cw_X0_weightInRow, by decide, by decide, by decide +kernel⟩
set_option maxRecDepth 100000 in
theorem fw_X0_127 : Cond.fieldLink RX0 127 "RackPlanner$Site" "rowWeight" "[I" ∈ lw_T := lw_T_mem (List.mem_of_getElem? (i := 123) (by decide +kernel)) (by decide +kernel)
theorem fd_X0_127_6 : FD RX0 127 6 2 := ⟨RX3, TX3, 4, "RackPlanner$Site", rfl, in_X3, by decide, fw_X0_127, (fun s args x _ h => h)⟩
set_option maxRecDepth 100000 in
theorem mw_X0_130 : Cond.methodLink RX0 130 yX0_heatInRow ∈ lw_T := lw_T_mem (List.mem_of_getElem? (i := 631) (by decide +kernel)) (by decide +kernel)
theorem ci_X0_130 : CI RX0 130 yX0_heatInRow cX0_heatInRow 2 (some .int) 1 := ⟨mw_X0_130, cx_X0_heatInRow, cw_X0_heatInRow, by decide, by decide, by decide +kernel⟩
set_option maxRecDepth 100000 in
theorem fw_X0_133 : Cond.fieldLink RX0 133 "RackPlanner$Site" "rowHeat" "[I" ∈ lw_T := lw_T_mem (List.mem_of_getElem? (i := 120) (by decide +kernel)) (by decide +kernel)
theorem fd_X0_133_6 : FD RX0 133 6 1 := ⟨RX3, TX3, 4, "RackPlanner$Site", rfl, in_X3, by decide, fw_X0_133, (fun s args x _ h => h)⟩
set_option maxRecDepth 100000 in
theorem cw_X0_bearsMore : Cond.code yX0_bearsMore cX0_bearsMore 4 (some .boolean) ∈ lw_T := lw_T_mem (List.mem_of_getElem? (i := 649) (by decide +kernel)) (by decide +kernel)
set_option maxRecDepth 100000 in
theorem cx_X0_bearsMore : Cond.initialized yX0_bearsMore.cls ∈ lw_T := lw_T_mem (List.mem_of_getElem? (i := 50) (by decide +kernel)) (by decide +kernel)
set_option maxRecDepth 100000 in
theorem ct_X0_bearsMore : Cond.instanceMethod yX0_bearsMore ∈ lw_T := lw_T_mem (List.mem_of_getElem? (i := 648) (by decide +kernel)) (by decide +kernel)
set_option maxRecDepth 100000 in
theorem cs_X0_bearsMore : Cond.selects yX0_bearsMore.cls yX0_bearsMore yX0_bearsMore ∈ lw_T := lw_T_mem (List.mem_of_getElem? (i := 8) (by decide +kernel)) (by decide +kernel)
set_option maxRecDepth 100000 in
theorem mw_X0_136 : Cond.methodLink RX0 136 yX0_bearsMore ∈ lw_T := lw_T_mem (List.mem_of_getElem? (i := 646) (by decide +kernel)) (by decide +kernel)
theorem ci_X0_136 : CI RX0 136 yX0_bearsMore cX0_bearsMore 4 (some .boolean) 3 := ⟨mw_X0_136, cx_X0_bearsMore, cw_X0_bearsMore, by decide, by decide, by decide +kernel⟩
set_option maxRecDepth 100000 in
theorem fw_X0_140 : Cond.fieldLink RX0 140 "RackPlanner$Rack" "powerLimit" "I" ∈ lw_T := lw_T_mem (List.mem_of_getElem? (i := 734) (by decide +kernel)) (by decide +kernel)
theorem fd_X0_140_5 : FD RX0 140 5 3 := ⟨RX2, TX2, 4, "RackPlanner$Rack", rfl, in_X2, by decide, fw_X0_140, (fun s args x _ h => h)⟩
set_option maxRecDepth 100000 in
theorem mw_X0_143 : Cond.methodLink RX0 143 yX0_worstOnFeed ∈ lw_T := lw_T_mem (List.mem_of_getElem? (i := 650) (by decide +kernel)) (by decide +kernel)
theorem ci_X0_143 : CI RX0 143 yX0_worstOnFeed cX0_worstOnFeed 4 (some .int) 1 := ⟨mw_X0_143, cx_X0_worstOnFeed, cw_X0_worstOnFeed, by decide, by decide, by decide +kernel⟩
set_option maxRecDepth 100000 in
theorem fw_X0_146 : Cond.fieldLink RX0 146 "RackPlanner$Site" "feedPower" "[I" ∈ lw_T := lw_T_mem (List.mem_of_getElem? (i := 126) (by decide +kernel)) (by decide +kernel)
theorem fd_X0_146_6 : FD RX0 146 6 3 := ⟨RX3, TX3, 4, "RackPlanner$Site", rfl, in_X3, by decide, fw_X0_146, (fun s args x _ h => h)⟩
set_option maxRecDepth 100000 in
theorem fw_X0_149 : Cond.fieldLink RX0 149 "RackPlanner$Rack" "slots" "I" ∈ lw_T := lw_T_mem (List.mem_of_getElem? (i := 730) (by decide +kernel)) (by decide +kernel)
theorem fd_X0_149_5 : FD RX0 149 5 1 := ⟨RX2, TX2, 4, "RackPlanner$Rack", rfl, in_X2, by decide, fw_X0_149, (fun s args x _ h => h)⟩
set_option maxRecDepth 100000 in
theorem mw_X0_150 : Cond.methodLinkNest RX0 150 yX4_cellAt "RackPlanner" ∈ lw_T := lw_T_mem (List.mem_of_getElem? (i := 658) (by decide +kernel)) (by decide +kernel)
theorem cn_X0_150 : Cond.methodLinkNest RX0 150 yX4_cellAt "RackPlanner" ∈ lw_T ∧ Cond.initialized yX4_cellAt.cls ∈ lw_T ∧ Cond.code yX4_cellAt cX4_cellAt 2 (some .int) ∈ lw_T ∧ (yX4_cellAt.cls ≠ "java/lang/invoke/MethodHandle" ∧ yX4_cellAt.cls ≠ "java/lang/invoke/VarHandle" ∧ (parseMethodDescriptor yX4_cellAt.desc).map (fun d => d.parameters.length) = some 2) := ⟨mw_X0_150, cx_X4_cellAt, cw_X4_cellAt, by decide, by decide, by decide +kernel⟩
set_option maxRecDepth 100000 in
theorem cw_J9_max_7cf53 : Cond.code yJ9_max_7cf53 cJ9_max_7cf53 2 (some .int) ∈ lw_T := lw_T_mem (List.mem_of_getElem? (i := 339) (by decide +kernel)) (by decide +kernel)
set_option maxRecDepth 100000 in
theorem cx_J9_max_7cf53 : Cond.initialized yJ9_max_7cf53.cls ∈ lw_T := lw_T_mem (List.mem_of_getElem? (i := 59) (by decide +kernel)) (by decide +kernel)
set_option maxRecDepth 100000 in
theorem ct_J9_max_7cf53 : Cond.static yJ9_max_7cf53 ∈ lw_T := lw_T_mem (List.mem_of_getElem? (i := 338) (by decide +kernel)) (by decide +kernel)
set_option maxRecDepth 100000 in
theorem mw_X0_153 : Cond.methodLink RX0 153 yJ9_max_7cf53 ∈ lw_T := lw_T_mem (List.mem_of_getElem? (i := 990) (by decide +kernel)) (by decide +kernel)
theorem ci_X0_153 : CI RX0 153 yJ9_max_7cf53 cJ9_max_7cf53 2 (some .int) 2 := ⟨mw_X0_153, cx_J9_max_7cf53, cw_J9_max_7cf53, by decide, by decide, by decide +kernel⟩
set_option maxRecDepth 100000 in
theorem cw_X0_countForRack : Cond.code yX0_countForRack cX0_countForRack 6 (some .int) ∈ lw_T := lw_T_mem (List.mem_of_getElem? (i := 1030) (by decide +kernel)) (by decide +kernel)
set_option maxRecDepth 100000 in
theorem cx_X0_countForRack : Cond.initialized yX0_countForRack.cls ∈ lw_T := lw_T_mem (List.mem_of_getElem? (i := 50) (by decide +kernel)) (by decide +kernel)
set_option maxRecDepth 100000 in
theorem ct_X0_countForRack : Cond.instanceMethod yX0_countForRack ∈ lw_T := lw_T_mem (List.mem_of_getElem? (i := 1029) (by decide +kernel)) (by decide +kernel)
set_option maxRecDepth 100000 in
theorem cs_X0_countForRack : Cond.selects yX0_countForRack.cls yX0_countForRack yX0_countForRack ∈ lw_T := lw_T_mem (List.mem_of_getElem? (i := 23) (by decide +kernel)) (by decide +kernel)
set_option maxRecDepth 100000 in
theorem mw_X0_158 : Cond.methodLink RX0 158 yX0_countForRack ∈ lw_T := lw_T_mem (List.mem_of_getElem? (i := 1027) (by decide +kernel)) (by decide +kernel)
theorem ci_X0_158 : CI RX0 158 yX0_countForRack cX0_countForRack 6 (some .int) 2 := ⟨mw_X0_158, cx_X0_countForRack, cw_X0_countForRack, by decide, by decide, by decide +kernel⟩
set_option maxRecDepth 100000 in
theorem mw_X0_161 : Cond.methodLinkNest RX0 161 yX4_atMost "RackPlanner" ∈ lw_T := lw_T_mem (List.mem_of_getElem? (i := 1035) (by decide +kernel)) (by decide +kernel)
theorem cn_X0_161 : Cond.methodLinkNest RX0 161 yX4_atMost "RackPlanner" ∈ lw_T ∧ Cond.initialized yX4_atMost.cls ∈ lw_T ∧ Cond.code yX4_atMost cX4_atMost 3 (some .int) ∈ lw_T ∧ (yX4_atMost.cls ≠ "java/lang/invoke/MethodHandle" ∧ yX4_atMost.cls ≠ "java/lang/invoke/VarHandle" ∧ (parseMethodDescriptor yX4_atMost.desc).map (fun d => d.parameters.length) = some 3) := ⟨mw_X0_161, cx_X4_atMost, cw_X4_atMost, by decide, by decide, by decide +kernel⟩
set_option maxRecDepth 100000 in
theorem cw_X0_countBySlots : Cond.code yX0_countBySlots cX0_countBySlots 6 (some .int) ∈ lw_T := lw_T_mem (List.mem_of_getElem? (i := 1034) (by decide +kernel)) (by decide +kernel)
set_option maxRecDepth 100000 in
theorem cx_X0_countBySlots : Cond.initialized yX0_countBySlots.cls ∈ lw_T := lw_T_mem (List.mem_of_getElem? (i := 50) (by decide +kernel)) (by decide +kernel)
set_option maxRecDepth 100000 in
theorem ct_X0_countBySlots : Cond.instanceMethod yX0_countBySlots ∈ lw_T := lw_T_mem (List.mem_of_getElem? (i := 1033) (by decide +kernel)) (by decide +kernel)
set_option maxRecDepth 100000 in
theorem cs_X0_countBySlots : Cond.selects yX0_countBySlots.cls yX0_countBySlots yX0_countBySlots ∈ lw_T := lw_T_mem (List.mem_of_getElem? (i := 24) (by decide +kernel)) (by decide +kernel)
set_option maxRecDepth 100000 in
theorem mw_X0_165 : Cond.methodLink RX0 165 yX0_countBySlots ∈ lw_T := lw_T_mem (List.mem_of_getElem? (i := 1031) (by decide +kernel)) (by decide +kernel)
theorem ci_X0_165 : CI RX0 165 yX0_countBySlots cX0_countBySlots 6 (some .int) 2 := ⟨mw_X0_165, cx_X0_countBySlots, cw_X0_countBySlots, by decide, by decide, by decide +kernel⟩
set_option maxRecDepth 100000 in
theorem tw_m_X1_3 : Cond.methodLink RX1 3 objectInit ∈ lw_T := lw_T_mem (List.mem_of_getElem? (i := 811) (by decide +kernel)) (by decide +kernel)
set_option maxRecDepth 100000 in
theorem fw_X1_9 : Cond.fieldLink RX1 9 "RackPlanner$Machine" "number" "I" ∈ lw_T := lw_T_mem (List.mem_of_getElem? (i := 812) (by decide +kernel)) (by decide +kernel)
theorem fd_X1_9_4 : FD RX1 9 4 0 := ⟨RX1, TX1, 7, "RackPlanner$Machine", rfl, in_X1, by decide, fw_X1_9, (fun s args x _ h => h)⟩
theorem fp_X1_9_4 : FP RX1 9 4 0 .int true := ⟨RX1, TX1, 7, "RackPlanner$Machine", tyX1, ⟨rfl, in_X1, by decide, fw_X1_9, (fun s args x _ h => h)⟩, tyX1_ok, nmX1, by decide +kernel, rfl, fun _ => rfl⟩
set_option maxRecDepth 100000 in
theorem fw_X1_15 : Cond.fieldLink RX1 15 "RackPlanner$Machine" "slots" "I" ∈ lw_T := lw_T_mem (List.mem_of_getElem? (i := 815) (by decide +kernel)) (by decide +kernel)
theorem fd_X1_15_4 : FD RX1 15 4 1 := ⟨RX1, TX1, 7, "RackPlanner$Machine", rfl, in_X1, by decide, fw_X1_15, (fun s args x _ h => h)⟩
theorem fp_X1_15_4 : FP RX1 15 4 1 .int true := ⟨RX1, TX1, 7, "RackPlanner$Machine", tyX1, ⟨rfl, in_X1, by decide, fw_X1_15, (fun s args x _ h => h)⟩, tyX1_ok, nmX1, by decide +kernel, rfl, fun _ => rfl⟩
set_option maxRecDepth 100000 in
theorem fw_X1_18 : Cond.fieldLink RX1 18 "RackPlanner$Machine" "power" "I" ∈ lw_T := lw_T_mem (List.mem_of_getElem? (i := 818) (by decide +kernel)) (by decide +kernel)
theorem fd_X1_18_4 : FD RX1 18 4 2 := ⟨RX1, TX1, 7, "RackPlanner$Machine", rfl, in_X1, by decide, fw_X1_18, (fun s args x _ h => h)⟩
theorem fp_X1_18_4 : FP RX1 18 4 2 .int true := ⟨RX1, TX1, 7, "RackPlanner$Machine", tyX1, ⟨rfl, in_X1, by decide, fw_X1_18, (fun s args x _ h => h)⟩, tyX1_ok, nmX1, by decide +kernel, rfl, fun _ => rfl⟩
set_option maxRecDepth 100000 in
theorem fw_X1_21 : Cond.fieldLink RX1 21 "RackPlanner$Machine" "weight" "I" ∈ lw_T := lw_T_mem (List.mem_of_getElem? (i := 821) (by decide +kernel)) (by decide +kernel)
theorem fd_X1_21_4 : FD RX1 21 4 3 := ⟨RX1, TX1, 7, "RackPlanner$Machine", rfl, in_X1, by decide, fw_X1_21, (fun s args x _ h => h)⟩
theorem fp_X1_21_4 : FP RX1 21 4 3 .int true := ⟨RX1, TX1, 7, "RackPlanner$Machine", tyX1, ⟨rfl, in_X1, by decide, fw_X1_21, (fun s args x _ h => h)⟩, tyX1_ok, nmX1, by decide +kernel, rfl, fun _ => rfl⟩
set_option maxRecDepth 100000 in
theorem fw_X1_24 : Cond.fieldLink RX1 24 "RackPlanner$Machine" "cords" "I" ∈ lw_T := lw_T_mem (List.mem_of_getElem? (i := 823) (by decide +kernel)) (by decide +kernel)
theorem fd_X1_24_4 : FD RX1 24 4 4 := ⟨RX1, TX1, 7, "RackPlanner$Machine", rfl, in_X1, by decide, fw_X1_24, (fun s args x _ h => h)⟩
theorem fp_X1_24_4 : FP RX1 24 4 4 .int false := ⟨RX1, TX1, 7, "RackPlanner$Machine", tyX1, ⟨rfl, in_X1, by decide, fw_X1_24, (fun s args x _ h => h)⟩, tyX1_ok, nmX1, by decide +kernel, rfl, fun h => by cases h⟩
set_option maxRecDepth 100000 in
theorem fw_X1_27 : Cond.fieldLink RX1 27 "RackPlanner$Machine" "cell" "I" ∈ lw_T := lw_T_mem (List.mem_of_getElem? (i := 826) (by decide +kernel)) (by decide +kernel)
theorem fd_X1_27_4 : FD RX1 27 4 5 := ⟨RX1, TX1, 7, "RackPlanner$Machine", rfl, in_X1, by decide, fw_X1_27, (fun s args x _ h => h)⟩
theorem fp_X1_27_4 : FP RX1 27 4 5 .int false := ⟨RX1, TX1, 7, "RackPlanner$Machine", tyX1, ⟨rfl, in_X1, by decide, fw_X1_27, (fun s args x _ h => h)⟩, tyX1_ok, nmX1, by decide +kernel, rfl, fun h => by cases h⟩
set_option maxRecDepth 100000 in
theorem fw_X1_30 : Cond.fieldLink RX1 30 "RackPlanner$Machine" "packedCell" "I" ∈ lw_T := lw_T_mem (List.mem_of_getElem? (i := 829) (by decide +kernel)) (by decide +kernel)
theorem fd_X1_30_4 : FD RX1 30 4 6 := ⟨RX1, TX1, 7, "RackPlanner$Machine", rfl, in_X1, by decide, fw_X1_30, (fun s args x _ h => h)⟩
theorem fp_X1_30_4 : FP RX1 30 4 6 .int false := ⟨RX1, TX1, 7, "RackPlanner$Machine", tyX1, ⟨rfl, in_X1, by decide, fw_X1_30, (fun s args x _ h => h)⟩, tyX1_ok, nmX1, by decide +kernel, rfl, fun h => by cases h⟩
set_option maxRecDepth 100000 in
theorem cw_X1_leadTo : Cond.code yX1_leadTo cX1_leadTo 2 (some .boolean) ∈ lw_T := lw_T_mem (List.mem_of_getElem? (i := 645) (by decide +kernel)) (by decide +kernel)
set_option maxRecDepth 100000 in
theorem cx_X1_leadTo : Cond.initialized yX1_leadTo.cls ∈ lw_T := lw_T_mem (List.mem_of_getElem? (i := 63) (by decide +kernel)) (by decide +kernel)
set_option maxRecDepth 100000 in
theorem ct_X1_leadTo : Cond.static yX1_leadTo ∈ lw_T := lw_T_mem (List.mem_of_getElem? (i := 644) (by decide +kernel)) (by decide +kernel)
set_option maxRecDepth 100000 in
theorem mw_X1_33 : Cond.methodLink RX1 33 yX1_leadTo ∈ lw_T := lw_T_mem (List.mem_of_getElem? (i := 643) (by decide +kernel)) (by decide +kernel)
theorem ci_X1_33 : CI RX1 33 yX1_leadTo cX1_leadTo 2 (some .boolean) 2 := ⟨mw_X1_33, cx_X1_leadTo, cw_X1_leadTo, by decide, by decide, by decide +kernel⟩
set_option maxRecDepth 100000 in
theorem mw_X1_37 : Cond.methodLink RX1 37 yX1_worstWith ∈ lw_T := lw_T_mem (List.mem_of_getElem? (i := 639) (by decide +kernel)) (by decide +kernel)
theorem ci_X1_37 : CI RX1 37 yX1_worstWith cX1_worstWith 3 (some .int) 2 := ⟨mw_X1_37, cx_X1_worstWith, cw_X1_worstWith, by decide, by decide, by decide +kernel⟩
set_option maxRecDepth 100000 in
theorem tw_m_X2_1 : Cond.methodLink RX2 1 objectInit ∈ lw_T := lw_T_mem (List.mem_of_getElem? (i := 724) (by decide +kernel)) (by decide +kernel)
set_option maxRecDepth 100000 in
theorem fw_X2_7 : Cond.fieldLink RX2 7 "RackPlanner$Rack" "row" "I" ∈ lw_T := lw_T_mem (List.mem_of_getElem? (i := 725) (by decide +kernel)) (by decide +kernel)
theorem fd_X2_7_5 : FD RX2 7 5 0 := ⟨RX2, TX2, 4, "RackPlanner$Rack", rfl, in_X2, by decide, fw_X2_7, (fun s args x _ h => h)⟩
theorem fp_X2_7_5 : FP RX2 7 5 0 .int true := ⟨RX2, TX2, 4, "RackPlanner$Rack", tyX2, ⟨rfl, in_X2, by decide, fw_X2_7, (fun s args x _ h => h)⟩, tyX2_ok, nmX2, by decide +kernel, rfl, fun _ => rfl⟩
set_option maxRecDepth 100000 in
theorem fw_X2_13 : Cond.fieldLink RX2 13 "RackPlanner$Rack" "slots" "I" ∈ lw_T := lw_T_mem (List.mem_of_getElem? (i := 728) (by decide +kernel)) (by decide +kernel)
theorem fd_X2_13_5 : FD RX2 13 5 1 := ⟨RX2, TX2, 4, "RackPlanner$Rack", rfl, in_X2, by decide, fw_X2_13, (fun s args x _ h => h)⟩
theorem fp_X2_13_5 : FP RX2 13 5 1 .int true := ⟨RX2, TX2, 4, "RackPlanner$Rack", tyX2, ⟨rfl, in_X2, by decide, fw_X2_13, (fun s args x _ h => h)⟩, tyX2_ok, nmX2, by decide +kernel, rfl, fun _ => rfl⟩
set_option maxRecDepth 100000 in
theorem fw_X2_16 : Cond.fieldLink RX2 16 "RackPlanner$Rack" "weightLimit" "I" ∈ lw_T := lw_T_mem (List.mem_of_getElem? (i := 731) (by decide +kernel)) (by decide +kernel)
theorem fd_X2_16_5 : FD RX2 16 5 2 := ⟨RX2, TX2, 4, "RackPlanner$Rack", rfl, in_X2, by decide, fw_X2_16, (fun s args x _ h => h)⟩
theorem fp_X2_16_5 : FP RX2 16 5 2 .int true := ⟨RX2, TX2, 4, "RackPlanner$Rack", tyX2, ⟨rfl, in_X2, by decide, fw_X2_16, (fun s args x _ h => h)⟩, tyX2_ok, nmX2, by decide +kernel, rfl, fun _ => rfl⟩
set_option maxRecDepth 100000 in
theorem fw_X2_19 : Cond.fieldLink RX2 19 "RackPlanner$Rack" "powerLimit" "I" ∈ lw_T := lw_T_mem (List.mem_of_getElem? (i := 733) (by decide +kernel)) (by decide +kernel)
theorem fd_X2_19_5 : FD RX2 19 5 3 := ⟨RX2, TX2, 4, "RackPlanner$Rack", rfl, in_X2, by decide, fw_X2_19, (fun s args x _ h => h)⟩
theorem fp_X2_19_5 : FP RX2 19 5 3 .int true := ⟨RX2, TX2, 4, "RackPlanner$Rack", tyX2, ⟨rfl, in_X2, by decide, fw_X2_19, (fun s args x _ h => h)⟩, tyX2_ok, nmX2, by decide +kernel, rfl, fun _ => rfl⟩
set_option maxRecDepth 100000 in
theorem tw_m_X3_3 : Cond.methodLink RX3 3 objectInit ∈ lw_T := lw_T_mem (List.mem_of_getElem? (i := 85) (by decide +kernel)) (by decide +kernel)
set_option maxRecDepth 100000 in
theorem tk_X3_9 : Cond.classLink RX3 9 "java/util/ArrayList" ∈ lw_T := lw_T_mem (List.mem_of_getElem? (i := 86) (by decide +kernel)) (by decide +kernel)
set_option maxRecDepth 100000 in
theorem iw_X3_9 : Cond.instantiable RJx4a65c 3 ∈ lw_T := lw_T_mem (List.mem_of_getElem? (i := 87) (by decide +kernel)) (by decide +kernel)
set_option maxRecDepth 100000 in
theorem ix_X3_9 : Cond.initialized RJx4a65c ∈ lw_T := lw_T_mem (List.mem_of_getElem? (i := 48) (by decide +kernel)) (by decide +kernel)
theorem fn_X3_9 : FN RX3 9 2 3 [.int 0, .null, .int 0] := ⟨RJx4a65c, TJx4a65c, tyJx4a65c, rfl, in_Jx4a65c, tyJx4a65c_ok, tk_X3_9, iw_X3_9, ix_X3_9, by intro j hj; rcases (show j = 0 ∨ j = 1 ∨ j = 2 by omega) with rfl | rfl | rfl <;> rfl⟩
set_option maxRecDepth 100000 in
theorem mw_X3_11 : Cond.methodLink RX3 11 yJx4a65c_init_da8c8 ∈ lw_T := lw_T_mem (List.mem_of_getElem? (i := 88) (by decide +kernel)) (by decide +kernel)
theorem ci_X3_11 : CI RX3 11 yJx4a65c_init_da8c8 cJx4a65c_init_da8c8 1 none 0 := ⟨mw_X3_11, cx_Jx4a65c_init_da8c8, cw_Jx4a65c_init_da8c8, by decide, by decide, by decide +kernel⟩
set_option maxRecDepth 100000 in
theorem fw_X3_12 : Cond.fieldLink RX3 12 "RackPlanner$Site" "racks" "Ljava/util/ArrayList;" ∈ lw_T := lw_T_mem (List.mem_of_getElem? (i := 115) (by decide +kernel)) (by decide +kernel)
theorem fd_X3_12_6 : FD RX3 12 6 0 := ⟨RX3, TX3, 4, "RackPlanner$Site", rfl, in_X3, by decide, fw_X3_12, (fun s args x _ h => h)⟩
theorem fp_X3_12_6 : FP RX3 12 6 0 (.object "java/util/ArrayList") true := ⟨RX3, TX3, 4, "RackPlanner$Site", tyX3, ⟨rfl, in_X3, by decide, fw_X3_12, (fun s args x _ h => h)⟩, tyX3_ok, nmX3, by decide +kernel, rfl, fun _ => rfl⟩
set_option maxRecDepth 100000 in
theorem fw_X3_18 : Cond.fieldLink RX3 18 "RackPlanner$Site" "rowHeat" "[I" ∈ lw_T := lw_T_mem (List.mem_of_getElem? (i := 118) (by decide +kernel)) (by decide +kernel)
theorem fd_X3_18_6 : FD RX3 18 6 1 := ⟨RX3, TX3, 4, "RackPlanner$Site", rfl, in_X3, by decide, fw_X3_18, (fun s args x _ h => h)⟩
theorem fp_X3_18_6 : FP RX3 18 6 1 (.array .int) true := ⟨RX3, TX3, 4, "RackPlanner$Site", tyX3, ⟨rfl, in_X3, by decide, fw_X3_18, (fun s args x _ h => h)⟩, tyX3_ok, nmX3, by decide +kernel, rfl, fun _ => rfl⟩
set_option maxRecDepth 100000 in
theorem fw_X3_22 : Cond.fieldLink RX3 22 "RackPlanner$Site" "rowWeight" "[I" ∈ lw_T := lw_T_mem (List.mem_of_getElem? (i := 121) (by decide +kernel)) (by decide +kernel)
theorem fd_X3_22_6 : FD RX3 22 6 2 := ⟨RX3, TX3, 4, "RackPlanner$Site", rfl, in_X3, by decide, fw_X3_22, (fun s args x _ h => h)⟩
theorem fp_X3_22_6 : FP RX3 22 6 2 (.array .int) true := ⟨RX3, TX3, 4, "RackPlanner$Site", tyX3, ⟨rfl, in_X3, by decide, fw_X3_22, (fun s args x _ h => h)⟩, tyX3_ok, nmX3, by decide +kernel, rfl, fun _ => rfl⟩
set_option maxRecDepth 100000 in
theorem fw_X3_25 : Cond.fieldLink RX3 25 "RackPlanner$Site" "feedPower" "[I" ∈ lw_T := lw_T_mem (List.mem_of_getElem? (i := 124) (by decide +kernel)) (by decide +kernel)
theorem fd_X3_25_6 : FD RX3 25 6 3 := ⟨RX3, TX3, 4, "RackPlanner$Site", rfl, in_X3, by decide, fw_X3_25, (fun s args x _ h => h)⟩
theorem fp_X3_25_6 : FP RX3 25 6 3 (.array .int) true := ⟨RX3, TX3, 4, "RackPlanner$Site", tyX3, ⟨rfl, in_X3, by decide, fw_X3_25, (fun s args x _ h => h)⟩, tyX3_ok, nmX3, by decide +kernel, rfl, fun _ => rfl⟩
set_option maxRecDepth 100000 in
theorem mw_X3_28 : Cond.methodLink RX3 28 yJ7_fill_53178 ∈ lw_T := lw_T_mem (List.mem_of_getElem? (i := 112) (by decide +kernel)) (by decide +kernel)
theorem ci_X3_28 : CI RX3 28 yJ7_fill_53178 cJ7_fill_53178 4 none 2 := ⟨mw_X3_28, cx_J7_fill_53178, cw_J7_fill_53178, by decide, by decide, by decide +kernel⟩
set_option maxRecDepth 100000 in
theorem cw_X4_addRack : Cond.code yX4_addRack cX4_addRack 6 (some .int) ∈ lw_T := lw_T_mem (List.mem_of_getElem? (i := 696) (by decide +kernel)) (by decide +kernel)
set_option maxRecDepth 100000 in
theorem cx_X4_addRack : Cond.initialized yX4_addRack.cls ∈ lw_T := lw_T_mem (List.mem_of_getElem? (i := 44) (by decide +kernel)) (by decide +kernel)
set_option maxRecDepth 100000 in
theorem ct_X4_addRack : Cond.instanceMethod yX4_addRack ∈ lw_T := lw_T_mem (List.mem_of_getElem? (i := 694) (by decide +kernel)) (by decide +kernel)
set_option maxRecDepth 100000 in
theorem cs_X4_addRack : Cond.selects yX4_addRack.cls yX4_addRack yX4_addRack ∈ lw_T := lw_T_mem (List.mem_of_getElem? (i := 695) (by decide +kernel)) (by decide +kernel)
set_option maxRecDepth 100000 in
theorem mw_L_7 : Cond.methodLink RL 7 yX4_addRack ∈ lw_T := lw_T_mem (List.mem_of_getElem? (i := 693) (by decide +kernel)) (by decide +kernel)
theorem ci_L_7 : CI RL 7 yX4_addRack cX4_addRack 6 (some .int) 4 := ⟨mw_L_7, cx_X4_addRack, cw_X4_addRack, by decide, by decide, by decide +kernel⟩
set_option maxRecDepth 100000 in
theorem tk_L_8 : Cond.classLink RL 8 "RackPlanner" ∈ lw_T := lw_T_mem (List.mem_of_getElem? (i := 72) (by decide +kernel)) (by decide +kernel)
set_option maxRecDepth 100000 in
theorem iw_L_8 : Cond.instantiable RX4 7 ∈ lw_T := lw_T_mem (List.mem_of_getElem? (i := 73) (by decide +kernel)) (by decide +kernel)
set_option maxRecDepth 100000 in
theorem ix_L_8 : Cond.initialized RX4 ∈ lw_T := lw_T_mem (List.mem_of_getElem? (i := 44) (by decide +kernel)) (by decide +kernel)
theorem fn_L_8 : FN RL 8 7 7 [.null, .null, .null, .null, .null, .null, .int 0] := ⟨RX4, TX4, tyX4, rfl, in_X4, tyX4_ok, tk_L_8, iw_L_8, ix_L_8, by intro j hj; rcases (show j = 0 ∨ j = 1 ∨ j = 2 ∨ j = 3 ∨ j = 4 ∨ j = 5 ∨ j = 6 by omega) with rfl | rfl | rfl | rfl | rfl | rfl | rfl <;> rfl⟩
set_option maxRecDepth 100000 in
theorem tk_L_13 : Cond.classLink RL 13 "java/lang/IllegalArgumentException" ∈ lw_T := lw_T_mem (List.mem_of_getElem? (i := 691) (by decide +kernel)) (by decide +kernel)
set_option maxRecDepth 100000 in
theorem tk_L_15 : Cond.classLink RL 15 "java/lang/IllegalStateException" ∈ lw_T := lw_T_mem (List.mem_of_getElem? (i := 692) (by decide +kernel)) (by decide +kernel)
set_option maxRecDepth 100000 in
theorem cw_X4_setRow : Cond.code yX4_setRow cX4_setRow 4 none ∈ lw_T := lw_T_mem (List.mem_of_getElem? (i := 758) (by decide +kernel)) (by decide +kernel)
set_option maxRecDepth 100000 in
theorem cx_X4_setRow : Cond.initialized yX4_setRow.cls ∈ lw_T := lw_T_mem (List.mem_of_getElem? (i := 44) (by decide +kernel)) (by decide +kernel)
set_option maxRecDepth 100000 in
theorem ct_X4_setRow : Cond.instanceMethod yX4_setRow ∈ lw_T := lw_T_mem (List.mem_of_getElem? (i := 756) (by decide +kernel)) (by decide +kernel)
set_option maxRecDepth 100000 in
theorem cs_X4_setRow : Cond.selects yX4_setRow.cls yX4_setRow yX4_setRow ∈ lw_T := lw_T_mem (List.mem_of_getElem? (i := 757) (by decide +kernel)) (by decide +kernel)
set_option maxRecDepth 100000 in
theorem mw_L_17 : Cond.methodLink RL 17 yX4_setRow ∈ lw_T := lw_T_mem (List.mem_of_getElem? (i := 755) (by decide +kernel)) (by decide +kernel)
theorem ci_L_17 : CI RL 17 yX4_setRow cX4_setRow 4 none 3 := ⟨mw_L_17, cx_X4_setRow, cw_X4_setRow, by decide, by decide, by decide +kernel⟩
set_option maxRecDepth 100000 in
theorem cw_X4_setFeed : Cond.code yX4_setFeed cX4_setFeed 4 (some .int) ∈ lw_T := lw_T_mem (List.mem_of_getElem? (i := 768) (by decide +kernel)) (by decide +kernel)
set_option maxRecDepth 100000 in
theorem cx_X4_setFeed : Cond.initialized yX4_setFeed.cls ∈ lw_T := lw_T_mem (List.mem_of_getElem? (i := 44) (by decide +kernel)) (by decide +kernel)
set_option maxRecDepth 100000 in
theorem ct_X4_setFeed : Cond.instanceMethod yX4_setFeed ∈ lw_T := lw_T_mem (List.mem_of_getElem? (i := 766) (by decide +kernel)) (by decide +kernel)
set_option maxRecDepth 100000 in
theorem cs_X4_setFeed : Cond.selects yX4_setFeed.cls yX4_setFeed yX4_setFeed ∈ lw_T := lw_T_mem (List.mem_of_getElem? (i := 767) (by decide +kernel)) (by decide +kernel)
set_option maxRecDepth 100000 in
theorem mw_L_21 : Cond.methodLink RL 21 yX4_setFeed ∈ lw_T := lw_T_mem (List.mem_of_getElem? (i := 765) (by decide +kernel)) (by decide +kernel)
theorem ci_L_21 : CI RL 21 yX4_setFeed cX4_setFeed 4 (some .int) 2 := ⟨mw_L_21, cx_X4_setFeed, cw_X4_setFeed, by decide, by decide, by decide +kernel⟩
set_option maxRecDepth 100000 in
theorem cw_X4_switchFeed : Cond.code yX4_switchFeed cX4_switchFeed 4 (some .int) ∈ lw_T := lw_T_mem (List.mem_of_getElem? (i := 780) (by decide +kernel)) (by decide +kernel)
set_option maxRecDepth 100000 in
theorem cx_X4_switchFeed : Cond.initialized yX4_switchFeed.cls ∈ lw_T := lw_T_mem (List.mem_of_getElem? (i := 44) (by decide +kernel)) (by decide +kernel)
set_option maxRecDepth 100000 in
theorem ct_X4_switchFeed : Cond.instanceMethod yX4_switchFeed ∈ lw_T := lw_T_mem (List.mem_of_getElem? (i := 778) (by decide +kernel)) (by decide +kernel)
set_option maxRecDepth 100000 in
theorem cs_X4_switchFeed : Cond.selects yX4_switchFeed.cls yX4_switchFeed yX4_switchFeed ∈ lw_T := lw_T_mem (List.mem_of_getElem? (i := 779) (by decide +kernel)) (by decide +kernel)
set_option maxRecDepth 100000 in
theorem mw_L_25 : Cond.methodLink RL 25 yX4_switchFeed ∈ lw_T := lw_T_mem (List.mem_of_getElem? (i := 777) (by decide +kernel)) (by decide +kernel)
theorem ci_L_25 : CI RL 25 yX4_switchFeed cX4_switchFeed 4 (some .int) 1 := ⟨mw_L_25, cx_X4_switchFeed, cw_X4_switchFeed, by decide, by decide, by decide +kernel⟩
set_option maxRecDepth 100000 in
theorem cw_X4_hasFailed : Cond.code yX4_hasFailed cX4_hasFailed 2 (some .boolean) ∈ lw_T := lw_T_mem (List.mem_of_getElem? (i := 795) (by decide +kernel)) (by decide +kernel)
set_option maxRecDepth 100000 in
theorem cx_X4_hasFailed : Cond.initialized yX4_hasFailed.cls ∈ lw_T := lw_T_mem (List.mem_of_getElem? (i := 44) (by decide +kernel)) (by decide +kernel)
set_option maxRecDepth 100000 in
theorem ct_X4_hasFailed : Cond.instanceMethod yX4_hasFailed ∈ lw_T := lw_T_mem (List.mem_of_getElem? (i := 793) (by decide +kernel)) (by decide +kernel)
set_option maxRecDepth 100000 in
theorem cs_X4_hasFailed : Cond.selects yX4_hasFailed.cls yX4_hasFailed yX4_hasFailed ∈ lw_T := lw_T_mem (List.mem_of_getElem? (i := 794) (by decide +kernel)) (by decide +kernel)
set_option maxRecDepth 100000 in
theorem mw_L_29 : Cond.methodLink RL 29 yX4_hasFailed ∈ lw_T := lw_T_mem (List.mem_of_getElem? (i := 792) (by decide +kernel)) (by decide +kernel)
theorem ci_L_29 : CI RL 29 yX4_hasFailed cX4_hasFailed 2 (some .boolean) 1 := ⟨mw_L_29, cx_X4_hasFailed, cw_X4_hasFailed, by decide, by decide, by decide +kernel⟩
set_option maxRecDepth 100000 in
theorem cw_X4_place : Cond.code yX4_place cX4_place 7 (some .int) ∈ lw_T := lw_T_mem (List.mem_of_getElem? (i := 802) (by decide +kernel)) (by decide +kernel)
set_option maxRecDepth 100000 in
theorem cx_X4_place : Cond.initialized yX4_place.cls ∈ lw_T := lw_T_mem (List.mem_of_getElem? (i := 44) (by decide +kernel)) (by decide +kernel)
set_option maxRecDepth 100000 in
theorem ct_X4_place : Cond.instanceMethod yX4_place ∈ lw_T := lw_T_mem (List.mem_of_getElem? (i := 800) (by decide +kernel)) (by decide +kernel)
set_option maxRecDepth 100000 in
theorem cs_X4_place : Cond.selects yX4_place.cls yX4_place yX4_place ∈ lw_T := lw_T_mem (List.mem_of_getElem? (i := 801) (by decide +kernel)) (by decide +kernel)
set_option maxRecDepth 100000 in
theorem mw_L_33 : Cond.methodLink RL 33 yX4_place ∈ lw_T := lw_T_mem (List.mem_of_getElem? (i := 799) (by decide +kernel)) (by decide +kernel)
theorem ci_L_33 : CI RL 33 yX4_place cX4_place 7 (some .int) 4 := ⟨mw_L_33, cx_X4_place, cw_X4_place, by decide, by decide, by decide +kernel⟩
set_option maxRecDepth 100000 in
theorem cw_X4_takeOut : Cond.code yX4_takeOut cX4_takeOut 4 (some .int) ∈ lw_T := lw_T_mem (List.mem_of_getElem? (i := 855) (by decide +kernel)) (by decide +kernel)
set_option maxRecDepth 100000 in
theorem cx_X4_takeOut : Cond.initialized yX4_takeOut.cls ∈ lw_T := lw_T_mem (List.mem_of_getElem? (i := 44) (by decide +kernel)) (by decide +kernel)
set_option maxRecDepth 100000 in
theorem ct_X4_takeOut : Cond.instanceMethod yX4_takeOut ∈ lw_T := lw_T_mem (List.mem_of_getElem? (i := 853) (by decide +kernel)) (by decide +kernel)
set_option maxRecDepth 100000 in
theorem cs_X4_takeOut : Cond.selects yX4_takeOut.cls yX4_takeOut yX4_takeOut ∈ lw_T := lw_T_mem (List.mem_of_getElem? (i := 854) (by decide +kernel)) (by decide +kernel)
set_option maxRecDepth 100000 in
theorem mw_L_36 : Cond.methodLink RL 36 yX4_takeOut ∈ lw_T := lw_T_mem (List.mem_of_getElem? (i := 852) (by decide +kernel)) (by decide +kernel)
theorem ci_L_36 : CI RL 36 yX4_takeOut cX4_takeOut 4 (some .int) 1 := ⟨mw_L_36, cx_X4_takeOut, cw_X4_takeOut, by decide, by decide, by decide +kernel⟩
set_option maxRecDepth 100000 in
theorem tk_L_39 : Cond.classLink RL 39 "java/lang/IndexOutOfBoundsException" ∈ lw_T := lw_T_mem (List.mem_of_getElem? (i := 851) (by decide +kernel)) (by decide +kernel)
set_option maxRecDepth 100000 in
theorem cw_X4_cord : Cond.code yX4_cord cX4_cord 5 (some .int) ∈ lw_T := lw_T_mem (List.mem_of_getElem? (i := 882) (by decide +kernel)) (by decide +kernel)
set_option maxRecDepth 100000 in
theorem cx_X4_cord : Cond.initialized yX4_cord.cls ∈ lw_T := lw_T_mem (List.mem_of_getElem? (i := 44) (by decide +kernel)) (by decide +kernel)
set_option maxRecDepth 100000 in
theorem ct_X4_cord : Cond.instanceMethod yX4_cord ∈ lw_T := lw_T_mem (List.mem_of_getElem? (i := 880) (by decide +kernel)) (by decide +kernel)
set_option maxRecDepth 100000 in
theorem cs_X4_cord : Cond.selects yX4_cord.cls yX4_cord yX4_cord ∈ lw_T := lw_T_mem (List.mem_of_getElem? (i := 881) (by decide +kernel)) (by decide +kernel)
set_option maxRecDepth 100000 in
theorem mw_L_41 : Cond.methodLink RL 41 yX4_cord ∈ lw_T := lw_T_mem (List.mem_of_getElem? (i := 879) (by decide +kernel)) (by decide +kernel)
theorem ci_L_41 : CI RL 41 yX4_cord cX4_cord 5 (some .int) 2 := ⟨mw_L_41, cx_X4_cord, cw_X4_cord, by decide, by decide, by decide +kernel⟩
set_option maxRecDepth 100000 in
theorem cw_X4_rackOf : Cond.code yX4_rackOf cX4_rackOf 2 (some .int) ∈ lw_T := lw_T_mem (List.mem_of_getElem? (i := 903) (by decide +kernel)) (by decide +kernel)
set_option maxRecDepth 100000 in
theorem cx_X4_rackOf : Cond.initialized yX4_rackOf.cls ∈ lw_T := lw_T_mem (List.mem_of_getElem? (i := 44) (by decide +kernel)) (by decide +kernel)
set_option maxRecDepth 100000 in
theorem ct_X4_rackOf : Cond.instanceMethod yX4_rackOf ∈ lw_T := lw_T_mem (List.mem_of_getElem? (i := 901) (by decide +kernel)) (by decide +kernel)
set_option maxRecDepth 100000 in
theorem cs_X4_rackOf : Cond.selects yX4_rackOf.cls yX4_rackOf yX4_rackOf ∈ lw_T := lw_T_mem (List.mem_of_getElem? (i := 902) (by decide +kernel)) (by decide +kernel)
set_option maxRecDepth 100000 in
theorem mw_L_44 : Cond.methodLink RL 44 yX4_rackOf ∈ lw_T := lw_T_mem (List.mem_of_getElem? (i := 900) (by decide +kernel)) (by decide +kernel)
theorem ci_L_44 : CI RL 44 yX4_rackOf cX4_rackOf 2 (some .int) 1 := ⟨mw_L_44, cx_X4_rackOf, cw_X4_rackOf, by decide, by decide, by decide +kernel⟩
set_option maxRecDepth 100000 in
theorem cw_X4_slotOf : Cond.code yX4_slotOf cX4_slotOf 2 (some .int) ∈ lw_T := lw_T_mem (List.mem_of_getElem? (i := 910) (by decide +kernel)) (by decide +kernel)
set_option maxRecDepth 100000 in
theorem cx_X4_slotOf : Cond.initialized yX4_slotOf.cls ∈ lw_T := lw_T_mem (List.mem_of_getElem? (i := 44) (by decide +kernel)) (by decide +kernel)
set_option maxRecDepth 100000 in
theorem ct_X4_slotOf : Cond.instanceMethod yX4_slotOf ∈ lw_T := lw_T_mem (List.mem_of_getElem? (i := 908) (by decide +kernel)) (by decide +kernel)
set_option maxRecDepth 100000 in
theorem cs_X4_slotOf : Cond.selects yX4_slotOf.cls yX4_slotOf yX4_slotOf ∈ lw_T := lw_T_mem (List.mem_of_getElem? (i := 909) (by decide +kernel)) (by decide +kernel)
set_option maxRecDepth 100000 in
theorem mw_L_47 : Cond.methodLink RL 47 yX4_slotOf ∈ lw_T := lw_T_mem (List.mem_of_getElem? (i := 907) (by decide +kernel)) (by decide +kernel)
theorem ci_L_47 : CI RL 47 yX4_slotOf cX4_slotOf 2 (some .int) 1 := ⟨mw_L_47, cx_X4_slotOf, cw_X4_slotOf, by decide, by decide, by decide +kernel⟩
set_option maxRecDepth 100000 in
theorem cw_X4_isDark : Cond.code yX4_isDark cX4_isDark 2 (some .boolean) ∈ lw_T := lw_T_mem (List.mem_of_getElem? (i := 917) (by decide +kernel)) (by decide +kernel)
set_option maxRecDepth 100000 in
theorem cx_X4_isDark : Cond.initialized yX4_isDark.cls ∈ lw_T := lw_T_mem (List.mem_of_getElem? (i := 44) (by decide +kernel)) (by decide +kernel)
set_option maxRecDepth 100000 in
theorem ct_X4_isDark : Cond.instanceMethod yX4_isDark ∈ lw_T := lw_T_mem (List.mem_of_getElem? (i := 915) (by decide +kernel)) (by decide +kernel)
set_option maxRecDepth 100000 in
theorem cs_X4_isDark : Cond.selects yX4_isDark.cls yX4_isDark yX4_isDark ∈ lw_T := lw_T_mem (List.mem_of_getElem? (i := 916) (by decide +kernel)) (by decide +kernel)
set_option maxRecDepth 100000 in
theorem mw_L_50 : Cond.methodLink RL 50 yX4_isDark ∈ lw_T := lw_T_mem (List.mem_of_getElem? (i := 914) (by decide +kernel)) (by decide +kernel)
theorem ci_L_50 : CI RL 50 yX4_isDark cX4_isDark 2 (some .boolean) 1 := ⟨mw_L_50, cx_X4_isDark, cw_X4_isDark, by decide, by decide, by decide +kernel⟩
set_option maxRecDepth 100000 in
theorem cw_X4_machineAt : Cond.code yX4_machineAt cX4_machineAt 4 (some .int) ∈ lw_T := lw_T_mem (List.mem_of_getElem? (i := 924) (by decide +kernel)) (by decide +kernel)
set_option maxRecDepth 100000 in
theorem cx_X4_machineAt : Cond.initialized yX4_machineAt.cls ∈ lw_T := lw_T_mem (List.mem_of_getElem? (i := 44) (by decide +kernel)) (by decide +kernel)
set_option maxRecDepth 100000 in
theorem ct_X4_machineAt : Cond.instanceMethod yX4_machineAt ∈ lw_T := lw_T_mem (List.mem_of_getElem? (i := 922) (by decide +kernel)) (by decide +kernel)
set_option maxRecDepth 100000 in
theorem cs_X4_machineAt : Cond.selects yX4_machineAt.cls yX4_machineAt yX4_machineAt ∈ lw_T := lw_T_mem (List.mem_of_getElem? (i := 923) (by decide +kernel)) (by decide +kernel)
set_option maxRecDepth 100000 in
theorem mw_L_53 : Cond.methodLink RL 53 yX4_machineAt ∈ lw_T := lw_T_mem (List.mem_of_getElem? (i := 921) (by decide +kernel)) (by decide +kernel)
theorem ci_L_53 : CI RL 53 yX4_machineAt cX4_machineAt 4 (some .int) 2 := ⟨mw_L_53, cx_X4_machineAt, cw_X4_machineAt, by decide, by decide, by decide +kernel⟩
set_option maxRecDepth 100000 in
theorem cw_X4_next : Cond.code yX4_next cX4_next 3 (some .int) ∈ lw_T := lw_T_mem (List.mem_of_getElem? (i := 938) (by decide +kernel)) (by decide +kernel)
set_option maxRecDepth 100000 in
theorem cx_X4_next : Cond.initialized yX4_next.cls ∈ lw_T := lw_T_mem (List.mem_of_getElem? (i := 44) (by decide +kernel)) (by decide +kernel)
set_option maxRecDepth 100000 in
theorem ct_X4_next : Cond.instanceMethod yX4_next ∈ lw_T := lw_T_mem (List.mem_of_getElem? (i := 936) (by decide +kernel)) (by decide +kernel)
set_option maxRecDepth 100000 in
theorem cs_X4_next : Cond.selects yX4_next.cls yX4_next yX4_next ∈ lw_T := lw_T_mem (List.mem_of_getElem? (i := 937) (by decide +kernel)) (by decide +kernel)
set_option maxRecDepth 100000 in
theorem mw_L_56 : Cond.methodLink RL 56 yX4_next ∈ lw_T := lw_T_mem (List.mem_of_getElem? (i := 935) (by decide +kernel)) (by decide +kernel)
theorem ci_L_56 : CI RL 56 yX4_next cX4_next 3 (some .int) 1 := ⟨mw_L_56, cx_X4_next, cw_X4_next, by decide, by decide, by decide +kernel⟩
set_option maxRecDepth 100000 in
theorem cw_X4_powerOf : Cond.code yX4_powerOf cX4_powerOf 6 (some .int) ∈ lw_T := lw_T_mem (List.mem_of_getElem? (i := 949) (by decide +kernel)) (by decide +kernel)
set_option maxRecDepth 100000 in
theorem cx_X4_powerOf : Cond.initialized yX4_powerOf.cls ∈ lw_T := lw_T_mem (List.mem_of_getElem? (i := 44) (by decide +kernel)) (by decide +kernel)
set_option maxRecDepth 100000 in
theorem ct_X4_powerOf : Cond.instanceMethod yX4_powerOf ∈ lw_T := lw_T_mem (List.mem_of_getElem? (i := 947) (by decide +kernel)) (by decide +kernel)
set_option maxRecDepth 100000 in
theorem cs_X4_powerOf : Cond.selects yX4_powerOf.cls yX4_powerOf yX4_powerOf ∈ lw_T := lw_T_mem (List.mem_of_getElem? (i := 948) (by decide +kernel)) (by decide +kernel)
set_option maxRecDepth 100000 in
theorem mw_L_59 : Cond.methodLink RL 59 yX4_powerOf ∈ lw_T := lw_T_mem (List.mem_of_getElem? (i := 946) (by decide +kernel)) (by decide +kernel)
theorem ci_L_59 : CI RL 59 yX4_powerOf cX4_powerOf 6 (some .int) 2 := ⟨mw_L_59, cx_X4_powerOf, cw_X4_powerOf, by decide, by decide, by decide +kernel⟩
set_option maxRecDepth 100000 in
theorem cw_X4_worstOf : Cond.code yX4_worstOf cX4_worstOf 3 (some .int) ∈ lw_T := lw_T_mem (List.mem_of_getElem? (i := 960) (by decide +kernel)) (by decide +kernel)
set_option maxRecDepth 100000 in
theorem cx_X4_worstOf : Cond.initialized yX4_worstOf.cls ∈ lw_T := lw_T_mem (List.mem_of_getElem? (i := 44) (by decide +kernel)) (by decide +kernel)
set_option maxRecDepth 100000 in
theorem ct_X4_worstOf : Cond.instanceMethod yX4_worstOf ∈ lw_T := lw_T_mem (List.mem_of_getElem? (i := 958) (by decide +kernel)) (by decide +kernel)
set_option maxRecDepth 100000 in
theorem cs_X4_worstOf : Cond.selects yX4_worstOf.cls yX4_worstOf yX4_worstOf ∈ lw_T := lw_T_mem (List.mem_of_getElem? (i := 959) (by decide +kernel)) (by decide +kernel)
set_option maxRecDepth 100000 in
theorem mw_L_62 : Cond.methodLink RL 62 yX4_worstOf ∈ lw_T := lw_T_mem (List.mem_of_getElem? (i := 957) (by decide +kernel)) (by decide +kernel)
theorem ci_L_62 : CI RL 62 yX4_worstOf cX4_worstOf 3 (some .int) 2 := ⟨mw_L_62, cx_X4_worstOf, cw_X4_worstOf, by decide, by decide, by decide +kernel⟩
set_option maxRecDepth 100000 in
theorem cw_X4_weightOf : Cond.code yX4_weightOf cX4_weightOf 2 (some .int) ∈ lw_T := lw_T_mem (List.mem_of_getElem? (i := 967) (by decide +kernel)) (by decide +kernel)
set_option maxRecDepth 100000 in
theorem cx_X4_weightOf : Cond.initialized yX4_weightOf.cls ∈ lw_T := lw_T_mem (List.mem_of_getElem? (i := 44) (by decide +kernel)) (by decide +kernel)
set_option maxRecDepth 100000 in
theorem ct_X4_weightOf : Cond.instanceMethod yX4_weightOf ∈ lw_T := lw_T_mem (List.mem_of_getElem? (i := 965) (by decide +kernel)) (by decide +kernel)
set_option maxRecDepth 100000 in
theorem cs_X4_weightOf : Cond.selects yX4_weightOf.cls yX4_weightOf yX4_weightOf ∈ lw_T := lw_T_mem (List.mem_of_getElem? (i := 966) (by decide +kernel)) (by decide +kernel)
set_option maxRecDepth 100000 in
theorem mw_L_65 : Cond.methodLink RL 65 yX4_weightOf ∈ lw_T := lw_T_mem (List.mem_of_getElem? (i := 964) (by decide +kernel)) (by decide +kernel)
theorem ci_L_65 : CI RL 65 yX4_weightOf cX4_weightOf 2 (some .int) 1 := ⟨mw_L_65, cx_X4_weightOf, cw_X4_weightOf, by decide, by decide, by decide +kernel⟩
set_option maxRecDepth 100000 in
theorem cw_X4_heatOf : Cond.code yX4_heatOf cX4_heatOf 5 (some .int) ∈ lw_T := lw_T_mem (List.mem_of_getElem? (i := 974) (by decide +kernel)) (by decide +kernel)
set_option maxRecDepth 100000 in
theorem cx_X4_heatOf : Cond.initialized yX4_heatOf.cls ∈ lw_T := lw_T_mem (List.mem_of_getElem? (i := 44) (by decide +kernel)) (by decide +kernel)
set_option maxRecDepth 100000 in
theorem ct_X4_heatOf : Cond.instanceMethod yX4_heatOf ∈ lw_T := lw_T_mem (List.mem_of_getElem? (i := 972) (by decide +kernel)) (by decide +kernel)
set_option maxRecDepth 100000 in
theorem cs_X4_heatOf : Cond.selects yX4_heatOf.cls yX4_heatOf yX4_heatOf ∈ lw_T := lw_T_mem (List.mem_of_getElem? (i := 973) (by decide +kernel)) (by decide +kernel)
set_option maxRecDepth 100000 in
theorem mw_L_68 : Cond.methodLink RL 68 yX4_heatOf ∈ lw_T := lw_T_mem (List.mem_of_getElem? (i := 971) (by decide +kernel)) (by decide +kernel)
theorem ci_L_68 : CI RL 68 yX4_heatOf cX4_heatOf 5 (some .int) 1 := ⟨mw_L_68, cx_X4_heatOf, cw_X4_heatOf, by decide, by decide, by decide +kernel⟩
set_option maxRecDepth 100000 in
theorem cw_X4_gap : Cond.code yX4_gap cX4_gap 2 (some .int) ∈ lw_T := lw_T_mem (List.mem_of_getElem? (i := 985) (by decide +kernel)) (by decide +kernel)
set_option maxRecDepth 100000 in
theorem cx_X4_gap : Cond.initialized yX4_gap.cls ∈ lw_T := lw_T_mem (List.mem_of_getElem? (i := 44) (by decide +kernel)) (by decide +kernel)
set_option maxRecDepth 100000 in
theorem ct_X4_gap : Cond.instanceMethod yX4_gap ∈ lw_T := lw_T_mem (List.mem_of_getElem? (i := 983) (by decide +kernel)) (by decide +kernel)
set_option maxRecDepth 100000 in
theorem cs_X4_gap : Cond.selects yX4_gap.cls yX4_gap yX4_gap ∈ lw_T := lw_T_mem (List.mem_of_getElem? (i := 984) (by decide +kernel)) (by decide +kernel)
set_option maxRecDepth 100000 in
theorem mw_L_71 : Cond.methodLink RL 71 yX4_gap ∈ lw_T := lw_T_mem (List.mem_of_getElem? (i := 982) (by decide +kernel)) (by decide +kernel)
theorem ci_L_71 : CI RL 71 yX4_gap cX4_gap 2 (some .int) 1 := ⟨mw_L_71, cx_X4_gap, cw_X4_gap, by decide, by decide, by decide +kernel⟩
set_option maxRecDepth 100000 in
theorem cw_X4_racksFor : Cond.code yX4_racksFor cX4_racksFor 8 (some .int) ∈ lw_T := lw_T_mem (List.mem_of_getElem? (i := 997) (by decide +kernel)) (by decide +kernel)
set_option maxRecDepth 100000 in
theorem cx_X4_racksFor : Cond.initialized yX4_racksFor.cls ∈ lw_T := lw_T_mem (List.mem_of_getElem? (i := 44) (by decide +kernel)) (by decide +kernel)
set_option maxRecDepth 100000 in
theorem ct_X4_racksFor : Cond.instanceMethod yX4_racksFor ∈ lw_T := lw_T_mem (List.mem_of_getElem? (i := 995) (by decide +kernel)) (by decide +kernel)
set_option maxRecDepth 100000 in
theorem cs_X4_racksFor : Cond.selects yX4_racksFor.cls yX4_racksFor yX4_racksFor ∈ lw_T := lw_T_mem (List.mem_of_getElem? (i := 996) (by decide +kernel)) (by decide +kernel)
set_option maxRecDepth 100000 in
theorem mw_L_74 : Cond.methodLink RL 74 yX4_racksFor ∈ lw_T := lw_T_mem (List.mem_of_getElem? (i := 994) (by decide +kernel)) (by decide +kernel)
theorem ci_L_74 : CI RL 74 yX4_racksFor cX4_racksFor 8 (some .int) 4 := ⟨mw_L_74, cx_X4_racksFor, cw_X4_racksFor, by decide, by decide, by decide +kernel⟩
set_option maxRecDepth 100000 in
theorem cw_X4_roomFor : Cond.code yX4_roomFor cX4_roomFor 8 (some .int) ∈ lw_T := lw_T_mem (List.mem_of_getElem? (i := 1005) (by decide +kernel)) (by decide +kernel)
set_option maxRecDepth 100000 in
theorem cx_X4_roomFor : Cond.initialized yX4_roomFor.cls ∈ lw_T := lw_T_mem (List.mem_of_getElem? (i := 44) (by decide +kernel)) (by decide +kernel)
set_option maxRecDepth 100000 in
theorem ct_X4_roomFor : Cond.instanceMethod yX4_roomFor ∈ lw_T := lw_T_mem (List.mem_of_getElem? (i := 1003) (by decide +kernel)) (by decide +kernel)
set_option maxRecDepth 100000 in
theorem cs_X4_roomFor : Cond.selects yX4_roomFor.cls yX4_roomFor yX4_roomFor ∈ lw_T := lw_T_mem (List.mem_of_getElem? (i := 1004) (by decide +kernel)) (by decide +kernel)
set_option maxRecDepth 100000 in
theorem mw_L_77 : Cond.methodLink RL 77 yX4_roomFor ∈ lw_T := lw_T_mem (List.mem_of_getElem? (i := 1002) (by decide +kernel)) (by decide +kernel)
theorem ci_L_77 : CI RL 77 yX4_roomFor cX4_roomFor 8 (some .int) 4 := ⟨mw_L_77, cx_X4_roomFor, cw_X4_roomFor, by decide, by decide, by decide +kernel⟩
set_option maxRecDepth 100000 in
theorem cw_X4_roomByCounting : Cond.code yX4_roomByCounting cX4_roomByCounting 9 (some .int) ∈ lw_T := lw_T_mem (List.mem_of_getElem? (i := 1022) (by decide +kernel)) (by decide +kernel)
set_option maxRecDepth 100000 in
theorem cx_X4_roomByCounting : Cond.initialized yX4_roomByCounting.cls ∈ lw_T := lw_T_mem (List.mem_of_getElem? (i := 44) (by decide +kernel)) (by decide +kernel)
set_option maxRecDepth 100000 in
theorem ct_X4_roomByCounting : Cond.instanceMethod yX4_roomByCounting ∈ lw_T := lw_T_mem (List.mem_of_getElem? (i := 1020) (by decide +kernel)) (by decide +kernel)
set_option maxRecDepth 100000 in
theorem cs_X4_roomByCounting : Cond.selects yX4_roomByCounting.cls yX4_roomByCounting yX4_roomByCounting ∈ lw_T := lw_T_mem (List.mem_of_getElem? (i := 1021) (by decide +kernel)) (by decide +kernel)
set_option maxRecDepth 100000 in
theorem mw_L_80 : Cond.methodLink RL 80 yX4_roomByCounting ∈ lw_T := lw_T_mem (List.mem_of_getElem? (i := 1019) (by decide +kernel)) (by decide +kernel)
theorem ci_L_80 : CI RL 80 yX4_roomByCounting cX4_roomByCounting 9 (some .int) 4 := ⟨mw_L_80, cx_X4_roomByCounting, cw_X4_roomByCounting, by decide, by decide, by decide +kernel⟩
set_option maxRecDepth 100000 in
theorem cw_X4_init : Cond.code yX4_init cX4_init 1 none ∈ lw_T := lw_T_mem (List.mem_of_getElem? (i := 76) (by decide +kernel)) (by decide +kernel)
set_option maxRecDepth 100000 in
theorem cx_X4_init : Cond.initialized yX4_init.cls ∈ lw_T := lw_T_mem (List.mem_of_getElem? (i := 44) (by decide +kernel)) (by decide +kernel)
set_option maxRecDepth 100000 in
theorem ct_X4_init : Cond.instanceMethod yX4_init ∈ lw_T := lw_T_mem (List.mem_of_getElem? (i := 75) (by decide +kernel)) (by decide +kernel)
set_option maxRecDepth 100000 in
theorem mw_L_83 : Cond.methodLink RL 83 yX4_init ∈ lw_T := lw_T_mem (List.mem_of_getElem? (i := 74) (by decide +kernel)) (by decide +kernel)
theorem ci_L_83 : CI RL 83 yX4_init cX4_init 1 none 0 := ⟨mw_L_83, cx_X4_init, cw_X4_init, by decide, by decide, by decide +kernel⟩
set_option maxRecDepth 100000 in
theorem tk_L_84 : Cond.classLink RL 84 "RackPlannerModel" ∈ lw_T := lw_T_mem (List.mem_of_getElem? (i := 1041) (by decide +kernel)) (by decide +kernel)
set_option maxRecDepth 100000 in
theorem iw_L_84 : Cond.instantiable RX5 21 ∈ lw_T := lw_T_mem (List.mem_of_getElem? (i := 1042) (by decide +kernel)) (by decide +kernel)
set_option maxRecDepth 100000 in
theorem ix_L_84 : Cond.initialized RX5 ∈ lw_T := lw_T_mem (List.mem_of_getElem? (i := 51) (by decide +kernel)) (by decide +kernel)
theorem fn_L_84 : FN RL 84 8 21 [.int 0, .null, .null, .null, .null, .int 0, .null, .null, .null, .null, .null, .null, .null, .null, .null, .null, .null, .int 0, .int 0, .null, .null] := ⟨RX5, TX5, tyX5, rfl, in_X5, tyX5_ok, tk_L_84, iw_L_84, ix_L_84, by intro j hj; rcases (show j = 0 ∨ j = 1 ∨ j = 2 ∨ j = 3 ∨ j = 4 ∨ j = 5 ∨ j = 6 ∨ j = 7 ∨ j = 8 ∨ j = 9 ∨ j = 10 ∨ j = 11 ∨ j = 12 ∨ j = 13 ∨ j = 14 ∨ j = 15 ∨ j = 16 ∨ j = 17 ∨ j = 18 ∨ j = 19 ∨ j = 20 by omega) with rfl | rfl | rfl | rfl | rfl | rfl | rfl | rfl | rfl | rfl | rfl | rfl | rfl | rfl | rfl | rfl | rfl | rfl | rfl | rfl | rfl <;> rfl⟩
set_option maxRecDepth 100000 in
theorem cw_X5_init : Cond.code yX5_init cX5_init 2 none ∈ lw_T := lw_T_mem (List.mem_of_getElem? (i := 1045) (by decide +kernel)) (by decide +kernel)
set_option maxRecDepth 100000 in
theorem cx_X5_init : Cond.initialized yX5_init.cls ∈ lw_T := lw_T_mem (List.mem_of_getElem? (i := 51) (by decide +kernel)) (by decide +kernel)
set_option maxRecDepth 100000 in
theorem ct_X5_init : Cond.instanceMethod yX5_init ∈ lw_T := lw_T_mem (List.mem_of_getElem? (i := 1044) (by decide +kernel)) (by decide +kernel)
set_option maxRecDepth 100000 in
theorem mw_L_86 : Cond.methodLink RL 86 yX5_init ∈ lw_T := lw_T_mem (List.mem_of_getElem? (i := 1043) (by decide +kernel)) (by decide +kernel)
theorem ci_L_86 : CI RL 86 yX5_init cX5_init 2 none 0 := ⟨mw_L_86, cx_X5_init, cw_X5_init, by decide, by decide, by decide +kernel⟩
set_option maxRecDepth 100000 in
theorem cw_X5_addRack : Cond.code yX5_addRack cX5_addRack 6 (some .int) ∈ lw_T := lw_T_mem (List.mem_of_getElem? (i := 1118) (by decide +kernel)) (by decide +kernel)
set_option maxRecDepth 100000 in
theorem cx_X5_addRack : Cond.initialized yX5_addRack.cls ∈ lw_T := lw_T_mem (List.mem_of_getElem? (i := 51) (by decide +kernel)) (by decide +kernel)
set_option maxRecDepth 100000 in
theorem ct_X5_addRack : Cond.instanceMethod yX5_addRack ∈ lw_T := lw_T_mem (List.mem_of_getElem? (i := 1116) (by decide +kernel)) (by decide +kernel)
set_option maxRecDepth 100000 in
theorem cs_X5_addRack : Cond.selects yX5_addRack.cls yX5_addRack yX5_addRack ∈ lw_T := lw_T_mem (List.mem_of_getElem? (i := 1117) (by decide +kernel)) (by decide +kernel)
set_option maxRecDepth 100000 in
theorem mw_L_92 : Cond.methodLink RL 92 yX5_addRack ∈ lw_T := lw_T_mem (List.mem_of_getElem? (i := 1115) (by decide +kernel)) (by decide +kernel)
theorem ci_L_92 : CI RL 92 yX5_addRack cX5_addRack 6 (some .int) 4 := ⟨mw_L_92, cx_X5_addRack, cw_X5_addRack, by decide, by decide, by decide +kernel⟩
set_option maxRecDepth 100000 in
theorem cw_X5_thrown : Cond.code yX5_thrown cX5_thrown 1 (some .int) ∈ lw_T := lw_T_mem (List.mem_of_getElem? (i := 1114) (by decide +kernel)) (by decide +kernel)
set_option maxRecDepth 100000 in
theorem cx_X5_thrown : Cond.initialized yX5_thrown.cls ∈ lw_T := lw_T_mem (List.mem_of_getElem? (i := 51) (by decide +kernel)) (by decide +kernel)
set_option maxRecDepth 100000 in
theorem ct_X5_thrown : Cond.instanceMethod yX5_thrown ∈ lw_T := lw_T_mem (List.mem_of_getElem? (i := 1112) (by decide +kernel)) (by decide +kernel)
set_option maxRecDepth 100000 in
theorem cs_X5_thrown : Cond.selects yX5_thrown.cls yX5_thrown yX5_thrown ∈ lw_T := lw_T_mem (List.mem_of_getElem? (i := 1113) (by decide +kernel)) (by decide +kernel)
set_option maxRecDepth 100000 in
theorem mw_L_93 : Cond.methodLink RL 93 yX5_thrown ∈ lw_T := lw_T_mem (List.mem_of_getElem? (i := 1111) (by decide +kernel)) (by decide +kernel)
theorem ci_L_93 : CI RL 93 yX5_thrown cX5_thrown 1 (some .int) 0 := ⟨mw_L_93, cx_X5_thrown, cw_X5_thrown, by decide, by decide, by decide +kernel⟩
set_option maxRecDepth 100000 in
theorem cw_X5_setRow : Cond.code yX5_setRow cX5_setRow 5 none ∈ lw_T := lw_T_mem (List.mem_of_getElem? (i := 1129) (by decide +kernel)) (by decide +kernel)
set_option maxRecDepth 100000 in
theorem cx_X5_setRow : Cond.initialized yX5_setRow.cls ∈ lw_T := lw_T_mem (List.mem_of_getElem? (i := 51) (by decide +kernel)) (by decide +kernel)
set_option maxRecDepth 100000 in
theorem ct_X5_setRow : Cond.instanceMethod yX5_setRow ∈ lw_T := lw_T_mem (List.mem_of_getElem? (i := 1127) (by decide +kernel)) (by decide +kernel)
set_option maxRecDepth 100000 in
theorem cs_X5_setRow : Cond.selects yX5_setRow.cls yX5_setRow yX5_setRow ∈ lw_T := lw_T_mem (List.mem_of_getElem? (i := 1128) (by decide +kernel)) (by decide +kernel)
set_option maxRecDepth 100000 in
theorem mw_L_100 : Cond.methodLink RL 100 yX5_setRow ∈ lw_T := lw_T_mem (List.mem_of_getElem? (i := 1126) (by decide +kernel)) (by decide +kernel)
theorem ci_L_100 : CI RL 100 yX5_setRow cX5_setRow 5 none 3 := ⟨mw_L_100, cx_X5_setRow, cw_X5_setRow, by decide, by decide, by decide +kernel⟩
set_option maxRecDepth 100000 in
theorem cw_X5_setFeed : Cond.code yX5_setFeed cX5_setFeed 5 (some .int) ∈ lw_T := lw_T_mem (List.mem_of_getElem? (i := 1145) (by decide +kernel)) (by decide +kernel)
set_option maxRecDepth 100000 in
theorem cx_X5_setFeed : Cond.initialized yX5_setFeed.cls ∈ lw_T := lw_T_mem (List.mem_of_getElem? (i := 51) (by decide +kernel)) (by decide +kernel)
set_option maxRecDepth 100000 in
theorem ct_X5_setFeed : Cond.instanceMethod yX5_setFeed ∈ lw_T := lw_T_mem (List.mem_of_getElem? (i := 1143) (by decide +kernel)) (by decide +kernel)
set_option maxRecDepth 100000 in
theorem cs_X5_setFeed : Cond.selects yX5_setFeed.cls yX5_setFeed yX5_setFeed ∈ lw_T := lw_T_mem (List.mem_of_getElem? (i := 1144) (by decide +kernel)) (by decide +kernel)
set_option maxRecDepth 100000 in
theorem mw_L_104 : Cond.methodLink RL 104 yX5_setFeed ∈ lw_T := lw_T_mem (List.mem_of_getElem? (i := 1142) (by decide +kernel)) (by decide +kernel)
theorem ci_L_104 : CI RL 104 yX5_setFeed cX5_setFeed 5 (some .int) 2 := ⟨mw_L_104, cx_X5_setFeed, cw_X5_setFeed, by decide, by decide, by decide +kernel⟩
set_option maxRecDepth 100000 in
theorem cw_X5_switchFeed : Cond.code yX5_switchFeed cX5_switchFeed 4 (some .int) ∈ lw_T := lw_T_mem (List.mem_of_getElem? (i := 1156) (by decide +kernel)) (by decide +kernel)
set_option maxRecDepth 100000 in
theorem cx_X5_switchFeed : Cond.initialized yX5_switchFeed.cls ∈ lw_T := lw_T_mem (List.mem_of_getElem? (i := 51) (by decide +kernel)) (by decide +kernel)
set_option maxRecDepth 100000 in
theorem ct_X5_switchFeed : Cond.instanceMethod yX5_switchFeed ∈ lw_T := lw_T_mem (List.mem_of_getElem? (i := 1154) (by decide +kernel)) (by decide +kernel)
set_option maxRecDepth 100000 in
theorem cs_X5_switchFeed : Cond.selects yX5_switchFeed.cls yX5_switchFeed yX5_switchFeed ∈ lw_T := lw_T_mem (List.mem_of_getElem? (i := 1155) (by decide +kernel)) (by decide +kernel)
set_option maxRecDepth 100000 in
theorem mw_L_108 : Cond.methodLink RL 108 yX5_switchFeed ∈ lw_T := lw_T_mem (List.mem_of_getElem? (i := 1153) (by decide +kernel)) (by decide +kernel)
theorem ci_L_108 : CI RL 108 yX5_switchFeed cX5_switchFeed 4 (some .int) 1 := ⟨mw_L_108, cx_X5_switchFeed, cw_X5_switchFeed, by decide, by decide, by decide +kernel⟩
set_option maxRecDepth 100000 in
theorem cw_X5_hasFailed : Cond.code yX5_hasFailed cX5_hasFailed 2 (some .boolean) ∈ lw_T := lw_T_mem (List.mem_of_getElem? (i := 1164) (by decide +kernel)) (by decide +kernel)
set_option maxRecDepth 100000 in
theorem cx_X5_hasFailed : Cond.initialized yX5_hasFailed.cls ∈ lw_T := lw_T_mem (List.mem_of_getElem? (i := 51) (by decide +kernel)) (by decide +kernel)
set_option maxRecDepth 100000 in
theorem ct_X5_hasFailed : Cond.instanceMethod yX5_hasFailed ∈ lw_T := lw_T_mem (List.mem_of_getElem? (i := 1162) (by decide +kernel)) (by decide +kernel)
set_option maxRecDepth 100000 in
theorem cs_X5_hasFailed : Cond.selects yX5_hasFailed.cls yX5_hasFailed yX5_hasFailed ∈ lw_T := lw_T_mem (List.mem_of_getElem? (i := 1163) (by decide +kernel)) (by decide +kernel)
set_option maxRecDepth 100000 in
theorem mw_L_111 : Cond.methodLink RL 111 yX5_hasFailed ∈ lw_T := lw_T_mem (List.mem_of_getElem? (i := 1161) (by decide +kernel)) (by decide +kernel)
theorem ci_L_111 : CI RL 111 yX5_hasFailed cX5_hasFailed 2 (some .boolean) 1 := ⟨mw_L_111, cx_X5_hasFailed, cw_X5_hasFailed, by decide, by decide, by decide +kernel⟩
set_option maxRecDepth 100000 in
theorem cw_X4_racks : Cond.code yX4_racks cX4_racks 1 (some .int) ∈ lw_T := lw_T_mem (List.mem_of_getElem? (i := 193) (by decide +kernel)) (by decide +kernel)
set_option maxRecDepth 100000 in
theorem cx_X4_racks : Cond.initialized yX4_racks.cls ∈ lw_T := lw_T_mem (List.mem_of_getElem? (i := 44) (by decide +kernel)) (by decide +kernel)
set_option maxRecDepth 100000 in
theorem ct_X4_racks : Cond.instanceMethod yX4_racks ∈ lw_T := lw_T_mem (List.mem_of_getElem? (i := 191) (by decide +kernel)) (by decide +kernel)
set_option maxRecDepth 100000 in
theorem cs_X4_racks : Cond.selects yX4_racks.cls yX4_racks yX4_racks ∈ lw_T := lw_T_mem (List.mem_of_getElem? (i := 192) (by decide +kernel)) (by decide +kernel)
set_option maxRecDepth 100000 in
theorem mw_L_112 : Cond.methodLink RL 112 yX4_racks ∈ lw_T := lw_T_mem (List.mem_of_getElem? (i := 190) (by decide +kernel)) (by decide +kernel)
theorem ci_L_112 : CI RL 112 yX4_racks cX4_racks 1 (some .int) 0 := ⟨mw_L_112, cx_X4_racks, cw_X4_racks, by decide, by decide, by decide +kernel⟩
set_option maxRecDepth 100000 in
theorem cw_X5_racks : Cond.code yX5_racks cX5_racks 1 (some .int) ∈ lw_T := lw_T_mem (List.mem_of_getElem? (i := 1168) (by decide +kernel)) (by decide +kernel)
set_option maxRecDepth 100000 in
theorem cx_X5_racks : Cond.initialized yX5_racks.cls ∈ lw_T := lw_T_mem (List.mem_of_getElem? (i := 51) (by decide +kernel)) (by decide +kernel)
set_option maxRecDepth 100000 in
theorem ct_X5_racks : Cond.instanceMethod yX5_racks ∈ lw_T := lw_T_mem (List.mem_of_getElem? (i := 1166) (by decide +kernel)) (by decide +kernel)
set_option maxRecDepth 100000 in
theorem cs_X5_racks : Cond.selects yX5_racks.cls yX5_racks yX5_racks ∈ lw_T := lw_T_mem (List.mem_of_getElem? (i := 1167) (by decide +kernel)) (by decide +kernel)
set_option maxRecDepth 100000 in
theorem mw_L_115 : Cond.methodLink RL 115 yX5_racks ∈ lw_T := lw_T_mem (List.mem_of_getElem? (i := 1165) (by decide +kernel)) (by decide +kernel)
theorem ci_L_115 : CI RL 115 yX5_racks cX5_racks 1 (some .int) 0 := ⟨mw_L_115, cx_X5_racks, cw_X5_racks, by decide, by decide, by decide +kernel⟩
set_option maxRecDepth 100000 in
theorem cw_X5_place : Cond.code yX5_place cX5_place 6 (some .int) ∈ lw_T := lw_T_mem (List.mem_of_getElem? (i := 1172) (by decide +kernel)) (by decide +kernel)
set_option maxRecDepth 100000 in
theorem cx_X5_place : Cond.initialized yX5_place.cls ∈ lw_T := lw_T_mem (List.mem_of_getElem? (i := 51) (by decide +kernel)) (by decide +kernel)
set_option maxRecDepth 100000 in
theorem ct_X5_place : Cond.instanceMethod yX5_place ∈ lw_T := lw_T_mem (List.mem_of_getElem? (i := 1170) (by decide +kernel)) (by decide +kernel)
set_option maxRecDepth 100000 in
theorem cs_X5_place : Cond.selects yX5_place.cls yX5_place yX5_place ∈ lw_T := lw_T_mem (List.mem_of_getElem? (i := 1171) (by decide +kernel)) (by decide +kernel)
set_option maxRecDepth 100000 in
theorem mw_L_118 : Cond.methodLink RL 118 yX5_place ∈ lw_T := lw_T_mem (List.mem_of_getElem? (i := 1169) (by decide +kernel)) (by decide +kernel)
theorem ci_L_118 : CI RL 118 yX5_place cX5_place 6 (some .int) 4 := ⟨mw_L_118, cx_X5_place, cw_X5_place, by decide, by decide, by decide +kernel⟩
set_option maxRecDepth 100000 in
theorem cw_X5_takeOut : Cond.code yX5_takeOut cX5_takeOut 5 (some .int) ∈ lw_T := lw_T_mem (List.mem_of_getElem? (i := 1199) (by decide +kernel)) (by decide +kernel)
set_option maxRecDepth 100000 in
theorem cx_X5_takeOut : Cond.initialized yX5_takeOut.cls ∈ lw_T := lw_T_mem (List.mem_of_getElem? (i := 51) (by decide +kernel)) (by decide +kernel)
set_option maxRecDepth 100000 in
theorem ct_X5_takeOut : Cond.instanceMethod yX5_takeOut ∈ lw_T := lw_T_mem (List.mem_of_getElem? (i := 1197) (by decide +kernel)) (by decide +kernel)
set_option maxRecDepth 100000 in
theorem cs_X5_takeOut : Cond.selects yX5_takeOut.cls yX5_takeOut yX5_takeOut ∈ lw_T := lw_T_mem (List.mem_of_getElem? (i := 1198) (by decide +kernel)) (by decide +kernel)
set_option maxRecDepth 100000 in
theorem mw_L_121 : Cond.methodLink RL 121 yX5_takeOut ∈ lw_T := lw_T_mem (List.mem_of_getElem? (i := 1196) (by decide +kernel)) (by decide +kernel)
theorem ci_L_121 : CI RL 121 yX5_takeOut cX5_takeOut 5 (some .int) 1 := ⟨mw_L_121, cx_X5_takeOut, cw_X5_takeOut, by decide, by decide, by decide +kernel⟩
set_option maxRecDepth 100000 in
theorem cw_X5_cord : Cond.code yX5_cord cX5_cord 7 (some .int) ∈ lw_T := lw_T_mem (List.mem_of_getElem? (i := 1207) (by decide +kernel)) (by decide +kernel)
set_option maxRecDepth 100000 in
theorem cx_X5_cord : Cond.initialized yX5_cord.cls ∈ lw_T := lw_T_mem (List.mem_of_getElem? (i := 51) (by decide +kernel)) (by decide +kernel)
set_option maxRecDepth 100000 in
theorem ct_X5_cord : Cond.instanceMethod yX5_cord ∈ lw_T := lw_T_mem (List.mem_of_getElem? (i := 1205) (by decide +kernel)) (by decide +kernel)
set_option maxRecDepth 100000 in
theorem cs_X5_cord : Cond.selects yX5_cord.cls yX5_cord yX5_cord ∈ lw_T := lw_T_mem (List.mem_of_getElem? (i := 1206) (by decide +kernel)) (by decide +kernel)
set_option maxRecDepth 100000 in
theorem mw_L_124 : Cond.methodLink RL 124 yX5_cord ∈ lw_T := lw_T_mem (List.mem_of_getElem? (i := 1204) (by decide +kernel)) (by decide +kernel)
theorem ci_L_124 : CI RL 124 yX5_cord cX5_cord 7 (some .int) 2 := ⟨mw_L_124, cx_X5_cord, cw_X5_cord, by decide, by decide, by decide +kernel⟩
set_option maxRecDepth 100000 in
theorem cw_X4_pack : Cond.code yX4_pack cX4_pack 4 (some .int) ∈ lw_T := lw_T_mem (List.mem_of_getElem? (i := 201) (by decide +kernel)) (by decide +kernel)
set_option maxRecDepth 100000 in
theorem cx_X4_pack : Cond.initialized yX4_pack.cls ∈ lw_T := lw_T_mem (List.mem_of_getElem? (i := 44) (by decide +kernel)) (by decide +kernel)
set_option maxRecDepth 100000 in
theorem ct_X4_pack : Cond.instanceMethod yX4_pack ∈ lw_T := lw_T_mem (List.mem_of_getElem? (i := 199) (by decide +kernel)) (by decide +kernel)
set_option maxRecDepth 100000 in
theorem cs_X4_pack : Cond.selects yX4_pack.cls yX4_pack yX4_pack ∈ lw_T := lw_T_mem (List.mem_of_getElem? (i := 200) (by decide +kernel)) (by decide +kernel)
set_option maxRecDepth 100000 in
theorem mw_L_125 : Cond.methodLink RL 125 yX4_pack ∈ lw_T := lw_T_mem (List.mem_of_getElem? (i := 198) (by decide +kernel)) (by decide +kernel)
theorem ci_L_125 : CI RL 125 yX4_pack cX4_pack 4 (some .int) 0 := ⟨mw_L_125, cx_X4_pack, cw_X4_pack, by decide, by decide, by decide +kernel⟩
set_option maxRecDepth 100000 in
theorem cw_X5_pack : Cond.code yX5_pack cX5_pack 4 (some .int) ∈ lw_T := lw_T_mem (List.mem_of_getElem? (i := 1211) (by decide +kernel)) (by decide +kernel)
set_option maxRecDepth 100000 in
theorem cx_X5_pack : Cond.initialized yX5_pack.cls ∈ lw_T := lw_T_mem (List.mem_of_getElem? (i := 51) (by decide +kernel)) (by decide +kernel)
set_option maxRecDepth 100000 in
theorem ct_X5_pack : Cond.instanceMethod yX5_pack ∈ lw_T := lw_T_mem (List.mem_of_getElem? (i := 1209) (by decide +kernel)) (by decide +kernel)
set_option maxRecDepth 100000 in
theorem cs_X5_pack : Cond.selects yX5_pack.cls yX5_pack yX5_pack ∈ lw_T := lw_T_mem (List.mem_of_getElem? (i := 1210) (by decide +kernel)) (by decide +kernel)
set_option maxRecDepth 100000 in
theorem mw_L_128 : Cond.methodLink RL 128 yX5_pack ∈ lw_T := lw_T_mem (List.mem_of_getElem? (i := 1208) (by decide +kernel)) (by decide +kernel)
theorem ci_L_128 : CI RL 128 yX5_pack cX5_pack 4 (some .int) 0 := ⟨mw_L_128, cx_X5_pack, cw_X5_pack, by decide, by decide, by decide +kernel⟩
set_option maxRecDepth 100000 in
theorem cw_X4_machines : Cond.code yX4_machines cX4_machines 1 (some .int) ∈ lw_T := lw_T_mem (List.mem_of_getElem? (i := 687) (by decide +kernel)) (by decide +kernel)
set_option maxRecDepth 100000 in
theorem cx_X4_machines : Cond.initialized yX4_machines.cls ∈ lw_T := lw_T_mem (List.mem_of_getElem? (i := 44) (by decide +kernel)) (by decide +kernel)
set_option maxRecDepth 100000 in
theorem ct_X4_machines : Cond.instanceMethod yX4_machines ∈ lw_T := lw_T_mem (List.mem_of_getElem? (i := 685) (by decide +kernel)) (by decide +kernel)
set_option maxRecDepth 100000 in
theorem cs_X4_machines : Cond.selects yX4_machines.cls yX4_machines yX4_machines ∈ lw_T := lw_T_mem (List.mem_of_getElem? (i := 686) (by decide +kernel)) (by decide +kernel)
set_option maxRecDepth 100000 in
theorem mw_L_129 : Cond.methodLink RL 129 yX4_machines ∈ lw_T := lw_T_mem (List.mem_of_getElem? (i := 684) (by decide +kernel)) (by decide +kernel)
theorem ci_L_129 : CI RL 129 yX4_machines cX4_machines 1 (some .int) 0 := ⟨mw_L_129, cx_X4_machines, cw_X4_machines, by decide, by decide, by decide +kernel⟩
set_option maxRecDepth 100000 in
theorem cw_X5_machines : Cond.code yX5_machines cX5_machines 1 (some .int) ∈ lw_T := lw_T_mem (List.mem_of_getElem? (i := 1223) (by decide +kernel)) (by decide +kernel)
set_option maxRecDepth 100000 in
theorem cx_X5_machines : Cond.initialized yX5_machines.cls ∈ lw_T := lw_T_mem (List.mem_of_getElem? (i := 51) (by decide +kernel)) (by decide +kernel)
set_option maxRecDepth 100000 in
theorem ct_X5_machines : Cond.instanceMethod yX5_machines ∈ lw_T := lw_T_mem (List.mem_of_getElem? (i := 1221) (by decide +kernel)) (by decide +kernel)
set_option maxRecDepth 100000 in
theorem cs_X5_machines : Cond.selects yX5_machines.cls yX5_machines yX5_machines ∈ lw_T := lw_T_mem (List.mem_of_getElem? (i := 1222) (by decide +kernel)) (by decide +kernel)
set_option maxRecDepth 100000 in
theorem mw_L_132 : Cond.methodLink RL 132 yX5_machines ∈ lw_T := lw_T_mem (List.mem_of_getElem? (i := 1220) (by decide +kernel)) (by decide +kernel)
theorem ci_L_132 : CI RL 132 yX5_machines cX5_machines 1 (some .int) 0 := ⟨mw_L_132, cx_X5_machines, cw_X5_machines, by decide, by decide, by decide +kernel⟩
set_option maxRecDepth 100000 in
theorem cw_X5_rackOf : Cond.code yX5_rackOf cX5_rackOf 3 (some .int) ∈ lw_T := lw_T_mem (List.mem_of_getElem? (i := 1227) (by decide +kernel)) (by decide +kernel)
set_option maxRecDepth 100000 in
theorem cx_X5_rackOf : Cond.initialized yX5_rackOf.cls ∈ lw_T := lw_T_mem (List.mem_of_getElem? (i := 51) (by decide +kernel)) (by decide +kernel)
set_option maxRecDepth 100000 in
theorem ct_X5_rackOf : Cond.instanceMethod yX5_rackOf ∈ lw_T := lw_T_mem (List.mem_of_getElem? (i := 1225) (by decide +kernel)) (by decide +kernel)
set_option maxRecDepth 100000 in
theorem cs_X5_rackOf : Cond.selects yX5_rackOf.cls yX5_rackOf yX5_rackOf ∈ lw_T := lw_T_mem (List.mem_of_getElem? (i := 1226) (by decide +kernel)) (by decide +kernel)
set_option maxRecDepth 100000 in
theorem mw_L_135 : Cond.methodLink RL 135 yX5_rackOf ∈ lw_T := lw_T_mem (List.mem_of_getElem? (i := 1224) (by decide +kernel)) (by decide +kernel)
theorem ci_L_135 : CI RL 135 yX5_rackOf cX5_rackOf 3 (some .int) 1 := ⟨mw_L_135, cx_X5_rackOf, cw_X5_rackOf, by decide, by decide, by decide +kernel⟩
set_option maxRecDepth 100000 in
theorem cw_X5_slotOf : Cond.code yX5_slotOf cX5_slotOf 3 (some .int) ∈ lw_T := lw_T_mem (List.mem_of_getElem? (i := 1231) (by decide +kernel)) (by decide +kernel)
set_option maxRecDepth 100000 in
theorem cx_X5_slotOf : Cond.initialized yX5_slotOf.cls ∈ lw_T := lw_T_mem (List.mem_of_getElem? (i := 51) (by decide +kernel)) (by decide +kernel)
set_option maxRecDepth 100000 in
theorem ct_X5_slotOf : Cond.instanceMethod yX5_slotOf ∈ lw_T := lw_T_mem (List.mem_of_getElem? (i := 1229) (by decide +kernel)) (by decide +kernel)
set_option maxRecDepth 100000 in
theorem cs_X5_slotOf : Cond.selects yX5_slotOf.cls yX5_slotOf yX5_slotOf ∈ lw_T := lw_T_mem (List.mem_of_getElem? (i := 1230) (by decide +kernel)) (by decide +kernel)
set_option maxRecDepth 100000 in
theorem mw_L_138 : Cond.methodLink RL 138 yX5_slotOf ∈ lw_T := lw_T_mem (List.mem_of_getElem? (i := 1228) (by decide +kernel)) (by decide +kernel)
theorem ci_L_138 : CI RL 138 yX5_slotOf cX5_slotOf 3 (some .int) 1 := ⟨mw_L_138, cx_X5_slotOf, cw_X5_slotOf, by decide, by decide, by decide +kernel⟩
set_option maxRecDepth 100000 in
theorem cw_X5_isDark : Cond.code yX5_isDark cX5_isDark 3 (some .boolean) ∈ lw_T := lw_T_mem (List.mem_of_getElem? (i := 1235) (by decide +kernel)) (by decide +kernel)
set_option maxRecDepth 100000 in
theorem cx_X5_isDark : Cond.initialized yX5_isDark.cls ∈ lw_T := lw_T_mem (List.mem_of_getElem? (i := 51) (by decide +kernel)) (by decide +kernel)
set_option maxRecDepth 100000 in
theorem ct_X5_isDark : Cond.instanceMethod yX5_isDark ∈ lw_T := lw_T_mem (List.mem_of_getElem? (i := 1233) (by decide +kernel)) (by decide +kernel)
set_option maxRecDepth 100000 in
theorem cs_X5_isDark : Cond.selects yX5_isDark.cls yX5_isDark yX5_isDark ∈ lw_T := lw_T_mem (List.mem_of_getElem? (i := 1234) (by decide +kernel)) (by decide +kernel)
set_option maxRecDepth 100000 in
theorem mw_L_141 : Cond.methodLink RL 141 yX5_isDark ∈ lw_T := lw_T_mem (List.mem_of_getElem? (i := 1232) (by decide +kernel)) (by decide +kernel)
theorem ci_L_141 : CI RL 141 yX5_isDark cX5_isDark 3 (some .boolean) 1 := ⟨mw_L_141, cx_X5_isDark, cw_X5_isDark, by decide, by decide, by decide +kernel⟩
set_option maxRecDepth 100000 in
theorem cw_X5_machineAt : Cond.code yX5_machineAt cX5_machineAt 5 (some .int) ∈ lw_T := lw_T_mem (List.mem_of_getElem? (i := 1239) (by decide +kernel)) (by decide +kernel)
set_option maxRecDepth 100000 in
theorem cx_X5_machineAt : Cond.initialized yX5_machineAt.cls ∈ lw_T := lw_T_mem (List.mem_of_getElem? (i := 51) (by decide +kernel)) (by decide +kernel)
set_option maxRecDepth 100000 in
theorem ct_X5_machineAt : Cond.instanceMethod yX5_machineAt ∈ lw_T := lw_T_mem (List.mem_of_getElem? (i := 1237) (by decide +kernel)) (by decide +kernel)
set_option maxRecDepth 100000 in
theorem cs_X5_machineAt : Cond.selects yX5_machineAt.cls yX5_machineAt yX5_machineAt ∈ lw_T := lw_T_mem (List.mem_of_getElem? (i := 1238) (by decide +kernel)) (by decide +kernel)
set_option maxRecDepth 100000 in
theorem mw_L_144 : Cond.methodLink RL 144 yX5_machineAt ∈ lw_T := lw_T_mem (List.mem_of_getElem? (i := 1236) (by decide +kernel)) (by decide +kernel)
theorem ci_L_144 : CI RL 144 yX5_machineAt cX5_machineAt 5 (some .int) 2 := ⟨mw_L_144, cx_X5_machineAt, cw_X5_machineAt, by decide, by decide, by decide +kernel⟩
set_option maxRecDepth 100000 in
theorem cw_X5_next : Cond.code yX5_next cX5_next 6 (some .int) ∈ lw_T := lw_T_mem (List.mem_of_getElem? (i := 1247) (by decide +kernel)) (by decide +kernel)
set_option maxRecDepth 100000 in
theorem cx_X5_next : Cond.initialized yX5_next.cls ∈ lw_T := lw_T_mem (List.mem_of_getElem? (i := 51) (by decide +kernel)) (by decide +kernel)
set_option maxRecDepth 100000 in
theorem ct_X5_next : Cond.instanceMethod yX5_next ∈ lw_T := lw_T_mem (List.mem_of_getElem? (i := 1245) (by decide +kernel)) (by decide +kernel)
set_option maxRecDepth 100000 in
theorem cs_X5_next : Cond.selects yX5_next.cls yX5_next yX5_next ∈ lw_T := lw_T_mem (List.mem_of_getElem? (i := 1246) (by decide +kernel)) (by decide +kernel)
set_option maxRecDepth 100000 in
theorem mw_L_147 : Cond.methodLink RL 147 yX5_next ∈ lw_T := lw_T_mem (List.mem_of_getElem? (i := 1244) (by decide +kernel)) (by decide +kernel)
theorem ci_L_147 : CI RL 147 yX5_next cX5_next 6 (some .int) 1 := ⟨mw_L_147, cx_X5_next, cw_X5_next, by decide, by decide, by decide +kernel⟩
set_option maxRecDepth 100000 in
theorem cw_X5_powerOf : Cond.code yX5_powerOf cX5_powerOf 5 (some .int) ∈ lw_T := lw_T_mem (List.mem_of_getElem? (i := 1255) (by decide +kernel)) (by decide +kernel)
set_option maxRecDepth 100000 in
theorem cx_X5_powerOf : Cond.initialized yX5_powerOf.cls ∈ lw_T := lw_T_mem (List.mem_of_getElem? (i := 51) (by decide +kernel)) (by decide +kernel)
set_option maxRecDepth 100000 in
theorem ct_X5_powerOf : Cond.instanceMethod yX5_powerOf ∈ lw_T := lw_T_mem (List.mem_of_getElem? (i := 1253) (by decide +kernel)) (by decide +kernel)
set_option maxRecDepth 100000 in
theorem cs_X5_powerOf : Cond.selects yX5_powerOf.cls yX5_powerOf yX5_powerOf ∈ lw_T := lw_T_mem (List.mem_of_getElem? (i := 1254) (by decide +kernel)) (by decide +kernel)
set_option maxRecDepth 100000 in
theorem mw_L_150 : Cond.methodLink RL 150 yX5_powerOf ∈ lw_T := lw_T_mem (List.mem_of_getElem? (i := 1252) (by decide +kernel)) (by decide +kernel)
theorem ci_L_150 : CI RL 150 yX5_powerOf cX5_powerOf 5 (some .int) 2 := ⟨mw_L_150, cx_X5_powerOf, cw_X5_powerOf, by decide, by decide, by decide +kernel⟩
set_option maxRecDepth 100000 in
theorem cw_X5_worstOf : Cond.code yX5_worstOf cX5_worstOf 3 (some .int) ∈ lw_T := lw_T_mem (List.mem_of_getElem? (i := 1263) (by decide +kernel)) (by decide +kernel)
set_option maxRecDepth 100000 in
theorem cx_X5_worstOf : Cond.initialized yX5_worstOf.cls ∈ lw_T := lw_T_mem (List.mem_of_getElem? (i := 51) (by decide +kernel)) (by decide +kernel)
set_option maxRecDepth 100000 in
theorem ct_X5_worstOf : Cond.instanceMethod yX5_worstOf ∈ lw_T := lw_T_mem (List.mem_of_getElem? (i := 1261) (by decide +kernel)) (by decide +kernel)
set_option maxRecDepth 100000 in
theorem cs_X5_worstOf : Cond.selects yX5_worstOf.cls yX5_worstOf yX5_worstOf ∈ lw_T := lw_T_mem (List.mem_of_getElem? (i := 1262) (by decide +kernel)) (by decide +kernel)
set_option maxRecDepth 100000 in
theorem mw_L_153 : Cond.methodLink RL 153 yX5_worstOf ∈ lw_T := lw_T_mem (List.mem_of_getElem? (i := 1260) (by decide +kernel)) (by decide +kernel)
theorem ci_L_153 : CI RL 153 yX5_worstOf cX5_worstOf 3 (some .int) 2 := ⟨mw_L_153, cx_X5_worstOf, cw_X5_worstOf, by decide, by decide, by decide +kernel⟩
set_option maxRecDepth 100000 in
theorem cw_X5_weightOf : Cond.code yX5_weightOf cX5_weightOf 2 (some .int) ∈ lw_T := lw_T_mem (List.mem_of_getElem? (i := 1267) (by decide +kernel)) (by decide +kernel)
set_option maxRecDepth 100000 in
theorem cx_X5_weightOf : Cond.initialized yX5_weightOf.cls ∈ lw_T := lw_T_mem (List.mem_of_getElem? (i := 51) (by decide +kernel)) (by decide +kernel)
set_option maxRecDepth 100000 in
theorem ct_X5_weightOf : Cond.instanceMethod yX5_weightOf ∈ lw_T := lw_T_mem (List.mem_of_getElem? (i := 1265) (by decide +kernel)) (by decide +kernel)
set_option maxRecDepth 100000 in
theorem cs_X5_weightOf : Cond.selects yX5_weightOf.cls yX5_weightOf yX5_weightOf ∈ lw_T := lw_T_mem (List.mem_of_getElem? (i := 1266) (by decide +kernel)) (by decide +kernel)
set_option maxRecDepth 100000 in
theorem mw_L_156 : Cond.methodLink RL 156 yX5_weightOf ∈ lw_T := lw_T_mem (List.mem_of_getElem? (i := 1264) (by decide +kernel)) (by decide +kernel)
theorem ci_L_156 : CI RL 156 yX5_weightOf cX5_weightOf 2 (some .int) 1 := ⟨mw_L_156, cx_X5_weightOf, cw_X5_weightOf, by decide, by decide, by decide +kernel⟩
set_option maxRecDepth 100000 in
theorem cw_X5_heatOf : Cond.code yX5_heatOf cX5_heatOf 4 (some .int) ∈ lw_T := lw_T_mem (List.mem_of_getElem? (i := 1271) (by decide +kernel)) (by decide +kernel)
set_option maxRecDepth 100000 in
theorem cx_X5_heatOf : Cond.initialized yX5_heatOf.cls ∈ lw_T := lw_T_mem (List.mem_of_getElem? (i := 51) (by decide +kernel)) (by decide +kernel)
set_option maxRecDepth 100000 in
theorem ct_X5_heatOf : Cond.instanceMethod yX5_heatOf ∈ lw_T := lw_T_mem (List.mem_of_getElem? (i := 1269) (by decide +kernel)) (by decide +kernel)
set_option maxRecDepth 100000 in
theorem cs_X5_heatOf : Cond.selects yX5_heatOf.cls yX5_heatOf yX5_heatOf ∈ lw_T := lw_T_mem (List.mem_of_getElem? (i := 1270) (by decide +kernel)) (by decide +kernel)
set_option maxRecDepth 100000 in
theorem mw_L_159 : Cond.methodLink RL 159 yX5_heatOf ∈ lw_T := lw_T_mem (List.mem_of_getElem? (i := 1268) (by decide +kernel)) (by decide +kernel)
theorem ci_L_159 : CI RL 159 yX5_heatOf cX5_heatOf 4 (some .int) 1 := ⟨mw_L_159, cx_X5_heatOf, cw_X5_heatOf, by decide, by decide, by decide +kernel⟩
set_option maxRecDepth 100000 in
theorem cw_X5_gap : Cond.code yX5_gap cX5_gap 5 (some .int) ∈ lw_T := lw_T_mem (List.mem_of_getElem? (i := 1275) (by decide +kernel)) (by decide +kernel)
set_option maxRecDepth 100000 in
theorem cx_X5_gap : Cond.initialized yX5_gap.cls ∈ lw_T := lw_T_mem (List.mem_of_getElem? (i := 51) (by decide +kernel)) (by decide +kernel)
set_option maxRecDepth 100000 in
theorem ct_X5_gap : Cond.instanceMethod yX5_gap ∈ lw_T := lw_T_mem (List.mem_of_getElem? (i := 1273) (by decide +kernel)) (by decide +kernel)
set_option maxRecDepth 100000 in
theorem cs_X5_gap : Cond.selects yX5_gap.cls yX5_gap yX5_gap ∈ lw_T := lw_T_mem (List.mem_of_getElem? (i := 1274) (by decide +kernel)) (by decide +kernel)
set_option maxRecDepth 100000 in
theorem mw_L_162 : Cond.methodLink RL 162 yX5_gap ∈ lw_T := lw_T_mem (List.mem_of_getElem? (i := 1272) (by decide +kernel)) (by decide +kernel)
theorem ci_L_162 : CI RL 162 yX5_gap cX5_gap 5 (some .int) 1 := ⟨mw_L_162, cx_X5_gap, cw_X5_gap, by decide, by decide, by decide +kernel⟩
set_option maxRecDepth 100000 in
theorem cw_X5_racksFor : Cond.code yX5_racksFor cX5_racksFor 7 (some .int) ∈ lw_T := lw_T_mem (List.mem_of_getElem? (i := 1279) (by decide +kernel)) (by decide +kernel)
set_option maxRecDepth 100000 in
theorem cx_X5_racksFor : Cond.initialized yX5_racksFor.cls ∈ lw_T := lw_T_mem (List.mem_of_getElem? (i := 51) (by decide +kernel)) (by decide +kernel)
set_option maxRecDepth 100000 in
theorem ct_X5_racksFor : Cond.instanceMethod yX5_racksFor ∈ lw_T := lw_T_mem (List.mem_of_getElem? (i := 1277) (by decide +kernel)) (by decide +kernel)
set_option maxRecDepth 100000 in
theorem cs_X5_racksFor : Cond.selects yX5_racksFor.cls yX5_racksFor yX5_racksFor ∈ lw_T := lw_T_mem (List.mem_of_getElem? (i := 1278) (by decide +kernel)) (by decide +kernel)
set_option maxRecDepth 100000 in
theorem mw_L_165 : Cond.methodLink RL 165 yX5_racksFor ∈ lw_T := lw_T_mem (List.mem_of_getElem? (i := 1276) (by decide +kernel)) (by decide +kernel)
theorem ci_L_165 : CI RL 165 yX5_racksFor cX5_racksFor 7 (some .int) 4 := ⟨mw_L_165, cx_X5_racksFor, cw_X5_racksFor, by decide, by decide, by decide +kernel⟩
set_option maxRecDepth 100000 in
theorem cw_X5_roomFor : Cond.code yX5_roomFor cX5_roomFor 5 (some .int) ∈ lw_T := lw_T_mem (List.mem_of_getElem? (i := 1294) (by decide +kernel)) (by decide +kernel)
set_option maxRecDepth 100000 in
theorem cx_X5_roomFor : Cond.initialized yX5_roomFor.cls ∈ lw_T := lw_T_mem (List.mem_of_getElem? (i := 51) (by decide +kernel)) (by decide +kernel)
set_option maxRecDepth 100000 in
theorem ct_X5_roomFor : Cond.instanceMethod yX5_roomFor ∈ lw_T := lw_T_mem (List.mem_of_getElem? (i := 1292) (by decide +kernel)) (by decide +kernel)
set_option maxRecDepth 100000 in
theorem cs_X5_roomFor : Cond.selects yX5_roomFor.cls yX5_roomFor yX5_roomFor ∈ lw_T := lw_T_mem (List.mem_of_getElem? (i := 1293) (by decide +kernel)) (by decide +kernel)
set_option maxRecDepth 100000 in
theorem mw_L_168 : Cond.methodLink RL 168 yX5_roomFor ∈ lw_T := lw_T_mem (List.mem_of_getElem? (i := 1291) (by decide +kernel)) (by decide +kernel)
theorem ci_L_168 : CI RL 168 yX5_roomFor cX5_roomFor 5 (some .int) 4 := ⟨mw_L_168, cx_X5_roomFor, cw_X5_roomFor, by decide, by decide, by decide +kernel⟩
set_option maxRecDepth 100000 in
theorem cw_X5_roomByCounting : Cond.code yX5_roomByCounting cX5_roomByCounting 9 (some .int) ∈ lw_T := lw_T_mem (List.mem_of_getElem? (i := 1283) (by decide +kernel)) (by decide +kernel)
set_option maxRecDepth 100000 in
theorem cx_X5_roomByCounting : Cond.initialized yX5_roomByCounting.cls ∈ lw_T := lw_T_mem (List.mem_of_getElem? (i := 51) (by decide +kernel)) (by decide +kernel)
set_option maxRecDepth 100000 in
theorem ct_X5_roomByCounting : Cond.instanceMethod yX5_roomByCounting ∈ lw_T := lw_T_mem (List.mem_of_getElem? (i := 1281) (by decide +kernel)) (by decide +kernel)
set_option maxRecDepth 100000 in
theorem cs_X5_roomByCounting : Cond.selects yX5_roomByCounting.cls yX5_roomByCounting yX5_roomByCounting ∈ lw_T := lw_T_mem (List.mem_of_getElem? (i := 1282) (by decide +kernel)) (by decide +kernel)
set_option maxRecDepth 100000 in
theorem mw_L_171 : Cond.methodLink RL 171 yX5_roomByCounting ∈ lw_T := lw_T_mem (List.mem_of_getElem? (i := 1280) (by decide +kernel)) (by decide +kernel)
theorem ci_L_171 : CI RL 171 yX5_roomByCounting cX5_roomByCounting 9 (some .int) 4 := ⟨mw_L_171, cx_X5_roomByCounting, cw_X5_roomByCounting, by decide, by decide, by decide +kernel⟩
set_option maxRecDepth 100000 in
theorem tw_m_X5_1 : Cond.methodLink RX5 1 objectInit ∈ lw_T := lw_T_mem (List.mem_of_getElem? (i := 1046) (by decide +kernel)) (by decide +kernel)
set_option maxRecDepth 100000 in
theorem fw_X5_7 : Cond.fieldLink RX5 7 "RackPlannerModel" "rowOf" "[I" ∈ lw_T := lw_T_mem (List.mem_of_getElem? (i := 1048) (by decide +kernel)) (by decide +kernel)
theorem fd_X5_7_8 : FD RX5 7 8 1 := ⟨RX5, TX5, 21, "RackPlannerModel", rfl, in_X5, by decide, fw_X5_7, (fun s args x _ h => h)⟩
theorem fp_X5_7_8 : FP RX5 7 8 1 (.array .int) true := ⟨RX5, TX5, 21, "RackPlannerModel", tyX5, ⟨rfl, in_X5, by decide, fw_X5_7, (fun s args x _ h => h)⟩, tyX5_ok, nmX5, by decide +kernel, rfl, fun _ => rfl⟩
set_option maxRecDepth 100000 in
theorem fw_X5_13 : Cond.fieldLink RX5 13 "RackPlannerModel" "slots" "[I" ∈ lw_T := lw_T_mem (List.mem_of_getElem? (i := 1049) (by decide +kernel)) (by decide +kernel)
theorem fd_X5_13_8 : FD RX5 13 8 2 := ⟨RX5, TX5, 21, "RackPlannerModel", rfl, in_X5, by decide, fw_X5_13, (fun s args x _ h => h)⟩
theorem fp_X5_13_8 : FP RX5 13 8 2 (.array .int) true := ⟨RX5, TX5, 21, "RackPlannerModel", tyX5, ⟨rfl, in_X5, by decide, fw_X5_13, (fun s args x _ h => h)⟩, tyX5_ok, nmX5, by decide +kernel, rfl, fun _ => rfl⟩
set_option maxRecDepth 100000 in
theorem fw_X5_16 : Cond.fieldLink RX5 16 "RackPlannerModel" "weightLimit" "[I" ∈ lw_T := lw_T_mem (List.mem_of_getElem? (i := 1050) (by decide +kernel)) (by decide +kernel)
theorem fd_X5_16_8 : FD RX5 16 8 3 := ⟨RX5, TX5, 21, "RackPlannerModel", rfl, in_X5, by decide, fw_X5_16, (fun s args x _ h => h)⟩
theorem fp_X5_16_8 : FP RX5 16 8 3 (.array .int) true := ⟨RX5, TX5, 21, "RackPlannerModel", tyX5, ⟨rfl, in_X5, by decide, fw_X5_16, (fun s args x _ h => h)⟩, tyX5_ok, nmX5, by decide +kernel, rfl, fun _ => rfl⟩
set_option maxRecDepth 100000 in
theorem fw_X5_19 : Cond.fieldLink RX5 19 "RackPlannerModel" "powerLimit" "[I" ∈ lw_T := lw_T_mem (List.mem_of_getElem? (i := 1051) (by decide +kernel)) (by decide +kernel)
theorem fd_X5_19_8 : FD RX5 19 8 4 := ⟨RX5, TX5, 21, "RackPlannerModel", rfl, in_X5, by decide, fw_X5_19, (fun s args x _ h => h)⟩
theorem fp_X5_19_8 : FP RX5 19 8 4 (.array .int) true := ⟨RX5, TX5, 21, "RackPlannerModel", tyX5, ⟨rfl, in_X5, by decide, fw_X5_19, (fun s args x _ h => h)⟩, tyX5_ok, nmX5, by decide +kernel, rfl, fun _ => rfl⟩
set_option maxRecDepth 100000 in
theorem fw_X5_22 : Cond.fieldLink RX5 22 "RackPlannerModel" "rowHeat" "[I" ∈ lw_T := lw_T_mem (List.mem_of_getElem? (i := 1053) (by decide +kernel)) (by decide +kernel)
theorem fd_X5_22_8 : FD RX5 22 8 6 := ⟨RX5, TX5, 21, "RackPlannerModel", rfl, in_X5, by decide, fw_X5_22, (fun s args x _ h => h)⟩
theorem fp_X5_22_8 : FP RX5 22 8 6 (.array .int) true := ⟨RX5, TX5, 21, "RackPlannerModel", tyX5, ⟨rfl, in_X5, by decide, fw_X5_22, (fun s args x _ h => h)⟩, tyX5_ok, nmX5, by decide +kernel, rfl, fun _ => rfl⟩
set_option maxRecDepth 100000 in
theorem fw_X5_25 : Cond.fieldLink RX5 25 "RackPlannerModel" "rowWeight" "[I" ∈ lw_T := lw_T_mem (List.mem_of_getElem? (i := 1054) (by decide +kernel)) (by decide +kernel)
theorem fd_X5_25_8 : FD RX5 25 8 7 := ⟨RX5, TX5, 21, "RackPlannerModel", rfl, in_X5, by decide, fw_X5_25, (fun s args x _ h => h)⟩
theorem fp_X5_25_8 : FP RX5 25 8 7 (.array .int) true := ⟨RX5, TX5, 21, "RackPlannerModel", tyX5, ⟨rfl, in_X5, by decide, fw_X5_25, (fun s args x _ h => h)⟩, tyX5_ok, nmX5, by decide +kernel, rfl, fun _ => rfl⟩
set_option maxRecDepth 100000 in
theorem fw_X5_28 : Cond.fieldLink RX5 28 "RackPlannerModel" "feedLimit" "[I" ∈ lw_T := lw_T_mem (List.mem_of_getElem? (i := 1055) (by decide +kernel)) (by decide +kernel)
theorem fd_X5_28_8 : FD RX5 28 8 8 := ⟨RX5, TX5, 21, "RackPlannerModel", rfl, in_X5, by decide, fw_X5_28, (fun s args x _ h => h)⟩
theorem fp_X5_28_8 : FP RX5 28 8 8 (.array .int) true := ⟨RX5, TX5, 21, "RackPlannerModel", tyX5, ⟨rfl, in_X5, by decide, fw_X5_28, (fun s args x _ h => h)⟩, tyX5_ok, nmX5, by decide +kernel, rfl, fun _ => rfl⟩
set_option maxRecDepth 100000 in
theorem fw_X5_31 : Cond.fieldLink RX5 31 "RackPlannerModel" "isOff" "[Z" ∈ lw_T := lw_T_mem (List.mem_of_getElem? (i := 1056) (by decide +kernel)) (by decide +kernel)
theorem fd_X5_31_8 : FD RX5 31 8 9 := ⟨RX5, TX5, 21, "RackPlannerModel", rfl, in_X5, by decide, fw_X5_31, (fun s args x _ h => h)⟩
theorem fp_X5_31_8 : FP RX5 31 8 9 (.array .boolean) true := ⟨RX5, TX5, 21, "RackPlannerModel", tyX5, ⟨rfl, in_X5, by decide, fw_X5_31, (fun s args x _ h => h)⟩, tyX5_ok, nmX5, by decide +kernel, rfl, fun _ => rfl⟩
set_option maxRecDepth 100000 in
theorem fw_X5_35 : Cond.fieldLink RX5 35 "RackPlannerModel" "number" "[I" ∈ lw_T := lw_T_mem (List.mem_of_getElem? (i := 1057) (by decide +kernel)) (by decide +kernel)
theorem fd_X5_35_8 : FD RX5 35 8 10 := ⟨RX5, TX5, 21, "RackPlannerModel", rfl, in_X5, by decide, fw_X5_35, (fun s args x _ h => h)⟩
theorem fp_X5_35_8 : FP RX5 35 8 10 (.array .int) true := ⟨RX5, TX5, 21, "RackPlannerModel", tyX5, ⟨rfl, in_X5, by decide, fw_X5_35, (fun s args x _ h => h)⟩, tyX5_ok, nmX5, by decide +kernel, rfl, fun _ => rfl⟩
set_option maxRecDepth 100000 in
theorem fw_X5_38 : Cond.fieldLink RX5 38 "RackPlannerModel" "size" "[I" ∈ lw_T := lw_T_mem (List.mem_of_getElem? (i := 1058) (by decide +kernel)) (by decide +kernel)
theorem fd_X5_38_8 : FD RX5 38 8 11 := ⟨RX5, TX5, 21, "RackPlannerModel", rfl, in_X5, by decide, fw_X5_38, (fun s args x _ h => h)⟩
theorem fp_X5_38_8 : FP RX5 38 8 11 (.array .int) true := ⟨RX5, TX5, 21, "RackPlannerModel", tyX5, ⟨rfl, in_X5, by decide, fw_X5_38, (fun s args x _ h => h)⟩, tyX5_ok, nmX5, by decide +kernel, rfl, fun _ => rfl⟩
set_option maxRecDepth 100000 in
theorem fw_X5_41 : Cond.fieldLink RX5 41 "RackPlannerModel" "power" "[I" ∈ lw_T := lw_T_mem (List.mem_of_getElem? (i := 1059) (by decide +kernel)) (by decide +kernel)
theorem fd_X5_41_8 : FD RX5 41 8 12 := ⟨RX5, TX5, 21, "RackPlannerModel", rfl, in_X5, by decide, fw_X5_41, (fun s args x _ h => h)⟩
theorem fp_X5_41_8 : FP RX5 41 8 12 (.array .int) true := ⟨RX5, TX5, 21, "RackPlannerModel", tyX5, ⟨rfl, in_X5, by decide, fw_X5_41, (fun s args x _ h => h)⟩, tyX5_ok, nmX5, by decide +kernel, rfl, fun _ => rfl⟩
set_option maxRecDepth 100000 in
theorem fw_X5_44 : Cond.fieldLink RX5 44 "RackPlannerModel" "weight" "[I" ∈ lw_T := lw_T_mem (List.mem_of_getElem? (i := 1060) (by decide +kernel)) (by decide +kernel)
theorem fd_X5_44_8 : FD RX5 44 8 13 := ⟨RX5, TX5, 21, "RackPlannerModel", rfl, in_X5, by decide, fw_X5_44, (fun s args x _ h => h)⟩
theorem fp_X5_44_8 : FP RX5 44 8 13 (.array .int) true := ⟨RX5, TX5, 21, "RackPlannerModel", tyX5, ⟨rfl, in_X5, by decide, fw_X5_44, (fun s args x _ h => h)⟩, tyX5_ok, nmX5, by decide +kernel, rfl, fun _ => rfl⟩
set_option maxRecDepth 100000 in
theorem fw_X5_47 : Cond.fieldLink RX5 47 "RackPlannerModel" "cords" "[I" ∈ lw_T := lw_T_mem (List.mem_of_getElem? (i := 1061) (by decide +kernel)) (by decide +kernel)
theorem fd_X5_47_8 : FD RX5 47 8 14 := ⟨RX5, TX5, 21, "RackPlannerModel", rfl, in_X5, by decide, fw_X5_47, (fun s args x _ h => h)⟩
theorem fp_X5_47_8 : FP RX5 47 8 14 (.array .int) true := ⟨RX5, TX5, 21, "RackPlannerModel", tyX5, ⟨rfl, in_X5, by decide, fw_X5_47, (fun s args x _ h => h)⟩, tyX5_ok, nmX5, by decide +kernel, rfl, fun _ => rfl⟩
set_option maxRecDepth 100000 in
theorem fw_X5_50 : Cond.fieldLink RX5 50 "RackPlannerModel" "rack" "[I" ∈ lw_T := lw_T_mem (List.mem_of_getElem? (i := 1062) (by decide +kernel)) (by decide +kernel)
theorem fd_X5_50_8 : FD RX5 50 8 15 := ⟨RX5, TX5, 21, "RackPlannerModel", rfl, in_X5, by decide, fw_X5_50, (fun s args x _ h => h)⟩
theorem fp_X5_50_8 : FP RX5 50 8 15 (.array .int) true := ⟨RX5, TX5, 21, "RackPlannerModel", tyX5, ⟨rfl, in_X5, by decide, fw_X5_50, (fun s args x _ h => h)⟩, tyX5_ok, nmX5, by decide +kernel, rfl, fun _ => rfl⟩
set_option maxRecDepth 100000 in
theorem fw_X5_53 : Cond.fieldLink RX5 53 "RackPlannerModel" "slot" "[I" ∈ lw_T := lw_T_mem (List.mem_of_getElem? (i := 1063) (by decide +kernel)) (by decide +kernel)
theorem fd_X5_53_8 : FD RX5 53 8 16 := ⟨RX5, TX5, 21, "RackPlannerModel", rfl, in_X5, by decide, fw_X5_53, (fun s args x _ h => h)⟩
theorem fp_X5_53_8 : FP RX5 53 8 16 (.array .int) true := ⟨RX5, TX5, 21, "RackPlannerModel", tyX5, ⟨rfl, in_X5, by decide, fw_X5_53, (fun s args x _ h => h)⟩, tyX5_ok, nmX5, by decide +kernel, rfl, fun _ => rfl⟩
set_option maxRecDepth 100000 in
theorem fw_X5_56 : Cond.fieldLink RX5 56 "RackPlannerModel" "oldRack" "[I" ∈ lw_T := lw_T_mem (List.mem_of_getElem? (i := 1066) (by decide +kernel)) (by decide +kernel)
theorem fd_X5_56_8 : FD RX5 56 8 19 := ⟨RX5, TX5, 21, "RackPlannerModel", rfl, in_X5, by decide, fw_X5_56, (fun s args x _ h => h)⟩
theorem fp_X5_56_8 : FP RX5 56 8 19 (.array .int) true := ⟨RX5, TX5, 21, "RackPlannerModel", tyX5, ⟨rfl, in_X5, by decide, fw_X5_56, (fun s args x _ h => h)⟩, tyX5_ok, nmX5, by decide +kernel, rfl, fun _ => rfl⟩
set_option maxRecDepth 100000 in
theorem fw_X5_59 : Cond.fieldLink RX5 59 "RackPlannerModel" "oldSlot" "[I" ∈ lw_T := lw_T_mem (List.mem_of_getElem? (i := 1067) (by decide +kernel)) (by decide +kernel)
theorem fd_X5_59_8 : FD RX5 59 8 20 := ⟨RX5, TX5, 21, "RackPlannerModel", rfl, in_X5, by decide, fw_X5_59, (fun s args x _ h => h)⟩
theorem fp_X5_59_8 : FP RX5 59 8 20 (.array .int) true := ⟨RX5, TX5, 21, "RackPlannerModel", tyX5, ⟨rfl, in_X5, by decide, fw_X5_59, (fun s args x _ h => h)⟩, tyX5_ok, nmX5, by decide +kernel, rfl, fun _ => rfl⟩
set_option maxRecDepth 100000 in
theorem fw_X5_62 : Cond.fieldLink RX5 62 "RackPlannerModel" "thrown" "I" ∈ lw_T := lw_T_mem (List.mem_of_getElem? (i := 1047) (by decide +kernel)) (by decide +kernel)
theorem fd_X5_62_8 : FD RX5 62 8 0 := ⟨RX5, TX5, 21, "RackPlannerModel", rfl, in_X5, by decide, fw_X5_62, (fun s args x _ h => h)⟩
theorem fp_X5_62_8 : FP RX5 62 8 0 .int false := ⟨RX5, TX5, 21, "RackPlannerModel", tyX5, ⟨rfl, in_X5, by decide, fw_X5_62, (fun s args x _ h => h)⟩, tyX5_ok, nmX5, by decide +kernel, rfl, fun h => by cases h⟩
set_option maxRecDepth 100000 in
theorem fw_X5_66 : Cond.fieldLink RX5 66 "RackPlannerModel" "racks" "I" ∈ lw_T := lw_T_mem (List.mem_of_getElem? (i := 1052) (by decide +kernel)) (by decide +kernel)
theorem fd_X5_66_8 : FD RX5 66 8 5 := ⟨RX5, TX5, 21, "RackPlannerModel", rfl, in_X5, by decide, fw_X5_66, (fun s args x _ h => h)⟩
theorem fp_X5_66_8 : FP RX5 66 8 5 .int false := ⟨RX5, TX5, 21, "RackPlannerModel", tyX5, ⟨rfl, in_X5, by decide, fw_X5_66, (fun s args x _ h => h)⟩, tyX5_ok, nmX5, by decide +kernel, rfl, fun h => by cases h⟩
set_option maxRecDepth 100000 in
theorem cw_X5_isIn : Cond.code yX5_isIn cX5_isIn 3 (some .boolean) ∈ lw_T := lw_T_mem (List.mem_of_getElem? (i := 1121) (by decide +kernel)) (by decide +kernel)
set_option maxRecDepth 100000 in
theorem cx_X5_isIn : Cond.initialized yX5_isIn.cls ∈ lw_T := lw_T_mem (List.mem_of_getElem? (i := 51) (by decide +kernel)) (by decide +kernel)
set_option maxRecDepth 100000 in
theorem ct_X5_isIn : Cond.static yX5_isIn ∈ lw_T := lw_T_mem (List.mem_of_getElem? (i := 1120) (by decide +kernel)) (by decide +kernel)
set_option maxRecDepth 100000 in
theorem mw_X5_69 : Cond.methodLink RX5 69 yX5_isIn ∈ lw_T := lw_T_mem (List.mem_of_getElem? (i := 1119) (by decide +kernel)) (by decide +kernel)
theorem ci_X5_69 : CI RX5 69 yX5_isIn cX5_isIn 3 (some .boolean) 3 := ⟨mw_X5_69, cx_X5_isIn, cw_X5_isIn, by decide, by decide, by decide +kernel⟩
set_option maxRecDepth 100000 in
theorem fw_X5_73 : Cond.fieldLink RX5 73 "RackPlannerModel" "machines" "I" ∈ lw_T := lw_T_mem (List.mem_of_getElem? (i := 1064) (by decide +kernel)) (by decide +kernel)
theorem fd_X5_73_8 : FD RX5 73 8 17 := ⟨RX5, TX5, 21, "RackPlannerModel", rfl, in_X5, by decide, fw_X5_73, (fun s args x _ h => h)⟩
theorem fp_X5_73_8 : FP RX5 73 8 17 .int false := ⟨RX5, TX5, 21, "RackPlannerModel", tyX5, ⟨rfl, in_X5, by decide, fw_X5_73, (fun s args x _ h => h)⟩, tyX5_ok, nmX5, by decide +kernel, rfl, fun h => by cases h⟩
set_option maxRecDepth 100000 in
theorem cw_X5_isCorded : Cond.code yX5_isCorded cX5_isCorded 2 (some .boolean) ∈ lw_T := lw_T_mem (List.mem_of_getElem? (i := 1152) (by decide +kernel)) (by decide +kernel)
set_option maxRecDepth 100000 in
theorem cx_X5_isCorded : Cond.initialized yX5_isCorded.cls ∈ lw_T := lw_T_mem (List.mem_of_getElem? (i := 51) (by decide +kernel)) (by decide +kernel)
set_option maxRecDepth 100000 in
theorem ct_X5_isCorded : Cond.static yX5_isCorded ∈ lw_T := lw_T_mem (List.mem_of_getElem? (i := 1151) (by decide +kernel)) (by decide +kernel)
set_option maxRecDepth 100000 in
theorem mw_X5_76 : Cond.methodLink RX5 76 yX5_isCorded ∈ lw_T := lw_T_mem (List.mem_of_getElem? (i := 1150) (by decide +kernel)) (by decide +kernel)
theorem ci_X5_76 : CI RX5 76 yX5_isCorded cX5_isCorded 2 (some .boolean) 2 := ⟨mw_X5_76, cx_X5_isCorded, cw_X5_isCorded, by decide, by decide, by decide +kernel⟩
set_option maxRecDepth 100000 in
theorem cw_X5_weighs : Cond.code yX5_weighs cX5_weighs 4 (some .int) ∈ lw_T := lw_T_mem (List.mem_of_getElem? (i := 1141) (by decide +kernel)) (by decide +kernel)
set_option maxRecDepth 100000 in
theorem cx_X5_weighs : Cond.initialized yX5_weighs.cls ∈ lw_T := lw_T_mem (List.mem_of_getElem? (i := 51) (by decide +kernel)) (by decide +kernel)
set_option maxRecDepth 100000 in
theorem ct_X5_weighs : Cond.instanceMethod yX5_weighs ∈ lw_T := lw_T_mem (List.mem_of_getElem? (i := 1140) (by decide +kernel)) (by decide +kernel)
set_option maxRecDepth 100000 in
theorem cs_X5_weighs : Cond.selects yX5_weighs.cls yX5_weighs yX5_weighs ∈ lw_T := lw_T_mem (List.mem_of_getElem? (i := 28) (by decide +kernel)) (by decide +kernel)
set_option maxRecDepth 100000 in
theorem mw_X5_80 : Cond.methodLink RX5 80 yX5_weighs ∈ lw_T := lw_T_mem (List.mem_of_getElem? (i := 1138) (by decide +kernel)) (by decide +kernel)
theorem ci_X5_80 : CI RX5 80 yX5_weighs cX5_weighs 4 (some .int) 1 := ⟨mw_X5_80, cx_X5_weighs, cw_X5_weighs, by decide, by decide, by decide +kernel⟩
set_option maxRecDepth 100000 in
theorem cw_X5_isFine : Cond.code yX5_isFine cX5_isFine 2 (some .boolean) ∈ lw_T := lw_T_mem (List.mem_of_getElem? (i := 1125) (by decide +kernel)) (by decide +kernel)
set_option maxRecDepth 100000 in
theorem cx_X5_isFine : Cond.initialized yX5_isFine.cls ∈ lw_T := lw_T_mem (List.mem_of_getElem? (i := 51) (by decide +kernel)) (by decide +kernel)
set_option maxRecDepth 100000 in
theorem ct_X5_isFine : Cond.instanceMethod yX5_isFine ∈ lw_T := lw_T_mem (List.mem_of_getElem? (i := 1124) (by decide +kernel)) (by decide +kernel)
set_option maxRecDepth 100000 in
theorem cs_X5_isFine : Cond.selects yX5_isFine.cls yX5_isFine yX5_isFine ∈ lw_T := lw_T_mem (List.mem_of_getElem? (i := 25) (by decide +kernel)) (by decide +kernel)
set_option maxRecDepth 100000 in
theorem mw_X5_84 : Cond.methodLink RX5 84 yX5_isFine ∈ lw_T := lw_T_mem (List.mem_of_getElem? (i := 1122) (by decide +kernel)) (by decide +kernel)
theorem ci_X5_84 : CI RX5 84 yX5_isFine cX5_isFine 2 (some .boolean) 1 := ⟨mw_X5_84, cx_X5_isFine, cw_X5_isFine, by decide, by decide, by decide +kernel⟩
set_option maxRecDepth 100000 in
theorem cw_X5_rowHeats : Cond.code yX5_rowHeats cX5_rowHeats 4 (some .int) ∈ lw_T := lw_T_mem (List.mem_of_getElem? (i := 1133) (by decide +kernel)) (by decide +kernel)
set_option maxRecDepth 100000 in
theorem cx_X5_rowHeats : Cond.initialized yX5_rowHeats.cls ∈ lw_T := lw_T_mem (List.mem_of_getElem? (i := 51) (by decide +kernel)) (by decide +kernel)
set_option maxRecDepth 100000 in
theorem ct_X5_rowHeats : Cond.instanceMethod yX5_rowHeats ∈ lw_T := lw_T_mem (List.mem_of_getElem? (i := 1132) (by decide +kernel)) (by decide +kernel)
set_option maxRecDepth 100000 in
theorem cs_X5_rowHeats : Cond.selects yX5_rowHeats.cls yX5_rowHeats yX5_rowHeats ∈ lw_T := lw_T_mem (List.mem_of_getElem? (i := 26) (by decide +kernel)) (by decide +kernel)
set_option maxRecDepth 100000 in
theorem mw_X5_88 : Cond.methodLink RX5 88 yX5_rowHeats ∈ lw_T := lw_T_mem (List.mem_of_getElem? (i := 1130) (by decide +kernel)) (by decide +kernel)
theorem ci_X5_88 : CI RX5 88 yX5_rowHeats cX5_rowHeats 4 (some .int) 1 := ⟨mw_X5_88, cx_X5_rowHeats, cw_X5_rowHeats, by decide, by decide, by decide +kernel⟩
set_option maxRecDepth 100000 in
theorem cw_X5_rowWeighs : Cond.code yX5_rowWeighs cX5_rowWeighs 4 (some .int) ∈ lw_T := lw_T_mem (List.mem_of_getElem? (i := 1137) (by decide +kernel)) (by decide +kernel)
set_option maxRecDepth 100000 in
theorem cx_X5_rowWeighs : Cond.initialized yX5_rowWeighs.cls ∈ lw_T := lw_T_mem (List.mem_of_getElem? (i := 51) (by decide +kernel)) (by decide +kernel)
set_option maxRecDepth 100000 in
theorem ct_X5_rowWeighs : Cond.instanceMethod yX5_rowWeighs ∈ lw_T := lw_T_mem (List.mem_of_getElem? (i := 1136) (by decide +kernel)) (by decide +kernel)
set_option maxRecDepth 100000 in
theorem cs_X5_rowWeighs : Cond.selects yX5_rowWeighs.cls yX5_rowWeighs yX5_rowWeighs ∈ lw_T := lw_T_mem (List.mem_of_getElem? (i := 27) (by decide +kernel)) (by decide +kernel)
set_option maxRecDepth 100000 in
theorem mw_X5_91 : Cond.methodLink RX5 91 yX5_rowWeighs ∈ lw_T := lw_T_mem (List.mem_of_getElem? (i := 1134) (by decide +kernel)) (by decide +kernel)
theorem ci_X5_91 : CI RX5 91 yX5_rowWeighs cX5_rowWeighs 4 (some .int) 1 := ⟨mw_X5_91, cx_X5_rowWeighs, cw_X5_rowWeighs, by decide, by decide, by decide +kernel⟩
set_option maxRecDepth 100000 in
theorem cw_X5_worst : Cond.code yX5_worst cX5_worst 6 (some .int) ∈ lw_T := lw_T_mem (List.mem_of_getElem? (i := 1149) (by decide +kernel)) (by decide +kernel)
set_option maxRecDepth 100000 in
theorem cx_X5_worst : Cond.initialized yX5_worst.cls ∈ lw_T := lw_T_mem (List.mem_of_getElem? (i := 51) (by decide +kernel)) (by decide +kernel)
set_option maxRecDepth 100000 in
theorem ct_X5_worst : Cond.instanceMethod yX5_worst ∈ lw_T := lw_T_mem (List.mem_of_getElem? (i := 1148) (by decide +kernel)) (by decide +kernel)
set_option maxRecDepth 100000 in
theorem cs_X5_worst : Cond.selects yX5_worst.cls yX5_worst yX5_worst ∈ lw_T := lw_T_mem (List.mem_of_getElem? (i := 29) (by decide +kernel)) (by decide +kernel)
set_option maxRecDepth 100000 in
theorem mw_X5_94 : Cond.methodLink RX5 94 yX5_worst ∈ lw_T := lw_T_mem (List.mem_of_getElem? (i := 1146) (by decide +kernel)) (by decide +kernel)
theorem ci_X5_94 : CI RX5 94 yX5_worst cX5_worst 6 (some .int) 2 := ⟨mw_X5_94, cx_X5_worst, cw_X5_worst, by decide, by decide, by decide +kernel⟩
set_option maxRecDepth 100000 in
theorem cw_X5_isDarkAt : Cond.code yX5_isDarkAt cX5_isDarkAt 2 (some .boolean) ∈ lw_T := lw_T_mem (List.mem_of_getElem? (i := 1160) (by decide +kernel)) (by decide +kernel)
set_option maxRecDepth 100000 in
theorem cx_X5_isDarkAt : Cond.initialized yX5_isDarkAt.cls ∈ lw_T := lw_T_mem (List.mem_of_getElem? (i := 51) (by decide +kernel)) (by decide +kernel)
set_option maxRecDepth 100000 in
theorem ct_X5_isDarkAt : Cond.instanceMethod yX5_isDarkAt ∈ lw_T := lw_T_mem (List.mem_of_getElem? (i := 1159) (by decide +kernel)) (by decide +kernel)
set_option maxRecDepth 100000 in
theorem cs_X5_isDarkAt : Cond.selects yX5_isDarkAt.cls yX5_isDarkAt yX5_isDarkAt ∈ lw_T := lw_T_mem (List.mem_of_getElem? (i := 30) (by decide +kernel)) (by decide +kernel)
set_option maxRecDepth 100000 in
theorem mw_X5_98 : Cond.methodLink RX5 98 yX5_isDarkAt ∈ lw_T := lw_T_mem (List.mem_of_getElem? (i := 1157) (by decide +kernel)) (by decide +kernel)
theorem ci_X5_98 : CI RX5 98 yX5_isDarkAt cX5_isDarkAt 2 (some .boolean) 1 := ⟨mw_X5_98, cx_X5_isDarkAt, cw_X5_isDarkAt, by decide, by decide, by decide +kernel⟩
set_option maxRecDepth 100000 in
theorem cw_X5_inSlot : Cond.code yX5_inSlot cX5_inSlot 4 (some .int) ∈ lw_T := lw_T_mem (List.mem_of_getElem? (i := 1195) (by decide +kernel)) (by decide +kernel)
set_option maxRecDepth 100000 in
theorem cx_X5_inSlot : Cond.initialized yX5_inSlot.cls ∈ lw_T := lw_T_mem (List.mem_of_getElem? (i := 51) (by decide +kernel)) (by decide +kernel)
set_option maxRecDepth 100000 in
theorem ct_X5_inSlot : Cond.instanceMethod yX5_inSlot ∈ lw_T := lw_T_mem (List.mem_of_getElem? (i := 1194) (by decide +kernel)) (by decide +kernel)
set_option maxRecDepth 100000 in
theorem cs_X5_inSlot : Cond.selects yX5_inSlot.cls yX5_inSlot yX5_inSlot ∈ lw_T := lw_T_mem (List.mem_of_getElem? (i := 35) (by decide +kernel)) (by decide +kernel)
set_option maxRecDepth 100000 in
theorem mw_X5_101 : Cond.methodLink RX5 101 yX5_inSlot ∈ lw_T := lw_T_mem (List.mem_of_getElem? (i := 1192) (by decide +kernel)) (by decide +kernel)
theorem ci_X5_101 : CI RX5 101 yX5_inSlot cX5_inSlot 4 (some .int) 2 := ⟨mw_X5_101, cx_X5_inSlot, cw_X5_inSlot, by decide, by decide, by decide +kernel⟩
set_option maxRecDepth 100000 in
theorem cw_X5_isBorne : Cond.code yX5_isBorne cX5_isBorne 9 (some .boolean) ∈ lw_T := lw_T_mem (List.mem_of_getElem? (i := 1187) (by decide +kernel)) (by decide +kernel)
set_option maxRecDepth 100000 in
theorem cx_X5_isBorne : Cond.initialized yX5_isBorne.cls ∈ lw_T := lw_T_mem (List.mem_of_getElem? (i := 51) (by decide +kernel)) (by decide +kernel)
set_option maxRecDepth 100000 in
theorem ct_X5_isBorne : Cond.instanceMethod yX5_isBorne ∈ lw_T := lw_T_mem (List.mem_of_getElem? (i := 1186) (by decide +kernel)) (by decide +kernel)
set_option maxRecDepth 100000 in
theorem cs_X5_isBorne : Cond.selects yX5_isBorne.cls yX5_isBorne yX5_isBorne ∈ lw_T := lw_T_mem (List.mem_of_getElem? (i := 33) (by decide +kernel)) (by decide +kernel)
set_option maxRecDepth 100000 in
theorem mw_X5_104 : Cond.methodLink RX5 104 yX5_isBorne ∈ lw_T := lw_T_mem (List.mem_of_getElem? (i := 1184) (by decide +kernel)) (by decide +kernel)
theorem ci_X5_104 : CI RX5 104 yX5_isBorne cX5_isBorne 9 (some .boolean) 4 := ⟨mw_X5_104, cx_X5_isBorne, cw_X5_isBorne, by decide, by decide, by decide +kernel⟩
set_option maxRecDepth 100000 in
theorem cw_X5_isFree : Cond.code yX5_isFree cX5_isFree 6 (some .boolean) ∈ lw_T := lw_T_mem (List.mem_of_getElem? (i := 1191) (by decide +kernel)) (by decide +kernel)
set_option maxRecDepth 100000 in
theorem cx_X5_isFree : Cond.initialized yX5_isFree.cls ∈ lw_T := lw_T_mem (List.mem_of_getElem? (i := 51) (by decide +kernel)) (by decide +kernel)
set_option maxRecDepth 100000 in
theorem ct_X5_isFree : Cond.instanceMethod yX5_isFree ∈ lw_T := lw_T_mem (List.mem_of_getElem? (i := 1190) (by decide +kernel)) (by decide +kernel)
set_option maxRecDepth 100000 in
theorem cs_X5_isFree : Cond.selects yX5_isFree.cls yX5_isFree yX5_isFree ∈ lw_T := lw_T_mem (List.mem_of_getElem? (i := 34) (by decide +kernel)) (by decide +kernel)
set_option maxRecDepth 100000 in
theorem mw_X5_108 : Cond.methodLink RX5 108 yX5_isFree ∈ lw_T := lw_T_mem (List.mem_of_getElem? (i := 1188) (by decide +kernel)) (by decide +kernel)
theorem ci_X5_108 : CI RX5 108 yX5_isFree cX5_isFree 6 (some .boolean) 3 := ⟨mw_X5_108, cx_X5_isFree, cw_X5_isFree, by decide, by decide, by decide +kernel⟩
set_option maxRecDepth 100000 in
theorem cw_X5_slotIn : Cond.code yX5_slotIn cX5_slotIn 7 (some .int) ∈ lw_T := lw_T_mem (List.mem_of_getElem? (i := 1183) (by decide +kernel)) (by decide +kernel)
set_option maxRecDepth 100000 in
theorem cx_X5_slotIn : Cond.initialized yX5_slotIn.cls ∈ lw_T := lw_T_mem (List.mem_of_getElem? (i := 51) (by decide +kernel)) (by decide +kernel)
set_option maxRecDepth 100000 in
theorem ct_X5_slotIn : Cond.instanceMethod yX5_slotIn ∈ lw_T := lw_T_mem (List.mem_of_getElem? (i := 1182) (by decide +kernel)) (by decide +kernel)
set_option maxRecDepth 100000 in
theorem cs_X5_slotIn : Cond.selects yX5_slotIn.cls yX5_slotIn yX5_slotIn ∈ lw_T := lw_T_mem (List.mem_of_getElem? (i := 32) (by decide +kernel)) (by decide +kernel)
set_option maxRecDepth 100000 in
theorem mw_X5_111 : Cond.methodLink RX5 111 yX5_slotIn ∈ lw_T := lw_T_mem (List.mem_of_getElem? (i := 1180) (by decide +kernel)) (by decide +kernel)
theorem ci_X5_111 : CI RX5 111 yX5_slotIn cX5_slotIn 7 (some .int) 5 := ⟨mw_X5_111, cx_X5_slotIn, cw_X5_slotIn, by decide, by decide, by decide +kernel⟩
set_option maxRecDepth 100000 in
theorem cw_X5_isKind : Cond.code yX5_isKind cX5_isKind 4 (some .boolean) ∈ lw_T := lw_T_mem (List.mem_of_getElem? (i := 1175) (by decide +kernel)) (by decide +kernel)
set_option maxRecDepth 100000 in
theorem cx_X5_isKind : Cond.initialized yX5_isKind.cls ∈ lw_T := lw_T_mem (List.mem_of_getElem? (i := 51) (by decide +kernel)) (by decide +kernel)
set_option maxRecDepth 100000 in
theorem ct_X5_isKind : Cond.static yX5_isKind ∈ lw_T := lw_T_mem (List.mem_of_getElem? (i := 1174) (by decide +kernel)) (by decide +kernel)
set_option maxRecDepth 100000 in
theorem mw_X5_115 : Cond.methodLink RX5 115 yX5_isKind ∈ lw_T := lw_T_mem (List.mem_of_getElem? (i := 1173) (by decide +kernel)) (by decide +kernel)
theorem ci_X5_115 : CI RX5 115 yX5_isKind cX5_isKind 4 (some .boolean) 4 := ⟨mw_X5_115, cx_X5_isKind, cw_X5_isKind, by decide, by decide, by decide +kernel⟩
set_option maxRecDepth 100000 in
theorem fw_X5_118 : Cond.fieldLink RX5 118 "RackPlannerModel" "given" "I" ∈ lw_T := lw_T_mem (List.mem_of_getElem? (i := 1065) (by decide +kernel)) (by decide +kernel)
theorem fd_X5_118_8 : FD RX5 118 8 18 := ⟨RX5, TX5, 21, "RackPlannerModel", rfl, in_X5, by decide, fw_X5_118, (fun s args x _ h => h)⟩
theorem fp_X5_118_8 : FP RX5 118 8 18 .int false := ⟨RX5, TX5, 21, "RackPlannerModel", tyX5, ⟨rfl, in_X5, by decide, fw_X5_118, (fun s args x _ h => h)⟩, tyX5_ok, nmX5, by decide +kernel, rfl, fun h => by cases h⟩
set_option maxRecDepth 100000 in
theorem cw_X5_puts : Cond.code yX5_puts cX5_puts 4 (some .int) ∈ lw_T := lw_T_mem (List.mem_of_getElem? (i := 1179) (by decide +kernel)) (by decide +kernel)
set_option maxRecDepth 100000 in
theorem cx_X5_puts : Cond.initialized yX5_puts.cls ∈ lw_T := lw_T_mem (List.mem_of_getElem? (i := 51) (by decide +kernel)) (by decide +kernel)
set_option maxRecDepth 100000 in
theorem ct_X5_puts : Cond.instanceMethod yX5_puts ∈ lw_T := lw_T_mem (List.mem_of_getElem? (i := 1178) (by decide +kernel)) (by decide +kernel)
set_option maxRecDepth 100000 in
theorem cs_X5_puts : Cond.selects yX5_puts.cls yX5_puts yX5_puts ∈ lw_T := lw_T_mem (List.mem_of_getElem? (i := 31) (by decide +kernel)) (by decide +kernel)
set_option maxRecDepth 100000 in
theorem mw_X5_121 : Cond.methodLink RX5 121 yX5_puts ∈ lw_T := lw_T_mem (List.mem_of_getElem? (i := 1176) (by decide +kernel)) (by decide +kernel)
theorem ci_X5_121 : CI RX5 121 yX5_puts cX5_puts 4 (some .int) 1 := ⟨mw_X5_121, cx_X5_puts, cw_X5_puts, by decide, by decide, by decide +kernel⟩
set_option maxRecDepth 100000 in
theorem cw_X5_find : Cond.code yX5_find cX5_find 3 (some .int) ∈ lw_T := lw_T_mem (List.mem_of_getElem? (i := 1203) (by decide +kernel)) (by decide +kernel)
set_option maxRecDepth 100000 in
theorem cx_X5_find : Cond.initialized yX5_find.cls ∈ lw_T := lw_T_mem (List.mem_of_getElem? (i := 51) (by decide +kernel)) (by decide +kernel)
set_option maxRecDepth 100000 in
theorem ct_X5_find : Cond.instanceMethod yX5_find ∈ lw_T := lw_T_mem (List.mem_of_getElem? (i := 1202) (by decide +kernel)) (by decide +kernel)
set_option maxRecDepth 100000 in
theorem cs_X5_find : Cond.selects yX5_find.cls yX5_find yX5_find ∈ lw_T := lw_T_mem (List.mem_of_getElem? (i := 36) (by decide +kernel)) (by decide +kernel)
set_option maxRecDepth 100000 in
theorem mw_X5_124 : Cond.methodLink RX5 124 yX5_find ∈ lw_T := lw_T_mem (List.mem_of_getElem? (i := 1200) (by decide +kernel)) (by decide +kernel)
theorem ci_X5_124 : CI RX5 124 yX5_find cX5_find 3 (some .int) 1 := ⟨mw_X5_124, cx_X5_find, cw_X5_find, by decide, by decide, by decide +kernel⟩
set_option maxRecDepth 100000 in
theorem cw_X5_isAhead : Cond.code yX5_isAhead cX5_isAhead 3 (some .boolean) ∈ lw_T := lw_T_mem (List.mem_of_getElem? (i := 1219) (by decide +kernel)) (by decide +kernel)
set_option maxRecDepth 100000 in
theorem cx_X5_isAhead : Cond.initialized yX5_isAhead.cls ∈ lw_T := lw_T_mem (List.mem_of_getElem? (i := 51) (by decide +kernel)) (by decide +kernel)
set_option maxRecDepth 100000 in
theorem ct_X5_isAhead : Cond.instanceMethod yX5_isAhead ∈ lw_T := lw_T_mem (List.mem_of_getElem? (i := 1218) (by decide +kernel)) (by decide +kernel)
set_option maxRecDepth 100000 in
theorem cs_X5_isAhead : Cond.selects yX5_isAhead.cls yX5_isAhead yX5_isAhead ∈ lw_T := lw_T_mem (List.mem_of_getElem? (i := 38) (by decide +kernel)) (by decide +kernel)
set_option maxRecDepth 100000 in
theorem mw_X5_127 : Cond.methodLink RX5 127 yX5_isAhead ∈ lw_T := lw_T_mem (List.mem_of_getElem? (i := 1216) (by decide +kernel)) (by decide +kernel)
theorem ci_X5_127 : CI RX5 127 yX5_isAhead cX5_isAhead 3 (some .boolean) 2 := ⟨mw_X5_127, cx_X5_isAhead, cw_X5_isAhead, by decide, by decide, by decide +kernel⟩
set_option maxRecDepth 100000 in
theorem cw_X5_nextToPack : Cond.code yX5_nextToPack cX5_nextToPack 3 (some .int) ∈ lw_T := lw_T_mem (List.mem_of_getElem? (i := 1215) (by decide +kernel)) (by decide +kernel)
set_option maxRecDepth 100000 in
theorem cx_X5_nextToPack : Cond.initialized yX5_nextToPack.cls ∈ lw_T := lw_T_mem (List.mem_of_getElem? (i := 51) (by decide +kernel)) (by decide +kernel)
set_option maxRecDepth 100000 in
theorem ct_X5_nextToPack : Cond.instanceMethod yX5_nextToPack ∈ lw_T := lw_T_mem (List.mem_of_getElem? (i := 1214) (by decide +kernel)) (by decide +kernel)
set_option maxRecDepth 100000 in
theorem cs_X5_nextToPack : Cond.selects yX5_nextToPack.cls yX5_nextToPack yX5_nextToPack ∈ lw_T := lw_T_mem (List.mem_of_getElem? (i := 37) (by decide +kernel)) (by decide +kernel)
set_option maxRecDepth 100000 in
theorem mw_X5_130 : Cond.methodLink RX5 130 yX5_nextToPack ∈ lw_T := lw_T_mem (List.mem_of_getElem? (i := 1212) (by decide +kernel)) (by decide +kernel)
theorem ci_X5_130 : CI RX5 130 yX5_nextToPack cX5_nextToPack 3 (some .int) 0 := ⟨mw_X5_130, cx_X5_nextToPack, cw_X5_nextToPack, by decide, by decide, by decide +kernel⟩
set_option maxRecDepth 100000 in
theorem cw_X5_isRack : Cond.code yX5_isRack cX5_isRack 2 (some .boolean) ∈ lw_T := lw_T_mem (List.mem_of_getElem? (i := 1243) (by decide +kernel)) (by decide +kernel)
set_option maxRecDepth 100000 in
theorem cx_X5_isRack : Cond.initialized yX5_isRack.cls ∈ lw_T := lw_T_mem (List.mem_of_getElem? (i := 51) (by decide +kernel)) (by decide +kernel)
set_option maxRecDepth 100000 in
theorem ct_X5_isRack : Cond.instanceMethod yX5_isRack ∈ lw_T := lw_T_mem (List.mem_of_getElem? (i := 1242) (by decide +kernel)) (by decide +kernel)
set_option maxRecDepth 100000 in
theorem cs_X5_isRack : Cond.selects yX5_isRack.cls yX5_isRack yX5_isRack ∈ lw_T := lw_T_mem (List.mem_of_getElem? (i := 39) (by decide +kernel)) (by decide +kernel)
set_option maxRecDepth 100000 in
theorem mw_X5_134 : Cond.methodLink RX5 134 yX5_isRack ∈ lw_T := lw_T_mem (List.mem_of_getElem? (i := 1240) (by decide +kernel)) (by decide +kernel)
theorem ci_X5_134 : CI RX5 134 yX5_isRack cX5_isRack 2 (some .boolean) 1 := ⟨mw_X5_134, cx_X5_isRack, cw_X5_isRack, by decide, by decide, by decide +kernel⟩
set_option maxRecDepth 100000 in
theorem cw_X5_way : Cond.code yX5_way cX5_way 2 (some .int) ∈ lw_T := lw_T_mem (List.mem_of_getElem? (i := 1251) (by decide +kernel)) (by decide +kernel)
set_option maxRecDepth 100000 in
theorem cx_X5_way : Cond.initialized yX5_way.cls ∈ lw_T := lw_T_mem (List.mem_of_getElem? (i := 51) (by decide +kernel)) (by decide +kernel)
set_option maxRecDepth 100000 in
theorem ct_X5_way : Cond.instanceMethod yX5_way ∈ lw_T := lw_T_mem (List.mem_of_getElem? (i := 1250) (by decide +kernel)) (by decide +kernel)
set_option maxRecDepth 100000 in
theorem cs_X5_way : Cond.selects yX5_way.cls yX5_way yX5_way ∈ lw_T := lw_T_mem (List.mem_of_getElem? (i := 40) (by decide +kernel)) (by decide +kernel)
set_option maxRecDepth 100000 in
theorem mw_X5_137 : Cond.methodLink RX5 137 yX5_way ∈ lw_T := lw_T_mem (List.mem_of_getElem? (i := 1248) (by decide +kernel)) (by decide +kernel)
theorem ci_X5_137 : CI RX5 137 yX5_way cX5_way 2 (some .int) 1 := ⟨mw_X5_137, cx_X5_way, cw_X5_way, by decide, by decide, by decide +kernel⟩
set_option maxRecDepth 100000 in
theorem cw_X5_takes : Cond.code yX5_takes cX5_takes 4 (some .int) ∈ lw_T := lw_T_mem (List.mem_of_getElem? (i := 1259) (by decide +kernel)) (by decide +kernel)
set_option maxRecDepth 100000 in
theorem cx_X5_takes : Cond.initialized yX5_takes.cls ∈ lw_T := lw_T_mem (List.mem_of_getElem? (i := 51) (by decide +kernel)) (by decide +kernel)
set_option maxRecDepth 100000 in
theorem ct_X5_takes : Cond.instanceMethod yX5_takes ∈ lw_T := lw_T_mem (List.mem_of_getElem? (i := 1258) (by decide +kernel)) (by decide +kernel)
set_option maxRecDepth 100000 in
theorem cs_X5_takes : Cond.selects yX5_takes.cls yX5_takes yX5_takes ∈ lw_T := lw_T_mem (List.mem_of_getElem? (i := 41) (by decide +kernel)) (by decide +kernel)
set_option maxRecDepth 100000 in
theorem mw_X5_140 : Cond.methodLink RX5 140 yX5_takes ∈ lw_T := lw_T_mem (List.mem_of_getElem? (i := 1256) (by decide +kernel)) (by decide +kernel)
theorem ci_X5_140 : CI RX5 140 yX5_takes cX5_takes 4 (some .int) 2 := ⟨mw_X5_140, cx_X5_takes, cw_X5_takes, by decide, by decide, by decide +kernel⟩
set_option maxRecDepth 100000 in
theorem cw_X5_within : Cond.code yX5_within cX5_within 3 (some .int) ∈ lw_T := lw_T_mem (List.mem_of_getElem? (i := 1290) (by decide +kernel)) (by decide +kernel)
set_option maxRecDepth 100000 in
theorem cx_X5_within : Cond.initialized yX5_within.cls ∈ lw_T := lw_T_mem (List.mem_of_getElem? (i := 51) (by decide +kernel)) (by decide +kernel)
set_option maxRecDepth 100000 in
theorem ct_X5_within : Cond.static yX5_within ∈ lw_T := lw_T_mem (List.mem_of_getElem? (i := 1289) (by decide +kernel)) (by decide +kernel)
set_option maxRecDepth 100000 in
theorem mw_X5_143 : Cond.methodLink RX5 143 yX5_within ∈ lw_T := lw_T_mem (List.mem_of_getElem? (i := 1288) (by decide +kernel)) (by decide +kernel)
theorem ci_X5_143 : CI RX5 143 yX5_within cX5_within 3 (some .int) 3 := ⟨mw_X5_143, cx_X5_within, cw_X5_within, by decide, by decide, by decide +kernel⟩
set_option maxRecDepth 100000 in
theorem cw_X5_roomIn : Cond.code yX5_roomIn cX5_roomIn 9 (some .int) ∈ lw_T := lw_T_mem (List.mem_of_getElem? (i := 1287) (by decide +kernel)) (by decide +kernel)
set_option maxRecDepth 100000 in
theorem cx_X5_roomIn : Cond.initialized yX5_roomIn.cls ∈ lw_T := lw_T_mem (List.mem_of_getElem? (i := 51) (by decide +kernel)) (by decide +kernel)
set_option maxRecDepth 100000 in
theorem ct_X5_roomIn : Cond.instanceMethod yX5_roomIn ∈ lw_T := lw_T_mem (List.mem_of_getElem? (i := 1286) (by decide +kernel)) (by decide +kernel)
set_option maxRecDepth 100000 in
theorem cs_X5_roomIn : Cond.selects yX5_roomIn.cls yX5_roomIn yX5_roomIn ∈ lw_T := lw_T_mem (List.mem_of_getElem? (i := 42) (by decide +kernel)) (by decide +kernel)
set_option maxRecDepth 100000 in
theorem mw_X5_147 : Cond.methodLink RX5 147 yX5_roomIn ∈ lw_T := lw_T_mem (List.mem_of_getElem? (i := 1284) (by decide +kernel)) (by decide +kernel)
theorem ci_X5_147 : CI RX5 147 yX5_roomIn cX5_roomIn 9 (some .int) 5 := ⟨mw_X5_147, cx_X5_roomIn, cw_X5_roomIn, by decide, by decide, by decide +kernel⟩
set_option maxRecDepth 100000 in
theorem mw_X5_150 : Cond.methodLink RX5 150 yX5_roomByCounting ∈ lw_T := lw_T_mem (List.mem_of_getElem? (i := 1295) (by decide +kernel)) (by decide +kernel)
theorem ci_X5_150 : CI RX5 150 yX5_roomByCounting cX5_roomByCounting 9 (some .int) 4 := ⟨mw_X5_150, cx_X5_roomByCounting, cw_X5_roomByCounting, by decide, by decide, by decide +kernel⟩
set_option maxRecDepth 100000 in
theorem tw_m_Jxa1e45_1 : Cond.methodLink RJxa1e45 1 objectInit ∈ lw_T := lw_T_mem (List.mem_of_getElem? (i := 97) (by decide +kernel)) (by decide +kernel)
set_option maxRecDepth 100000 in
theorem cw_Jxa1e45_init_da8c8 : Cond.code yJxa1e45_init_da8c8 cJxa1e45_init_da8c8 1 none ∈ lw_T := lw_T_mem (List.mem_of_getElem? (i := 96) (by decide +kernel)) (by decide +kernel)
set_option maxRecDepth 100000 in
theorem cx_Jxa1e45_init_da8c8 : Cond.initialized yJxa1e45_init_da8c8.cls ∈ lw_T := lw_T_mem (List.mem_of_getElem? (i := 46) (by decide +kernel)) (by decide +kernel)
set_option maxRecDepth 100000 in
theorem ct_Jxa1e45_init_da8c8 : Cond.instanceMethod yJxa1e45_init_da8c8 ∈ lw_T := lw_T_mem (List.mem_of_getElem? (i := 95) (by decide +kernel)) (by decide +kernel)
set_option maxRecDepth 100000 in
theorem mw_Jxc12de_1 : Cond.methodLink RJxc12de 1 yJxa1e45_init_da8c8 ∈ lw_T := lw_T_mem (List.mem_of_getElem? (i := 94) (by decide +kernel)) (by decide +kernel)
theorem ci_Jxc12de_1 : CI RJxc12de 1 yJxa1e45_init_da8c8 cJxa1e45_init_da8c8 1 none 0 := ⟨mw_Jxc12de_1, cx_Jxa1e45_init_da8c8, cw_Jxa1e45_init_da8c8, by decide, by decide, by decide +kernel⟩
set_option maxRecDepth 100000 in
theorem fw_Jxc12de_7 : Cond.fieldLink RJxc12de 7 "java/util/AbstractList" "modCount" "I" ∈ lw_T := lw_T_mem (List.mem_of_getElem? (i := 102) (by decide +kernel)) (by decide +kernel)
theorem fd_Jxc12de_7_2 : FD RJxc12de 7 2 0 := ⟨RJx4a65c, TJx4a65c, 3, "java/util/AbstractList", rfl, in_Jx4a65c, by decide, fw_Jxc12de_7, (fun s args x _ h => h)⟩
theorem fp_Jxc12de_7_2 : FP RJxc12de 7 2 0 .int false := ⟨RJx4a65c, TJx4a65c, 3, "java/util/AbstractList", tyJx4a65c, ⟨rfl, in_Jx4a65c, by decide, fw_Jxc12de_7, (fun s args x _ h => h)⟩, tyJx4a65c_ok, nmJx4a65c, by decide +kernel, rfl, fun h => by cases h⟩
set_option maxRecDepth 100000 in
theorem cw_Jxc12de_init_da8c8 : Cond.code yJxc12de_init_da8c8 cJxc12de_init_da8c8 1 none ∈ lw_T := lw_T_mem (List.mem_of_getElem? (i := 93) (by decide +kernel)) (by decide +kernel)
set_option maxRecDepth 100000 in
theorem cx_Jxc12de_init_da8c8 : Cond.initialized yJxc12de_init_da8c8.cls ∈ lw_T := lw_T_mem (List.mem_of_getElem? (i := 47) (by decide +kernel)) (by decide +kernel)
set_option maxRecDepth 100000 in
theorem ct_Jxc12de_init_da8c8 : Cond.instanceMethod yJxc12de_init_da8c8 ∈ lw_T := lw_T_mem (List.mem_of_getElem? (i := 92) (by decide +kernel)) (by decide +kernel)
set_option maxRecDepth 100000 in
theorem mw_Jx4a65c_1 : Cond.methodLink RJx4a65c 1 yJxc12de_init_da8c8 ∈ lw_T := lw_T_mem (List.mem_of_getElem? (i := 91) (by decide +kernel)) (by decide +kernel)
theorem ci_Jx4a65c_1 : CI RJx4a65c 1 yJxc12de_init_da8c8 cJxc12de_init_da8c8 1 none 0 := ⟨mw_Jx4a65c_1, cx_Jxc12de_init_da8c8, cw_Jxc12de_init_da8c8, by decide, by decide, by decide +kernel⟩
set_option maxRecDepth 100000 in
theorem tk_Jx4a65c_7 : Cond.classLink RJx4a65c 7 "java/lang/Object" ∈ lw_T := lw_T_mem (List.mem_of_getElem? (i := 602) (by decide +kernel)) (by decide +kernel)
set_option maxRecDepth 100000 in
theorem fw_Jx4a65c_9 : Cond.fieldLink RJx4a65c 9 "java/util/ArrayList" "elementData" "[Ljava/lang/Object;" ∈ lw_T := lw_T_mem (List.mem_of_getElem? (i := 100) (by decide +kernel)) (by decide +kernel)
theorem fd_Jx4a65c_9_2 : FD RJx4a65c 9 2 1 := ⟨RJx4a65c, TJx4a65c, 3, "java/util/ArrayList", rfl, in_Jx4a65c, by decide, fw_Jx4a65c_9, (fun s args x _ h => h)⟩
theorem fp_Jx4a65c_9_2 : FP RJx4a65c 9 2 1 (.array (.object "java/lang/Object")) false := ⟨RJx4a65c, TJx4a65c, 3, "java/util/ArrayList", tyJx4a65c, ⟨rfl, in_Jx4a65c, by decide, fw_Jx4a65c_9, (fun s args x _ h => h)⟩, tyJx4a65c_ok, nmJx4a65c, by decide +kernel, rfl, fun h => by cases h⟩
set_option maxRecDepth 100000 in
theorem tk_Jx4a65c_20 : Cond.classLink RJx4a65c 20 "java/lang/StringBuilder" ∈ lw_T := lw_T_mem (List.mem_of_getElem? (i := 282) (by decide +kernel)) (by decide +kernel)
set_option maxRecDepth 100000 in
theorem cw_J4_init_da8c8 : Cond.code yJ4_init_da8c8 cJ4_init_da8c8 1 none ∈ lw_T := lw_T_mem (List.mem_of_getElem? (i := 286) (by decide +kernel)) (by decide +kernel)
set_option maxRecDepth 100000 in
theorem cx_J4_init_da8c8 : Cond.initialized yJ4_init_da8c8.cls ∈ lw_T := lw_T_mem (List.mem_of_getElem? (i := 66) (by decide +kernel)) (by decide +kernel)
set_option maxRecDepth 100000 in
theorem ct_J4_init_da8c8 : Cond.instanceMethod yJ4_init_da8c8 ∈ lw_T := lw_T_mem (List.mem_of_getElem? (i := 285) (by decide +kernel)) (by decide +kernel)
set_option maxRecDepth 100000 in
theorem mw_Jx4a65c_22 : Cond.methodLink RJx4a65c 22 yJ4_init_da8c8 ∈ lw_T := lw_T_mem (List.mem_of_getElem? (i := 284) (by decide +kernel)) (by decide +kernel)
theorem ci_Jx4a65c_22 : CI RJx4a65c 22 yJ4_init_da8c8 cJ4_init_da8c8 1 none 0 := ⟨mw_Jx4a65c_22, cx_J4_init_da8c8, cw_J4_init_da8c8, by decide, by decide, by decide +kernel⟩
set_option maxRecDepth 100000 in
theorem cw_J4_append_15ec4 : Cond.code yJ4_append_15ec4 cJ4_append_15ec4 2 (some (.object "java/lang/StringBuilder")) ∈ lw_T := lw_T_mem (List.mem_of_getElem? (i := 318) (by decide +kernel)) (by decide +kernel)
set_option maxRecDepth 100000 in
theorem cx_J4_append_15ec4 : Cond.initialized yJ4_append_15ec4.cls ∈ lw_T := lw_T_mem (List.mem_of_getElem? (i := 66) (by decide +kernel)) (by decide +kernel)
set_option maxRecDepth 100000 in
theorem ct_J4_append_15ec4 : Cond.instanceMethod yJ4_append_15ec4 ∈ lw_T := lw_T_mem (List.mem_of_getElem? (i := 316) (by decide +kernel)) (by decide +kernel)
set_option maxRecDepth 100000 in
theorem cs_J4_append_15ec4 : Cond.selects yJ4_append_15ec4.cls yJ4_append_15ec4 yJ4_append_15ec4 ∈ lw_T := lw_T_mem (List.mem_of_getElem? (i := 317) (by decide +kernel)) (by decide +kernel)
set_option maxRecDepth 100000 in
theorem mw_Jx4a65c_25 : Cond.methodLink RJx4a65c 25 yJ4_append_15ec4 ∈ lw_T := lw_T_mem (List.mem_of_getElem? (i := 315) (by decide +kernel)) (by decide +kernel)
theorem ci_Jx4a65c_25 : CI RJx4a65c 25 yJ4_append_15ec4 cJ4_append_15ec4 2 (some (.object "java/lang/StringBuilder")) 1 := ⟨mw_Jx4a65c_25, cx_J4_append_15ec4, cw_J4_append_15ec4, by decide, by decide, by decide +kernel⟩
set_option maxRecDepth 100000 in
theorem cw_J4_append_bf812 : Cond.code yJ4_append_bf812 cJ4_append_bf812 2 (some (.object "java/lang/StringBuilder")) ∈ lw_T := lw_T_mem (List.mem_of_getElem? (i := 438) (by decide +kernel)) (by decide +kernel)
set_option maxRecDepth 100000 in
theorem cx_J4_append_bf812 : Cond.initialized yJ4_append_bf812.cls ∈ lw_T := lw_T_mem (List.mem_of_getElem? (i := 66) (by decide +kernel)) (by decide +kernel)
set_option maxRecDepth 100000 in
theorem ct_J4_append_bf812 : Cond.instanceMethod yJ4_append_bf812 ∈ lw_T := lw_T_mem (List.mem_of_getElem? (i := 436) (by decide +kernel)) (by decide +kernel)
set_option maxRecDepth 100000 in
theorem cs_J4_append_bf812 : Cond.selects yJ4_append_bf812.cls yJ4_append_bf812 yJ4_append_bf812 ∈ lw_T := lw_T_mem (List.mem_of_getElem? (i := 437) (by decide +kernel)) (by decide +kernel)
set_option maxRecDepth 100000 in
theorem mw_Jx4a65c_29 : Cond.methodLink RJx4a65c 29 yJ4_append_bf812 ∈ lw_T := lw_T_mem (List.mem_of_getElem? (i := 435) (by decide +kernel)) (by decide +kernel)
theorem ci_Jx4a65c_29 : CI RJx4a65c 29 yJ4_append_bf812 cJ4_append_bf812 2 (some (.object "java/lang/StringBuilder")) 1 := ⟨mw_Jx4a65c_29, cx_J4_append_bf812, cw_J4_append_bf812, by decide, by decide, by decide +kernel⟩
set_option maxRecDepth 100000 in
theorem cw_J4_toString_0e30d : Cond.code yJ4_toString_0e30d cJ4_toString_0e30d 1 (some (.object "java/lang/String")) ∈ lw_T := lw_T_mem (List.mem_of_getElem? (i := 464) (by decide +kernel)) (by decide +kernel)
set_option maxRecDepth 100000 in
theorem cx_J4_toString_0e30d : Cond.initialized yJ4_toString_0e30d.cls ∈ lw_T := lw_T_mem (List.mem_of_getElem? (i := 66) (by decide +kernel)) (by decide +kernel)
set_option maxRecDepth 100000 in
theorem ct_J4_toString_0e30d : Cond.instanceMethod yJ4_toString_0e30d ∈ lw_T := lw_T_mem (List.mem_of_getElem? (i := 462) (by decide +kernel)) (by decide +kernel)
set_option maxRecDepth 100000 in
theorem cs_J4_toString_0e30d : Cond.selects yJ4_toString_0e30d.cls yJ4_toString_0e30d yJ4_toString_0e30d ∈ lw_T := lw_T_mem (List.mem_of_getElem? (i := 463) (by decide +kernel)) (by decide +kernel)
set_option maxRecDepth 100000 in
theorem mw_Jx4a65c_32 : Cond.methodLink RJx4a65c 32 yJ4_toString_0e30d ∈ lw_T := lw_T_mem (List.mem_of_getElem? (i := 461) (by decide +kernel)) (by decide +kernel)
theorem ci_Jx4a65c_32 : CI RJx4a65c 32 yJ4_toString_0e30d cJ4_toString_0e30d 1 (some (.object "java/lang/String")) 0 := ⟨mw_Jx4a65c_32, cx_J4_toString_0e30d, cw_J4_toString_0e30d, by decide, by decide, by decide +kernel⟩
set_option maxRecDepth 100000 in
theorem fw_Jx4a65c_39 : Cond.fieldLink RJx4a65c 39 "java/util/ArrayList" "DEFAULTCAPACITY_EMPTY_ELEMENTDATA" "[Ljava/lang/Object;" ∈ lw_T := lw_T_mem (List.mem_of_getElem? (i := 98) (by decide +kernel)) (by decide +kernel)
set_option maxRecDepth 100000 in
theorem fw_Jx4a65c_48 : Cond.fieldLink RJx4a65c 48 "java/util/ArrayList" "size" "I" ∈ lw_T := lw_T_mem (List.mem_of_getElem? (i := 101) (by decide +kernel)) (by decide +kernel)
theorem fd_Jx4a65c_48_2 : FD RJx4a65c 48 2 2 := ⟨RJx4a65c, TJx4a65c, 3, "java/util/ArrayList", rfl, in_Jx4a65c, by decide, fw_Jx4a65c_48, (fun s args x _ h => h)⟩
theorem fp_Jx4a65c_48_2 : FP RJx4a65c 48 2 2 .int false := ⟨RJx4a65c, TJx4a65c, 3, "java/util/ArrayList", tyJx4a65c, ⟨rfl, in_Jx4a65c, by decide, fw_Jx4a65c_48, (fun s args x _ h => h)⟩, tyJx4a65c_ok, nmJx4a65c, by decide +kernel, rfl, fun h => by cases h⟩
set_option maxRecDepth 100000 in
theorem fw_Jx4a65c_63 : Cond.fieldLink RJx4a65c 63 "java/util/ArrayList" "modCount" "I" ∈ lw_T := lw_T_mem (List.mem_of_getElem? (i := 103) (by decide +kernel)) (by decide +kernel)
theorem fd_Jx4a65c_63_2 : FD RJx4a65c 63 2 0 := ⟨RJx4a65c, TJx4a65c, 3, "java/util/ArrayList", rfl, in_Jx4a65c, by decide, fw_Jx4a65c_63, same_mc⟩
theorem fp_Jx4a65c_63_2 : FP RJx4a65c 63 2 0 .int false := ⟨RJx4a65c, TJx4a65c, 3, "java/util/ArrayList", tyJx4a65c, ⟨rfl, in_Jx4a65c, by decide, fw_Jx4a65c_63, same_mc⟩, tyJx4a65c_ok, nmJx4a65c, by decide +kernel, rfl, fun h => by cases h⟩
set_option maxRecDepth 100000 in
theorem cw_J7_copyOf_1904c : Cond.code yJ7_copyOf_1904c cJ7_copyOf_1904c 2 (some (.array (.object "java/lang/Object"))) ∈ lw_T := lw_T_mem (List.mem_of_getElem? (i := 578) (by decide +kernel)) (by decide +kernel)
set_option maxRecDepth 100000 in
theorem cx_J7_copyOf_1904c : Cond.initialized yJ7_copyOf_1904c.cls ∈ lw_T := lw_T_mem (List.mem_of_getElem? (i := 49) (by decide +kernel)) (by decide +kernel)
set_option maxRecDepth 100000 in
theorem ct_J7_copyOf_1904c : Cond.static yJ7_copyOf_1904c ∈ lw_T := lw_T_mem (List.mem_of_getElem? (i := 577) (by decide +kernel)) (by decide +kernel)
set_option maxRecDepth 100000 in
theorem mw_Jx4a65c_66 : Cond.methodLink RJx4a65c 66 yJ7_copyOf_1904c ∈ lw_T := lw_T_mem (List.mem_of_getElem? (i := 576) (by decide +kernel)) (by decide +kernel)
theorem ci_Jx4a65c_66 : CI RJx4a65c 66 yJ7_copyOf_1904c cJ7_copyOf_1904c 2 (some (.array (.object "java/lang/Object"))) 2 := ⟨mw_Jx4a65c_66, cx_J7_copyOf_1904c, cw_J7_copyOf_1904c, by decide, by decide, by decide +kernel⟩
set_option maxRecDepth 100000 in
theorem cw_Jx4a65c_grow_92f84 : Cond.code yJx4a65c_grow_92f84 cJx4a65c_grow_92f84 4 (some (.array (.object "java/lang/Object"))) ∈ lw_T := lw_T_mem (List.mem_of_getElem? (i := 574) (by decide +kernel)) (by decide +kernel)
set_option maxRecDepth 100000 in
theorem cx_Jx4a65c_grow_92f84 : Cond.initialized yJx4a65c_grow_92f84.cls ∈ lw_T := lw_T_mem (List.mem_of_getElem? (i := 48) (by decide +kernel)) (by decide +kernel)
set_option maxRecDepth 100000 in
theorem ct_Jx4a65c_grow_92f84 : Cond.instanceMethod yJx4a65c_grow_92f84 ∈ lw_T := lw_T_mem (List.mem_of_getElem? (i := 573) (by decide +kernel)) (by decide +kernel)
set_option maxRecDepth 100000 in
theorem cs_Jx4a65c_grow_92f84 : Cond.selects yJx4a65c_grow_92f84.cls yJx4a65c_grow_92f84 yJx4a65c_grow_92f84 ∈ lw_T := lw_T_mem (List.mem_of_getElem? (i := 5) (by decide +kernel)) (by decide +kernel)
set_option maxRecDepth 100000 in
theorem mw_Jx4a65c_69 : Cond.methodLink RJx4a65c 69 yJx4a65c_grow_92f84 ∈ lw_T := lw_T_mem (List.mem_of_getElem? (i := 571) (by decide +kernel)) (by decide +kernel)
theorem ci_Jx4a65c_69 : CI RJx4a65c 69 yJx4a65c_grow_92f84 cJx4a65c_grow_92f84 4 (some (.array (.object "java/lang/Object"))) 1 := ⟨mw_Jx4a65c_69, cx_Jx4a65c_grow_92f84, cw_Jx4a65c_grow_92f84, by decide, by decide, by decide +kernel⟩
set_option maxRecDepth 100000 in
theorem cw_J8_newLength_cabcc : Cond.code yJ8_newLength_cabcc cJ8_newLength_cabcc 4 (some .int) ∈ lw_T := lw_T_mem (List.mem_of_getElem? (i := 336) (by decide +kernel)) (by decide +kernel)
set_option maxRecDepth 100000 in
theorem cx_J8_newLength_cabcc : Cond.initialized yJ8_newLength_cabcc.cls ∈ lw_T := lw_T_mem (List.mem_of_getElem? (i := 58) (by decide +kernel)) (by decide +kernel)
set_option maxRecDepth 100000 in
theorem ct_J8_newLength_cabcc : Cond.static yJ8_newLength_cabcc ∈ lw_T := lw_T_mem (List.mem_of_getElem? (i := 335) (by decide +kernel)) (by decide +kernel)
set_option maxRecDepth 100000 in
theorem mw_Jx4a65c_73 : Cond.methodLink RJx4a65c 73 yJ8_newLength_cabcc ∈ lw_T := lw_T_mem (List.mem_of_getElem? (i := 575) (by decide +kernel)) (by decide +kernel)
theorem ci_Jx4a65c_73 : CI RJx4a65c 73 yJ8_newLength_cabcc cJ8_newLength_cabcc 4 (some .int) 3 := ⟨mw_Jx4a65c_73, cx_J8_newLength_cabcc, cw_J8_newLength_cabcc, by decide, by decide, by decide +kernel⟩
set_option maxRecDepth 100000 in
theorem mw_Jx4a65c_79 : Cond.methodLink RJx4a65c 79 yJ9_max_7cf53 ∈ lw_T := lw_T_mem (List.mem_of_getElem? (i := 601) (by decide +kernel)) (by decide +kernel)
theorem ci_Jx4a65c_79 : CI RJx4a65c 79 yJ9_max_7cf53 cJ9_max_7cf53 2 (some .int) 2 := ⟨mw_Jx4a65c_79, cx_J9_max_7cf53, cw_J9_max_7cf53, by decide, by decide, by decide +kernel⟩
set_option maxRecDepth 100000 in
theorem cw_J15_checkIndex_7cf53 : Cond.code yJ15_checkIndex_7cf53 cJ15_checkIndex_7cf53 2 (some .int) ∈ lw_T := lw_T_mem (List.mem_of_getElem? (i := 216) (by decide +kernel)) (by decide +kernel)
set_option maxRecDepth 100000 in
theorem cx_J15_checkIndex_7cf53 : Cond.initialized yJ15_checkIndex_7cf53.cls ∈ lw_T := lw_T_mem (List.mem_of_getElem? (i := 61) (by decide +kernel)) (by decide +kernel)
set_option maxRecDepth 100000 in
theorem ct_J15_checkIndex_7cf53 : Cond.static yJ15_checkIndex_7cf53 ∈ lw_T := lw_T_mem (List.mem_of_getElem? (i := 215) (by decide +kernel)) (by decide +kernel)
set_option maxRecDepth 100000 in
theorem mw_Jx4a65c_118 : Cond.methodLink RJx4a65c 118 yJ15_checkIndex_7cf53 ∈ lw_T := lw_T_mem (List.mem_of_getElem? (i := 214) (by decide +kernel)) (by decide +kernel)
theorem ci_Jx4a65c_118 : CI RJx4a65c 118 yJ15_checkIndex_7cf53 cJ15_checkIndex_7cf53 2 (some .int) 2 := ⟨mw_Jx4a65c_118, cx_J15_checkIndex_7cf53, cw_J15_checkIndex_7cf53, by decide, by decide, by decide +kernel⟩
set_option maxRecDepth 100000 in
theorem cw_Jx4a65c_elementData_915e3 : Cond.code yJx4a65c_elementData_915e3 cJx4a65c_elementData_915e3 2 (some (.object "java/lang/Object")) ∈ lw_T := lw_T_mem (List.mem_of_getElem? (i := 223) (by decide +kernel)) (by decide +kernel)
set_option maxRecDepth 100000 in
theorem cx_Jx4a65c_elementData_915e3 : Cond.initialized yJx4a65c_elementData_915e3.cls ∈ lw_T := lw_T_mem (List.mem_of_getElem? (i := 48) (by decide +kernel)) (by decide +kernel)
set_option maxRecDepth 100000 in
theorem ct_Jx4a65c_elementData_915e3 : Cond.instanceMethod yJx4a65c_elementData_915e3 ∈ lw_T := lw_T_mem (List.mem_of_getElem? (i := 221) (by decide +kernel)) (by decide +kernel)
set_option maxRecDepth 100000 in
theorem cs_Jx4a65c_elementData_915e3 : Cond.selects yJx4a65c_elementData_915e3.cls yJx4a65c_elementData_915e3 yJx4a65c_elementData_915e3 ∈ lw_T := lw_T_mem (List.mem_of_getElem? (i := 222) (by decide +kernel)) (by decide +kernel)
set_option maxRecDepth 100000 in
theorem mw_Jx4a65c_123 : Cond.methodLink RJx4a65c 123 yJx4a65c_elementData_915e3 ∈ lw_T := lw_T_mem (List.mem_of_getElem? (i := 220) (by decide +kernel)) (by decide +kernel)
theorem ci_Jx4a65c_123 : CI RJx4a65c 123 yJx4a65c_elementData_915e3 cJx4a65c_elementData_915e3 2 (some (.object "java/lang/Object")) 1 := ⟨mw_Jx4a65c_123, cx_Jx4a65c_elementData_915e3, cw_Jx4a65c_elementData_915e3, by decide, by decide, by decide +kernel⟩
set_option maxRecDepth 100000 in
theorem cw_Jx4a65c_grow_d5877 : Cond.code yJx4a65c_grow_d5877 cJx4a65c_grow_d5877 1 (some (.array (.object "java/lang/Object"))) ∈ lw_T := lw_T_mem (List.mem_of_getElem? (i := 570) (by decide +kernel)) (by decide +kernel)
set_option maxRecDepth 100000 in
theorem cx_Jx4a65c_grow_d5877 : Cond.initialized yJx4a65c_grow_d5877.cls ∈ lw_T := lw_T_mem (List.mem_of_getElem? (i := 48) (by decide +kernel)) (by decide +kernel)
set_option maxRecDepth 100000 in
theorem ct_Jx4a65c_grow_d5877 : Cond.instanceMethod yJx4a65c_grow_d5877 ∈ lw_T := lw_T_mem (List.mem_of_getElem? (i := 569) (by decide +kernel)) (by decide +kernel)
set_option maxRecDepth 100000 in
theorem cs_Jx4a65c_grow_d5877 : Cond.selects yJx4a65c_grow_d5877.cls yJx4a65c_grow_d5877 yJx4a65c_grow_d5877 ∈ lw_T := lw_T_mem (List.mem_of_getElem? (i := 4) (by decide +kernel)) (by decide +kernel)
set_option maxRecDepth 100000 in
theorem mw_Jx4a65c_129 : Cond.methodLink RJx4a65c 129 yJx4a65c_grow_d5877 ∈ lw_T := lw_T_mem (List.mem_of_getElem? (i := 567) (by decide +kernel)) (by decide +kernel)
theorem ci_Jx4a65c_129 : CI RJx4a65c 129 yJx4a65c_grow_d5877 cJx4a65c_grow_d5877 1 (some (.array (.object "java/lang/Object"))) 0 := ⟨mw_Jx4a65c_129, cx_Jx4a65c_grow_d5877, cw_Jx4a65c_grow_d5877, by decide, by decide, by decide +kernel⟩
set_option maxRecDepth 100000 in
theorem cw_Jx4a65c_add_72be8 : Cond.code yJx4a65c_add_72be8 cJx4a65c_add_72be8 4 none ∈ lw_T := lw_T_mem (List.mem_of_getElem? (i := 751) (by decide +kernel)) (by decide +kernel)
set_option maxRecDepth 100000 in
theorem cx_Jx4a65c_add_72be8 : Cond.initialized yJx4a65c_add_72be8.cls ∈ lw_T := lw_T_mem (List.mem_of_getElem? (i := 48) (by decide +kernel)) (by decide +kernel)
set_option maxRecDepth 100000 in
theorem ct_Jx4a65c_add_72be8 : Cond.instanceMethod yJx4a65c_add_72be8 ∈ lw_T := lw_T_mem (List.mem_of_getElem? (i := 750) (by decide +kernel)) (by decide +kernel)
set_option maxRecDepth 100000 in
theorem cs_Jx4a65c_add_72be8 : Cond.selects yJx4a65c_add_72be8.cls yJx4a65c_add_72be8 yJx4a65c_add_72be8 ∈ lw_T := lw_T_mem (List.mem_of_getElem? (i := 14) (by decide +kernel)) (by decide +kernel)
set_option maxRecDepth 100000 in
theorem mw_Jx4a65c_131 : Cond.methodLink RJx4a65c 131 yJx4a65c_add_72be8 ∈ lw_T := lw_T_mem (List.mem_of_getElem? (i := 748) (by decide +kernel)) (by decide +kernel)
theorem ci_Jx4a65c_131 : CI RJx4a65c 131 yJx4a65c_add_72be8 cJx4a65c_add_72be8 4 none 3 := ⟨mw_Jx4a65c_131, cx_Jx4a65c_add_72be8, cw_Jx4a65c_add_72be8, by decide, by decide, by decide +kernel⟩
set_option maxRecDepth 100000 in
theorem cw_Jx4a65c_rangeCheckForAdd_d00df : Cond.code yJx4a65c_rangeCheckForAdd_d00df cJx4a65c_rangeCheckForAdd_d00df 2 none ∈ lw_T := lw_T_mem (List.mem_of_getElem? (i := 236) (by decide +kernel)) (by decide +kernel)
set_option maxRecDepth 100000 in
theorem cx_Jx4a65c_rangeCheckForAdd_d00df : Cond.initialized yJx4a65c_rangeCheckForAdd_d00df.cls ∈ lw_T := lw_T_mem (List.mem_of_getElem? (i := 48) (by decide +kernel)) (by decide +kernel)
set_option maxRecDepth 100000 in
theorem ct_Jx4a65c_rangeCheckForAdd_d00df : Cond.instanceMethod yJx4a65c_rangeCheckForAdd_d00df ∈ lw_T := lw_T_mem (List.mem_of_getElem? (i := 235) (by decide +kernel)) (by decide +kernel)
set_option maxRecDepth 100000 in
theorem cs_Jx4a65c_rangeCheckForAdd_d00df : Cond.selects yJx4a65c_rangeCheckForAdd_d00df.cls yJx4a65c_rangeCheckForAdd_d00df yJx4a65c_rangeCheckForAdd_d00df ∈ lw_T := lw_T_mem (List.mem_of_getElem? (i := 1) (by decide +kernel)) (by decide +kernel)
set_option maxRecDepth 100000 in
theorem mw_Jx4a65c_135 : Cond.methodLink RJx4a65c 135 yJx4a65c_rangeCheckForAdd_d00df ∈ lw_T := lw_T_mem (List.mem_of_getElem? (i := 233) (by decide +kernel)) (by decide +kernel)
theorem ci_Jx4a65c_135 : CI RJx4a65c 135 yJx4a65c_rangeCheckForAdd_d00df cJx4a65c_rangeCheckForAdd_d00df 2 none 1 := ⟨mw_Jx4a65c_135, cx_Jx4a65c_rangeCheckForAdd_d00df, cw_Jx4a65c_rangeCheckForAdd_d00df, by decide, by decide, by decide +kernel⟩
set_option maxRecDepth 100000 in
theorem cw_Jx4a65c_fastRemove_b59b0 : Cond.code yJx4a65c_fastRemove_b59b0 cJx4a65c_fastRemove_b59b0 4 none ∈ lw_T := lw_T_mem (List.mem_of_getElem? (i := 874) (by decide +kernel)) (by decide +kernel)
set_option maxRecDepth 100000 in
theorem cx_Jx4a65c_fastRemove_b59b0 : Cond.initialized yJx4a65c_fastRemove_b59b0.cls ∈ lw_T := lw_T_mem (List.mem_of_getElem? (i := 48) (by decide +kernel)) (by decide +kernel)
set_option maxRecDepth 100000 in
theorem ct_Jx4a65c_fastRemove_b59b0 : Cond.instanceMethod yJx4a65c_fastRemove_b59b0 ∈ lw_T := lw_T_mem (List.mem_of_getElem? (i := 873) (by decide +kernel)) (by decide +kernel)
set_option maxRecDepth 100000 in
theorem cs_Jx4a65c_fastRemove_b59b0 : Cond.selects yJx4a65c_fastRemove_b59b0.cls yJx4a65c_fastRemove_b59b0 yJx4a65c_fastRemove_b59b0 ∈ lw_T := lw_T_mem (List.mem_of_getElem? (i := 18) (by decide +kernel)) (by decide +kernel)
set_option maxRecDepth 100000 in
theorem mw_Jx4a65c_144 : Cond.methodLink RJx4a65c 144 yJx4a65c_fastRemove_b59b0 ∈ lw_T := lw_T_mem (List.mem_of_getElem? (i := 871) (by decide +kernel)) (by decide +kernel)
theorem ci_Jx4a65c_144 : CI RJx4a65c 144 yJx4a65c_fastRemove_b59b0 cJx4a65c_fastRemove_b59b0 4 none 2 := ⟨mw_Jx4a65c_144, cx_Jx4a65c_fastRemove_b59b0, cw_Jx4a65c_fastRemove_b59b0, by decide, by decide, by decide +kernel⟩
set_option maxRecDepth 100000 in
theorem tk_Jx4a65c_187 : Cond.classLink RJx4a65c 187 "java/lang/IndexOutOfBoundsException" ∈ lw_T := lw_T_mem (List.mem_of_getElem? (i := 237) (by decide +kernel)) (by decide +kernel)
set_option maxRecDepth 100000 in
theorem cw_Jx4a65c_outOfBoundsMsg_b52d3 : Cond.code yJx4a65c_outOfBoundsMsg_b52d3 cJx4a65c_outOfBoundsMsg_b52d3 2 (some (.object "java/lang/String")) ∈ lw_T := lw_T_mem (List.mem_of_getElem? (i := 281) (by decide +kernel)) (by decide +kernel)
set_option maxRecDepth 100000 in
theorem cx_Jx4a65c_outOfBoundsMsg_b52d3 : Cond.initialized yJx4a65c_outOfBoundsMsg_b52d3.cls ∈ lw_T := lw_T_mem (List.mem_of_getElem? (i := 48) (by decide +kernel)) (by decide +kernel)
set_option maxRecDepth 100000 in
theorem ct_Jx4a65c_outOfBoundsMsg_b52d3 : Cond.instanceMethod yJx4a65c_outOfBoundsMsg_b52d3 ∈ lw_T := lw_T_mem (List.mem_of_getElem? (i := 280) (by decide +kernel)) (by decide +kernel)
set_option maxRecDepth 100000 in
theorem cs_Jx4a65c_outOfBoundsMsg_b52d3 : Cond.selects yJx4a65c_outOfBoundsMsg_b52d3.cls yJx4a65c_outOfBoundsMsg_b52d3 yJx4a65c_outOfBoundsMsg_b52d3 ∈ lw_T := lw_T_mem (List.mem_of_getElem? (i := 3) (by decide +kernel)) (by decide +kernel)
set_option maxRecDepth 100000 in
theorem mw_Jx4a65c_198 : Cond.methodLink RJx4a65c 198 yJx4a65c_outOfBoundsMsg_b52d3 ∈ lw_T := lw_T_mem (List.mem_of_getElem? (i := 278) (by decide +kernel)) (by decide +kernel)
theorem ci_Jx4a65c_198 : CI RJx4a65c 198 yJx4a65c_outOfBoundsMsg_b52d3 cJx4a65c_outOfBoundsMsg_b52d3 2 (some (.object "java/lang/String")) 1 := ⟨mw_Jx4a65c_198, cx_Jx4a65c_outOfBoundsMsg_b52d3, cw_Jx4a65c_outOfBoundsMsg_b52d3, by decide, by decide, by decide +kernel⟩
set_option maxRecDepth 100000 in
theorem tk_J7_2 : Cond.classLink RJ7 2 "java/lang/Object" ∈ lw_T := lw_T_mem (List.mem_of_getElem? (i := 600) (by decide +kernel)) (by decide +kernel)
set_option maxRecDepth 100000 in
theorem tk_J7_43 : Cond.classLink RJ7 43 "java/lang/IllegalArgumentException" ∈ lw_T := lw_T_mem (List.mem_of_getElem? (i := 497) (by decide +kernel)) (by decide +kernel)
set_option maxRecDepth 100000 in
theorem tk_J7_45 : Cond.classLink RJ7 45 "java/lang/StringBuilder" ∈ lw_T := lw_T_mem (List.mem_of_getElem? (i := 506) (by decide +kernel)) (by decide +kernel)
set_option maxRecDepth 100000 in
theorem mw_J7_47 : Cond.methodLink RJ7 47 yJ4_init_da8c8 ∈ lw_T := lw_T_mem (List.mem_of_getElem? (i := 507) (by decide +kernel)) (by decide +kernel)
theorem ci_J7_47 : CI RJ7 47 yJ4_init_da8c8 cJ4_init_da8c8 1 none 0 := ⟨mw_J7_47, cx_J4_init_da8c8, cw_J4_init_da8c8, by decide, by decide, by decide +kernel⟩
set_option maxRecDepth 100000 in
theorem mw_J7_50 : Cond.methodLink RJ7 50 yJ4_append_15ec4 ∈ lw_T := lw_T_mem (List.mem_of_getElem? (i := 510) (by decide +kernel)) (by decide +kernel)
theorem ci_J7_50 : CI RJ7 50 yJ4_append_15ec4 cJ4_append_15ec4 2 (some (.object "java/lang/StringBuilder")) 1 := ⟨mw_J7_50, cx_J4_append_15ec4, cw_J4_append_15ec4, by decide, by decide, by decide +kernel⟩
set_option maxRecDepth 100000 in
theorem mw_J7_54 : Cond.methodLink RJ7 54 yJ4_append_bf812 ∈ lw_T := lw_T_mem (List.mem_of_getElem? (i := 508) (by decide +kernel)) (by decide +kernel)
theorem ci_J7_54 : CI RJ7 54 yJ4_append_bf812 cJ4_append_bf812 2 (some (.object "java/lang/StringBuilder")) 1 := ⟨mw_J7_54, cx_J4_append_bf812, cw_J4_append_bf812, by decide, by decide, by decide +kernel⟩
set_option maxRecDepth 100000 in
theorem mw_J7_61 : Cond.methodLink RJ7 61 yJ4_toString_0e30d ∈ lw_T := lw_T_mem (List.mem_of_getElem? (i := 511) (by decide +kernel)) (by decide +kernel)
theorem ci_J7_61 : CI RJ7 61 yJ4_toString_0e30d cJ4_toString_0e30d 1 (some (.object "java/lang/String")) 0 := ⟨mw_J7_61, cx_J4_toString_0e30d, cw_J4_toString_0e30d, by decide, by decide, by decide +kernel⟩
set_option maxRecDepth 100000 in
theorem tk_J7_110 : Cond.classLink RJ7 110 "[Ljava/lang/Object;" ∈ lw_T := lw_T_mem (List.mem_of_getElem? (i := 598) (by decide +kernel)) (by decide +kernel)
set_option maxRecDepth 100000 in
theorem cw_J7_copyOf_6403c : Cond.code yJ7_copyOf_6403c cJ7_copyOf_6403c 4 (some (.array (.object "java/lang/Object"))) ∈ lw_T := lw_T_mem (List.mem_of_getElem? (i := 597) (by decide +kernel)) (by decide +kernel)
set_option maxRecDepth 100000 in
theorem cx_J7_copyOf_6403c : Cond.initialized yJ7_copyOf_6403c.cls ∈ lw_T := lw_T_mem (List.mem_of_getElem? (i := 49) (by decide +kernel)) (by decide +kernel)
set_option maxRecDepth 100000 in
theorem ct_J7_copyOf_6403c : Cond.static yJ7_copyOf_6403c ∈ lw_T := lw_T_mem (List.mem_of_getElem? (i := 596) (by decide +kernel)) (by decide +kernel)
set_option maxRecDepth 100000 in
theorem mw_J7_300 : Cond.methodLink RJ7 300 yJ7_copyOf_6403c ∈ lw_T := lw_T_mem (List.mem_of_getElem? (i := 595) (by decide +kernel)) (by decide +kernel)
theorem ci_J7_300 : CI RJ7 300 yJ7_copyOf_6403c cJ7_copyOf_6403c 4 (some (.array (.object "java/lang/Object"))) 3 := ⟨mw_J7_300, cx_J7_copyOf_6403c, cw_J7_copyOf_6403c, by decide, by decide, by decide +kernel⟩
set_option maxRecDepth 100000 in
theorem mw_J7_304 : Cond.methodLink RJ7 304 yJ9_min_7cf53 ∈ lw_T := lw_T_mem (List.mem_of_getElem? (i := 355) (by decide +kernel)) (by decide +kernel)
theorem ci_J7_304 : CI RJ7 304 yJ9_min_7cf53 cJ9_min_7cf53 2 (some .int) 2 := ⟨mw_J7_304, cx_J9_min_7cf53, cw_J9_min_7cf53, by decide, by decide, by decide +kernel⟩
set_option maxRecDepth 100000 in
theorem tk_J7_311 : Cond.classLink RJ7 311 "[B" ∈ lw_T := lw_T_mem (List.mem_of_getElem? (i := 354) (by decide +kernel)) (by decide +kernel)
set_option maxRecDepth 100000 in
theorem cw_J7_copyOfRangeByte_39247 : Cond.code yJ7_copyOfRangeByte_39247 cJ7_copyOfRangeByte_39247 5 (some (.array .byte)) ∈ lw_T := lw_T_mem (List.mem_of_getElem? (i := 493) (by decide +kernel)) (by decide +kernel)
set_option maxRecDepth 100000 in
theorem cx_J7_copyOfRangeByte_39247 : Cond.initialized yJ7_copyOfRangeByte_39247.cls ∈ lw_T := lw_T_mem (List.mem_of_getElem? (i := 49) (by decide +kernel)) (by decide +kernel)
set_option maxRecDepth 100000 in
theorem ct_J7_copyOfRangeByte_39247 : Cond.static yJ7_copyOfRangeByte_39247 ∈ lw_T := lw_T_mem (List.mem_of_getElem? (i := 492) (by decide +kernel)) (by decide +kernel)
set_option maxRecDepth 100000 in
theorem mw_J7_339 : Cond.methodLink RJ7 339 yJ7_copyOfRangeByte_39247 ∈ lw_T := lw_T_mem (List.mem_of_getElem? (i := 491) (by decide +kernel)) (by decide +kernel)
theorem ci_J7_339 : CI RJ7 339 yJ7_copyOfRangeByte_39247 cJ7_copyOfRangeByte_39247 5 (some (.array .byte)) 3 := ⟨mw_J7_339, cx_J7_copyOfRangeByte_39247, cw_J7_copyOfRangeByte_39247, by decide, by decide, by decide +kernel⟩
set_option maxRecDepth 100000 in
theorem cw_J7_checkLength_df160 : Cond.code yJ7_checkLength_df160 cJ7_checkLength_df160 2 none ∈ lw_T := lw_T_mem (List.mem_of_getElem? (i := 496) (by decide +kernel)) (by decide +kernel)
set_option maxRecDepth 100000 in
theorem cx_J7_checkLength_df160 : Cond.initialized yJ7_checkLength_df160.cls ∈ lw_T := lw_T_mem (List.mem_of_getElem? (i := 49) (by decide +kernel)) (by decide +kernel)
set_option maxRecDepth 100000 in
theorem ct_J7_checkLength_df160 : Cond.static yJ7_checkLength_df160 ∈ lw_T := lw_T_mem (List.mem_of_getElem? (i := 495) (by decide +kernel)) (by decide +kernel)
set_option maxRecDepth 100000 in
theorem mw_J7_343 : Cond.methodLink RJ7 343 yJ7_checkLength_df160 ∈ lw_T := lw_T_mem (List.mem_of_getElem? (i := 494) (by decide +kernel)) (by decide +kernel)
theorem ci_J7_343 : CI RJ7 343 yJ7_checkLength_df160 cJ7_checkLength_df160 2 none 2 := ⟨mw_J7_343, cx_J7_checkLength_df160, cw_J7_checkLength_df160, by decide, by decide, by decide +kernel⟩
set_option maxRecDepth 100000 in
theorem cw_J3_checkIndex_8e157 : Cond.code yJ3_checkIndex_8e157 cJ3_checkIndex_8e157 3 (some .int) ∈ lw_T := lw_T_mem (List.mem_of_getElem? (i := 219) (by decide +kernel)) (by decide +kernel)
set_option maxRecDepth 100000 in
theorem cx_J3_checkIndex_8e157 : Cond.initialized yJ3_checkIndex_8e157.cls ∈ lw_T := lw_T_mem (List.mem_of_getElem? (i := 62) (by decide +kernel)) (by decide +kernel)
set_option maxRecDepth 100000 in
theorem ct_J3_checkIndex_8e157 : Cond.static yJ3_checkIndex_8e157 ∈ lw_T := lw_T_mem (List.mem_of_getElem? (i := 218) (by decide +kernel)) (by decide +kernel)
set_option maxRecDepth 100000 in
theorem mw_J15_105 : Cond.methodLink RJ15 105 yJ3_checkIndex_8e157 ∈ lw_T := lw_T_mem (List.mem_of_getElem? (i := 217) (by decide +kernel)) (by decide +kernel)
theorem ci_J15_105 : CI RJ15 105 yJ3_checkIndex_8e157 cJ3_checkIndex_8e157 3 (some .int) 3 := ⟨mw_J15_105, cx_J3_checkIndex_8e157, cw_J3_checkIndex_8e157, by decide, by decide, by decide +kernel⟩
set_option maxRecDepth 100000 in
theorem mw_J8_194 : Cond.methodLink RJ8 194 yJ9_max_7cf53 ∈ lw_T := lw_T_mem (List.mem_of_getElem? (i := 337) (by decide +kernel)) (by decide +kernel)
theorem ci_J8_194 : CI RJ8 194 yJ9_max_7cf53 cJ9_max_7cf53 2 (some .int) 2 := ⟨mw_J8_194, cx_J9_max_7cf53, cw_J9_max_7cf53, by decide, by decide, by decide +kernel⟩
set_option maxRecDepth 100000 in
theorem cw_J8_hugeLength_7cf53 : Cond.code yJ8_hugeLength_7cf53 cJ8_hugeLength_7cf53 3 (some .int) ∈ lw_T := lw_T_mem (List.mem_of_getElem? (i := 343) (by decide +kernel)) (by decide +kernel)
set_option maxRecDepth 100000 in
theorem cx_J8_hugeLength_7cf53 : Cond.initialized yJ8_hugeLength_7cf53.cls ∈ lw_T := lw_T_mem (List.mem_of_getElem? (i := 58) (by decide +kernel)) (by decide +kernel)
set_option maxRecDepth 100000 in
theorem ct_J8_hugeLength_7cf53 : Cond.static yJ8_hugeLength_7cf53 ∈ lw_T := lw_T_mem (List.mem_of_getElem? (i := 342) (by decide +kernel)) (by decide +kernel)
set_option maxRecDepth 100000 in
theorem mw_J8_201 : Cond.methodLink RJ8 201 yJ8_hugeLength_7cf53 ∈ lw_T := lw_T_mem (List.mem_of_getElem? (i := 341) (by decide +kernel)) (by decide +kernel)
theorem ci_J8_201 : CI RJ8 201 yJ8_hugeLength_7cf53 cJ8_hugeLength_7cf53 3 (some .int) 2 := ⟨mw_J8_201, cx_J8_hugeLength_7cf53, cw_J8_hugeLength_7cf53, by decide, by decide, by decide +kernel⟩
end
