section
-- ===== PART A: goes FIRST, ahead of the names: the tables' words, and 'selects' of the private methods out of them =====
/-- a private method of a class that the tables say can be made, by its rows of tables_1 -/
def lw_okq (q : MethodName × Nat) : Prop := (q.1.cls ≠ "java/lang/invoke/MethodHandle" ∧ q.1.cls ≠ "java/lang/invoke/VarHandle") ∧ Cond.instantiable q.1.cls q.2 ∈ tables_1 ∧ Cond.privateMethod q.1 ∈ tables_1 ∧ Cond.instanceMethod q.1 ∈ tables_1
theorem lw_p0 : lw_okq (⟨"HandsAndWays", "isThingOrHandIn", "(I)Z"⟩, 12) := ⟨⟨by decide +kernel, by decide +kernel⟩, List.mem_of_getElem? (i := 18) (by decide +kernel), List.mem_of_getElem? (i := 443) (by decide +kernel), List.mem_of_getElem? (i := 444) (by decide +kernel)⟩
theorem lw_p1 : lw_okq (⟨"HandsAndWays", "isThing", "(I)Z"⟩, 12) := ⟨⟨by decide +kernel, by decide +kernel⟩, List.mem_of_getElem? (i := 18) (by decide +kernel), List.mem_of_getElem? (i := 470) (by decide +kernel), List.mem_of_getElem? (i := 471) (by decide +kernel)⟩
theorem lw_p2 : lw_okq (⟨"HandsAndWays", "isPresent", "(I)Z"⟩, 12) := ⟨⟨by decide +kernel, by decide +kernel⟩, List.mem_of_getElem? (i := 18) (by decide +kernel), List.mem_of_getElem? (i := 522) (by decide +kernel), List.mem_of_getElem? (i := 523) (by decide +kernel)⟩
theorem lw_p3 : lw_okq (⟨"HandsAndWays$Acts", "attemptGo", "(LHandsAndWays$Scene;II)I"⟩, 4) := ⟨⟨by decide +kernel, by decide +kernel⟩, List.mem_of_getElem? (i := 225) (by decide +kernel), List.mem_of_getElem? (i := 530) (by decide +kernel), List.mem_of_getElem? (i := 531) (by decide +kernel)⟩
theorem lw_p4 : lw_okq (⟨"HandsAndWays$Acts", "attemptTake", "(LHandsAndWays$Scene;III)I"⟩, 4) := ⟨⟨by decide +kernel, by decide +kernel⟩, List.mem_of_getElem? (i := 225) (by decide +kernel), List.mem_of_getElem? (i := 570) (by decide +kernel), List.mem_of_getElem? (i := 571) (by decide +kernel)⟩
theorem lw_p5 : lw_okq (⟨"HandsAndWays$Acts", "attemptOpen", "(LHandsAndWays$Scene;II)I"⟩, 4) := ⟨⟨by decide +kernel, by decide +kernel⟩, List.mem_of_getElem? (i := 225) (by decide +kernel), List.mem_of_getElem? (i := 609) (by decide +kernel), List.mem_of_getElem? (i := 610) (by decide +kernel)⟩
theorem lw_p6 : lw_okq (⟨"HandsAndWays", "isDoor", "(I)Z"⟩, 12) := ⟨⟨by decide +kernel, by decide +kernel⟩, List.mem_of_getElem? (i := 18) (by decide +kernel), List.mem_of_getElem? (i := 641) (by decide +kernel), List.mem_of_getElem? (i := 642) (by decide +kernel)⟩
theorem lw_p7 : lw_okq (⟨"HandsAndWays$Ways", "cellAhead", "(II)I"⟩, 6) := ⟨⟨by decide +kernel, by decide +kernel⟩, List.mem_of_getElem? (i := 154) (by decide +kernel), List.mem_of_getElem? (i := 660) (by decide +kernel), List.mem_of_getElem? (i := 661) (by decide +kernel)⟩
theorem lw_p8 : lw_okq (⟨"HandsAndWays$Ways", "thingsIn", "(LHandsAndWays$Scene;JI)I"⟩, 6) := ⟨⟨by decide +kernel, by decide +kernel⟩, List.mem_of_getElem? (i := 154) (by decide +kernel), List.mem_of_getElem? (i := 679) (by decide +kernel), List.mem_of_getElem? (i := 680) (by decide +kernel)⟩
theorem lw_p9 : lw_okq (⟨"HandsAndWays$Ways", "shutDoorsIn", "(LHandsAndWays$Scene;J)I"⟩, 6) := ⟨⟨by decide +kernel, by decide +kernel⟩, List.mem_of_getElem? (i := 154) (by decide +kernel), List.mem_of_getElem? (i := 683) (by decide +kernel), List.mem_of_getElem? (i := 684) (by decide +kernel)⟩
theorem lw_p10 : lw_okq (⟨"HandsAndWays$Tape", "readAct", "(I)Z"⟩, 9) := ⟨⟨by decide +kernel, by decide +kernel⟩, List.mem_of_getElem? (i := 181) (by decide +kernel), List.mem_of_getElem? (i := 747) (by decide +kernel), List.mem_of_getElem? (i := 748) (by decide +kernel)⟩
theorem lw_p11 : lw_okq (⟨"HandsAndWays$Tape", "here", "()I"⟩, 9) := ⟨⟨by decide +kernel, by decide +kernel⟩, List.mem_of_getElem? (i := 181) (by decide +kernel), List.mem_of_getElem? (i := 751) (by decide +kernel), List.mem_of_getElem? (i := 752) (by decide +kernel)⟩
theorem lw_p12 : lw_okq (⟨"HandsAndWays$Tape", "readNumber", "(I)Z"⟩, 9) := ⟨⟨by decide +kernel, by decide +kernel⟩, List.mem_of_getElem? (i := 181) (by decide +kernel), List.mem_of_getElem? (i := 761) (by decide +kernel), List.mem_of_getElem? (i := 762) (by decide +kernel)⟩
theorem lw_p13 : lw_okq (⟨"HandsAndWays", "isProgram", "(I)Z"⟩, 12) := ⟨⟨by decide +kernel, by decide +kernel⟩, List.mem_of_getElem? (i := 18) (by decide +kernel), List.mem_of_getElem? (i := 775) (by decide +kernel), List.mem_of_getElem? (i := 776) (by decide +kernel)⟩
theorem lw_p14 : lw_okq (⟨"HandsAndWays$Acts", "tickGo", "(LHandsAndWays$Scene;II)V"⟩, 4) := ⟨⟨by decide +kernel, by decide +kernel⟩, List.mem_of_getElem? (i := 225) (by decide +kernel), List.mem_of_getElem? (i := 824) (by decide +kernel), List.mem_of_getElem? (i := 825) (by decide +kernel)⟩
theorem lw_p15 : lw_okq (⟨"HandsAndWays$Acts", "firstStep", "(LHandsAndWays$Scene;II)I"⟩, 4) := ⟨⟨by decide +kernel, by decide +kernel⟩, List.mem_of_getElem? (i := 225) (by decide +kernel), List.mem_of_getElem? (i := 828) (by decide +kernel), List.mem_of_getElem? (i := 829) (by decide +kernel)⟩
def lw_privs_1 : List (MethodName × Nat) := [(⟨"HandsAndWays", "isThingOrHandIn", "(I)Z"⟩, 12), (⟨"HandsAndWays", "isThing", "(I)Z"⟩, 12), (⟨"HandsAndWays", "isPresent", "(I)Z"⟩, 12), (⟨"HandsAndWays$Acts", "attemptGo", "(LHandsAndWays$Scene;II)I"⟩, 4), (⟨"HandsAndWays$Acts", "attemptTake", "(LHandsAndWays$Scene;III)I"⟩, 4), (⟨"HandsAndWays$Acts", "attemptOpen", "(LHandsAndWays$Scene;II)I"⟩, 4), (⟨"HandsAndWays", "isDoor", "(I)Z"⟩, 12), (⟨"HandsAndWays$Ways", "cellAhead", "(II)I"⟩, 6), (⟨"HandsAndWays$Ways", "thingsIn", "(LHandsAndWays$Scene;JI)I"⟩, 6), (⟨"HandsAndWays$Ways", "shutDoorsIn", "(LHandsAndWays$Scene;J)I"⟩, 6), (⟨"HandsAndWays$Tape", "readAct", "(I)Z"⟩, 9), (⟨"HandsAndWays$Tape", "here", "()I"⟩, 9), (⟨"HandsAndWays$Tape", "readNumber", "(I)Z"⟩, 9), (⟨"HandsAndWays", "isProgram", "(I)Z"⟩, 12), (⟨"HandsAndWays$Acts", "tickGo", "(LHandsAndWays$Scene;II)V"⟩, 4), (⟨"HandsAndWays$Acts", "firstStep", "(LHandsAndWays$Scene;II)I"⟩, 4)]
theorem lw_r1 : ∀ q ∈ lw_privs_1, lw_okq q := List.forall_mem_cons.mpr ⟨lw_p0, List.forall_mem_cons.mpr ⟨lw_p1, List.forall_mem_cons.mpr ⟨lw_p2, List.forall_mem_cons.mpr ⟨lw_p3, List.forall_mem_cons.mpr ⟨lw_p4, List.forall_mem_cons.mpr ⟨lw_p5, List.forall_mem_cons.mpr ⟨lw_p6, List.forall_mem_cons.mpr ⟨lw_p7, List.forall_mem_cons.mpr ⟨lw_p8, List.forall_mem_cons.mpr ⟨lw_p9, List.forall_mem_cons.mpr ⟨lw_p10, List.forall_mem_cons.mpr ⟨lw_p11, List.forall_mem_cons.mpr ⟨lw_p12, List.forall_mem_cons.mpr ⟨lw_p13, List.forall_mem_cons.mpr ⟨lw_p14, List.forall_mem_cons.mpr ⟨lw_p15, fun _ h => absurd h List.not_mem_nil⟩⟩⟩⟩⟩⟩⟩⟩⟩⟩⟩⟩⟩⟩⟩⟩
theorem lw_p16 : lw_okq (⟨"HandsAndWays$Planner", "seek", "(III)V"⟩, 15) := ⟨⟨by decide +kernel, by decide +kernel⟩, List.mem_of_getElem? (i := 279) (by decide +kernel), List.mem_of_getElem? (i := 879) (by decide +kernel), List.mem_of_getElem? (i := 880) (by decide +kernel)⟩
theorem lw_p17 : lw_okq (⟨"HandsAndWays$Planner", "askThing", "(IIIII)V"⟩, 15) := ⟨⟨by decide +kernel, by decide +kernel⟩, List.mem_of_getElem? (i := 279) (by decide +kernel), List.mem_of_getElem? (i := 883) (by decide +kernel), List.mem_of_getElem? (i := 884) (by decide +kernel)⟩
theorem lw_p18 : lw_okq (⟨"HandsAndWays$Planner", "farOfMove", "(IIIJ)I"⟩, 15) := ⟨⟨by decide +kernel, by decide +kernel⟩, List.mem_of_getElem? (i := 279) (by decide +kernel), List.mem_of_getElem? (i := 892) (by decide +kernel), List.mem_of_getElem? (i := 893) (by decide +kernel)⟩
theorem lw_p19 : lw_okq (⟨"HandsAndWays$Planner", "noteMove", "(IIII)V"⟩, 15) := ⟨⟨by decide +kernel, by decide +kernel⟩, List.mem_of_getElem? (i := 279) (by decide +kernel), List.mem_of_getElem? (i := 905) (by decide +kernel), List.mem_of_getElem? (i := 906) (by decide +kernel)⟩
theorem lw_p20 : lw_okq (⟨"HandsAndWays$Planner", "keepRow", "(II)V"⟩, 15) := ⟨⟨by decide +kernel, by decide +kernel⟩, List.mem_of_getElem? (i := 279) (by decide +kernel), List.mem_of_getElem? (i := 909) (by decide +kernel), List.mem_of_getElem? (i := 910) (by decide +kernel)⟩
theorem lw_p21 : lw_okq (⟨"HandsAndWays$Planner", "askPlaces", "(IIII)V"⟩, 15) := ⟨⟨by decide +kernel, by decide +kernel⟩, List.mem_of_getElem? (i := 279) (by decide +kernel), List.mem_of_getElem? (i := 919) (by decide +kernel), List.mem_of_getElem? (i := 920) (by decide +kernel)⟩
theorem lw_p22 : lw_okq (⟨"HandsAndWays$Chances", "canLay", "(LHandsAndWays$Scene;I)Z"⟩, 12) := ⟨⟨by decide +kernel, by decide +kernel⟩, List.mem_of_getElem? (i := 334) (by decide +kernel), List.mem_of_getElem? (i := 955) (by decide +kernel), List.mem_of_getElem? (i := 956) (by decide +kernel)⟩
theorem lw_p23 : lw_okq (⟨"HandsAndWays$Chances", "commonPart", "()I"⟩, 12) := ⟨⟨by decide +kernel, by decide +kernel⟩, List.mem_of_getElem? (i := 334) (by decide +kernel), List.mem_of_getElem? (i := 969) (by decide +kernel), List.mem_of_getElem? (i := 970) (by decide +kernel)⟩
theorem lw_p24 : lw_okq (⟨"HandsAndWaysModel", "isThere", "(I)Z"⟩, 48) := ⟨⟨by decide +kernel, by decide +kernel⟩, List.mem_of_getElem? (i := 1028) (by decide +kernel), List.mem_of_getElem? (i := 1200) (by decide +kernel), List.mem_of_getElem? (i := 1201) (by decide +kernel)⟩
theorem lw_p25 : lw_okq (⟨"HandsAndWaysModel", "spreadsNow", "(I)V"⟩, 48) := ⟨⟨by decide +kernel, by decide +kernel⟩, List.mem_of_getElem? (i := 1028) (by decide +kernel), List.mem_of_getElem? (i := 1210) (by decide +kernel), List.mem_of_getElem? (i := 1211) (by decide +kernel)⟩
theorem lw_p26 : lw_okq (⟨"HandsAndWaysModel", "spreads", "(IIII)V"⟩, 48) := ⟨⟨by decide +kernel, by decide +kernel⟩, List.mem_of_getElem? (i := 1028) (by decide +kernel), List.mem_of_getElem? (i := 1214) (by decide +kernel), List.mem_of_getElem? (i := 1215) (by decide +kernel)⟩
theorem lw_p27 : lw_okq (⟨"HandsAndWaysModel", "maySide", "(II)Z"⟩, 48) := ⟨⟨by decide +kernel, by decide +kernel⟩, List.mem_of_getElem? (i := 1028) (by decide +kernel), List.mem_of_getElem? (i := 1218) (by decide +kernel), List.mem_of_getElem? (i := 1219) (by decide +kernel)⟩
theorem lw_p28 : lw_okq (⟨"HandsAndWaysModel", "stands", "(IIII)Z"⟩, 48) := ⟨⟨by decide +kernel, by decide +kernel⟩, List.mem_of_getElem? (i := 1028) (by decide +kernel), List.mem_of_getElem? (i := 1225) (by decide +kernel), List.mem_of_getElem? (i := 1226) (by decide +kernel)⟩
theorem lw_p29 : lw_okq (⟨"HandsAndWaysModel", "isFree", "(III)Z"⟩, 48) := ⟨⟨by decide +kernel, by decide +kernel⟩, List.mem_of_getElem? (i := 1028) (by decide +kernel), List.mem_of_getElem? (i := 1229) (by decide +kernel), List.mem_of_getElem? (i := 1230) (by decide +kernel)⟩
theorem lw_p30 : lw_okq (⟨"HandsAndWaysModel", "isShut", "(I)Z"⟩, 48) := ⟨⟨by decide +kernel, by decide +kernel⟩, List.mem_of_getElem? (i := 1028) (by decide +kernel), List.mem_of_getElem? (i := 1233) (by decide +kernel), List.mem_of_getElem? (i := 1234) (by decide +kernel)⟩
theorem lw_p31 : lw_okq (⟨"HandsAndWaysModel", "thingIn", "(II)I"⟩, 48) := ⟨⟨by decide +kernel, by decide +kernel⟩, List.mem_of_getElem? (i := 1028) (by decide +kernel), List.mem_of_getElem? (i := 1237) (by decide +kernel), List.mem_of_getElem? (i := 1238) (by decide +kernel)⟩
def lw_privs_2 : List (MethodName × Nat) := [(⟨"HandsAndWays$Planner", "seek", "(III)V"⟩, 15), (⟨"HandsAndWays$Planner", "askThing", "(IIIII)V"⟩, 15), (⟨"HandsAndWays$Planner", "farOfMove", "(IIIJ)I"⟩, 15), (⟨"HandsAndWays$Planner", "noteMove", "(IIII)V"⟩, 15), (⟨"HandsAndWays$Planner", "keepRow", "(II)V"⟩, 15), (⟨"HandsAndWays$Planner", "askPlaces", "(IIII)V"⟩, 15), (⟨"HandsAndWays$Chances", "canLay", "(LHandsAndWays$Scene;I)Z"⟩, 12), (⟨"HandsAndWays$Chances", "commonPart", "()I"⟩, 12), (⟨"HandsAndWaysModel", "isThere", "(I)Z"⟩, 48), (⟨"HandsAndWaysModel", "spreadsNow", "(I)V"⟩, 48), (⟨"HandsAndWaysModel", "spreads", "(IIII)V"⟩, 48), (⟨"HandsAndWaysModel", "maySide", "(II)Z"⟩, 48), (⟨"HandsAndWaysModel", "stands", "(IIII)Z"⟩, 48), (⟨"HandsAndWaysModel", "isFree", "(III)Z"⟩, 48), (⟨"HandsAndWaysModel", "isShut", "(I)Z"⟩, 48), (⟨"HandsAndWaysModel", "thingIn", "(II)I"⟩, 48)]
theorem lw_r2 : ∀ q ∈ lw_privs_2, lw_okq q := List.forall_mem_cons.mpr ⟨lw_p16, List.forall_mem_cons.mpr ⟨lw_p17, List.forall_mem_cons.mpr ⟨lw_p18, List.forall_mem_cons.mpr ⟨lw_p19, List.forall_mem_cons.mpr ⟨lw_p20, List.forall_mem_cons.mpr ⟨lw_p21, List.forall_mem_cons.mpr ⟨lw_p22, List.forall_mem_cons.mpr ⟨lw_p23, List.forall_mem_cons.mpr ⟨lw_p24, List.forall_mem_cons.mpr ⟨lw_p25, List.forall_mem_cons.mpr ⟨lw_p26, List.forall_mem_cons.mpr ⟨lw_p27, List.forall_mem_cons.mpr ⟨lw_p28, List.forall_mem_cons.mpr ⟨lw_p29, List.forall_mem_cons.mpr ⟨lw_p30, List.forall_mem_cons.mpr ⟨lw_p31, fun _ h => absurd h List.not_mem_nil⟩⟩⟩⟩⟩⟩⟩⟩⟩⟩⟩⟩⟩⟩⟩⟩
theorem lw_p32 : lw_okq (⟨"HandsAndWaysModel", "cellOn", "(III)I"⟩, 48) := ⟨⟨by decide +kernel, by decide +kernel⟩, List.mem_of_getElem? (i := 1028) (by decide +kernel), List.mem_of_getElem? (i := 1254) (by decide +kernel), List.mem_of_getElem? (i := 1255) (by decide +kernel)⟩
theorem lw_p33 : lw_okq (⟨"HandsAndWaysModel", "barsAt", "(III)I"⟩, 48) := ⟨⟨by decide +kernel, by decide +kernel⟩, List.mem_of_getElem? (i := 1028) (by decide +kernel), List.mem_of_getElem? (i := 1262) (by decide +kernel), List.mem_of_getElem? (i := 1263) (by decide +kernel)⟩
theorem lw_p34 : lw_okq (⟨"HandsAndWaysModel", "barIn", "(III)I"⟩, 48) := ⟨⟨by decide +kernel, by decide +kernel⟩, List.mem_of_getElem? (i := 1028) (by decide +kernel), List.mem_of_getElem? (i := 1266) (by decide +kernel), List.mem_of_getElem? (i := 1267) (by decide +kernel)⟩
theorem lw_p35 : lw_okq (⟨"HandsAndWaysModel", "isHandIn", "(I)Z"⟩, 48) := ⟨⟨by decide +kernel, by decide +kernel⟩, List.mem_of_getElem? (i := 1028) (by decide +kernel), List.mem_of_getElem? (i := 1278) (by decide +kernel), List.mem_of_getElem? (i := 1279) (by decide +kernel)⟩
theorem lw_p36 : lw_okq (⟨"HandsAndWaysModel", "isThing", "(I)Z"⟩, 48) := ⟨⟨by decide +kernel, by decide +kernel⟩, List.mem_of_getElem? (i := 1028) (by decide +kernel), List.mem_of_getElem? (i := 1286) (by decide +kernel), List.mem_of_getElem? (i := 1287) (by decide +kernel)⟩
theorem lw_p37 : lw_okq (⟨"HandsAndWaysModel", "canLie", "(III)Z"⟩, 48) := ⟨⟨by decide +kernel, by decide +kernel⟩, List.mem_of_getElem? (i := 1028) (by decide +kernel), List.mem_of_getElem? (i := 1294) (by decide +kernel), List.mem_of_getElem? (i := 1295) (by decide +kernel)⟩
theorem lw_p38 : lw_okq (⟨"HandsAndWaysModel", "goes", "(II)I"⟩, 48) := ⟨⟨by decide +kernel, by decide +kernel⟩, List.mem_of_getElem? (i := 1028) (by decide +kernel), List.mem_of_getElem? (i := 1310) (by decide +kernel), List.mem_of_getElem? (i := 1311) (by decide +kernel)⟩
theorem lw_p39 : lw_okq (⟨"HandsAndWaysModel", "comesTo", "(II)V"⟩, 48) := ⟨⟨by decide +kernel, by decide +kernel⟩, List.mem_of_getElem? (i := 1028) (by decide +kernel), List.mem_of_getElem? (i := 1314) (by decide +kernel), List.mem_of_getElem? (i := 1315) (by decide +kernel)⟩
theorem lw_p40 : lw_okq (⟨"HandsAndWaysModel", "takes", "(III)I"⟩, 48) := ⟨⟨by decide +kernel, by decide +kernel⟩, List.mem_of_getElem? (i := 1028) (by decide +kernel), List.mem_of_getElem? (i := 1322) (by decide +kernel), List.mem_of_getElem? (i := 1323) (by decide +kernel)⟩
theorem lw_p41 : lw_okq (⟨"HandsAndWaysModel", "puts", "(I)I"⟩, 48) := ⟨⟨by decide +kernel, by decide +kernel⟩, List.mem_of_getElem? (i := 1028) (by decide +kernel), List.mem_of_getElem? (i := 1333) (by decide +kernel), List.mem_of_getElem? (i := 1334) (by decide +kernel)⟩
theorem lw_p42 : lw_okq (⟨"HandsAndWaysModel", "opens", "(II)I"⟩, 48) := ⟨⟨by decide +kernel, by decide +kernel⟩, List.mem_of_getElem? (i := 1028) (by decide +kernel), List.mem_of_getElem? (i := 1341) (by decide +kernel), List.mem_of_getElem? (i := 1342) (by decide +kernel)⟩
theorem lw_p43 : lw_okq (⟨"HandsAndWaysModel", "reads", "(I)Z"⟩, 48) := ⟨⟨by decide +kernel, by decide +kernel⟩, List.mem_of_getElem? (i := 1028) (by decide +kernel), List.mem_of_getElem? (i := 1374) (by decide +kernel), List.mem_of_getElem? (i := 1375) (by decide +kernel)⟩
theorem lw_p44 : lw_okq (⟨"HandsAndWaysModel", "here", "()I"⟩, 48) := ⟨⟨by decide +kernel, by decide +kernel⟩, List.mem_of_getElem? (i := 1028) (by decide +kernel), List.mem_of_getElem? (i := 1378) (by decide +kernel), List.mem_of_getElem? (i := 1379) (by decide +kernel)⟩
theorem lw_p45 : lw_okq (⟨"HandsAndWaysModel", "number", "(I)I"⟩, 48) := ⟨⟨by decide +kernel, by decide +kernel⟩, List.mem_of_getElem? (i := 1028) (by decide +kernel), List.mem_of_getElem? (i := 1382) (by decide +kernel), List.mem_of_getElem? (i := 1383) (by decide +kernel)⟩
theorem lw_p46 : lw_okq (⟨"HandsAndWaysModel", "isProgram", "(I)Z"⟩, 48) := ⟨⟨by decide +kernel, by decide +kernel⟩, List.mem_of_getElem? (i := 1028) (by decide +kernel), List.mem_of_getElem? (i := 1390) (by decide +kernel), List.mem_of_getElem? (i := 1391) (by decide +kernel)⟩
theorem lw_p47 : lw_okq (⟨"HandsAndWaysModel", "lays", "(Z)V"⟩, 48) := ⟨⟨by decide +kernel, by decide +kernel⟩, List.mem_of_getElem? (i := 1028) (by decide +kernel), List.mem_of_getElem? (i := 1398) (by decide +kernel), List.mem_of_getElem? (i := 1399) (by decide +kernel)⟩
def lw_privs_3 : List (MethodName × Nat) := [(⟨"HandsAndWaysModel", "cellOn", "(III)I"⟩, 48), (⟨"HandsAndWaysModel", "barsAt", "(III)I"⟩, 48), (⟨"HandsAndWaysModel", "barIn", "(III)I"⟩, 48), (⟨"HandsAndWaysModel", "isHandIn", "(I)Z"⟩, 48), (⟨"HandsAndWaysModel", "isThing", "(I)Z"⟩, 48), (⟨"HandsAndWaysModel", "canLie", "(III)Z"⟩, 48), (⟨"HandsAndWaysModel", "goes", "(II)I"⟩, 48), (⟨"HandsAndWaysModel", "comesTo", "(II)V"⟩, 48), (⟨"HandsAndWaysModel", "takes", "(III)I"⟩, 48), (⟨"HandsAndWaysModel", "puts", "(I)I"⟩, 48), (⟨"HandsAndWaysModel", "opens", "(II)I"⟩, 48), (⟨"HandsAndWaysModel", "reads", "(I)Z"⟩, 48), (⟨"HandsAndWaysModel", "here", "()I"⟩, 48), (⟨"HandsAndWaysModel", "number", "(I)I"⟩, 48), (⟨"HandsAndWaysModel", "isProgram", "(I)Z"⟩, 48), (⟨"HandsAndWaysModel", "lays", "(Z)V"⟩, 48)]
theorem lw_r3 : ∀ q ∈ lw_privs_3, lw_okq q := List.forall_mem_cons.mpr ⟨lw_p32, List.forall_mem_cons.mpr ⟨lw_p33, List.forall_mem_cons.mpr ⟨lw_p34, List.forall_mem_cons.mpr ⟨lw_p35, List.forall_mem_cons.mpr ⟨lw_p36, List.forall_mem_cons.mpr ⟨lw_p37, List.forall_mem_cons.mpr ⟨lw_p38, List.forall_mem_cons.mpr ⟨lw_p39, List.forall_mem_cons.mpr ⟨lw_p40, List.forall_mem_cons.mpr ⟨lw_p41, List.forall_mem_cons.mpr ⟨lw_p42, List.forall_mem_cons.mpr ⟨lw_p43, List.forall_mem_cons.mpr ⟨lw_p44, List.forall_mem_cons.mpr ⟨lw_p45, List.forall_mem_cons.mpr ⟨lw_p46, List.forall_mem_cons.mpr ⟨lw_p47, fun _ h => absurd h List.not_mem_nil⟩⟩⟩⟩⟩⟩⟩⟩⟩⟩⟩⟩⟩⟩⟩⟩
theorem lw_p48 : lw_okq (⟨"HandsAndWaysModel", "plays", "(II)I"⟩, 48) := ⟨⟨by decide +kernel, by decide +kernel⟩, List.mem_of_getElem? (i := 1028) (by decide +kernel), List.mem_of_getElem? (i := 1402) (by decide +kernel), List.mem_of_getElem? (i := 1403) (by decide +kernel)⟩
theorem lw_p49 : lw_okq (⟨"HandsAndWaysModel", "does", "(II)I"⟩, 48) := ⟨⟨by decide +kernel, by decide +kernel⟩, List.mem_of_getElem? (i := 1028) (by decide +kernel), List.mem_of_getElem? (i := 1406) (by decide +kernel), List.mem_of_getElem? (i := 1407) (by decide +kernel)⟩
theorem lw_p50 : lw_okq (⟨"HandsAndWaysModel", "ticks", "(I)V"⟩, 48) := ⟨⟨by decide +kernel, by decide +kernel⟩, List.mem_of_getElem? (i := 1028) (by decide +kernel), List.mem_of_getElem? (i := 1422) (by decide +kernel), List.mem_of_getElem? (i := 1423) (by decide +kernel)⟩
theorem lw_p51 : lw_okq (⟨"HandsAndWaysModel", "steps", "(II)Z"⟩, 48) := ⟨⟨by decide +kernel, by decide +kernel⟩, List.mem_of_getElem? (i := 1028) (by decide +kernel), List.mem_of_getElem? (i := 1426) (by decide +kernel), List.mem_of_getElem? (i := 1427) (by decide +kernel)⟩
theorem lw_p52 : lw_okq (⟨"HandsAndWaysModel", "seeks", "(IIIIIZ)V"⟩, 48) := ⟨⟨by decide +kernel, by decide +kernel⟩, List.mem_of_getElem? (i := 1028) (by decide +kernel), List.mem_of_getElem? (i := 1438) (by decide +kernel), List.mem_of_getElem? (i := 1439) (by decide +kernel)⟩
theorem lw_p53 : lw_okq (⟨"HandsAndWaysModel", "asksAim", "(III)V"⟩, 48) := ⟨⟨by decide +kernel, by decide +kernel⟩, List.mem_of_getElem? (i := 1028) (by decide +kernel), List.mem_of_getElem? (i := 1442) (by decide +kernel), List.mem_of_getElem? (i := 1443) (by decide +kernel)⟩
theorem lw_p54 : lw_okq (⟨"HandsAndWaysModel", "isRuled", "(III)Z"⟩, 48) := ⟨⟨by decide +kernel, by decide +kernel⟩, List.mem_of_getElem? (i := 1028) (by decide +kernel), List.mem_of_getElem? (i := 1446) (by decide +kernel), List.mem_of_getElem? (i := 1447) (by decide +kernel)⟩
theorem lw_p55 : lw_okq (⟨"HandsAndWaysModel", "takenBut", "(II)J"⟩, 48) := ⟨⟨by decide +kernel, by decide +kernel⟩, List.mem_of_getElem? (i := 1028) (by decide +kernel), List.mem_of_getElem? (i := 1450) (by decide +kernel), List.mem_of_getElem? (i := 1451) (by decide +kernel)⟩
theorem lw_p56 : lw_okq (⟨"HandsAndWaysModel", "moveFar", "(IIII)I"⟩, 48) := ⟨⟨by decide +kernel, by decide +kernel⟩, List.mem_of_getElem? (i := 1028) (by decide +kernel), List.mem_of_getElem? (i := 1454) (by decide +kernel), List.mem_of_getElem? (i := 1455) (by decide +kernel)⟩
theorem lw_p57 : lw_okq (⟨"HandsAndWaysModel", "learns", "(III)V"⟩, 48) := ⟨⟨by decide +kernel, by decide +kernel⟩, List.mem_of_getElem? (i := 1028) (by decide +kernel), List.mem_of_getElem? (i := 1461) (by decide +kernel), List.mem_of_getElem? (i := 1462) (by decide +kernel)⟩
theorem lw_p58 : lw_okq (⟨"HandsAndWaysModel", "asksOther", "(IIIII)V"⟩, 48) := ⟨⟨by decide +kernel, by decide +kernel⟩, List.mem_of_getElem? (i := 1028) (by decide +kernel), List.mem_of_getElem? (i := 1465) (by decide +kernel), List.mem_of_getElem? (i := 1466) (by decide +kernel)⟩
def lw_privs_4 : List (MethodName × Nat) := [(⟨"HandsAndWaysModel", "plays", "(II)I"⟩, 48), (⟨"HandsAndWaysModel", "does", "(II)I"⟩, 48), (⟨"HandsAndWaysModel", "ticks", "(I)V"⟩, 48), (⟨"HandsAndWaysModel", "steps", "(II)Z"⟩, 48), (⟨"HandsAndWaysModel", "seeks", "(IIIIIZ)V"⟩, 48), (⟨"HandsAndWaysModel", "asksAim", "(III)V"⟩, 48), (⟨"HandsAndWaysModel", "isRuled", "(III)Z"⟩, 48), (⟨"HandsAndWaysModel", "takenBut", "(II)J"⟩, 48), (⟨"HandsAndWaysModel", "moveFar", "(IIII)I"⟩, 48), (⟨"HandsAndWaysModel", "learns", "(III)V"⟩, 48), (⟨"HandsAndWaysModel", "asksOther", "(IIIII)V"⟩, 48)]
theorem lw_r4 : ∀ q ∈ lw_privs_4, lw_okq q := List.forall_mem_cons.mpr ⟨lw_p48, List.forall_mem_cons.mpr ⟨lw_p49, List.forall_mem_cons.mpr ⟨lw_p50, List.forall_mem_cons.mpr ⟨lw_p51, List.forall_mem_cons.mpr ⟨lw_p52, List.forall_mem_cons.mpr ⟨lw_p53, List.forall_mem_cons.mpr ⟨lw_p54, List.forall_mem_cons.mpr ⟨lw_p55, List.forall_mem_cons.mpr ⟨lw_p56, List.forall_mem_cons.mpr ⟨lw_p57, List.forall_mem_cons.mpr ⟨lw_p58, fun _ h => absurd h List.not_mem_nil⟩⟩⟩⟩⟩⟩⟩⟩⟩⟩⟩
def lw_privs : List (MethodName × Nat) := lw_privs_1 ++ (lw_privs_2 ++ (lw_privs_3 ++ (lw_privs_4)))
def lw_tbl : List Cond := k2_sels lw_privs ++ tables_1
theorem lw_privs_ok : ∀ q ∈ lw_privs, lw_okq q := by
  show ∀ q ∈ lw_privs_1 ++ (lw_privs_2 ++ (lw_privs_3 ++ (lw_privs_4))), lw_okq q
  exact List.forall_mem_append.mpr ⟨lw_r1, List.forall_mem_append.mpr ⟨lw_r2, List.forall_mem_append.mpr ⟨lw_r3, lw_r4⟩⟩⟩
-- ===== end of PART A; then your names; then what follows =====
end
section
/-! THE ABSTRACT MACHINE: ints are Int (in range), longs BitVec 64, references numbers (0 null, 1 the script, 2 .. 4 the three static arrays, from 5 on the cells in the order in which they were made). A heap: what ints and longs the cells hold, and of each cell its kind (0 int, 1 boolean, 2 long array, 3 + n an object of class n), its length, its references. -/
abbrev zV : Type := Int ⊕ (BitVec 64 ⊕ Nat)
abbrev zI (x : Int) : zV := .inl x
abbrev zL (x : BitVec 64) : zV := .inr (.inl x)
abbrev zR (k : Nat) : zV := .inr (.inr k)
abbrev zM : Type := Nat → Nat → Int
abbrev zG : Type := Nat → Nat → BitVec 64
abbrev zS : Type := List (Nat × Nat × List Nat)
abbrev zH : Type := zM × zG × zS
abbrev zQ : Type := Option zV × zH
abbrev zC : Type := Nat × Nat × List zV × List zV × zH
/-- an instruction: itself, what it links to, numbers and targets, where the next one is -/
abbrev zE : Type := Instr × List Nat × List (Int × Nat) × Nat
abbrev zT : Type := Option (zC ⊕ zQ)
def zup (F : zM) (k j : Nat) (v : Int) : zM := fun a b => if a = k ∧ b = j then v else F a b
def zug (F : zG) (k j : Nat) (v : BitVec 64) : zG := fun a b => if a = k ∧ b = j then v else F a b
def zcpy (F : zM) (a0 sp a1 dp n : Nat) : zM := fun a b => if a = a1 ∧ dp ≤ b ∧ b < dp + n then F a0 (sp + (b - dp)) else F a b
def zclr (F : zM) (k : Nat) : zM := fun a b => if a = k then 0 else F a b
def zclg (F : zG) (k : Nat) : zG := fun a b => if a = k then 0 else F a b
def zadd (x y : Int) : Int := (Int32.ofInt x + Int32.ofInt y).toInt
def zsub (x y : Int) : Int := (Int32.ofInt x - Int32.ofInt y).toInt
def zmul (x y : Int) : Int := (Int32.ofInt x * Int32.ofInt y).toInt
def zdiv (x y : Int) : Int := (Int32.ofInt x / Int32.ofInt y).toInt
def zrem (x y : Int) : Int := (Int32.ofInt x - Int32.ofInt x / Int32.ofInt y * Int32.ofInt y).toInt
def zand (x y : Int) : Int := (Int32.ofInt x &&& Int32.ofInt y).toInt
def zor (x y : Int) : Int := (Int32.ofInt x ||| Int32.ofInt y).toInt
def zshl (x y : Int) : Int := (Int32.ofInt x <<< (Int32.ofInt y &&& 31)).toInt
def zshr (x y : Int) : Int := (Int32.ofInt x >>> (Int32.ofInt y &&& 31)).toInt
def zneg (x : Int) : Int := (-(Int32.ofInt x)).toInt
def zi2b (x : Int) : Int := ((Int32.ofInt x).toInt8.toInt32).toInt
def zi2s (x : Int) : Int := ((Int32.ofInt x).toInt16.toInt32).toInt
def zl2i (b : BitVec 64) : Int := ((Int64.ofBitVec b).toInt32).toInt
def zi2l (x : Int) : BitVec 64 := ((Int32.ofInt x).toInt64).toBitVec
def zlshl (b : BitVec 64) (x : Int) : BitVec 64 := (Int64.ofBitVec b <<< ((Int32.ofInt x).toInt64 &&& 63)).toBitVec
def zlshr (b : BitVec 64) (x : Int) : BitVec 64 := (Int64.ofBitVec b >>> ((Int32.ofInt x).toInt64 &&& 63)).toBitVec
def zlushr (b : BitVec 64) (x : Int) : BitVec 64 := (((Int64.ofBitVec b).toUInt64 >>> ((Int32.ofInt x).toInt64.toUInt64 &&& Int64.toUInt64 63)).toInt64).toBitVec
def zladd (a b : BitVec 64) : BitVec 64 := (Int64.ofBitVec a + Int64.ofBitVec b).toBitVec
def zlsub (a b : BitVec 64) : BitVec 64 := (Int64.ofBitVec a - Int64.ofBitVec b).toBitVec
def zland (a b : BitVec 64) : BitVec 64 := (Int64.ofBitVec a &&& Int64.ofBitVec b).toBitVec
def zlor (a b : BitVec 64) : BitVec 64 := (Int64.ofBitVec a ||| Int64.ofBitVec b).toBitVec
def zlxor (a b : BitVec 64) : BitVec 64 := (Int64.ofBitVec a ^^^ Int64.ofBitVec b).toBitVec
def zlcmp (a b : BitVec 64) : Int := (lg_cmp (Int64.ofBitVec a) (Int64.ofBitVec b)).toInt
def zcmp (c : ClassFile.Cond) (x y : Int) : Bool := match c with
  | .eq => decide (x = y)
  | .ne => decide (¬ x = y)
  | .lt => decide (x < y)
  | .ge => decide (y ≤ x)
  | .gt => decide (y < x)
  | .le => decide (x ≤ y)
def zsw (x : Int) : List (Int × Nat) → Nat → Nat
  | [], d => d
  | p :: ps, d => if x = p.1 then p.2 else zsw x ps d
def zcat : List zV → Nat
  | [] => 0
  | .inr (.inl _) :: l => 2 + zcat l
  | _ :: l => 1 + zcat l
def zone : zV → Bool
  | .inr (.inl _) => false
  | _ => true
/-- a store to a local: a long ahead of it is gone -/
def zinv : Nat → List zV → List zV
  | 0, l => l
  | i + 1, l => match l[i]? with
    | some (.inr (.inl _)) => l.set i (zR 0)
    | _ => l
def zarr (h : zH) (a t : Nat) : Option Nat := if a < 5 then none else match h.2.2[a - 5]? with
  | some q => if q.1 = t then some q.2.1 else none
  | none => none
def zobj (h : zH) (a ci : Nat) : Option (Nat × List Nat) := if a < 5 then none else match h.2.2[a - 5]? with
  | some q => if q.1 = 3 + ci then some q.2 else none
  | none => none
abbrev zcal : Type := Nat → List zV → zH → Option zQ
/-- what an instruction does: over what is read from outside, the calls, what it links to, its numbers and targets, the method, where the next one is, locals, stack, heap -/
abbrev zF : Type := (Nat → Nat × (Nat → Int)) → zcal → List Nat → List (Int × Nat) → Nat → Nat → List zV → List zV → zH → zT
def zo_bin (f : Int → Int → Int) : zF := fun _ _ _ _ y n ls st h => match st with
  | .inl b :: .inl a :: r => some (.inl (y, n, ls, .inl (f a b) :: r, h))
  | _ => none
def zo_binD (f : Int → Int → Int) : zF := fun _ _ _ _ y n ls st h => match st with
  | .inl b :: .inl a :: r => if b = 0 then none else some (.inl (y, n, ls, .inl (f a b) :: r, h))
  | _ => none
def zo_uni (f : Int → Int) : zF := fun _ _ _ _ y n ls st h => match st with
  | .inl a :: r => some (.inl (y, n, ls, .inl (f a) :: r, h))
  | _ => none
def zo_lbin (f : BitVec 64 → BitVec 64 → BitVec 64) : zF := fun _ _ _ _ y n ls st h => match st with
  | .inr (.inl b) :: .inr (.inl a) :: r => some (.inl (y, n, ls, .inr (.inl (f a b)) :: r, h))
  | _ => none
def zo_lsh (f : BitVec 64 → Int → BitVec 64) : zF := fun _ _ _ _ y n ls st h => match st with
  | .inl b :: .inr (.inl a) :: r => some (.inl (y, n, ls, .inr (.inl (f a b)) :: r, h))
  | _ => none
def zo_i2l : zF := fun _ _ _ _ y n ls st h => match st with
  | .inl a :: r => some (.inl (y, n, ls, .inr (.inl (zi2l a)) :: r, h))
  | _ => none
def zo_l2i : zF := fun _ _ _ _ y n ls st h => match st with
  | .inr (.inl a) :: r => some (.inl (y, n, ls, .inl (zl2i a) :: r, h))
  | _ => none
def zo_lcmp : zF := fun _ _ _ _ y n ls st h => match st with
  | .inr (.inl b) :: .inr (.inl a) :: r => some (.inl (y, n, ls, .inl (zlcmp a b) :: r, h))
  | _ => none
def zo_cst : zF := fun _ _ _ ps y n ls st h => match ps with
  | [v] => some (.inl (y, n, ls, .inl v.1 :: st, h))
  | _ => none
def zo_lcst (k : Nat) : zF := fun _ _ _ _ y n ls st h => some (.inl (y, n, ls, .inr (.inl (BitVec.ofNat 64 k)) :: st, h))
def zo_ldc : zF := fun _ _ _ ps y n ls st h => match ps with
  | [v] => some (.inl (y, n, ls, .inr (.inl (BitVec.ofInt 64 v.1)) :: st, h))
  | _ => none
def zo_ldi (i : Nat) : zF := fun _ _ _ _ y n ls st h => match ls[i]? with
  | some (.inl x) => some (.inl (y, n, ls, .inl x :: st, h))
  | _ => none
def zo_ldl (i : Nat) : zF := fun _ _ _ _ y n ls st h => match ls[i]? with
  | some (.inr (.inl x)) => some (.inl (y, n, ls, .inr (.inl x) :: st, h))
  | _ => none
def zo_lda (i : Nat) : zF := fun _ _ _ _ y n ls st h => match ls[i]? with
  | some (.inr (.inr (k + 1))) => some (.inl (y, n, ls, .inr (.inr (k + 1)) :: st, h))
  | _ => none
def zo_sti (i : Nat) : zF := fun _ _ _ _ y n ls st h => match st with
  | .inl x :: r => if i < ls.length then some (.inl (y, n, (zinv i ls).set i (.inl x), r, h)) else none
  | _ => none
def zo_sta (i : Nat) : zF := fun _ _ _ _ y n ls st h => match st with
  | .inr (.inr (k + 1)) :: r => if i < ls.length then some (.inl (y, n, (zinv i ls).set i (.inr (.inr (k + 1))), r, h)) else none
  | _ => none
def zo_stl (i : Nat) : zF := fun _ _ _ _ y n ls st h => match st with
  | .inr (.inl x) :: r => if i + 1 < ls.length then some (.inl (y, n, ((zinv i ls).set i (.inr (.inl x))).set (i + 1) (zR 0), r, h)) else none
  | _ => none
def zo_inc (i : Nat) (k : Int) : zF := fun _ _ _ _ y n ls st h => match ls[i]? with
  | some (.inl x) => some (.inl (y, n, (zinv i ls).set i (.inl (zadd x k)), st, h))
  | _ => none
def zo_ifc (c : ClassFile.Cond) : zF := fun _ _ w _ y n ls st h => match w, st with
  | [t], .inl x :: r => some (.inl (y, (bif zcmp c x 0 then t else n), ls, r, h))
  | _, _ => none
def zo_icm (c : ClassFile.Cond) : zF := fun _ _ w _ y n ls st h => match w, st with
  | [t], .inl b :: .inl a :: r => some (.inl (y, (bif zcmp c a b then t else n), ls, r, h))
  | _, _ => none
def zo_got : zF := fun _ _ w _ y _ ls st h => match w with
  | [t] => some (.inl (y, t, ls, st, h))
  | _ => none
def zo_swi : zF := fun _ _ w ps y _ ls st h => match w, st with
  | [_, d], .inl x :: r => some (.inl (y, zsw x ps d, ls, r, h))
  | _, _ => none
def zo_ald (t : Nat) : zF := fun X _ _ _ y n ls st h => match st with
  | .inl i :: .inr (.inr a) :: r => if a < 5 then (if t = 0 ∧ 1 ≤ a ∧ 0 ≤ i ∧ i < (X a).1 then some (.inl (y, n, ls, .inl ((X a).2 i.toNat) :: r, h)) else none)
    else match zarr h a t with
      | some l => if 0 ≤ i ∧ i < l then some (.inl (y, n, ls, .inl (h.1 a i.toNat) :: r, h)) else none
      | none => none
  | _ => none
def zo_lld : zF := fun _ _ _ _ y n ls st h => match st with
  | .inl i :: .inr (.inr a) :: r => match zarr h a 2 with
      | some l => if 0 ≤ i ∧ i < l then some (.inl (y, n, ls, .inr (.inl (h.2.1 a i.toNat)) :: r, h)) else none
      | none => none
  | _ => none
def zo_ast (t : Nat) : zF := fun _ _ _ _ y n ls st h => match st with
  | .inl x :: .inl i :: .inr (.inr a) :: r => match zarr h a t with
      | some l => if 0 ≤ i ∧ i < l ∧ (t = 1 → x = 0 ∨ x = 1) then some (.inl (y, n, ls, r, (zup h.1 a i.toNat x, h.2))) else none
      | none => none
  | _ => none
def zo_lst : zF := fun _ _ _ _ y n ls st h => match st with
  | .inr (.inl x) :: .inl i :: .inr (.inr a) :: r => match zarr h a 2 with
      | some l => if 0 ≤ i ∧ i < l then some (.inl (y, n, ls, r, (h.1, zug h.2.1 a i.toNat x, h.2.2))) else none
      | none => none
  | _ => none
def zo_len : zF := fun X _ _ _ y n ls st h => match st with
  | .inr (.inr a) :: r => if a = 1 ∧ (X 0).1 = 1 then some (.inl (y, n, ls, .inl ((X a).1 : Nat) :: r, h)) else none
  | _ => none
def zo_gf : zF := fun _ _ w _ y n ls st h => match w, st with
  | [ci, k, t], .inr (.inr a) :: r => match zobj h a ci with
      | some q => if k < q.1 then (if t = 3 then (match q.2[k]? with
          | some z => some (.inl (y, n, ls, .inr (.inr z) :: r, h))
          | none => none) else if t = 2 then some (.inl (y, n, ls, .inr (.inl (h.2.1 a k)) :: r, h)) else some (.inl (y, n, ls, .inl (h.1 a k) :: r, h))) else none
      | none => none
  | _, _ => none
def zo_pf : zF := fun _ _ w _ y n ls st h => match w, st with
  | [ci, k, t], v :: .inr (.inr a) :: r => match zobj h a ci with
      | some q => if k < q.1 then (match v with
          | .inl x => if t = 0 ∨ (t = 1 ∧ (x = 0 ∨ x = 1)) then some (.inl (y, n, ls, r, (zup h.1 a k x, h.2))) else none
          | .inr (.inl x) => if t = 2 then some (.inl (y, n, ls, r, (h.1, zug h.2.1 a k x, h.2.2))) else none
          | .inr (.inr z) => if t = 3 ∧ 5 ≤ z ∧ z < 5 + h.2.2.length ∧ k < q.2.length then some (.inl (y, n, ls, r, (h.1, h.2.1, h.2.2.set (a - 5) (3 + ci, q.1, q.2.set k z)))) else none) else none
      | none => none
  | _, _ => none
def zo_gs : zF := fun _ _ w _ y n ls st h => match w with
  | [k] => if 2 ≤ k ∧ k < 5 then some (.inl (y, n, ls, .inr (.inr k) :: st, h)) else none
  | _ => none
def zo_mka : zF := fun _ _ w _ y n ls st h => match w, st with
  | [t], .inl l :: r => if 0 ≤ l ∧ l ≤ 1000 ∧ h.2.2.length < 96 ∧ t < 3 then some (.inl (y, n, ls, .inr (.inr (h.2.2.length + 5)) :: r, (zclr h.1 (h.2.2.length + 5), zclg h.2.1 (h.2.2.length + 5), h.2.2 ++ [(t, l.toNat, [])]))) else none
  | _, _ => none
def zo_mko : zF := fun _ _ w _ y n ls st h => match w with
  | [ci, l] => if h.2.2.length < 96 then some (.inl (y, n, ls, .inr (.inr (h.2.2.length + 5)) :: st, (zclr h.1 (h.2.2.length + 5), zclg h.2.1 (h.2.2.length + 5), h.2.2 ++ [(3 + ci, l, List.replicate l 0)]))) else none
  | _ => none
def zo_dup : zF := fun _ _ _ _ y n ls st h => match st with
  | v :: r => if zone v then some (.inl (y, n, ls, v :: v :: r, h)) else none
  | _ => none
def zo_dup_x1 : zF := fun _ _ _ _ y n ls st h => match st with
  | v :: u :: r => if zone v ∧ zone u then some (.inl (y, n, ls, v :: u :: v :: r, h)) else none
  | _ => none
def zo_dup2 : zF := fun _ _ _ _ y n ls st h => match st with
  | v :: u :: r => if zone v ∧ zone u then some (.inl (y, n, ls, v :: u :: v :: u :: r, h)) else none
  | _ => none
def zback (y n : Nat) (ls r : List zV) (q : Option zQ) : zT := match q with
  | some (some v, h') => some (.inl (y, n, ls, v :: r, h'))
  | some (none, h') => some (.inl (y, n, ls, r, h'))
  | none => none
/-- a call's first argument is an object of its class (static: nothing is asked) -/
def zrcv (h : zH) (k ci : Nat) (as : List zV) : Bool := match k with
  | 0 => true
  | _ => match as with
    | .inr (.inr a) :: _ => (zobj h a ci).isSome
    | _ => false
def zo_call : zF := fun _ cal w _ y nx ls st h => match w with
  | [k, c, n, ci] => if n ≤ st.length ∧ zcat (st.drop n) ≤ 8 ∧ zrcv h k ci (st.take n).reverse = true then zback y nx ls (st.drop n) (cal c (st.take n).reverse h) else none
  | [4] => match st with
    | .inr (.inr a) :: r => if 5 ≤ a ∧ zcat r ≤ 8 then some (.inl (y, nx, ls, r, h)) else none
    | _ => none
  | [5] => match st with
    | .inl n :: .inl dp :: .inr (.inr a1) :: .inl sp :: .inr (.inr a0) :: r => match zarr h a0 0, zarr h a1 0 with
      | some n0, some n1 => if 0 ≤ sp ∧ 0 ≤ dp ∧ 0 ≤ n ∧ sp.toNat + n.toNat ≤ n0 ∧ dp.toNat + n.toNat ≤ n1 ∧ zcat r ≤ 8 ∧ h.2.2.length = 96 then some (.inl (y, nx, ls, r, (zcpy h.1 a0 sp.toNat a1 dp.toNat n.toNat, h.2))) else none
      | _, _ => none
    | _ => none
  | _ => none
def zo_iret : zF := fun _ _ w _ _ _ _ st h => match w, st with
  | [t], [.inl x] => if t = 0 ∨ x = 0 ∨ x = 1 then some (.inr (some (.inl x), h)) else none
  | _, _ => none
def zo_lret : zF := fun _ _ _ _ _ _ _ st h => match st with
  | [.inr (.inl x)] => some (.inr (some (.inr (.inl x)), h))
  | _ => none
def zo_vret : zF := fun _ _ _ _ _ _ _ st h => match st with
  | [] => some (.inr (none, h))
  | _ => none
def zo_no : zF := fun _ _ _ _ _ _ _ _ _ => none
def zop (i : Instr) : zF := match i with
  | .iconst _ => zo_cst
  | .bipush _ => zo_cst
  | .sipush _ => zo_cst
  | .lconst n => zo_lcst n.val
  | .ldc2_w _ => zo_ldc
  | .iload_n k => zo_ldi k.val
  | .iload k => zo_ldi k
  | .lload_n k => zo_ldl k.val
  | .lload k => zo_ldl k
  | .aload_n k => zo_lda k.val
  | .aload k => zo_lda k
  | .istore_n k => zo_sti k.val
  | .istore k => zo_sti k
  | .lstore_n k => zo_stl k.val
  | .lstore k => zo_stl k
  | .astore_n k => zo_sta k.val
  | .astore k => zo_sta k
  | .iinc k n => zo_inc k n
  | .iadd => zo_bin zadd
  | .isub => zo_bin zsub
  | .imul => zo_bin zmul
  | .iand => zo_bin zand
  | .ior => zo_bin zor
  | .ishl => zo_bin zshl
  | .ishr => zo_bin zshr
  | .idiv => zo_binD zdiv
  | .irem => zo_binD zrem
  | .ineg => zo_uni zneg
  | .i2b => zo_uni zi2b
  | .i2s => zo_uni zi2s
  | .i2l => zo_i2l
  | .l2i => zo_l2i
  | .ladd => zo_lbin zladd
  | .lsub => zo_lbin zlsub
  | .land => zo_lbin zland
  | .lor => zo_lbin zlor
  | .lxor => zo_lbin zlxor
  | .lshl => zo_lsh zlshl
  | .lshr => zo_lsh zlshr
  | .lushr => zo_lsh zlushr
  | .lcmp => zo_lcmp
  | .dup => zo_dup
  | .dup_x1 => zo_dup_x1
  | .dup2 => zo_dup2
  | .ifCond c _ => zo_ifc c
  | .if_icmp c _ => zo_icm c
  | .goto _ => zo_got
  | .tableswitch _ _ _ _ => zo_swi
  | .lookupswitch _ _ => zo_swi
  | .iaload => zo_ald 0
  | .baload => zo_ald 1
  | .laload => zo_lld
  | .iastore => zo_ast 0
  | .bastore => zo_ast 1
  | .lastore => zo_lst
  | .arraylength => zo_len
  | .getfield _ => zo_gf
  | .putfield _ => zo_pf
  | .getstatic _ => zo_gs
  | .newarray _ => zo_mka
  | .new _ => zo_mko
  | .invokestatic _ => zo_call
  | .invokevirtual _ => zo_call
  | .invokespecial _ => zo_call
  | .ireturn => zo_iret
  | .lreturn => zo_lret
  | .return_ => zo_vret
  | _ => zo_no
def zlook (pc : Nat) : List (Nat × zE) → Option zE
  | [] => none
  | q :: l => bif Nat.beq q.1 pc then some q.2 else zlook pc l
end
section
/-! printed by wip/gen/gen_tables.py out of the printed listings: the code of every method, method by method, and what each links to -/
/-! HandsAndWays.<init>()V -/
def zc_0 : List (Nat × zE) := [(0, (.aload_n 0 : Instr), [], [], 1),
  (1, (.invokespecial 1 : Instr), [4], [], 4),
  (4, (.aload_n 0 : Instr), [], [], 5),
  (5, (.new 7 : Instr), [1, 8], [], 8),
  (8, (.dup : Instr), [], [], 9),
  (9, (.invokespecial 9 : Instr), [3, 191, 1, 1], [], 12),
  (12, (.putfield 10 : Instr), [0, 0, 3], [], 15),
  (15, (.aload_n 0 : Instr), [], [], 16),
  (16, (.new 16 : Instr), [2, 12], [], 19),
  (19, (.dup : Instr), [], [], 20),
  (20, (.invokespecial 18 : Instr), [2, 197, 1, 2], [], 23),
  (23, (.putfield 19 : Instr), [0, 1, 3], [], 26),
  (26, (.aload_n 0 : Instr), [], [], 27),
  (27, (.new 16 : Instr), [2, 12], [], 30),
  (30, (.dup : Instr), [], [], 31),
  (31, (.invokespecial 18 : Instr), [2, 197, 1, 2], [], 34),
  (34, (.putfield 23 : Instr), [0, 2, 3], [], 37),
  (37, (.aload_n 0 : Instr), [], [], 38),
  (38, (.new 16 : Instr), [2, 12], [], 41),
  (41, (.dup : Instr), [], [], 42),
  (42, (.invokespecial 18 : Instr), [2, 197, 1, 2], [], 45),
  (45, (.putfield 26 : Instr), [0, 3, 3], [], 48),
  (48, (.aload_n 0 : Instr), [], [], 49),
  (49, (.iconst (0) : Instr), [], [(0, 0)], 50),
  (50, (.putfield 29 : Instr), [0, 4, 1], [], 53),
  (53, (.aload_n 0 : Instr), [], [], 54),
  (54, (.new 33 : Instr), [3, 6], [], 57),
  (57, (.dup : Instr), [], [], 58),
  (58, (.aload_n 0 : Instr), [], [], 59),
  (59, (.getfield 10 : Instr), [0, 0, 3], [], 62),
  (62, (.invokespecial 35 : Instr), [2, 226, 2, 3], [], 65),
  (65, (.putfield 38 : Instr), [0, 5, 3], [], 68),
  (68, (.aload_n 0 : Instr), [], [], 69),
  (69, (.new 42 : Instr), [4, 9], [], 72),
  (72, (.dup : Instr), [], [], 73),
  (73, (.invokespecial 44 : Instr), [3, 215, 1, 4], [], 76),
  (76, (.putfield 45 : Instr), [0, 6, 3], [], 79),
  (79, (.aload_n 0 : Instr), [], [], 80),
  (80, (.new 49 : Instr), [5, 4], [], 83),
  (83, (.dup : Instr), [], [], 84),
  (84, (.aload_n 0 : Instr), [], [], 85),
  (85, (.getfield 10 : Instr), [0, 0, 3], [], 88),
  (88, (.aload_n 0 : Instr), [], [], 89),
  (89, (.getfield 38 : Instr), [0, 5, 3], [], 92),
  (92, (.aload_n 0 : Instr), [], [], 93),
  (93, (.getfield 45 : Instr), [0, 6, 3], [], 96),
  (96, (.invokespecial 51 : Instr), [2, 137, 4, 5], [], 99),
  (99, (.putfield 54 : Instr), [0, 7, 3], [], 102),
  (102, (.aload_n 0 : Instr), [], [], 103),
  (103, (.new 58 : Instr), [6, 8], [], 106),
  (106, (.dup : Instr), [], [], 107),
  (107, (.invokespecial 60 : Instr), [3, 194, 1, 6], [], 110),
  (110, (.putfield 61 : Instr), [0, 8, 3], [], 113),
  (113, (.aload_n 0 : Instr), [], [], 114),
  (114, (.new 65 : Instr), [7, 15], [], 117),
  (117, (.dup : Instr), [], [], 118),
  (118, (.aload_n 0 : Instr), [], [], 119),
  (119, (.getfield 10 : Instr), [0, 0, 3], [], 122),
  (122, (.aload_n 0 : Instr), [], [], 123),
  (123, (.getfield 38 : Instr), [0, 5, 3], [], 126),
  (126, (.aload_n 0 : Instr), [], [], 127),
  (127, (.getfield 61 : Instr), [0, 8, 3], [], 130),
  (130, (.aload_n 0 : Instr), [], [], 131),
  (131, (.getfield 23 : Instr), [0, 2, 3], [], 134),
  (134, (.invokespecial 67 : Instr), [2, 178, 5, 7], [], 137),
  (137, (.putfield 70 : Instr), [0, 9, 3], [], 140),
  (140, (.aload_n 0 : Instr), [], [], 141),
  (141, (.new 74 : Instr), [8, 12], [], 144),
  (144, (.dup : Instr), [], [], 145),
  (145, (.aload_n 0 : Instr), [], [], 146),
  (146, (.getfield 10 : Instr), [0, 0, 3], [], 149),
  (149, (.aload_n 0 : Instr), [], [], 150),
  (150, (.getfield 38 : Instr), [0, 5, 3], [], 153),
  (153, (.aload_n 0 : Instr), [], [], 154),
  (154, (.getfield 54 : Instr), [0, 7, 3], [], 157),
  (157, (.aload_n 0 : Instr), [], [], 158),
  (158, (.getfield 23 : Instr), [0, 2, 3], [], 161),
  (161, (.invokespecial 76 : Instr), [2, 163, 5, 8], [], 164),
  (164, (.putfield 79 : Instr), [0, 10, 3], [], 167),
  (167, (.aload_n 0 : Instr), [], [], 168),
  (168, (.new 83 : Instr), [9, 3], [], 171),
  (171, (.dup : Instr), [], [], 172),
  (172, (.invokespecial 85 : Instr), [3, 207, 1, 9], [], 175),
  (175, (.putfield 86 : Instr), [0, 11, 3], [], 178),
  (178, (.return_ : Instr), [], [], 0)]
/-! HandsAndWays.wall(II)I -/
def zc_1 : List (Nat × zE) := [(0, (.iload_n 1 : Instr), [], [], 1),
  (1, (.invokestatic 90 : Instr), [0, 149, 1, 0], [], 4),
  (4, (.ifCond .ne (5) : Instr), [9], [], 7),
  (7, (.iconst (-1) : Instr), [], [(-1, 0)], 8),
  (8, (.ireturn : Instr), [0], [], 9),
  (9, (.iload_n 2 : Instr), [], [], 10),
  (10, (.ifCond .eq (11) : Instr), [21], [], 13),
  (13, (.iload_n 2 : Instr), [], [], 14),
  (14, (.iconst (1) : Instr), [], [(1, 0)], 15),
  (15, (.if_icmp .eq (6) : Instr), [21], [], 18),
  (18, (.bipush (-2) : Instr), [], [(-2, 0)], 20),
  (20, (.ireturn : Instr), [0], [], 21),
  (21, (.iload_n 2 : Instr), [], [], 22),
  (22, (.iconst (1) : Instr), [], [(1, 0)], 23),
  (23, (.if_icmp .ne (14) : Instr), [37], [], 26),
  (26, (.aload_n 0 : Instr), [], [], 27),
  (27, (.iload_n 1 : Instr), [], [], 28),
  (28, (.invokevirtual 96 : Instr), [1, 46, 2, 0], [], 31),
  (31, (.ifCond .eq (6) : Instr), [37], [], 34),
  (34, (.bipush (-3) : Instr), [], [(-3, 0)], 36),
  (36, (.ireturn : Instr), [0], [], 37),
  (37, (.aload_n 0 : Instr), [], [], 38),
  (38, (.getfield 10 : Instr), [0, 0, 3], [], 41),
  (41, (.getfield 99 : Instr), [1, 0, 2], [], 44),
  (44, (.iload_n 1 : Instr), [], [], 45),
  (45, (.invokestatic 103 : Instr), [0, 152, 2, 0], [], 48),
  (48, (.ifCond .eq (7) : Instr), [55], [], 51),
  (51, (.iconst (1) : Instr), [], [(1, 0)], 52),
  (52, (.goto (4) : Instr), [56], [], 55),
  (55, (.iconst (0) : Instr), [], [(0, 0)], 56),
  (56, (.istore_n 3 : Instr), [], [], 57),
  (57, (.aload_n 0 : Instr), [], [], 58),
  (58, (.getfield 10 : Instr), [0, 0, 3], [], 61),
  (61, (.iload_n 2 : Instr), [], [], 62),
  (62, (.iconst (1) : Instr), [], [(1, 0)], 63),
  (63, (.if_icmp .ne (18) : Instr), [81], [], 66),
  (66, (.aload_n 0 : Instr), [], [], 67),
  (67, (.getfield 10 : Instr), [0, 0, 3], [], 70),
  (70, (.getfield 99 : Instr), [1, 0, 2], [], 73),
  (73, (.iload_n 1 : Instr), [], [], 74),
  (74, (.invokestatic 107 : Instr), [0, 151, 1, 0], [], 77),
  (77, (.lor : Instr), [], [], 78),
  (78, (.goto (19) : Instr), [97], [], 81),
  (81, (.aload_n 0 : Instr), [], [], 82),
  (82, (.getfield 10 : Instr), [0, 0, 3], [], 85),
  (85, (.getfield 99 : Instr), [1, 0, 2], [], 88),
  (88, (.iload_n 1 : Instr), [], [], 89),
  (89, (.invokestatic 107 : Instr), [0, 151, 1, 0], [], 92),
  (92, (.ldc2_w 111 : Instr), [], [(-1, 0)], 95),
  (95, (.lxor : Instr), [], [], 96),
  (96, (.land : Instr), [], [], 97),
  (97, (.putfield 99 : Instr), [1, 0, 2], [], 100),
  (100, (.iload_n 3 : Instr), [], [], 101),
  (101, (.ireturn : Instr), [0], [], 0)]
/-! HandsAndWays.door(II)I -/
def zc_2 : List (Nat × zE) := [(0, (.iload_n 1 : Instr), [], [], 1),
  (1, (.invokestatic 90 : Instr), [0, 149, 1, 0], [], 4),
  (4, (.ifCond .ne (5) : Instr), [9], [], 7),
  (7, (.iconst (-1) : Instr), [], [(-1, 0)], 8),
  (8, (.ireturn : Instr), [0], [], 9),
  (9, (.iload_n 2 : Instr), [], [], 10),
  (10, (.iconst (-1) : Instr), [], [(-1, 0)], 11),
  (11, (.if_icmp .eq (13) : Instr), [24], [], 14),
  (14, (.aload_n 0 : Instr), [], [], 15),
  (15, (.iload_n 2 : Instr), [], [], 16),
  (16, (.invokevirtual 113 : Instr), [1, 43, 2, 0], [], 19),
  (19, (.ifCond .ne (5) : Instr), [24], [], 22),
  (22, (.iconst (-1) : Instr), [], [(-1, 0)], 23),
  (23, (.ireturn : Instr), [0], [], 24),
  (24, (.iload_n 2 : Instr), [], [], 25),
  (25, (.iconst (-1) : Instr), [], [(-1, 0)], 26),
  (26, (.if_icmp .eq (21) : Instr), [47], [], 29),
  (29, (.aload_n 0 : Instr), [], [], 30),
  (30, (.getfield 10 : Instr), [0, 0, 3], [], 33),
  (33, (.getfield 116 : Instr), [1, 3, 3], [], 36),
  (36, (.iload_n 2 : Instr), [], [], 37),
  (37, (.iaload : Instr), [], [], 38),
  (38, (.invokestatic 120 : Instr), [0, 175, 1, 0], [], 41),
  (41, (.ifCond .ne (6) : Instr), [47], [], 44),
  (44, (.bipush (-13) : Instr), [], [(-13, 0)], 46),
  (46, (.ireturn : Instr), [0], [], 47),
  (47, (.aload_n 0 : Instr), [], [], 48),
  (48, (.getfield 10 : Instr), [0, 0, 3], [], 51),
  (51, (.getfield 99 : Instr), [1, 0, 2], [], 54),
  (54, (.iload_n 1 : Instr), [], [], 55),
  (55, (.invokestatic 103 : Instr), [0, 152, 2, 0], [], 58),
  (58, (.ifCond .ne (11) : Instr), [69], [], 61),
  (61, (.aload_n 0 : Instr), [], [], 62),
  (62, (.iload_n 1 : Instr), [], [], 63),
  (63, (.invokevirtual 96 : Instr), [1, 46, 2, 0], [], 66),
  (66, (.ifCond .eq (6) : Instr), [72], [], 69),
  (69, (.bipush (-3) : Instr), [], [(-3, 0)], 71),
  (71, (.ireturn : Instr), [0], [], 72),
  (72, (.aload_n 0 : Instr), [], [], 73),
  (73, (.getfield 10 : Instr), [0, 0, 3], [], 76),
  (76, (.getfield 125 : Instr), [1, 5, 0], [], 79),
  (79, (.iconst (4) : Instr), [], [(4, 0)], 80),
  (80, (.if_icmp .lt (6) : Instr), [86], [], 83),
  (83, (.bipush (-4) : Instr), [], [(-4, 0)], 85),
  (85, (.ireturn : Instr), [0], [], 86),
  (86, (.aload_n 0 : Instr), [], [], 87),
  (87, (.getfield 10 : Instr), [0, 0, 3], [], 90),
  (90, (.getfield 129 : Instr), [1, 6, 3], [], 93),
  (93, (.aload_n 0 : Instr), [], [], 94),
  (94, (.getfield 10 : Instr), [0, 0, 3], [], 97),
  (97, (.getfield 125 : Instr), [1, 5, 0], [], 100),
  (100, (.iload_n 1 : Instr), [], [], 101),
  (101, (.iastore : Instr), [], [], 102),
  (102, (.aload_n 0 : Instr), [], [], 103),
  (103, (.getfield 10 : Instr), [0, 0, 3], [], 106),
  (106, (.getfield 132 : Instr), [1, 7, 3], [], 109),
  (109, (.aload_n 0 : Instr), [], [], 110),
  (110, (.getfield 10 : Instr), [0, 0, 3], [], 113),
  (113, (.getfield 125 : Instr), [1, 5, 0], [], 116),
  (116, (.iload_n 2 : Instr), [], [], 117),
  (117, (.iastore : Instr), [], [], 118),
  (118, (.aload_n 0 : Instr), [], [], 119),
  (119, (.getfield 10 : Instr), [0, 0, 3], [], 122),
  (122, (.dup : Instr), [], [], 123),
  (123, (.getfield 125 : Instr), [1, 5, 0], [], 126),
  (126, (.dup_x1 : Instr), [], [], 127),
  (127, (.iconst (1) : Instr), [], [(1, 0)], 128),
  (128, (.iadd : Instr), [], [], 129),
  (129, (.putfield 125 : Instr), [1, 5, 0], [], 132),
  (132, (.ireturn : Instr), [0], [], 0)]
/-! HandsAndWays.thing(III)I -/
def zc_3 : List (Nat × zE) := [(0, (.iload_n 3 : Instr), [], [], 1),
  (1, (.invokestatic 90 : Instr), [0, 149, 1, 0], [], 4),
  (4, (.ifCond .ne (5) : Instr), [9], [], 7),
  (7, (.iconst (-1) : Instr), [], [(-1, 0)], 8),
  (8, (.ireturn : Instr), [0], [], 9),
  (9, (.iload_n 1 : Instr), [], [], 10),
  (10, (.invokestatic 135 : Instr), [0, 170, 1, 0], [], 13),
  (13, (.ifCond .eq (10) : Instr), [23], [], 16),
  (16, (.iload_n 2 : Instr), [], [], 17),
  (17, (.invokestatic 138 : Instr), [0, 171, 1, 0], [], 20),
  (20, (.ifCond .ne (6) : Instr), [26], [], 23),
  (23, (.bipush (-2) : Instr), [], [(-2, 0)], 25),
  (25, (.ireturn : Instr), [0], [], 26),
  (26, (.aload_n 0 : Instr), [], [], 27),
  (27, (.getfield 38 : Instr), [0, 5, 3], [], 30),
  (30, (.aload_n 0 : Instr), [], [], 31),
  (31, (.getfield 19 : Instr), [0, 1, 3], [], 34),
  (34, (.iconst (-1) : Instr), [], [(-1, 0)], 35),
  (35, (.iload_n 2 : Instr), [], [], 36),
  (36, (.iload_n 3 : Instr), [], [], 37),
  (37, (.invokevirtual 141 : Instr), [1, 231, 5, 3], [], 40),
  (40, (.ifCond .ne (6) : Instr), [46], [], 43),
  (43, (.bipush (-3) : Instr), [], [(-3, 0)], 45),
  (45, (.ireturn : Instr), [0], [], 46),
  (46, (.aload_n 0 : Instr), [], [], 47),
  (47, (.getfield 10 : Instr), [0, 0, 3], [], 50),
  (50, (.getfield 145 : Instr), [1, 2, 0], [], 53),
  (53, (.bipush (8) : Instr), [], [(8, 0)], 55),
  (55, (.if_icmp .lt (6) : Instr), [61], [], 58),
  (58, (.bipush (-4) : Instr), [], [(-4, 0)], 60),
  (60, (.ireturn : Instr), [0], [], 61),
  (61, (.aload_n 0 : Instr), [], [], 62),
  (62, (.getfield 10 : Instr), [0, 0, 3], [], 65),
  (65, (.dup : Instr), [], [], 66),
  (66, (.getfield 145 : Instr), [1, 2, 0], [], 69),
  (69, (.dup_x1 : Instr), [], [], 70),
  (70, (.iconst (1) : Instr), [], [(1, 0)], 71),
  (71, (.iadd : Instr), [], [], 72),
  (72, (.putfield 145 : Instr), [1, 2, 0], [], 75),
  (75, (.istore 4 : Instr), [], [], 77),
  (77, (.aload_n 0 : Instr), [], [], 78),
  (78, (.getfield 10 : Instr), [0, 0, 3], [], 81),
  (81, (.getfield 116 : Instr), [1, 3, 3], [], 84),
  (84, (.iload 4 : Instr), [], [], 86),
  (86, (.iload_n 1 : Instr), [], [], 87),
  (87, (.iastore : Instr), [], [], 88),
  (88, (.aload_n 0 : Instr), [], [], 89),
  (89, (.getfield 10 : Instr), [0, 0, 3], [], 92),
  (92, (.getfield 148 : Instr), [1, 4, 3], [], 95),
  (95, (.iload 4 : Instr), [], [], 97),
  (97, (.iload_n 2 : Instr), [], [], 98),
  (98, (.iastore : Instr), [], [], 99),
  (99, (.aload_n 0 : Instr), [], [], 100),
  (100, (.getfield 19 : Instr), [0, 1, 3], [], 103),
  (103, (.getfield 151 : Instr), [2, 2, 3], [], 106),
  (106, (.iload 4 : Instr), [], [], 108),
  (108, (.iload_n 3 : Instr), [], [], 109),
  (109, (.iastore : Instr), [], [], 110),
  (110, (.iload 4 : Instr), [], [], 112),
  (112, (.ireturn : Instr), [0], [], 0)]
/-! HandsAndWays.hand(II)I -/
def zc_4 : List (Nat × zE) := [(0, (.iload_n 1 : Instr), [], [], 1),
  (1, (.invokestatic 154 : Instr), [0, 41, 1, 0], [], 4),
  (4, (.ifCond .eq (10) : Instr), [14], [], 7),
  (7, (.iload_n 2 : Instr), [], [], 8),
  (8, (.invokestatic 90 : Instr), [0, 149, 1, 0], [], 11),
  (11, (.ifCond .ne (6) : Instr), [17], [], 14),
  (14, (.bipush (-5) : Instr), [], [(-5, 0)], 16),
  (16, (.ireturn : Instr), [0], [], 17),
  (17, (.aload_n 0 : Instr), [], [], 18),
  (18, (.getfield 19 : Instr), [0, 1, 3], [], 21),
  (21, (.getfield 157 : Instr), [2, 6, 3], [], 24),
  (24, (.iload_n 1 : Instr), [], [], 25),
  (25, (.iaload : Instr), [], [], 26),
  (26, (.ifCond .lt (6) : Instr), [32], [], 29),
  (29, (.bipush (-3) : Instr), [], [(-3, 0)], 31),
  (31, (.ireturn : Instr), [0], [], 32),
  (32, (.aload_n 0 : Instr), [], [], 33),
  (33, (.getfield 38 : Instr), [0, 5, 3], [], 36),
  (36, (.aload_n 0 : Instr), [], [], 37),
  (37, (.getfield 19 : Instr), [0, 1, 3], [], 40),
  (40, (.iload_n 1 : Instr), [], [], 41),
  (41, (.iconst (0) : Instr), [], [(0, 0)], 42),
  (42, (.invokevirtual 160 : Instr), [1, 230, 4, 3], [], 45),
  (45, (.iload_n 2 : Instr), [], [], 46),
  (46, (.invokestatic 103 : Instr), [0, 152, 2, 0], [], 49),
  (49, (.ifCond .eq (6) : Instr), [55], [], 52),
  (52, (.bipush (-3) : Instr), [], [(-3, 0)], 54),
  (54, (.ireturn : Instr), [0], [], 55),
  (55, (.aload_n 0 : Instr), [], [], 56),
  (56, (.getfield 19 : Instr), [0, 1, 3], [], 59),
  (59, (.getfield 164 : Instr), [2, 5, 3], [], 62),
  (62, (.iload_n 1 : Instr), [], [], 63),
  (63, (.iaload : Instr), [], [], 64),
  (64, (.istore_n 3 : Instr), [], [], 65),
  (65, (.aload_n 0 : Instr), [], [], 66),
  (66, (.getfield 19 : Instr), [0, 1, 3], [], 69),
  (69, (.getfield 164 : Instr), [2, 5, 3], [], 72),
  (72, (.iload_n 1 : Instr), [], [], 73),
  (73, (.iload_n 2 : Instr), [], [], 74),
  (74, (.iastore : Instr), [], [], 75),
  (75, (.iload_n 3 : Instr), [], [], 76),
  (76, (.ireturn : Instr), [0], [], 0)]
/-! HandsAndWays.strong(I)I -/
def zc_5 : List (Nat × zE) := [(0, (.iload_n 1 : Instr), [], [], 1),
  (1, (.iconst (1) : Instr), [], [(1, 0)], 2),
  (2, (.if_icmp .lt (9) : Instr), [11], [], 5),
  (5, (.iload_n 1 : Instr), [], [], 6),
  (6, (.bipush (99) : Instr), [], [(99, 0)], 8),
  (8, (.if_icmp .le (6) : Instr), [14], [], 11),
  (11, (.bipush (-2) : Instr), [], [(-2, 0)], 13),
  (13, (.ireturn : Instr), [0], [], 14),
  (14, (.aload_n 0 : Instr), [], [], 15),
  (15, (.getfield 10 : Instr), [0, 0, 3], [], 18),
  (18, (.getfield 167 : Instr), [1, 1, 0], [], 21),
  (21, (.istore_n 2 : Instr), [], [], 22),
  (22, (.aload_n 0 : Instr), [], [], 23),
  (23, (.getfield 10 : Instr), [0, 0, 3], [], 26),
  (26, (.iload_n 1 : Instr), [], [], 27),
  (27, (.putfield 167 : Instr), [1, 1, 0], [], 30),
  (30, (.iload_n 2 : Instr), [], [], 31),
  (31, (.ireturn : Instr), [0], [], 0)]
/-! HandsAndWays.go(II)I -/
def zc_6 : List (Nat × zE) := [(0, (.aload_n 0 : Instr), [], [], 1),
  (1, (.iload_n 1 : Instr), [], [], 2),
  (2, (.invokevirtual 170 : Instr), [1, 42, 2, 0], [], 5),
  (5, (.ifCond .eq (10) : Instr), [15], [], 8),
  (8, (.iload_n 2 : Instr), [], [], 9),
  (9, (.invokestatic 90 : Instr), [0, 149, 1, 0], [], 12),
  (12, (.ifCond .ne (6) : Instr), [18], [], 15),
  (15, (.bipush (-5) : Instr), [], [(-5, 0)], 17),
  (17, (.ireturn : Instr), [0], [], 18),
  (18, (.aload_n 0 : Instr), [], [], 19),
  (19, (.getfield 19 : Instr), [0, 1, 3], [], 22),
  (22, (.getfield 173 : Instr), [2, 7, 3], [], 25),
  (25, (.iload_n 1 : Instr), [], [], 26),
  (26, (.iaload : Instr), [], [], 27),
  (27, (.istore_n 3 : Instr), [], [], 28),
  (28, (.aload_n 0 : Instr), [], [], 29),
  (29, (.getfield 54 : Instr), [0, 7, 3], [], 32),
  (32, (.aload_n 0 : Instr), [], [], 33),
  (33, (.getfield 19 : Instr), [0, 1, 3], [], 36),
  (36, (.iload_n 1 : Instr), [], [], 37),
  (37, (.iconst (0) : Instr), [], [(0, 0)], 38),
  (38, (.iload_n 2 : Instr), [], [], 39),
  (39, (.iconst (0) : Instr), [], [(0, 0)], 40),
  (40, (.invokevirtual 176 : Instr), [1, 138, 6, 5], [], 43),
  (43, (.istore 4 : Instr), [], [], 45),
  (45, (.iload 4 : Instr), [], [], 47),
  (47, (.ifCond .ne (17) : Instr), [64], [], 50),
  (50, (.aload_n 0 : Instr), [], [], 51),
  (51, (.getfield 19 : Instr), [0, 1, 3], [], 54),
  (54, (.getfield 173 : Instr), [2, 7, 3], [], 57),
  (57, (.iload_n 1 : Instr), [], [], 58),
  (58, (.iaload : Instr), [], [], 59),
  (59, (.iload_n 3 : Instr), [], [], 60),
  (60, (.isub : Instr), [], [], 61),
  (61, (.goto (8) : Instr), [69], [], 64),
  (64, (.bipush (-10) : Instr), [], [(-10, 0)], 66),
  (66, (.iload 4 : Instr), [], [], 68),
  (68, (.isub : Instr), [], [], 69),
  (69, (.ireturn : Instr), [0], [], 0)]
/-! HandsAndWays.take(III)I -/
def zc_7 : List (Nat × zE) := [(0, (.iload_n 1 : Instr), [], [], 1),
  (1, (.invokestatic 154 : Instr), [0, 41, 1, 0], [], 4),
  (4, (.ifCond .eq (18) : Instr), [22], [], 7),
  (7, (.aload_n 0 : Instr), [], [], 8),
  (8, (.iload_n 2 : Instr), [], [], 9),
  (9, (.invokevirtual 113 : Instr), [1, 43, 2, 0], [], 12),
  (12, (.ifCond .eq (10) : Instr), [22], [], 15),
  (15, (.iload_n 3 : Instr), [], [], 16),
  (16, (.invokestatic 180 : Instr), [0, 150, 1, 0], [], 19),
  (19, (.ifCond .ne (6) : Instr), [25], [], 22),
  (22, (.bipush (-5) : Instr), [], [(-5, 0)], 24),
  (24, (.ireturn : Instr), [0], [], 25),
  (25, (.aload_n 0 : Instr), [], [], 26),
  (26, (.getfield 54 : Instr), [0, 7, 3], [], 29),
  (29, (.aload_n 0 : Instr), [], [], 30),
  (30, (.getfield 19 : Instr), [0, 1, 3], [], 33),
  (33, (.iload_n 1 : Instr), [], [], 34),
  (34, (.iconst (1) : Instr), [], [(1, 0)], 35),
  (35, (.iload_n 2 : Instr), [], [], 36),
  (36, (.iload_n 3 : Instr), [], [], 37),
  (37, (.invokevirtual 176 : Instr), [1, 138, 6, 5], [], 40),
  (40, (.invokestatic 183 : Instr), [0, 47, 1, 0], [], 43),
  (43, (.ireturn : Instr), [0], [], 0)]
/-! HandsAndWays.put(I)I -/
def zc_8 : List (Nat × zE) := [(0, (.iload_n 1 : Instr), [], [], 1),
  (1, (.invokestatic 154 : Instr), [0, 41, 1, 0], [], 4),
  (4, (.ifCond .ne (6) : Instr), [10], [], 7),
  (7, (.bipush (-5) : Instr), [], [(-5, 0)], 9),
  (9, (.ireturn : Instr), [0], [], 10),
  (10, (.aload_n 0 : Instr), [], [], 11),
  (11, (.getfield 54 : Instr), [0, 7, 3], [], 14),
  (14, (.aload_n 0 : Instr), [], [], 15),
  (15, (.getfield 19 : Instr), [0, 1, 3], [], 18),
  (18, (.iload_n 1 : Instr), [], [], 19),
  (19, (.iconst (2) : Instr), [], [(2, 0)], 20),
  (20, (.iconst (0) : Instr), [], [(0, 0)], 21),
  (21, (.iconst (0) : Instr), [], [(0, 0)], 22),
  (22, (.invokevirtual 176 : Instr), [1, 138, 6, 5], [], 25),
  (25, (.invokestatic 183 : Instr), [0, 47, 1, 0], [], 28),
  (28, (.ireturn : Instr), [0], [], 0)]
/-! HandsAndWays.open(II)I -/
def zc_9 : List (Nat × zE) := [(0, (.iload_n 1 : Instr), [], [], 1),
  (1, (.invokestatic 154 : Instr), [0, 41, 1, 0], [], 4),
  (4, (.ifCond .eq (11) : Instr), [15], [], 7),
  (7, (.aload_n 0 : Instr), [], [], 8),
  (8, (.iload_n 2 : Instr), [], [], 9),
  (9, (.invokevirtual 187 : Instr), [1, 44, 2, 0], [], 12),
  (12, (.ifCond .ne (6) : Instr), [18], [], 15),
  (15, (.bipush (-5) : Instr), [], [(-5, 0)], 17),
  (17, (.ireturn : Instr), [0], [], 18),
  (18, (.aload_n 0 : Instr), [], [], 19),
  (19, (.getfield 54 : Instr), [0, 7, 3], [], 22),
  (22, (.aload_n 0 : Instr), [], [], 23),
  (23, (.getfield 19 : Instr), [0, 1, 3], [], 26),
  (26, (.iload_n 1 : Instr), [], [], 27),
  (27, (.iconst (3) : Instr), [], [(3, 0)], 28),
  (28, (.iload_n 2 : Instr), [], [], 29),
  (29, (.iconst (0) : Instr), [], [(0, 0)], 30),
  (30, (.invokevirtual 176 : Instr), [1, 138, 6, 5], [], 33),
  (33, (.invokestatic 183 : Instr), [0, 47, 1, 0], [], 36),
  (36, (.ireturn : Instr), [0], [], 0)]
/-! HandsAndWays.way(II)I -/
def zc_10 : List (Nat × zE) := [(0, (.aload_n 0 : Instr), [], [], 1),
  (1, (.iload_n 1 : Instr), [], [], 2),
  (2, (.invokevirtual 170 : Instr), [1, 42, 2, 0], [], 5),
  (5, (.ifCond .eq (10) : Instr), [15], [], 8),
  (8, (.iload_n 2 : Instr), [], [], 9),
  (9, (.invokestatic 90 : Instr), [0, 149, 1, 0], [], 12),
  (12, (.ifCond .ne (6) : Instr), [18], [], 15),
  (15, (.bipush (-5) : Instr), [], [(-5, 0)], 17),
  (17, (.ireturn : Instr), [0], [], 18),
  (18, (.aload_n 0 : Instr), [], [], 19),
  (19, (.getfield 38 : Instr), [0, 5, 3], [], 22),
  (22, (.aload_n 0 : Instr), [], [], 23),
  (23, (.getfield 19 : Instr), [0, 1, 3], [], 26),
  (26, (.iload_n 1 : Instr), [], [], 27),
  (27, (.iconst (0) : Instr), [], [(0, 0)], 28),
  (28, (.invokevirtual 190 : Instr), [1, 233, 4, 3], [], 31),
  (31, (.aload_n 0 : Instr), [], [], 32),
  (32, (.getfield 38 : Instr), [0, 5, 3], [], 35),
  (35, (.iload_n 2 : Instr), [], [], 36),
  (36, (.invokevirtual 194 : Instr), [1, 235, 2, 3], [], 39),
  (39, (.istore_n 3 : Instr), [], [], 40),
  (40, (.iload_n 3 : Instr), [], [], 41),
  (41, (.ifCond .ge (8) : Instr), [49], [], 44),
  (44, (.bipush (-3) : Instr), [], [(-3, 0)], 46),
  (46, (.goto (4) : Instr), [50], [], 49),
  (49, (.iload_n 3 : Instr), [], [], 50),
  (50, (.ireturn : Instr), [0], [], 0)]
/-! HandsAndWays.step(III)I -/
def zc_11 : List (Nat × zE) := [(0, (.aload_n 0 : Instr), [], [], 1),
  (1, (.iload_n 1 : Instr), [], [], 2),
  (2, (.invokevirtual 170 : Instr), [1, 42, 2, 0], [], 5),
  (5, (.ifCond .eq (10) : Instr), [15], [], 8),
  (8, (.iload_n 2 : Instr), [], [], 9),
  (9, (.invokestatic 90 : Instr), [0, 149, 1, 0], [], 12),
  (12, (.ifCond .ne (6) : Instr), [18], [], 15),
  (15, (.bipush (-5) : Instr), [], [(-5, 0)], 17),
  (17, (.ireturn : Instr), [0], [], 18),
  (18, (.aload_n 0 : Instr), [], [], 19),
  (19, (.getfield 38 : Instr), [0, 5, 3], [], 22),
  (22, (.aload_n 0 : Instr), [], [], 23),
  (23, (.getfield 19 : Instr), [0, 1, 3], [], 26),
  (26, (.iload_n 1 : Instr), [], [], 27),
  (27, (.iconst (0) : Instr), [], [(0, 0)], 28),
  (28, (.invokevirtual 190 : Instr), [1, 233, 4, 3], [], 31),
  (31, (.aload_n 0 : Instr), [], [], 32),
  (32, (.getfield 38 : Instr), [0, 5, 3], [], 35),
  (35, (.iload_n 2 : Instr), [], [], 36),
  (36, (.invokevirtual 194 : Instr), [1, 235, 2, 3], [], 39),
  (39, (.istore 4 : Instr), [], [], 41),
  (41, (.iload 4 : Instr), [], [], 43),
  (43, (.ifCond .lt (13) : Instr), [56], [], 46),
  (46, (.iload_n 3 : Instr), [], [], 47),
  (47, (.ifCond .lt (9) : Instr), [56], [], 50),
  (50, (.iload_n 3 : Instr), [], [], 51),
  (51, (.iload 4 : Instr), [], [], 53),
  (53, (.if_icmp .le (6) : Instr), [59], [], 56),
  (56, (.bipush (-3) : Instr), [], [(-3, 0)], 58),
  (58, (.ireturn : Instr), [0], [], 59),
  (59, (.aload_n 0 : Instr), [], [], 60),
  (60, (.getfield 38 : Instr), [0, 5, 3], [], 63),
  (63, (.iload_n 2 : Instr), [], [], 64),
  (64, (.iload_n 3 : Instr), [], [], 65),
  (65, (.invokevirtual 197 : Instr), [1, 236, 3, 3], [], 68),
  (68, (.ireturn : Instr), [0], [], 0)]
/-! HandsAndWays.reached(II)I -/
def zc_12 : List (Nat × zE) := [(0, (.aload_n 0 : Instr), [], [], 1),
  (1, (.iload_n 1 : Instr), [], [], 2),
  (2, (.invokevirtual 170 : Instr), [1, 42, 2, 0], [], 5),
  (5, (.ifCond .ne (6) : Instr), [11], [], 8),
  (8, (.bipush (-5) : Instr), [], [(-5, 0)], 10),
  (10, (.ireturn : Instr), [0], [], 11),
  (11, (.iload_n 2 : Instr), [], [], 12),
  (12, (.ifCond .eq (11) : Instr), [23], [], 15),
  (15, (.iload_n 2 : Instr), [], [], 16),
  (16, (.iconst (1) : Instr), [], [(1, 0)], 17),
  (17, (.if_icmp .eq (6) : Instr), [23], [], 20),
  (20, (.bipush (-2) : Instr), [], [(-2, 0)], 22),
  (22, (.ireturn : Instr), [0], [], 23),
  (23, (.aload_n 0 : Instr), [], [], 24),
  (24, (.getfield 38 : Instr), [0, 5, 3], [], 27),
  (27, (.aload_n 0 : Instr), [], [], 28),
  (28, (.getfield 19 : Instr), [0, 1, 3], [], 31),
  (31, (.iload_n 1 : Instr), [], [], 32),
  (32, (.iconst (0) : Instr), [], [(0, 0)], 33),
  (33, (.invokevirtual 190 : Instr), [1, 233, 4, 3], [], 36),
  (36, (.iload_n 2 : Instr), [], [], 37),
  (37, (.ifCond .ne (16) : Instr), [53], [], 40),
  (40, (.aload_n 0 : Instr), [], [], 41),
  (41, (.getfield 38 : Instr), [0, 5, 3], [], 44),
  (44, (.getfield 201 : Instr), [3, 5, 2], [], 47),
  (47, (.invokestatic 204 : Instr), [0, 243, 1, 0], [], 50),
  (50, (.goto (15) : Instr), [65], [], 53),
  (53, (.aload_n 0 : Instr), [], [], 54),
  (54, (.getfield 38 : Instr), [0, 5, 3], [], 57),
  (57, (.aload_n 0 : Instr), [], [], 58),
  (58, (.getfield 19 : Instr), [0, 1, 3], [], 61),
  (61, (.iload_n 1 : Instr), [], [], 62),
  (62, (.invokevirtual 210 : Instr), [1, 238, 3, 3], [], 65),
  (65, (.ireturn : Instr), [0], [], 0)]
/-! HandsAndWays.barred(II)I -/
def zc_13 : List (Nat × zE) := [(0, (.aload_n 0 : Instr), [], [], 1),
  (1, (.iload_n 1 : Instr), [], [], 2),
  (2, (.invokevirtual 170 : Instr), [1, 42, 2, 0], [], 5),
  (5, (.ifCond .eq (10) : Instr), [15], [], 8),
  (8, (.iload_n 2 : Instr), [], [], 9),
  (9, (.invokestatic 90 : Instr), [0, 149, 1, 0], [], 12),
  (12, (.ifCond .ne (6) : Instr), [18], [], 15),
  (15, (.bipush (-5) : Instr), [], [(-5, 0)], 17),
  (17, (.ireturn : Instr), [0], [], 18),
  (18, (.aload_n 0 : Instr), [], [], 19),
  (19, (.getfield 38 : Instr), [0, 5, 3], [], 22),
  (22, (.aload_n 0 : Instr), [], [], 23),
  (23, (.getfield 19 : Instr), [0, 1, 3], [], 26),
  (26, (.iload_n 1 : Instr), [], [], 27),
  (27, (.iconst (0) : Instr), [], [(0, 0)], 28),
  (28, (.invokevirtual 190 : Instr), [1, 233, 4, 3], [], 31),
  (31, (.aload_n 0 : Instr), [], [], 32),
  (32, (.getfield 38 : Instr), [0, 5, 3], [], 35),
  (35, (.iload_n 2 : Instr), [], [], 36),
  (36, (.invokevirtual 194 : Instr), [1, 235, 2, 3], [], 39),
  (39, (.ifCond .lt (5) : Instr), [44], [], 42),
  (42, (.iconst (0) : Instr), [], [(0, 0)], 43),
  (43, (.ireturn : Instr), [0], [], 44),
  (44, (.iconst (0) : Instr), [], [(0, 0)], 45),
  (45, (.istore_n 3 : Instr), [], [], 46),
  (46, (.iconst (0) : Instr), [], [(0, 0)], 47),
  (47, (.istore 4 : Instr), [], [], 49),
  (49, (.iload 4 : Instr), [], [], 51),
  (51, (.aload_n 0 : Instr), [], [], 52),
  (52, (.getfield 10 : Instr), [0, 0, 3], [], 55),
  (55, (.getfield 145 : Instr), [1, 2, 0], [], 58),
  (58, (.if_icmp .ge (58) : Instr), [116], [], 61),
  (61, (.aload_n 0 : Instr), [], [], 62),
  (62, (.getfield 19 : Instr), [0, 1, 3], [], 65),
  (65, (.iload 4 : Instr), [], [], 67),
  (67, (.invokevirtual 214 : Instr), [1, 200, 2, 2], [], 70),
  (70, (.ifCond .ne (6) : Instr), [76], [], 73),
  (73, (.goto (37) : Instr), [110], [], 76),
  (76, (.aload_n 0 : Instr), [], [], 77),
  (77, (.getfield 38 : Instr), [0, 5, 3], [], 80),
  (80, (.aload_n 0 : Instr), [], [], 81),
  (81, (.getfield 19 : Instr), [0, 1, 3], [], 84),
  (84, (.iload_n 1 : Instr), [], [], 85),
  (85, (.iconst (1) : Instr), [], [(1, 0)], 86),
  (86, (.iload 4 : Instr), [], [], 88),
  (88, (.ishl : Instr), [], [], 89),
  (89, (.invokevirtual 190 : Instr), [1, 233, 4, 3], [], 92),
  (92, (.aload_n 0 : Instr), [], [], 93),
  (93, (.getfield 38 : Instr), [0, 5, 3], [], 96),
  (96, (.iload_n 2 : Instr), [], [], 97),
  (97, (.invokevirtual 194 : Instr), [1, 235, 2, 3], [], 100),
  (100, (.ifCond .lt (10) : Instr), [110], [], 103),
  (103, (.iload_n 3 : Instr), [], [], 104),
  (104, (.iconst (1) : Instr), [], [(1, 0)], 105),
  (105, (.iload 4 : Instr), [], [], 107),
  (107, (.ishl : Instr), [], [], 108),
  (108, (.ior : Instr), [], [], 109),
  (109, (.istore_n 3 : Instr), [], [], 110),
  (110, (.iinc 4 (1) : Instr), [], [], 113),
  (113, (.goto (-64) : Instr), [49], [], 116),
  (116, (.iload_n 3 : Instr), [], [], 117),
  (117, (.ireturn : Instr), [0], [], 0)]
/-! HandsAndWays.thingTold(II)I -/
def zc_14 : List (Nat × zE) := [(0, (.aload_n 0 : Instr), [], [], 1),
  (1, (.iload_n 1 : Instr), [], [], 2),
  (2, (.invokevirtual 113 : Instr), [1, 43, 2, 0], [], 5),
  (5, (.ifCond .ne (6) : Instr), [11], [], 8),
  (8, (.bipush (-5) : Instr), [], [(-5, 0)], 10),
  (10, (.ireturn : Instr), [0], [], 11),
  (11, (.iload_n 2 : Instr), [], [], 12),
  (12, (.tableswitch (116) (0) (6) #[(44), (54), (64), (74), (84), (97), (106)] : Instr), [44, 128], [(0, 56), (1, 66), (2, 76), (3, 86), (4, 96), (5, 109), (6, 118)], 56),
  (56, (.aload_n 0 : Instr), [], [], 57),
  (57, (.getfield 10 : Instr), [0, 0, 3], [], 60),
  (60, (.getfield 116 : Instr), [1, 3, 3], [], 63),
  (63, (.iload_n 1 : Instr), [], [], 64),
  (64, (.iaload : Instr), [], [], 65),
  (65, (.ireturn : Instr), [0], [], 66),
  (66, (.aload_n 0 : Instr), [], [], 67),
  (67, (.getfield 19 : Instr), [0, 1, 3], [], 70),
  (70, (.getfield 151 : Instr), [2, 2, 3], [], 73),
  (73, (.iload_n 1 : Instr), [], [], 74),
  (74, (.iaload : Instr), [], [], 75),
  (75, (.ireturn : Instr), [0], [], 76),
  (76, (.aload_n 0 : Instr), [], [], 77),
  (77, (.getfield 19 : Instr), [0, 1, 3], [], 80),
  (80, (.getfield 217 : Instr), [2, 3, 3], [], 83),
  (83, (.iload_n 1 : Instr), [], [], 84),
  (84, (.iaload : Instr), [], [], 85),
  (85, (.ireturn : Instr), [0], [], 86),
  (86, (.aload_n 0 : Instr), [], [], 87),
  (87, (.getfield 19 : Instr), [0, 1, 3], [], 90),
  (90, (.getfield 220 : Instr), [2, 4, 3], [], 93),
  (93, (.iload_n 1 : Instr), [], [], 94),
  (94, (.iaload : Instr), [], [], 95),
  (95, (.ireturn : Instr), [0], [], 96),
  (96, (.aload_n 0 : Instr), [], [], 97),
  (97, (.getfield 10 : Instr), [0, 0, 3], [], 100),
  (100, (.getfield 116 : Instr), [1, 3, 3], [], 103),
  (103, (.iload_n 1 : Instr), [], [], 104),
  (104, (.iaload : Instr), [], [], 105),
  (105, (.invokestatic 223 : Instr), [0, 172, 1, 0], [], 108),
  (108, (.ireturn : Instr), [0], [], 109),
  (109, (.aload_n 0 : Instr), [], [], 110),
  (110, (.getfield 10 : Instr), [0, 0, 3], [], 113),
  (113, (.iload_n 1 : Instr), [], [], 114),
  (114, (.invokevirtual 226 : Instr), [1, 192, 2, 1], [], 117),
  (117, (.ireturn : Instr), [0], [], 118),
  (118, (.aload_n 0 : Instr), [], [], 119),
  (119, (.getfield 10 : Instr), [0, 0, 3], [], 122),
  (122, (.getfield 148 : Instr), [1, 4, 3], [], 125),
  (125, (.iload_n 1 : Instr), [], [], 126),
  (126, (.iaload : Instr), [], [], 127),
  (127, (.ireturn : Instr), [0], [], 128),
  (128, (.bipush (-7) : Instr), [], [(-7, 0)], 130),
  (130, (.ireturn : Instr), [0], [], 0)]
/-! HandsAndWays.handTold(II)I -/
def zc_15 : List (Nat × zE) := [(0, (.iload_n 1 : Instr), [], [], 1),
  (1, (.invokestatic 154 : Instr), [0, 41, 1, 0], [], 4),
  (4, (.ifCond .ne (6) : Instr), [10], [], 7),
  (7, (.bipush (-5) : Instr), [], [(-5, 0)], 9),
  (9, (.ireturn : Instr), [0], [], 10),
  (10, (.iload_n 2 : Instr), [], [], 11),
  (11, (.tableswitch (97) (0) (5) #[(37), (47), (57), (67), (77), (87)] : Instr), [37, 108], [(0, 48), (1, 58), (2, 68), (3, 78), (4, 88), (5, 98)], 48),
  (48, (.aload_n 0 : Instr), [], [], 49),
  (49, (.getfield 19 : Instr), [0, 1, 3], [], 52),
  (52, (.getfield 164 : Instr), [2, 5, 3], [], 55),
  (55, (.iload_n 1 : Instr), [], [], 56),
  (56, (.iaload : Instr), [], [], 57),
  (57, (.ireturn : Instr), [0], [], 58),
  (58, (.aload_n 0 : Instr), [], [], 59),
  (59, (.getfield 19 : Instr), [0, 1, 3], [], 62),
  (62, (.getfield 157 : Instr), [2, 6, 3], [], 65),
  (65, (.iload_n 1 : Instr), [], [], 66),
  (66, (.iaload : Instr), [], [], 67),
  (67, (.ireturn : Instr), [0], [], 68),
  (68, (.aload_n 0 : Instr), [], [], 69),
  (69, (.getfield 19 : Instr), [0, 1, 3], [], 72),
  (72, (.getfield 173 : Instr), [2, 7, 3], [], 75),
  (75, (.iload_n 1 : Instr), [], [], 76),
  (76, (.iaload : Instr), [], [], 77),
  (77, (.ireturn : Instr), [0], [], 78),
  (78, (.aload_n 0 : Instr), [], [], 79),
  (79, (.getfield 19 : Instr), [0, 1, 3], [], 82),
  (82, (.getfield 229 : Instr), [2, 8, 3], [], 85),
  (85, (.iload_n 1 : Instr), [], [], 86),
  (86, (.iaload : Instr), [], [], 87),
  (87, (.ireturn : Instr), [0], [], 88),
  (88, (.aload_n 0 : Instr), [], [], 89),
  (89, (.getfield 19 : Instr), [0, 1, 3], [], 92),
  (92, (.getfield 232 : Instr), [2, 9, 3], [], 95),
  (95, (.iload_n 1 : Instr), [], [], 96),
  (96, (.iaload : Instr), [], [], 97),
  (97, (.ireturn : Instr), [0], [], 98),
  (98, (.aload_n 0 : Instr), [], [], 99),
  (99, (.getfield 19 : Instr), [0, 1, 3], [], 102),
  (102, (.getfield 235 : Instr), [2, 11, 3], [], 105),
  (105, (.iload_n 1 : Instr), [], [], 106),
  (106, (.iaload : Instr), [], [], 107),
  (107, (.ireturn : Instr), [0], [], 108),
  (108, (.bipush (-7) : Instr), [], [(-7, 0)], 110),
  (110, (.ireturn : Instr), [0], [], 0)]
/-! HandsAndWays.kindTold(III)I -/
def zc_16 : List (Nat × zE) := [(0, (.iload_n 1 : Instr), [], [], 1),
  (1, (.invokestatic 135 : Instr), [0, 170, 1, 0], [], 4),
  (4, (.ifCond .eq (10) : Instr), [14], [], 7),
  (7, (.iload_n 2 : Instr), [], [], 8),
  (8, (.invokestatic 138 : Instr), [0, 171, 1, 0], [], 11),
  (11, (.ifCond .ne (6) : Instr), [17], [], 14),
  (14, (.bipush (-2) : Instr), [], [(-2, 0)], 16),
  (16, (.ireturn : Instr), [0], [], 17),
  (17, (.iload_n 3 : Instr), [], [], 18),
  (18, (.tableswitch (67) (0) (3) #[(30), (35), (41), (54)] : Instr), [30, 85], [(0, 48), (1, 53), (2, 59), (3, 72)], 48),
  (48, (.iload_n 1 : Instr), [], [], 49),
  (49, (.invokestatic 223 : Instr), [0, 172, 1, 0], [], 52),
  (52, (.ireturn : Instr), [0], [], 53),
  (53, (.iload_n 1 : Instr), [], [], 54),
  (54, (.iload_n 2 : Instr), [], [], 55),
  (55, (.invokestatic 238 : Instr), [0, 174, 2, 0], [], 58),
  (58, (.ireturn : Instr), [0], [], 59),
  (59, (.iload_n 1 : Instr), [], [], 60),
  (60, (.invokestatic 120 : Instr), [0, 175, 1, 0], [], 63),
  (63, (.ifCond .eq (7) : Instr), [70], [], 66),
  (66, (.iconst (1) : Instr), [], [(1, 0)], 67),
  (67, (.goto (4) : Instr), [71], [], 70),
  (70, (.iconst (0) : Instr), [], [(0, 0)], 71),
  (71, (.ireturn : Instr), [0], [], 72),
  (72, (.iload_n 1 : Instr), [], [], 73),
  (73, (.invokestatic 240 : Instr), [0, 176, 1, 0], [], 76),
  (76, (.ifCond .eq (7) : Instr), [83], [], 79),
  (79, (.iconst (1) : Instr), [], [(1, 0)], 80),
  (80, (.goto (4) : Instr), [84], [], 83),
  (83, (.iconst (0) : Instr), [], [(0, 0)], 84),
  (84, (.ireturn : Instr), [0], [], 85),
  (85, (.bipush (-2) : Instr), [], [(-2, 0)], 87),
  (87, (.ireturn : Instr), [0], [], 0)]
/-! HandsAndWays.cellTold(I)I -/
def zc_17 : List (Nat × zE) := [(0, (.iload_n 1 : Instr), [], [], 1),
  (1, (.invokestatic 90 : Instr), [0, 149, 1, 0], [], 4),
  (4, (.ifCond .ne (6) : Instr), [10], [], 7),
  (7, (.bipush (-5) : Instr), [], [(-5, 0)], 9),
  (9, (.ireturn : Instr), [0], [], 10),
  (10, (.aload_n 0 : Instr), [], [], 11),
  (11, (.getfield 10 : Instr), [0, 0, 3], [], 14),
  (14, (.getfield 99 : Instr), [1, 0, 2], [], 17),
  (17, (.iload_n 1 : Instr), [], [], 18),
  (18, (.invokestatic 103 : Instr), [0, 152, 2, 0], [], 21),
  (21, (.ifCond .eq (6) : Instr), [27], [], 24),
  (24, (.bipush (-10) : Instr), [], [(-10, 0)], 26),
  (26, (.ireturn : Instr), [0], [], 27),
  (27, (.aload_n 0 : Instr), [], [], 28),
  (28, (.getfield 38 : Instr), [0, 5, 3], [], 31),
  (31, (.aload_n 0 : Instr), [], [], 32),
  (32, (.getfield 19 : Instr), [0, 1, 3], [], 35),
  (35, (.invokevirtual 243 : Instr), [1, 228, 2, 3], [], 38),
  (38, (.iload_n 1 : Instr), [], [], 39),
  (39, (.invokestatic 103 : Instr), [0, 152, 2, 0], [], 42),
  (42, (.ifCond .eq (6) : Instr), [48], [], 45),
  (45, (.bipush (-11) : Instr), [], [(-11, 0)], 47),
  (47, (.ireturn : Instr), [0], [], 48),
  (48, (.aload_n 0 : Instr), [], [], 49),
  (49, (.getfield 19 : Instr), [0, 1, 3], [], 52),
  (52, (.getfield 164 : Instr), [2, 5, 3], [], 55),
  (55, (.iconst (0) : Instr), [], [(0, 0)], 56),
  (56, (.iaload : Instr), [], [], 57),
  (57, (.iload_n 1 : Instr), [], [], 58),
  (58, (.if_icmp .ne (6) : Instr), [64], [], 61),
  (61, (.bipush (100) : Instr), [], [(100, 0)], 63),
  (63, (.ireturn : Instr), [0], [], 64),
  (64, (.aload_n 0 : Instr), [], [], 65),
  (65, (.getfield 19 : Instr), [0, 1, 3], [], 68),
  (68, (.getfield 164 : Instr), [2, 5, 3], [], 71),
  (71, (.iconst (1) : Instr), [], [(1, 0)], 72),
  (72, (.iaload : Instr), [], [], 73),
  (73, (.iload_n 1 : Instr), [], [], 74),
  (74, (.if_icmp .ne (6) : Instr), [80], [], 77),
  (77, (.bipush (101) : Instr), [], [(101, 0)], 79),
  (79, (.ireturn : Instr), [0], [], 80),
  (80, (.aload_n 0 : Instr), [], [], 81),
  (81, (.getfield 38 : Instr), [0, 5, 3], [], 84),
  (84, (.aload_n 0 : Instr), [], [], 85),
  (85, (.getfield 19 : Instr), [0, 1, 3], [], 88),
  (88, (.iload_n 1 : Instr), [], [], 89),
  (89, (.invokevirtual 247 : Instr), [1, 229, 3, 3], [], 92),
  (92, (.ireturn : Instr), [0], [], 0)]
/-! HandsAndWays.isOpen(I)I -/
def zc_18 : List (Nat × zE) := [(0, (.aload_n 0 : Instr), [], [], 1),
  (1, (.iload_n 1 : Instr), [], [], 2),
  (2, (.invokevirtual 187 : Instr), [1, 44, 2, 0], [], 5),
  (5, (.ifCond .ne (5) : Instr), [10], [], 8),
  (8, (.iconst (-1) : Instr), [], [(-1, 0)], 9),
  (9, (.ireturn : Instr), [0], [], 10),
  (10, (.aload_n 0 : Instr), [], [], 11),
  (11, (.getfield 19 : Instr), [0, 1, 3], [], 14),
  (14, (.iload_n 1 : Instr), [], [], 15),
  (15, (.invokevirtual 250 : Instr), [1, 199, 2, 2], [], 18),
  (18, (.ifCond .eq (7) : Instr), [25], [], 21),
  (21, (.iconst (1) : Instr), [], [(1, 0)], 22),
  (22, (.goto (4) : Instr), [26], [], 25),
  (25, (.iconst (0) : Instr), [], [(0, 0)], 26),
  (26, (.ireturn : Instr), [0], [], 0)]
/-! HandsAndWays.count(I)I -/
def zc_19 : List (Nat × zE) := [(0, (.iload_n 1 : Instr), [], [], 1),
  (1, (.tableswitch (111) (0) (7) #[(47), (55), (63), (71), (79), (87), (95), (103)] : Instr), [47, 112], [(0, 48), (1, 56), (2, 64), (3, 72), (4, 80), (5, 88), (6, 96), (7, 104)], 48),
  (48, (.aload_n 0 : Instr), [], [], 49),
  (49, (.getfield 19 : Instr), [0, 1, 3], [], 52),
  (52, (.getfield 253 : Instr), [2, 0, 0], [], 55),
  (55, (.ireturn : Instr), [0], [], 56),
  (56, (.aload_n 0 : Instr), [], [], 57),
  (57, (.getfield 10 : Instr), [0, 0, 3], [], 60),
  (60, (.getfield 145 : Instr), [1, 2, 0], [], 63),
  (63, (.ireturn : Instr), [0], [], 64),
  (64, (.aload_n 0 : Instr), [], [], 65),
  (65, (.getfield 10 : Instr), [0, 0, 3], [], 68),
  (68, (.getfield 125 : Instr), [1, 5, 0], [], 71),
  (71, (.ireturn : Instr), [0], [], 72),
  (72, (.aload_n 0 : Instr), [], [], 73),
  (73, (.getfield 45 : Instr), [0, 6, 3], [], 76),
  (76, (.getfield 256 : Instr), [4, 2, 0], [], 79),
  (79, (.ireturn : Instr), [0], [], 80),
  (80, (.aload_n 0 : Instr), [], [], 81),
  (81, (.getfield 45 : Instr), [0, 6, 3], [], 84),
  (84, (.getfield 259 : Instr), [4, 1, 0], [], 87),
  (87, (.ireturn : Instr), [0], [], 88),
  (88, (.aload_n 0 : Instr), [], [], 89),
  (89, (.getfield 10 : Instr), [0, 0, 3], [], 92),
  (92, (.getfield 167 : Instr), [1, 1, 0], [], 95),
  (95, (.ireturn : Instr), [0], [], 96),
  (96, (.aload_n 0 : Instr), [], [], 97),
  (97, (.getfield 79 : Instr), [0, 10, 3], [], 100),
  (100, (.getfield 262 : Instr), [8, 4, 0], [], 103),
  (103, (.ireturn : Instr), [0], [], 104),
  (104, (.aload_n 0 : Instr), [], [], 105),
  (105, (.getfield 61 : Instr), [0, 8, 3], [], 108),
  (108, (.getfield 265 : Instr), [6, 0, 0], [], 111),
  (111, (.ireturn : Instr), [0], [], 112),
  (112, (.bipush (-2) : Instr), [], [(-2, 0)], 114),
  (114, (.ireturn : Instr), [0], [], 0)]
/-! HandsAndWays.feed(JI)I -/
def zc_20 : List (Nat × zE) := [(0, (.iload_n 3 : Instr), [], [], 1),
  (1, (.iconst (1) : Instr), [], [(1, 0)], 2),
  (2, (.if_icmp .lt (9) : Instr), [11], [], 5),
  (5, (.iload_n 3 : Instr), [], [], 6),
  (6, (.bipush (8) : Instr), [], [(8, 0)], 8),
  (8, (.if_icmp .le (6) : Instr), [14], [], 11),
  (11, (.bipush (-2) : Instr), [], [(-2, 0)], 13),
  (13, (.ireturn : Instr), [0], [], 14),
  (14, (.aload_n 0 : Instr), [], [], 15),
  (15, (.getfield 45 : Instr), [0, 6, 3], [], 18),
  (18, (.getfield 259 : Instr), [4, 1, 0], [], 21),
  (21, (.iload_n 3 : Instr), [], [], 22),
  (22, (.iadd : Instr), [], [], 23),
  (23, (.bipush (120) : Instr), [], [(120, 0)], 25),
  (25, (.if_icmp .le (6) : Instr), [31], [], 28),
  (28, (.bipush (-4) : Instr), [], [(-4, 0)], 30),
  (30, (.ireturn : Instr), [0], [], 31),
  (31, (.aload_n 0 : Instr), [], [], 32),
  (32, (.getfield 45 : Instr), [0, 6, 3], [], 35),
  (35, (.lload_n 1 : Instr), [], [], 36),
  (36, (.iload_n 3 : Instr), [], [], 37),
  (37, (.invokevirtual 266 : Instr), [1, 217, 3, 4], [], 40),
  (40, (.aload_n 0 : Instr), [], [], 41),
  (41, (.getfield 45 : Instr), [0, 6, 3], [], 44),
  (44, (.getfield 259 : Instr), [4, 1, 0], [], 47),
  (47, (.ireturn : Instr), [0], [], 0)]
/-! HandsAndWays.program()I -/
def zc_21 : List (Nat × zE) := [(0, (.aload_n 0 : Instr), [], [], 1),
  (1, (.getfield 45 : Instr), [0, 6, 3], [], 4),
  (4, (.getfield 256 : Instr), [4, 2, 0], [], 7),
  (7, (.bipush (6) : Instr), [], [(6, 0)], 9),
  (9, (.if_icmp .lt (6) : Instr), [15], [], 12),
  (12, (.bipush (-4) : Instr), [], [(-4, 0)], 14),
  (14, (.ireturn : Instr), [0], [], 15),
  (15, (.aload_n 0 : Instr), [], [], 16),
  (16, (.getfield 45 : Instr), [0, 6, 3], [], 19),
  (19, (.invokevirtual 270 : Instr), [1, 218, 1, 4], [], 22),
  (22, (.istore_n 1 : Instr), [], [], 23),
  (23, (.iload_n 1 : Instr), [], [], 24),
  (24, (.iconst (-1) : Instr), [], [(-1, 0)], 25),
  (25, (.if_icmp .ne (15) : Instr), [40], [], 28),
  (28, (.aload_n 0 : Instr), [], [], 29),
  (29, (.getfield 45 : Instr), [0, 6, 3], [], 32),
  (32, (.getfield 256 : Instr), [4, 2, 0], [], 35),
  (35, (.iconst (1) : Instr), [], [(1, 0)], 36),
  (36, (.isub : Instr), [], [], 37),
  (37, (.goto (7) : Instr), [44], [], 40),
  (40, (.bipush (-100) : Instr), [], [(-100, 0)], 42),
  (42, (.iload_n 1 : Instr), [], [], 43),
  (43, (.isub : Instr), [], [], 44),
  (44, (.ireturn : Instr), [0], [], 0)]
/-! HandsAndWays.actTold(III)I -/
def zc_22 : List (Nat × zE) := [(0, (.aload_n 0 : Instr), [], [], 1),
  (1, (.iload_n 1 : Instr), [], [], 2),
  (2, (.invokevirtual 274 : Instr), [1, 45, 2, 0], [], 5),
  (5, (.ifCond .ne (6) : Instr), [11], [], 8),
  (8, (.bipush (-5) : Instr), [], [(-5, 0)], 10),
  (10, (.ireturn : Instr), [0], [], 11),
  (11, (.iload_n 3 : Instr), [], [], 12),
  (12, (.iconst (3) : Instr), [], [(3, 0)], 13),
  (13, (.if_icmp .ne (13) : Instr), [26], [], 16),
  (16, (.aload_n 0 : Instr), [], [], 17),
  (17, (.getfield 45 : Instr), [0, 6, 3], [], 20),
  (20, (.getfield 277 : Instr), [4, 3, 3], [], 23),
  (23, (.iload_n 1 : Instr), [], [], 24),
  (24, (.iaload : Instr), [], [], 25),
  (25, (.ireturn : Instr), [0], [], 26),
  (26, (.iload_n 2 : Instr), [], [], 27),
  (27, (.ifCond .lt (16) : Instr), [43], [], 30),
  (30, (.iload_n 2 : Instr), [], [], 31),
  (31, (.aload_n 0 : Instr), [], [], 32),
  (32, (.getfield 45 : Instr), [0, 6, 3], [], 35),
  (35, (.getfield 277 : Instr), [4, 3, 3], [], 38),
  (38, (.iload_n 1 : Instr), [], [], 39),
  (39, (.iaload : Instr), [], [], 40),
  (40, (.if_icmp .lt (6) : Instr), [46], [], 43),
  (43, (.bipush (-7) : Instr), [], [(-7, 0)], 45),
  (45, (.ireturn : Instr), [0], [], 46),
  (46, (.iload_n 3 : Instr), [], [], 47),
  (47, (.tableswitch (67) (0) (2) #[(25), (39), (53)] : Instr), [25, 114], [(0, 72), (1, 86), (2, 100)], 72),
  (72, (.aload_n 0 : Instr), [], [], 73),
  (73, (.getfield 45 : Instr), [0, 6, 3], [], 76),
  (76, (.getfield 280 : Instr), [4, 4, 3], [], 79),
  (79, (.iload_n 1 : Instr), [], [], 80),
  (80, (.iload_n 2 : Instr), [], [], 81),
  (81, (.invokestatic 283 : Instr), [0, 216, 2, 0], [], 84),
  (84, (.iaload : Instr), [], [], 85),
  (85, (.ireturn : Instr), [0], [], 86),
  (86, (.aload_n 0 : Instr), [], [], 87),
  (87, (.getfield 45 : Instr), [0, 6, 3], [], 90),
  (90, (.getfield 286 : Instr), [4, 5, 3], [], 93),
  (93, (.iload_n 1 : Instr), [], [], 94),
  (94, (.iload_n 2 : Instr), [], [], 95),
  (95, (.invokestatic 283 : Instr), [0, 216, 2, 0], [], 98),
  (98, (.iaload : Instr), [], [], 99),
  (99, (.ireturn : Instr), [0], [], 100),
  (100, (.aload_n 0 : Instr), [], [], 101),
  (101, (.getfield 45 : Instr), [0, 6, 3], [], 104),
  (104, (.getfield 288 : Instr), [4, 6, 3], [], 107),
  (107, (.iload_n 1 : Instr), [], [], 108),
  (108, (.iload_n 2 : Instr), [], [], 109),
  (109, (.invokestatic 283 : Instr), [0, 216, 2, 0], [], 112),
  (112, (.iaload : Instr), [], [], 113),
  (113, (.ireturn : Instr), [0], [], 114),
  (114, (.bipush (-7) : Instr), [], [(-7, 0)], 116),
  (116, (.ireturn : Instr), [0], [], 0)]
/-! HandsAndWays.judge(III)I -/
def zc_23 : List (Nat × zE) := [(0, (.iload_n 1 : Instr), [], [], 1),
  (1, (.invokestatic 154 : Instr), [0, 41, 1, 0], [], 4),
  (4, (.ifCond .eq (11) : Instr), [15], [], 7),
  (7, (.aload_n 0 : Instr), [], [], 8),
  (8, (.iload_n 2 : Instr), [], [], 9),
  (9, (.invokevirtual 274 : Instr), [1, 45, 2, 0], [], 12),
  (12, (.ifCond .ne (6) : Instr), [18], [], 15),
  (15, (.bipush (-5) : Instr), [], [(-5, 0)], 17),
  (17, (.ireturn : Instr), [0], [], 18),
  (18, (.iload_n 3 : Instr), [], [], 19),
  (19, (.iconst (-1) : Instr), [], [(-1, 0)], 20),
  (20, (.if_icmp .lt (8) : Instr), [28], [], 23),
  (23, (.iload_n 3 : Instr), [], [], 24),
  (24, (.iconst (2) : Instr), [], [(2, 0)], 25),
  (25, (.if_icmp .le (6) : Instr), [31], [], 28),
  (28, (.bipush (-7) : Instr), [], [(-7, 0)], 30),
  (30, (.ireturn : Instr), [0], [], 31),
  (31, (.aload_n 0 : Instr), [], [], 32),
  (32, (.getfield 23 : Instr), [0, 2, 3], [], 35),
  (35, (.aload_n 0 : Instr), [], [], 36),
  (36, (.getfield 19 : Instr), [0, 1, 3], [], 39),
  (39, (.invokevirtual 291 : Instr), [1, 198, 2, 2], [], 42),
  (42, (.aload_n 0 : Instr), [], [], 43),
  (43, (.getfield 54 : Instr), [0, 7, 3], [], 46),
  (46, (.aload_n 0 : Instr), [], [], 47),
  (47, (.getfield 23 : Instr), [0, 2, 3], [], 50),
  (50, (.iload_n 1 : Instr), [], [], 51),
  (51, (.iload_n 2 : Instr), [], [], 52),
  (52, (.invokevirtual 295 : Instr), [1, 143, 4, 5], [], 55),
  (55, (.istore 4 : Instr), [], [], 57),
  (57, (.iload_n 3 : Instr), [], [], 58),
  (58, (.tableswitch (57) (-1) (1) #[(26), (34), (37)] : Instr), [26, 115], [(-1, 84), (0, 92), (1, 95)], 84),
  (84, (.aload_n 0 : Instr), [], [], 85),
  (85, (.getfield 54 : Instr), [0, 7, 3], [], 88),
  (88, (.getfield 299 : Instr), [5, 3, 0], [], 91),
  (91, (.ireturn : Instr), [0], [], 92),
  (92, (.iload 4 : Instr), [], [], 94),
  (94, (.ireturn : Instr), [0], [], 95),
  (95, (.aload_n 0 : Instr), [], [], 96),
  (96, (.getfield 23 : Instr), [0, 2, 3], [], 99),
  (99, (.getfield 173 : Instr), [2, 7, 3], [], 102),
  (102, (.iload_n 1 : Instr), [], [], 103),
  (103, (.iaload : Instr), [], [], 104),
  (104, (.aload_n 0 : Instr), [], [], 105),
  (105, (.getfield 19 : Instr), [0, 1, 3], [], 108),
  (108, (.getfield 173 : Instr), [2, 7, 3], [], 111),
  (111, (.iload_n 1 : Instr), [], [], 112),
  (112, (.iaload : Instr), [], [], 113),
  (113, (.isub : Instr), [], [], 114),
  (114, (.ireturn : Instr), [0], [], 115),
  (115, (.aload_n 0 : Instr), [], [], 116),
  (116, (.getfield 23 : Instr), [0, 2, 3], [], 119),
  (119, (.getfield 164 : Instr), [2, 5, 3], [], 122),
  (122, (.iload_n 1 : Instr), [], [], 123),
  (123, (.iaload : Instr), [], [], 124),
  (124, (.ireturn : Instr), [0], [], 0)]
/-! HandsAndWays.play(II)I -/
def zc_24 : List (Nat × zE) := [(0, (.iload_n 1 : Instr), [], [], 1),
  (1, (.invokestatic 154 : Instr), [0, 41, 1, 0], [], 4),
  (4, (.ifCond .eq (11) : Instr), [15], [], 7),
  (7, (.aload_n 0 : Instr), [], [], 8),
  (8, (.iload_n 2 : Instr), [], [], 9),
  (9, (.invokevirtual 274 : Instr), [1, 45, 2, 0], [], 12),
  (12, (.ifCond .ne (6) : Instr), [18], [], 15),
  (15, (.bipush (-5) : Instr), [], [(-5, 0)], 17),
  (17, (.ireturn : Instr), [0], [], 18),
  (18, (.aload_n 0 : Instr), [], [], 19),
  (19, (.getfield 23 : Instr), [0, 2, 3], [], 22),
  (22, (.aload_n 0 : Instr), [], [], 23),
  (23, (.getfield 19 : Instr), [0, 1, 3], [], 26),
  (26, (.invokevirtual 291 : Instr), [1, 198, 2, 2], [], 29),
  (29, (.aload_n 0 : Instr), [], [], 30),
  (30, (.getfield 54 : Instr), [0, 7, 3], [], 33),
  (33, (.aload_n 0 : Instr), [], [], 34),
  (34, (.getfield 23 : Instr), [0, 2, 3], [], 37),
  (37, (.iload_n 1 : Instr), [], [], 38),
  (38, (.iload_n 2 : Instr), [], [], 39),
  (39, (.invokevirtual 295 : Instr), [1, 143, 4, 5], [], 42),
  (42, (.istore_n 3 : Instr), [], [], 43),
  (43, (.iload_n 3 : Instr), [], [], 44),
  (44, (.ifCond .eq (8) : Instr), [52], [], 47),
  (47, (.bipush (-10) : Instr), [], [(-10, 0)], 49),
  (49, (.iload_n 3 : Instr), [], [], 50),
  (50, (.isub : Instr), [], [], 51),
  (51, (.ireturn : Instr), [0], [], 52),
  (52, (.aload_n 0 : Instr), [], [], 53),
  (53, (.getfield 19 : Instr), [0, 1, 3], [], 56),
  (56, (.aload_n 0 : Instr), [], [], 57),
  (57, (.getfield 23 : Instr), [0, 2, 3], [], 60),
  (60, (.invokevirtual 291 : Instr), [1, 198, 2, 2], [], 63),
  (63, (.aload_n 0 : Instr), [], [], 64),
  (64, (.getfield 19 : Instr), [0, 1, 3], [], 67),
  (67, (.getfield 173 : Instr), [2, 7, 3], [], 70),
  (70, (.iload_n 1 : Instr), [], [], 71),
  (71, (.iaload : Instr), [], [], 72),
  (72, (.ireturn : Instr), [0], [], 0)]
/-! HandsAndWays.start(II)I -/
def zc_25 : List (Nat × zE) := [(0, (.iload_n 1 : Instr), [], [], 1),
  (1, (.invokestatic 154 : Instr), [0, 41, 1, 0], [], 4),
  (4, (.ifCond .eq (11) : Instr), [15], [], 7),
  (7, (.aload_n 0 : Instr), [], [], 8),
  (8, (.iload_n 2 : Instr), [], [], 9),
  (9, (.invokevirtual 274 : Instr), [1, 45, 2, 0], [], 12),
  (12, (.ifCond .ne (6) : Instr), [18], [], 15),
  (15, (.bipush (-5) : Instr), [], [(-5, 0)], 17),
  (17, (.ireturn : Instr), [0], [], 18),
  (18, (.aload_n 0 : Instr), [], [], 19),
  (19, (.getfield 19 : Instr), [0, 1, 3], [], 22),
  (22, (.getfield 229 : Instr), [2, 8, 3], [], 25),
  (25, (.iload_n 1 : Instr), [], [], 26),
  (26, (.iaload : Instr), [], [], 27),
  (27, (.ifCond .lt (6) : Instr), [33], [], 30),
  (30, (.bipush (-3) : Instr), [], [(-3, 0)], 32),
  (32, (.ireturn : Instr), [0], [], 33),
  (33, (.aload_n 0 : Instr), [], [], 34),
  (34, (.getfield 19 : Instr), [0, 1, 3], [], 37),
  (37, (.iload_n 1 : Instr), [], [], 38),
  (38, (.iload_n 2 : Instr), [], [], 39),
  (39, (.invokevirtual 302 : Instr), [1, 205, 3, 2], [], 42),
  (42, (.iload_n 2 : Instr), [], [], 43),
  (43, (.ireturn : Instr), [0], [], 0)]
/-! HandsAndWays.run(I)I -/
def zc_26 : List (Nat × zE) := [(0, (.iload_n 1 : Instr), [], [], 1),
  (1, (.iconst (1) : Instr), [], [(1, 0)], 2),
  (2, (.if_icmp .lt (9) : Instr), [11], [], 5),
  (5, (.iload_n 1 : Instr), [], [], 6),
  (6, (.bipush (100) : Instr), [], [(100, 0)], 8),
  (8, (.if_icmp .le (6) : Instr), [14], [], 11),
  (11, (.bipush (-2) : Instr), [], [(-2, 0)], 13),
  (13, (.ireturn : Instr), [0], [], 14),
  (14, (.aload_n 0 : Instr), [], [], 15),
  (15, (.getfield 19 : Instr), [0, 1, 3], [], 18),
  (18, (.getfield 253 : Instr), [2, 0, 0], [], 21),
  (21, (.iload_n 1 : Instr), [], [], 22),
  (22, (.iadd : Instr), [], [], 23),
  (23, (.sipush (5000) : Instr), [], [(5000, 0)], 26),
  (26, (.if_icmp .le (6) : Instr), [32], [], 29),
  (29, (.bipush (-4) : Instr), [], [(-4, 0)], 31),
  (31, (.ireturn : Instr), [0], [], 32),
  (32, (.iconst (0) : Instr), [], [(0, 0)], 33),
  (33, (.istore_n 2 : Instr), [], [], 34),
  (34, (.iload_n 2 : Instr), [], [], 35),
  (35, (.iload_n 1 : Instr), [], [], 36),
  (36, (.if_icmp .ge (46) : Instr), [82], [], 39),
  (39, (.aload_n 0 : Instr), [], [], 40),
  (40, (.getfield 54 : Instr), [0, 7, 3], [], 43),
  (43, (.aload_n 0 : Instr), [], [], 44),
  (44, (.getfield 19 : Instr), [0, 1, 3], [], 47),
  (47, (.iconst (0) : Instr), [], [(0, 0)], 48),
  (48, (.invokevirtual 306 : Instr), [1, 144, 3, 5], [], 51),
  (51, (.aload_n 0 : Instr), [], [], 52),
  (52, (.getfield 54 : Instr), [0, 7, 3], [], 55),
  (55, (.aload_n 0 : Instr), [], [], 56),
  (56, (.getfield 19 : Instr), [0, 1, 3], [], 59),
  (59, (.iconst (1) : Instr), [], [(1, 0)], 60),
  (60, (.invokevirtual 306 : Instr), [1, 144, 3, 5], [], 63),
  (63, (.aload_n 0 : Instr), [], [], 64),
  (64, (.getfield 19 : Instr), [0, 1, 3], [], 67),
  (67, (.dup : Instr), [], [], 68),
  (68, (.getfield 253 : Instr), [2, 0, 0], [], 71),
  (71, (.iconst (1) : Instr), [], [(1, 0)], 72),
  (72, (.iadd : Instr), [], [], 73),
  (73, (.putfield 253 : Instr), [2, 0, 0], [], 76),
  (76, (.iinc 2 (1) : Instr), [], [], 79),
  (79, (.goto (-45) : Instr), [34], [], 82),
  (82, (.aload_n 0 : Instr), [], [], 83),
  (83, (.getfield 19 : Instr), [0, 1, 3], [], 86),
  (86, (.getfield 253 : Instr), [2, 0, 0], [], 89),
  (89, (.ireturn : Instr), [0], [], 0)]
/-! HandsAndWays.hangs(I)I -/
def zc_27 : List (Nat × zE) := [(0, (.iload_n 1 : Instr), [], [], 1),
  (1, (.iconst (1) : Instr), [], [(1, 0)], 2),
  (2, (.if_icmp .lt (9) : Instr), [11], [], 5),
  (5, (.iload_n 1 : Instr), [], [], 6),
  (6, (.bipush (99) : Instr), [], [(99, 0)], 8),
  (8, (.if_icmp .le (6) : Instr), [14], [], 11),
  (11, (.bipush (-2) : Instr), [], [(-2, 0)], 13),
  (13, (.ireturn : Instr), [0], [], 14),
  (14, (.aload_n 0 : Instr), [], [], 15),
  (15, (.getfield 19 : Instr), [0, 1, 3], [], 18),
  (18, (.iconst (0) : Instr), [], [(0, 0)], 19),
  (19, (.iload_n 1 : Instr), [], [], 20),
  (20, (.invokevirtual 310 : Instr), [1, 201, 3, 2], [], 23),
  (23, (.ifCond .eq (19) : Instr), [42], [], 26),
  (26, (.aload_n 0 : Instr), [], [], 27),
  (27, (.getfield 19 : Instr), [0, 1, 3], [], 30),
  (30, (.iconst (1) : Instr), [], [(1, 0)], 31),
  (31, (.iload_n 1 : Instr), [], [], 32),
  (32, (.invokevirtual 310 : Instr), [1, 201, 3, 2], [], 35),
  (35, (.ifCond .eq (7) : Instr), [42], [], 38),
  (38, (.iconst (1) : Instr), [], [(1, 0)], 39),
  (39, (.goto (4) : Instr), [43], [], 42),
  (42, (.iconst (0) : Instr), [], [(0, 0)], 43),
  (43, (.ireturn : Instr), [0], [], 0)]
/-! HandsAndWays.plan(IIIII)I -/
def zc_28 : List (Nat × zE) := [(0, (.aload_n 0 : Instr), [], [], 1),
  (1, (.iload_n 1 : Instr), [], [], 2),
  (2, (.invokevirtual 170 : Instr), [1, 42, 2, 0], [], 5),
  (5, (.ifCond .eq (26) : Instr), [31], [], 8),
  (8, (.aload_n 0 : Instr), [], [], 9),
  (9, (.iload_n 2 : Instr), [], [], 10),
  (10, (.invokevirtual 113 : Instr), [1, 43, 2, 0], [], 13),
  (13, (.ifCond .eq (18) : Instr), [31], [], 16),
  (16, (.iload_n 3 : Instr), [], [], 17),
  (17, (.invokestatic 90 : Instr), [0, 149, 1, 0], [], 20),
  (20, (.ifCond .eq (11) : Instr), [31], [], 23),
  (23, (.iload 5 : Instr), [], [], 25),
  (25, (.invokestatic 314 : Instr), [0, 208, 1, 0], [], 28),
  (28, (.ifCond .ne (6) : Instr), [34], [], 31),
  (31, (.bipush (-5) : Instr), [], [(-5, 0)], 33),
  (33, (.ireturn : Instr), [0], [], 34),
  (34, (.aload_n 0 : Instr), [], [], 35),
  (35, (.getfield 86 : Instr), [0, 11, 3], [], 38),
  (38, (.iload 5 : Instr), [], [], 40),
  (40, (.invokevirtual 317 : Instr), [1, 209, 2, 9], [], 43),
  (43, (.ifCond .ne (6) : Instr), [49], [], 46),
  (46, (.bipush (-11) : Instr), [], [(-11, 0)], 48),
  (48, (.ireturn : Instr), [0], [], 49),
  (49, (.aload_n 0 : Instr), [], [], 50),
  (50, (.getfield 86 : Instr), [0, 11, 3], [], 53),
  (53, (.getfield 320 : Instr), [9, 1, 3], [], 56),
  (56, (.iload 5 : Instr), [], [], 58),
  (58, (.iaload : Instr), [], [], 59),
  (59, (.iconst (5) : Instr), [], [(5, 0)], 60),
  (60, (.if_icmp .gt (16) : Instr), [76], [], 63),
  (63, (.iload 4 : Instr), [], [], 65),
  (65, (.ifCond .lt (11) : Instr), [76], [], 68),
  (68, (.iload 4 : Instr), [], [], 70),
  (70, (.sipush (255) : Instr), [], [(255, 0)], 73),
  (73, (.if_icmp .le (6) : Instr), [79], [], 76),
  (76, (.bipush (-2) : Instr), [], [(-2, 0)], 78),
  (78, (.ireturn : Instr), [0], [], 79),
  (79, (.iconst (0) : Instr), [], [(0, 0)], 80),
  (80, (.istore 6 : Instr), [], [], 82),
  (82, (.iload 6 : Instr), [], [], 84),
  (84, (.aload_n 0 : Instr), [], [], 85),
  (85, (.getfield 86 : Instr), [0, 11, 3], [], 88),
  (88, (.getfield 320 : Instr), [9, 1, 3], [], 91),
  (91, (.iload 5 : Instr), [], [], 93),
  (93, (.iaload : Instr), [], [], 94),
  (94, (.if_icmp .ge (29) : Instr), [123], [], 97),
  (97, (.aload_n 0 : Instr), [], [], 98),
  (98, (.getfield 86 : Instr), [0, 11, 3], [], 101),
  (101, (.iload 5 : Instr), [], [], 103),
  (103, (.iload 6 : Instr), [], [], 105),
  (105, (.invokevirtual 322 : Instr), [1, 211, 3, 9], [], 108),
  (108, (.invokestatic 90 : Instr), [0, 149, 1, 0], [], 111),
  (111, (.ifCond .ne (6) : Instr), [117], [], 114),
  (114, (.bipush (-2) : Instr), [], [(-2, 0)], 116),
  (116, (.ireturn : Instr), [0], [], 117),
  (117, (.iinc 6 (1) : Instr), [], [], 120),
  (120, (.goto (-38) : Instr), [82], [], 123),
  (123, (.aload_n 0 : Instr), [], [], 124),
  (124, (.getfield 70 : Instr), [0, 9, 3], [], 127),
  (127, (.invokevirtual 325 : Instr), [1, 179, 1, 7], [], 130),
  (130, (.aload_n 0 : Instr), [], [], 131),
  (131, (.getfield 19 : Instr), [0, 1, 3], [], 134),
  (134, (.getfield 151 : Instr), [2, 2, 3], [], 137),
  (137, (.iload_n 2 : Instr), [], [], 138),
  (138, (.iaload : Instr), [], [], 139),
  (139, (.iload_n 3 : Instr), [], [], 140),
  (140, (.if_icmp .ne (11) : Instr), [151], [], 143),
  (143, (.aload_n 0 : Instr), [], [], 144),
  (144, (.getfield 70 : Instr), [0, 9, 3], [], 147),
  (147, (.invokevirtual 328 : Instr), [1, 180, 1, 7], [], 150),
  (150, (.ireturn : Instr), [0], [], 151),
  (151, (.aload_n 0 : Instr), [], [], 152),
  (152, (.getfield 19 : Instr), [0, 1, 3], [], 155),
  (155, (.getfield 157 : Instr), [2, 6, 3], [], 158),
  (158, (.iload_n 1 : Instr), [], [], 159),
  (159, (.iaload : Instr), [], [], 160),
  (160, (.ifCond .ge (15) : Instr), [175], [], 163),
  (163, (.aload_n 0 : Instr), [], [], 164),
  (164, (.getfield 19 : Instr), [0, 1, 3], [], 167),
  (167, (.getfield 217 : Instr), [2, 3, 3], [], 170),
  (170, (.iload_n 2 : Instr), [], [], 171),
  (171, (.iaload : Instr), [], [], 172),
  (172, (.ifCond .lt (6) : Instr), [178], [], 175),
  (175, (.bipush (-6) : Instr), [], [(-6, 0)], 177),
  (177, (.ireturn : Instr), [0], [], 178),
  (178, (.aload_n 0 : Instr), [], [], 179),
  (179, (.getfield 70 : Instr), [0, 9, 3], [], 182),
  (182, (.invokevirtual 331 : Instr), [1, 181, 1, 7], [], 185),
  (185, (.iconst (0) : Instr), [], [(0, 0)], 186),
  (186, (.istore 6 : Instr), [], [], 188),
  (188, (.iload 6 : Instr), [], [], 190),
  (190, (.aload_n 0 : Instr), [], [], 191),
  (191, (.getfield 86 : Instr), [0, 11, 3], [], 194),
  (194, (.getfield 320 : Instr), [9, 1, 3], [], 197),
  (197, (.iload 5 : Instr), [], [], 199),
  (199, (.iaload : Instr), [], [], 200),
  (200, (.if_icmp .ge (27) : Instr), [227], [], 203),
  (203, (.aload_n 0 : Instr), [], [], 204),
  (204, (.getfield 70 : Instr), [0, 9, 3], [], 207),
  (207, (.aload_n 0 : Instr), [], [], 208),
  (208, (.getfield 86 : Instr), [0, 11, 3], [], 211),
  (211, (.iload 5 : Instr), [], [], 213),
  (213, (.iload 6 : Instr), [], [], 215),
  (215, (.invokevirtual 322 : Instr), [1, 211, 3, 9], [], 218),
  (218, (.invokevirtual 334 : Instr), [1, 182, 2, 7], [], 221),
  (221, (.iinc 6 (1) : Instr), [], [], 224),
  (224, (.goto (-36) : Instr), [188], [], 227),
  (227, (.aload_n 0 : Instr), [], [], 228),
  (228, (.getfield 23 : Instr), [0, 2, 3], [], 231),
  (231, (.aload_n 0 : Instr), [], [], 232),
  (232, (.getfield 19 : Instr), [0, 1, 3], [], 235),
  (235, (.invokevirtual 291 : Instr), [1, 198, 2, 2], [], 238),
  (238, (.aload_n 0 : Instr), [], [], 239),
  (239, (.getfield 70 : Instr), [0, 9, 3], [], 242),
  (242, (.iload_n 1 : Instr), [], [], 243),
  (243, (.iload_n 2 : Instr), [], [], 244),
  (244, (.iload_n 3 : Instr), [], [], 245),
  (245, (.iload 4 : Instr), [], [], 247),
  (247, (.invokevirtual 338 : Instr), [1, 184, 5, 7], [], 250),
  (250, (.istore 6 : Instr), [], [], 252),
  (252, (.iload 6 : Instr), [], [], 254),
  (254, (.ifCond .ne (8) : Instr), [262], [], 257),
  (257, (.bipush (-3) : Instr), [], [(-3, 0)], 259),
  (259, (.goto (5) : Instr), [264], [], 262),
  (262, (.iload 6 : Instr), [], [], 264),
  (264, (.ireturn : Instr), [0], [], 0)]
/-! HandsAndWays.planned(II)I -/
def zc_29 : List (Nat × zE) := [(0, (.iload_n 2 : Instr), [], [], 1),
  (1, (.iconst (3) : Instr), [], [(3, 0)], 2),
  (2, (.if_icmp .ne (26) : Instr), [28], [], 5),
  (5, (.aload_n 0 : Instr), [], [], 6),
  (6, (.getfield 70 : Instr), [0, 9, 3], [], 9),
  (9, (.getfield 342 : Instr), [7, 11, 0], [], 12),
  (12, (.ifCond .ge (8) : Instr), [20], [], 15),
  (15, (.bipush (-3) : Instr), [], [(-3, 0)], 17),
  (17, (.goto (10) : Instr), [27], [], 20),
  (20, (.aload_n 0 : Instr), [], [], 21),
  (21, (.getfield 70 : Instr), [0, 9, 3], [], 24),
  (24, (.getfield 345 : Instr), [7, 12, 0], [], 27),
  (27, (.ireturn : Instr), [0], [], 28),
  (28, (.iload_n 2 : Instr), [], [], 29),
  (29, (.ifCond .lt (23) : Instr), [52], [], 32),
  (32, (.iload_n 2 : Instr), [], [], 33),
  (33, (.iconst (3) : Instr), [], [(3, 0)], 34),
  (34, (.if_icmp .gt (18) : Instr), [52], [], 37),
  (37, (.iload_n 1 : Instr), [], [], 38),
  (38, (.ifCond .lt (14) : Instr), [52], [], 41),
  (41, (.iload_n 1 : Instr), [], [], 42),
  (42, (.aload_n 0 : Instr), [], [], 43),
  (43, (.getfield 70 : Instr), [0, 9, 3], [], 46),
  (46, (.getfield 342 : Instr), [7, 11, 0], [], 49),
  (49, (.if_icmp .lt (6) : Instr), [55], [], 52),
  (52, (.bipush (-7) : Instr), [], [(-7, 0)], 54),
  (54, (.ireturn : Instr), [0], [], 55),
  (55, (.aload_n 0 : Instr), [], [], 56),
  (56, (.getfield 70 : Instr), [0, 9, 3], [], 59),
  (59, (.iload_n 1 : Instr), [], [], 60),
  (60, (.iload_n 2 : Instr), [], [], 61),
  (61, (.invokevirtual 348 : Instr), [1, 183, 3, 7], [], 64),
  (64, (.ireturn : Instr), [0], [], 0)]
/-! HandsAndWays.learnt(I)I -/
def zc_30 : List (Nat × zE) := [(0, (.iload_n 1 : Instr), [], [], 1),
  (1, (.tableswitch (51) (0) (2) #[(27), (35), (43)] : Instr), [27, 52], [(0, 28), (1, 36), (2, 44)], 28),
  (28, (.aload_n 0 : Instr), [], [], 29),
  (29, (.getfield 61 : Instr), [0, 8, 3], [], 32),
  (32, (.getfield 265 : Instr), [6, 0, 0], [], 35),
  (35, (.ireturn : Instr), [0], [], 36),
  (36, (.aload_n 0 : Instr), [], [], 37),
  (37, (.getfield 61 : Instr), [0, 8, 3], [], 40),
  (40, (.getfield 351 : Instr), [6, 1, 0], [], 43),
  (43, (.ireturn : Instr), [0], [], 44),
  (44, (.aload_n 0 : Instr), [], [], 45),
  (45, (.getfield 70 : Instr), [0, 9, 3], [], 48),
  (48, (.getfield 354 : Instr), [7, 10, 0], [], 51),
  (51, (.ireturn : Instr), [0], [], 52),
  (52, (.bipush (-2) : Instr), [], [(-2, 0)], 54),
  (54, (.ireturn : Instr), [0], [], 0)]
/-! HandsAndWays.maybe(III)I -/
def zc_31 : List (Nat × zE) := [(0, (.aload_n 0 : Instr), [], [], 1),
  (1, (.iload_n 1 : Instr), [], [], 2),
  (2, (.invokevirtual 113 : Instr), [1, 43, 2, 0], [], 5),
  (5, (.ifCond .eq (10) : Instr), [15], [], 8),
  (8, (.iload_n 2 : Instr), [], [], 9),
  (9, (.invokestatic 90 : Instr), [0, 149, 1, 0], [], 12),
  (12, (.ifCond .ne (5) : Instr), [17], [], 15),
  (15, (.iconst (-1) : Instr), [], [(-1, 0)], 16),
  (16, (.ireturn : Instr), [0], [], 17),
  (17, (.iload_n 3 : Instr), [], [], 18),
  (18, (.iconst (1) : Instr), [], [(1, 0)], 19),
  (19, (.if_icmp .lt (9) : Instr), [28], [], 22),
  (22, (.iload_n 3 : Instr), [], [], 23),
  (23, (.bipush (99) : Instr), [], [(99, 0)], 25),
  (25, (.if_icmp .le (6) : Instr), [31], [], 28),
  (28, (.bipush (-2) : Instr), [], [(-2, 0)], 30),
  (30, (.ireturn : Instr), [0], [], 31),
  (31, (.aload_n 0 : Instr), [], [], 32),
  (32, (.getfield 79 : Instr), [0, 10, 3], [], 35),
  (35, (.getfield 262 : Instr), [8, 4, 0], [], 38),
  (38, (.ifCond .le (17) : Instr), [55], [], 41),
  (41, (.aload_n 0 : Instr), [], [], 42),
  (42, (.getfield 79 : Instr), [0, 10, 3], [], 45),
  (45, (.getfield 357 : Instr), [8, 5, 0], [], 48),
  (48, (.iload_n 1 : Instr), [], [], 49),
  (49, (.if_icmp .eq (6) : Instr), [55], [], 52),
  (52, (.bipush (-3) : Instr), [], [(-3, 0)], 54),
  (54, (.ireturn : Instr), [0], [], 55),
  (55, (.aload_n 0 : Instr), [], [], 56),
  (56, (.getfield 79 : Instr), [0, 10, 3], [], 59),
  (59, (.getfield 262 : Instr), [8, 4, 0], [], 62),
  (62, (.bipush (6) : Instr), [], [(6, 0)], 64),
  (64, (.if_icmp .lt (6) : Instr), [70], [], 67),
  (67, (.bipush (-4) : Instr), [], [(-4, 0)], 69),
  (69, (.ireturn : Instr), [0], [], 70),
  (70, (.aload_n 0 : Instr), [], [], 71),
  (71, (.getfield 79 : Instr), [0, 10, 3], [], 74),
  (74, (.iload_n 1 : Instr), [], [], 75),
  (75, (.iload_n 2 : Instr), [], [], 76),
  (76, (.iload_n 3 : Instr), [], [], 77),
  (77, (.invokevirtual 360 : Instr), [1, 164, 4, 8], [], 80),
  (80, (.ireturn : Instr), [0], [], 0)]
/-! HandsAndWays.sure()I -/
def zc_32 : List (Nat × zE) := [(0, (.aload_n 0 : Instr), [], [], 1),
  (1, (.getfield 79 : Instr), [0, 10, 3], [], 4),
  (4, (.getfield 262 : Instr), [8, 4, 0], [], 7),
  (7, (.istore_n 1 : Instr), [], [], 8),
  (8, (.aload_n 0 : Instr), [], [], 9),
  (9, (.getfield 79 : Instr), [0, 10, 3], [], 12),
  (12, (.iconst (0) : Instr), [], [(0, 0)], 13),
  (13, (.putfield 262 : Instr), [8, 4, 0], [], 16),
  (16, (.iload_n 1 : Instr), [], [], 17),
  (17, (.ireturn : Instr), [0], [], 0)]
/-! HandsAndWays.cases(III)I -/
def zc_33 : List (Nat × zE) := [(0, (.iload_n 1 : Instr), [], [], 1),
  (1, (.invokestatic 154 : Instr), [0, 41, 1, 0], [], 4),
  (4, (.ifCond .eq (11) : Instr), [15], [], 7),
  (7, (.aload_n 0 : Instr), [], [], 8),
  (8, (.iload_n 2 : Instr), [], [], 9),
  (9, (.invokevirtual 274 : Instr), [1, 45, 2, 0], [], 12),
  (12, (.ifCond .ne (6) : Instr), [18], [], 15),
  (15, (.bipush (-5) : Instr), [], [(-5, 0)], 17),
  (17, (.ireturn : Instr), [0], [], 18),
  (18, (.iload_n 3 : Instr), [], [], 19),
  (19, (.ifCond .lt (8) : Instr), [27], [], 22),
  (22, (.iload_n 3 : Instr), [], [], 23),
  (23, (.iconst (3) : Instr), [], [(3, 0)], 24),
  (24, (.if_icmp .le (6) : Instr), [30], [], 27),
  (27, (.bipush (-2) : Instr), [], [(-2, 0)], 29),
  (29, (.ireturn : Instr), [0], [], 30),
  (30, (.aload_n 0 : Instr), [], [], 31),
  (31, (.getfield 79 : Instr), [0, 10, 3], [], 34),
  (34, (.aload_n 0 : Instr), [], [], 35),
  (35, (.getfield 19 : Instr), [0, 1, 3], [], 38),
  (38, (.iload_n 1 : Instr), [], [], 39),
  (39, (.iload_n 2 : Instr), [], [], 40),
  (40, (.invokevirtual 364 : Instr), [1, 165, 4, 8], [], 43),
  (43, (.iload_n 3 : Instr), [], [], 44),
  (44, (.tableswitch (52) (0) (2) #[(28), (36), (44)] : Instr), [28, 96], [(0, 72), (1, 80), (2, 88)], 72),
  (72, (.aload_n 0 : Instr), [], [], 73),
  (73, (.getfield 79 : Instr), [0, 10, 3], [], 76),
  (76, (.getfield 367 : Instr), [8, 8, 0], [], 79),
  (79, (.ireturn : Instr), [0], [], 80),
  (80, (.aload_n 0 : Instr), [], [], 81),
  (81, (.getfield 79 : Instr), [0, 10, 3], [], 84),
  (84, (.invokevirtual 370 : Instr), [1, 167, 1, 8], [], 87),
  (87, (.ireturn : Instr), [0], [], 88),
  (88, (.aload_n 0 : Instr), [], [], 89),
  (89, (.getfield 79 : Instr), [0, 10, 3], [], 92),
  (92, (.invokevirtual 373 : Instr), [1, 168, 1, 8], [], 95),
  (95, (.ireturn : Instr), [0], [], 96),
  (96, (.aload_n 0 : Instr), [], [], 97),
  (97, (.getfield 79 : Instr), [0, 10, 3], [], 100),
  (100, (.getfield 376 : Instr), [8, 9, 0], [], 103),
  (103, (.ireturn : Instr), [0], [], 0)]
/-! HandsAndWays.image()I -/
def zc_34 : List (Nat × zE) := [(0, (.aload_n 0 : Instr), [], [], 1),
  (1, (.getfield 26 : Instr), [0, 3, 3], [], 4),
  (4, (.aload_n 0 : Instr), [], [], 5),
  (5, (.getfield 19 : Instr), [0, 1, 3], [], 8),
  (8, (.invokevirtual 291 : Instr), [1, 198, 2, 2], [], 11),
  (11, (.aload_n 0 : Instr), [], [], 12),
  (12, (.iconst (1) : Instr), [], [(1, 0)], 13),
  (13, (.putfield 29 : Instr), [0, 4, 1], [], 16),
  (16, (.aload_n 0 : Instr), [], [], 17),
  (17, (.getfield 19 : Instr), [0, 1, 3], [], 20),
  (20, (.getfield 253 : Instr), [2, 0, 0], [], 23),
  (23, (.ireturn : Instr), [0], [], 0)]
/-! HandsAndWays.back()I -/
def zc_35 : List (Nat × zE) := [(0, (.aload_n 0 : Instr), [], [], 1),
  (1, (.getfield 29 : Instr), [0, 4, 1], [], 4),
  (4, (.ifCond .ne (6) : Instr), [10], [], 7),
  (7, (.bipush (-3) : Instr), [], [(-3, 0)], 9),
  (9, (.ireturn : Instr), [0], [], 10),
  (10, (.aload_n 0 : Instr), [], [], 11),
  (11, (.getfield 19 : Instr), [0, 1, 3], [], 14),
  (14, (.aload_n 0 : Instr), [], [], 15),
  (15, (.getfield 26 : Instr), [0, 3, 3], [], 18),
  (18, (.invokevirtual 291 : Instr), [1, 198, 2, 2], [], 21),
  (21, (.aload_n 0 : Instr), [], [], 22),
  (22, (.getfield 19 : Instr), [0, 1, 3], [], 25),
  (25, (.getfield 253 : Instr), [2, 0, 0], [], 28),
  (28, (.ireturn : Instr), [0], [], 0)]
/-! HandsAndWays.sheet(III)I -/
def zc_36 : List (Nat × zE) := [(0, (.iload_n 1 : Instr), [], [], 1),
  (1, (.invokestatic 314 : Instr), [0, 208, 1, 0], [], 4),
  (4, (.ifCond .eq (13) : Instr), [17], [], 7),
  (7, (.iload_n 2 : Instr), [], [], 8),
  (8, (.iconst (-1) : Instr), [], [(-1, 0)], 9),
  (9, (.if_icmp .lt (8) : Instr), [17], [], 12),
  (12, (.iload_n 2 : Instr), [], [], 13),
  (13, (.iconst (2) : Instr), [], [(2, 0)], 14),
  (14, (.if_icmp .le (6) : Instr), [20], [], 17),
  (17, (.bipush (-2) : Instr), [], [(-2, 0)], 19),
  (19, (.ireturn : Instr), [0], [], 20),
  (20, (.iload_n 2 : Instr), [], [], 21),
  (21, (.iconst (-1) : Instr), [], [(-1, 0)], 22),
  (22, (.if_icmp .ne (14) : Instr), [36], [], 25),
  (25, (.aload_n 0 : Instr), [], [], 26),
  (26, (.getfield 86 : Instr), [0, 11, 3], [], 29),
  (29, (.iload_n 1 : Instr), [], [], 30),
  (30, (.iconst (-1) : Instr), [], [(-1, 0)], 31),
  (31, (.iconst (0) : Instr), [], [(0, 0)], 32),
  (32, (.invokevirtual 379 : Instr), [1, 210, 4, 9], [], 35),
  (35, (.ireturn : Instr), [0], [], 36),
  (36, (.iload_n 3 : Instr), [], [], 37),
  (37, (.bipush (40) : Instr), [], [(40, 0)], 39),
  (39, (.if_icmp .le (6) : Instr), [45], [], 42),
  (42, (.bipush (-2) : Instr), [], [(-2, 0)], 44),
  (44, (.ireturn : Instr), [0], [], 45),
  (45, (.iload_n 3 : Instr), [], [], 46),
  (46, (.ifCond .ge (6) : Instr), [52], [], 49),
  (49, (.bipush (-14) : Instr), [], [(-14, 0)], 51),
  (51, (.ireturn : Instr), [0], [], 52),
  (52, (.aload_n 0 : Instr), [], [], 53),
  (53, (.getfield 86 : Instr), [0, 11, 3], [], 56),
  (56, (.iload_n 1 : Instr), [], [], 57),
  (57, (.iload_n 2 : Instr), [], [], 58),
  (58, (.iload_n 3 : Instr), [], [], 59),
  (59, (.invokevirtual 379 : Instr), [1, 210, 4, 9], [], 62),
  (62, (.ireturn : Instr), [0], [], 0)]
/-! HandsAndWays.cell(III)I -/
def zc_37 : List (Nat × zE) := [(0, (.iload_n 1 : Instr), [], [], 1),
  (1, (.invokestatic 314 : Instr), [0, 208, 1, 0], [], 4),
  (4, (.ifCond .ne (6) : Instr), [10], [], 7),
  (7, (.bipush (-2) : Instr), [], [(-2, 0)], 9),
  (9, (.ireturn : Instr), [0], [], 10),
  (10, (.aload_n 0 : Instr), [], [], 11),
  (11, (.getfield 86 : Instr), [0, 11, 3], [], 14),
  (14, (.iload_n 1 : Instr), [], [], 15),
  (15, (.invokevirtual 317 : Instr), [1, 209, 2, 9], [], 18),
  (18, (.ifCond .ne (6) : Instr), [24], [], 21),
  (21, (.bipush (-11) : Instr), [], [(-11, 0)], 23),
  (23, (.ireturn : Instr), [0], [], 24),
  (24, (.iload_n 2 : Instr), [], [], 25),
  (25, (.ifCond .lt (16) : Instr), [41], [], 28),
  (28, (.iload_n 2 : Instr), [], [], 29),
  (29, (.aload_n 0 : Instr), [], [], 30),
  (30, (.getfield 86 : Instr), [0, 11, 3], [], 33),
  (33, (.getfield 320 : Instr), [9, 1, 3], [], 36),
  (36, (.iload_n 1 : Instr), [], [], 37),
  (37, (.iaload : Instr), [], [], 38),
  (38, (.if_icmp .lt (6) : Instr), [44], [], 41),
  (41, (.bipush (-12) : Instr), [], [(-12, 0)], 43),
  (43, (.ireturn : Instr), [0], [], 44),
  (44, (.aload_n 0 : Instr), [], [], 45),
  (45, (.getfield 86 : Instr), [0, 11, 3], [], 48),
  (48, (.iload_n 1 : Instr), [], [], 49),
  (49, (.iload_n 2 : Instr), [], [], 50),
  (50, (.iload_n 3 : Instr), [], [], 51),
  (51, (.invokevirtual 382 : Instr), [1, 212, 4, 9], [], 54),
  (54, (.iconst (1) : Instr), [], [(1, 0)], 55),
  (55, (.ireturn : Instr), [0], [], 0)]
/-! HandsAndWays.copy(IIIII)I -/
def zc_38 : List (Nat × zE) := [(0, (.iload_n 1 : Instr), [], [], 1),
  (1, (.invokestatic 314 : Instr), [0, 208, 1, 0], [], 4),
  (4, (.ifCond .eq (10) : Instr), [14], [], 7),
  (7, (.iload_n 3 : Instr), [], [], 8),
  (8, (.invokestatic 314 : Instr), [0, 208, 1, 0], [], 11),
  (11, (.ifCond .ne (6) : Instr), [17], [], 14),
  (14, (.bipush (-2) : Instr), [], [(-2, 0)], 16),
  (16, (.ireturn : Instr), [0], [], 17),
  (17, (.aload_n 0 : Instr), [], [], 18),
  (18, (.getfield 86 : Instr), [0, 11, 3], [], 21),
  (21, (.iload_n 1 : Instr), [], [], 22),
  (22, (.invokevirtual 317 : Instr), [1, 209, 2, 9], [], 25),
  (25, (.ifCond .eq (14) : Instr), [39], [], 28),
  (28, (.aload_n 0 : Instr), [], [], 29),
  (29, (.getfield 86 : Instr), [0, 11, 3], [], 32),
  (32, (.iload_n 3 : Instr), [], [], 33),
  (33, (.invokevirtual 317 : Instr), [1, 209, 2, 9], [], 36),
  (36, (.ifCond .ne (6) : Instr), [42], [], 39),
  (39, (.bipush (-11) : Instr), [], [(-11, 0)], 41),
  (41, (.ireturn : Instr), [0], [], 42),
  (42, (.aload_n 0 : Instr), [], [], 43),
  (43, (.getfield 86 : Instr), [0, 11, 3], [], 46),
  (46, (.getfield 386 : Instr), [9, 0, 3], [], 49),
  (49, (.iload_n 1 : Instr), [], [], 50),
  (50, (.iaload : Instr), [], [], 51),
  (51, (.aload_n 0 : Instr), [], [], 52),
  (52, (.getfield 86 : Instr), [0, 11, 3], [], 55),
  (55, (.getfield 386 : Instr), [9, 0, 3], [], 58),
  (58, (.iload_n 3 : Instr), [], [], 59),
  (59, (.iaload : Instr), [], [], 60),
  (60, (.if_icmp .eq (6) : Instr), [66], [], 63),
  (63, (.bipush (-13) : Instr), [], [(-13, 0)], 65),
  (65, (.ireturn : Instr), [0], [], 66),
  (66, (.aload_n 0 : Instr), [], [], 67),
  (67, (.getfield 86 : Instr), [0, 11, 3], [], 70),
  (70, (.iload_n 1 : Instr), [], [], 71),
  (71, (.iload_n 2 : Instr), [], [], 72),
  (72, (.iload 5 : Instr), [], [], 74),
  (74, (.invokevirtual 389 : Instr), [1, 213, 4, 9], [], 77),
  (77, (.ifCond .eq (18) : Instr), [95], [], 80),
  (80, (.aload_n 0 : Instr), [], [], 81),
  (81, (.getfield 86 : Instr), [0, 11, 3], [], 84),
  (84, (.iload_n 3 : Instr), [], [], 85),
  (85, (.iload 4 : Instr), [], [], 87),
  (87, (.iload 5 : Instr), [], [], 89),
  (89, (.invokevirtual 389 : Instr), [1, 213, 4, 9], [], 92),
  (92, (.ifCond .ne (6) : Instr), [98], [], 95),
  (95, (.bipush (-12) : Instr), [], [(-12, 0)], 97),
  (97, (.ireturn : Instr), [0], [], 98),
  (98, (.aload_n 0 : Instr), [], [], 99),
  (99, (.getfield 86 : Instr), [0, 11, 3], [], 102),
  (102, (.iload_n 1 : Instr), [], [], 103),
  (103, (.iload_n 2 : Instr), [], [], 104),
  (104, (.iload_n 3 : Instr), [], [], 105),
  (105, (.iload 4 : Instr), [], [], 107),
  (107, (.iload 5 : Instr), [], [], 109),
  (109, (.invokevirtual 393 : Instr), [1, 214, 6, 9], [], 112),
  (112, (.iload 5 : Instr), [], [], 114),
  (114, (.ireturn : Instr), [0], [], 0)]
/-! HandsAndWays.walls(IIII)I -/
def zc_39 : List (Nat × zE) := [(0, (.iload_n 1 : Instr), [], [], 1),
  (1, (.invokestatic 314 : Instr), [0, 208, 1, 0], [], 4),
  (4, (.ifCond .eq (12) : Instr), [16], [], 7),
  (7, (.iload_n 2 : Instr), [], [], 8),
  (8, (.ifCond .lt (8) : Instr), [16], [], 11),
  (11, (.iload_n 2 : Instr), [], [], 12),
  (12, (.iconst (2) : Instr), [], [(2, 0)], 13),
  (13, (.if_icmp .le (6) : Instr), [19], [], 16),
  (16, (.bipush (-2) : Instr), [], [(-2, 0)], 18),
  (18, (.ireturn : Instr), [0], [], 19),
  (19, (.iload 4 : Instr), [], [], 21),
  (21, (.ifCond .lt (10) : Instr), [31], [], 24),
  (24, (.iload 4 : Instr), [], [], 26),
  (26, (.bipush (40) : Instr), [], [(40, 0)], 28),
  (28, (.if_icmp .le (6) : Instr), [34], [], 31),
  (31, (.bipush (-2) : Instr), [], [(-2, 0)], 33),
  (33, (.ireturn : Instr), [0], [], 34),
  (34, (.aload_n 0 : Instr), [], [], 35),
  (35, (.getfield 86 : Instr), [0, 11, 3], [], 38),
  (38, (.iload_n 1 : Instr), [], [], 39),
  (39, (.invokevirtual 317 : Instr), [1, 209, 2, 9], [], 42),
  (42, (.ifCond .ne (6) : Instr), [48], [], 45),
  (45, (.bipush (-11) : Instr), [], [(-11, 0)], 47),
  (47, (.ireturn : Instr), [0], [], 48),
  (48, (.aload_n 0 : Instr), [], [], 49),
  (49, (.getfield 86 : Instr), [0, 11, 3], [], 52),
  (52, (.getfield 386 : Instr), [9, 0, 3], [], 55),
  (55, (.iload_n 1 : Instr), [], [], 56),
  (56, (.iaload : Instr), [], [], 57),
  (57, (.iload_n 2 : Instr), [], [], 58),
  (58, (.if_icmp .eq (6) : Instr), [64], [], 61),
  (61, (.bipush (-13) : Instr), [], [(-13, 0)], 63),
  (63, (.ireturn : Instr), [0], [], 64),
  (64, (.iconst (0) : Instr), [], [(0, 0)], 65),
  (65, (.istore 5 : Instr), [], [], 67),
  (67, (.iconst (0) : Instr), [], [(0, 0)], 68),
  (68, (.istore 6 : Instr), [], [], 70),
  (70, (.iload 6 : Instr), [], [], 72),
  (72, (.iload 4 : Instr), [], [], 74),
  (74, (.if_icmp .ge (58) : Instr), [132], [], 77),
  (77, (.iload_n 3 : Instr), [], [], 78),
  (78, (.iload 6 : Instr), [], [], 80),
  (80, (.iadd : Instr), [], [], 81),
  (81, (.istore 7 : Instr), [], [], 83),
  (83, (.iload 7 : Instr), [], [], 85),
  (85, (.ifCond .lt (17) : Instr), [102], [], 88),
  (88, (.iload 7 : Instr), [], [], 90),
  (90, (.aload_n 0 : Instr), [], [], 91),
  (91, (.getfield 86 : Instr), [0, 11, 3], [], 94),
  (94, (.getfield 320 : Instr), [9, 1, 3], [], 97),
  (97, (.iload_n 1 : Instr), [], [], 98),
  (98, (.iaload : Instr), [], [], 99),
  (99, (.if_icmp .lt (6) : Instr), [105], [], 102),
  (102, (.bipush (-12) : Instr), [], [(-12, 0)], 104),
  (104, (.ireturn : Instr), [0], [], 105),
  (105, (.aload_n 0 : Instr), [], [], 106),
  (106, (.aload_n 0 : Instr), [], [], 107),
  (107, (.getfield 86 : Instr), [0, 11, 3], [], 110),
  (110, (.iload_n 1 : Instr), [], [], 111),
  (111, (.iload 7 : Instr), [], [], 113),
  (113, (.invokevirtual 322 : Instr), [1, 211, 3, 9], [], 116),
  (116, (.iconst (1) : Instr), [], [(1, 0)], 117),
  (117, (.invokevirtual 397 : Instr), [1, 1, 3, 0], [], 120),
  (120, (.ifCond .lt (6) : Instr), [126], [], 123),
  (123, (.iinc 5 (1) : Instr), [], [], 126),
  (126, (.iinc 6 (1) : Instr), [], [], 129),
  (129, (.goto (-59) : Instr), [70], [], 132),
  (132, (.iload 5 : Instr), [], [], 134),
  (134, (.ireturn : Instr), [0], [], 0)]
/-! HandsAndWays.taken(II)I -/
def zc_40 : List (Nat × zE) := [(0, (.iload_n 2 : Instr), [], [], 1),
  (1, (.invokestatic 135 : Instr), [0, 170, 1, 0], [], 4),
  (4, (.ifCond .ne (6) : Instr), [10], [], 7),
  (7, (.bipush (-2) : Instr), [], [(-2, 0)], 9),
  (9, (.ireturn : Instr), [0], [], 10),
  (10, (.iload_n 1 : Instr), [], [], 11),
  (11, (.invokestatic 90 : Instr), [0, 149, 1, 0], [], 14),
  (14, (.ifCond .ne (6) : Instr), [20], [], 17),
  (17, (.bipush (-12) : Instr), [], [(-12, 0)], 19),
  (19, (.ireturn : Instr), [0], [], 20),
  (20, (.aload_n 0 : Instr), [], [], 21),
  (21, (.getfield 38 : Instr), [0, 5, 3], [], 24),
  (24, (.aload_n 0 : Instr), [], [], 25),
  (25, (.getfield 19 : Instr), [0, 1, 3], [], 28),
  (28, (.iload_n 1 : Instr), [], [], 29),
  (29, (.invokevirtual 247 : Instr), [1, 229, 3, 3], [], 32),
  (32, (.istore_n 3 : Instr), [], [], 33),
  (33, (.iload_n 3 : Instr), [], [], 34),
  (34, (.ifCond .lt (26) : Instr), [60], [], 37),
  (37, (.aload_n 0 : Instr), [], [], 38),
  (38, (.getfield 10 : Instr), [0, 0, 3], [], 41),
  (41, (.getfield 116 : Instr), [1, 3, 3], [], 44),
  (44, (.iload_n 3 : Instr), [], [], 45),
  (45, (.iaload : Instr), [], [], 46),
  (46, (.iload_n 2 : Instr), [], [], 47),
  (47, (.invokestatic 400 : Instr), [0, 177, 2, 0], [], 50),
  (50, (.ifCond .eq (7) : Instr), [57], [], 53),
  (53, (.iload_n 3 : Instr), [], [], 54),
  (54, (.goto (5) : Instr), [59], [], 57),
  (57, (.bipush (-13) : Instr), [], [(-13, 0)], 59),
  (59, (.ireturn : Instr), [0], [], 60),
  (60, (.aload_n 0 : Instr), [], [], 61),
  (61, (.getfield 10 : Instr), [0, 0, 3], [], 64),
  (64, (.getfield 99 : Instr), [1, 0, 2], [], 67),
  (67, (.aload_n 0 : Instr), [], [], 68),
  (68, (.getfield 38 : Instr), [0, 5, 3], [], 71),
  (71, (.aload_n 0 : Instr), [], [], 72),
  (72, (.getfield 19 : Instr), [0, 1, 3], [], 75),
  (75, (.invokevirtual 243 : Instr), [1, 228, 2, 3], [], 78),
  (78, (.lor : Instr), [], [], 79),
  (79, (.iload_n 1 : Instr), [], [], 80),
  (80, (.invokestatic 103 : Instr), [0, 152, 2, 0], [], 83),
  (83, (.ifCond .eq (8) : Instr), [91], [], 86),
  (86, (.bipush (-13) : Instr), [], [(-13, 0)], 88),
  (88, (.goto (5) : Instr), [93], [], 91),
  (91, (.bipush (-11) : Instr), [], [(-11, 0)], 93),
  (93, (.ireturn : Instr), [0], [], 0)]
/-! HandsAndWays.isHand(I)Z -/
def zc_41 : List (Nat × zE) := [(0, (.iload_n 0 : Instr), [], [], 1),
  (1, (.ifCond .eq (8) : Instr), [9], [], 4),
  (4, (.iload_n 0 : Instr), [], [], 5),
  (5, (.iconst (1) : Instr), [], [(1, 0)], 6),
  (6, (.if_icmp .ne (7) : Instr), [13], [], 9),
  (9, (.iconst (1) : Instr), [], [(1, 0)], 10),
  (10, (.goto (4) : Instr), [14], [], 13),
  (13, (.iconst (0) : Instr), [], [(0, 0)], 14),
  (14, (.ireturn : Instr), [1], [], 0)]
/-! HandsAndWays.isPresent(I)Z -/
def zc_42 : List (Nat × zE) := [(0, (.iload_n 1 : Instr), [], [], 1),
  (1, (.invokestatic 154 : Instr), [0, 41, 1, 0], [], 4),
  (4, (.ifCond .eq (19) : Instr), [23], [], 7),
  (7, (.aload_n 0 : Instr), [], [], 8),
  (8, (.getfield 19 : Instr), [0, 1, 3], [], 11),
  (11, (.getfield 164 : Instr), [2, 5, 3], [], 14),
  (14, (.iload_n 1 : Instr), [], [], 15),
  (15, (.iaload : Instr), [], [], 16),
  (16, (.ifCond .lt (7) : Instr), [23], [], 19),
  (19, (.iconst (1) : Instr), [], [(1, 0)], 20),
  (20, (.goto (4) : Instr), [24], [], 23),
  (23, (.iconst (0) : Instr), [], [(0, 0)], 24),
  (24, (.ireturn : Instr), [1], [], 0)]
/-! HandsAndWays.isThing(I)Z -/
def zc_43 : List (Nat × zE) := [(0, (.iload_n 1 : Instr), [], [], 1),
  (1, (.ifCond .lt (18) : Instr), [19], [], 4),
  (4, (.iload_n 1 : Instr), [], [], 5),
  (5, (.aload_n 0 : Instr), [], [], 6),
  (6, (.getfield 10 : Instr), [0, 0, 3], [], 9),
  (9, (.getfield 145 : Instr), [1, 2, 0], [], 12),
  (12, (.if_icmp .ge (7) : Instr), [19], [], 15),
  (15, (.iconst (1) : Instr), [], [(1, 0)], 16),
  (16, (.goto (4) : Instr), [20], [], 19),
  (19, (.iconst (0) : Instr), [], [(0, 0)], 20),
  (20, (.ireturn : Instr), [1], [], 0)]
/-! HandsAndWays.isDoor(I)Z -/
def zc_44 : List (Nat × zE) := [(0, (.iload_n 1 : Instr), [], [], 1),
  (1, (.ifCond .lt (18) : Instr), [19], [], 4),
  (4, (.iload_n 1 : Instr), [], [], 5),
  (5, (.aload_n 0 : Instr), [], [], 6),
  (6, (.getfield 10 : Instr), [0, 0, 3], [], 9),
  (9, (.getfield 125 : Instr), [1, 5, 0], [], 12),
  (12, (.if_icmp .ge (7) : Instr), [19], [], 15),
  (15, (.iconst (1) : Instr), [], [(1, 0)], 16),
  (16, (.goto (4) : Instr), [20], [], 19),
  (19, (.iconst (0) : Instr), [], [(0, 0)], 20),
  (20, (.ireturn : Instr), [1], [], 0)]
/-! HandsAndWays.isProgram(I)Z -/
def zc_45 : List (Nat × zE) := [(0, (.iload_n 1 : Instr), [], [], 1),
  (1, (.ifCond .lt (18) : Instr), [19], [], 4),
  (4, (.iload_n 1 : Instr), [], [], 5),
  (5, (.aload_n 0 : Instr), [], [], 6),
  (6, (.getfield 45 : Instr), [0, 6, 3], [], 9),
  (9, (.getfield 256 : Instr), [4, 2, 0], [], 12),
  (12, (.if_icmp .ge (7) : Instr), [19], [], 15),
  (15, (.iconst (1) : Instr), [], [(1, 0)], 16),
  (16, (.goto (4) : Instr), [20], [], 19),
  (19, (.iconst (0) : Instr), [], [(0, 0)], 20),
  (20, (.ireturn : Instr), [1], [], 0)]
/-! HandsAndWays.isThingOrHandIn(I)Z -/
def zc_46 : List (Nat × zE) := [(0, (.aload_n 0 : Instr), [], [], 1),
  (1, (.getfield 19 : Instr), [0, 1, 3], [], 4),
  (4, (.getfield 164 : Instr), [2, 5, 3], [], 7),
  (7, (.iconst (0) : Instr), [], [(0, 0)], 8),
  (8, (.iaload : Instr), [], [], 9),
  (9, (.iload_n 1 : Instr), [], [], 10),
  (10, (.if_icmp .eq (31) : Instr), [41], [], 13),
  (13, (.aload_n 0 : Instr), [], [], 14),
  (14, (.getfield 19 : Instr), [0, 1, 3], [], 17),
  (17, (.getfield 164 : Instr), [2, 5, 3], [], 20),
  (20, (.iconst (1) : Instr), [], [(1, 0)], 21),
  (21, (.iaload : Instr), [], [], 22),
  (22, (.iload_n 1 : Instr), [], [], 23),
  (23, (.if_icmp .eq (18) : Instr), [41], [], 26),
  (26, (.aload_n 0 : Instr), [], [], 27),
  (27, (.getfield 38 : Instr), [0, 5, 3], [], 30),
  (30, (.aload_n 0 : Instr), [], [], 31),
  (31, (.getfield 19 : Instr), [0, 1, 3], [], 34),
  (34, (.iload_n 1 : Instr), [], [], 35),
  (35, (.invokevirtual 247 : Instr), [1, 229, 3, 3], [], 38),
  (38, (.ifCond .lt (7) : Instr), [45], [], 41),
  (41, (.iconst (1) : Instr), [], [(1, 0)], 42),
  (42, (.goto (4) : Instr), [46], [], 45),
  (45, (.iconst (0) : Instr), [], [(0, 0)], 46),
  (46, (.ireturn : Instr), [1], [], 0)]
/-! HandsAndWays.answerOf(I)I -/
def zc_47 : List (Nat × zE) := [(0, (.iload_n 0 : Instr), [], [], 1),
  (1, (.ifCond .ne (7) : Instr), [8], [], 4),
  (4, (.iconst (0) : Instr), [], [(0, 0)], 5),
  (5, (.goto (7) : Instr), [12], [], 8),
  (8, (.bipush (-10) : Instr), [], [(-10, 0)], 10),
  (10, (.iload_n 0 : Instr), [], [], 11),
  (11, (.isub : Instr), [], [], 12),
  (12, (.ireturn : Instr), [0], [], 0)]
/-! HandsAndWaysModel.<init>()V -/
def zc_48 : List (Nat × zE) := [(0, (.aload_n 0 : Instr), [], [], 1),
  (1, (.invokespecial 1 : Instr), [4], [], 4),
  (4, (.aload_n 0 : Instr), [], [], 5),
  (5, (.bipush (43) : Instr), [], [(43, 0)], 7),
  (7, (.newarray .int : Instr), [0], [], 9),
  (9, (.putfield 7 : Instr), [10, 0, 3], [], 12),
  (12, (.aload_n 0 : Instr), [], [], 13),
  (13, (.bipush (43) : Instr), [], [(43, 0)], 15),
  (15, (.newarray .int : Instr), [0], [], 17),
  (17, (.putfield 13 : Instr), [10, 1, 3], [], 20),
  (20, (.aload_n 0 : Instr), [], [], 21),
  (21, (.bipush (43) : Instr), [], [(43, 0)], 23),
  (23, (.newarray .int : Instr), [0], [], 25),
  (25, (.putfield 16 : Instr), [10, 2, 3], [], 28),
  (28, (.aload_n 0 : Instr), [], [], 29),
  (29, (.bipush (64) : Instr), [], [(64, 0)], 31),
  (31, (.newarray .boolean : Instr), [1], [], 33),
  (33, (.putfield 19 : Instr), [10, 4, 3], [], 36),
  (36, (.aload_n 0 : Instr), [], [], 37),
  (37, (.iconst (4) : Instr), [], [(4, 0)], 38),
  (38, (.newarray .int : Instr), [0], [], 40),
  (40, (.putfield 23 : Instr), [10, 6, 3], [], 43),
  (43, (.aload_n 0 : Instr), [], [], 44),
  (44, (.iconst (4) : Instr), [], [(4, 0)], 45),
  (45, (.newarray .int : Instr), [0], [], 47),
  (47, (.putfield 26 : Instr), [10, 7, 3], [], 50),
  (50, (.aload_n 0 : Instr), [], [], 51),
  (51, (.bipush (8) : Instr), [], [(8, 0)], 53),
  (53, (.newarray .int : Instr), [0], [], 55),
  (55, (.putfield 29 : Instr), [10, 9, 3], [], 58),
  (58, (.aload_n 0 : Instr), [], [], 59),
  (59, (.bipush (8) : Instr), [], [(8, 0)], 61),
  (61, (.newarray .int : Instr), [0], [], 63),
  (63, (.putfield 32 : Instr), [10, 10, 3], [], 66),
  (66, (.aload_n 0 : Instr), [], [], 67),
  (67, (.bipush (8) : Instr), [], [(8, 0)], 69),
  (69, (.putfield 35 : Instr), [10, 11, 0], [], 72),
  (72, (.aload_n 0 : Instr), [], [], 73),
  (73, (.bipush (6) : Instr), [], [(6, 0)], 75),
  (75, (.newarray .int : Instr), [0], [], 77),
  (77, (.putfield 39 : Instr), [10, 13, 3], [], 80),
  (80, (.aload_n 0 : Instr), [], [], 81),
  (81, (.bipush (72) : Instr), [], [(72, 0)], 83),
  (83, (.newarray .int : Instr), [0], [], 85),
  (85, (.putfield 42 : Instr), [10, 14, 3], [], 88),
  (88, (.aload_n 0 : Instr), [], [], 89),
  (89, (.bipush (72) : Instr), [], [(72, 0)], 91),
  (91, (.newarray .int : Instr), [0], [], 93),
  (93, (.putfield 45 : Instr), [10, 15, 3], [], 96),
  (96, (.aload_n 0 : Instr), [], [], 97),
  (97, (.bipush (72) : Instr), [], [(72, 0)], 99),
  (99, (.newarray .int : Instr), [0], [], 101),
  (101, (.putfield 48 : Instr), [10, 16, 3], [], 104),
  (104, (.aload_n 0 : Instr), [], [], 105),
  (105, (.bipush (120) : Instr), [], [(120, 0)], 107),
  (107, (.newarray .int : Instr), [0], [], 109),
  (109, (.putfield 51 : Instr), [10, 17, 3], [], 112),
  (112, (.aload_n 0 : Instr), [], [], 113),
  (113, (.iconst (2) : Instr), [], [(2, 0)], 114),
  (114, (.newarray .int : Instr), [0], [], 116),
  (116, (.putfield 54 : Instr), [10, 20, 3], [], 119),
  (119, (.aload_n 0 : Instr), [], [], 120),
  (120, (.iconst (2) : Instr), [], [(2, 0)], 121),
  (121, (.newarray .int : Instr), [0], [], 123),
  (123, (.putfield 57 : Instr), [10, 21, 3], [], 126),
  (126, (.aload_n 0 : Instr), [], [], 127),
  (127, (.iconst (2) : Instr), [], [(2, 0)], 128),
  (128, (.newarray .int : Instr), [0], [], 130),
  (130, (.putfield 60 : Instr), [10, 22, 3], [], 133),
  (133, (.aload_n 0 : Instr), [], [], 134),
  (134, (.bipush (12) : Instr), [], [(12, 0)], 136),
  (136, (.newarray .int : Instr), [0], [], 138),
  (138, (.putfield 63 : Instr), [10, 25, 3], [], 141),
  (141, (.aload_n 0 : Instr), [], [], 142),
  (142, (.bipush (12) : Instr), [], [(12, 0)], 144),
  (144, (.newarray .int : Instr), [0], [], 146),
  (146, (.putfield 66 : Instr), [10, 26, 3], [], 149),
  (149, (.aload_n 0 : Instr), [], [], 150),
  (150, (.bipush (12) : Instr), [], [(12, 0)], 152),
  (152, (.newarray .int : Instr), [0], [], 154),
  (154, (.putfield 69 : Instr), [10, 27, 3], [], 157),
  (157, (.aload_n 0 : Instr), [], [], 158),
  (158, (.bipush (12) : Instr), [], [(12, 0)], 160),
  (160, (.newarray .int : Instr), [0], [], 162),
  (162, (.putfield 72 : Instr), [10, 28, 3], [], 165),
  (165, (.aload_n 0 : Instr), [], [], 166),
  (166, (.bipush (12) : Instr), [], [(12, 0)], 168),
  (168, (.newarray .int : Instr), [0], [], 170),
  (170, (.putfield 75 : Instr), [10, 29, 3], [], 173),
  (173, (.aload_n 0 : Instr), [], [], 174),
  (174, (.bipush (12) : Instr), [], [(12, 0)], 176),
  (176, (.newarray .long : Instr), [2], [], 178),
  (178, (.putfield 78 : Instr), [10, 30, 3], [], 181),
  (181, (.aload_n 0 : Instr), [], [], 182),
  (182, (.bipush (6) : Instr), [], [(6, 0)], 184),
  (184, (.newarray .int : Instr), [0], [], 186),
  (186, (.putfield 82 : Instr), [10, 35, 3], [], 189),
  (189, (.aload_n 0 : Instr), [], [], 190),
  (190, (.bipush (6) : Instr), [], [(6, 0)], 192),
  (192, (.newarray .int : Instr), [0], [], 194),
  (194, (.putfield 85 : Instr), [10, 36, 3], [], 197),
  (197, (.aload_n 0 : Instr), [], [], 198),
  (198, (.iconst (4) : Instr), [], [(4, 0)], 199),
  (199, (.newarray .int : Instr), [0], [], 201),
  (201, (.dup : Instr), [], [], 202),
  (202, (.iconst (0) : Instr), [], [(0, 0)], 203),
  (203, (.iconst (-1) : Instr), [], [(-1, 0)], 204),
  (204, (.iastore : Instr), [], [], 205),
  (205, (.dup : Instr), [], [], 206),
  (206, (.iconst (1) : Instr), [], [(1, 0)], 207),
  (207, (.iconst (-1) : Instr), [], [(-1, 0)], 208),
  (208, (.iastore : Instr), [], [], 209),
  (209, (.dup : Instr), [], [], 210),
  (210, (.iconst (2) : Instr), [], [(2, 0)], 211),
  (211, (.iconst (-1) : Instr), [], [(-1, 0)], 212),
  (212, (.iastore : Instr), [], [], 213),
  (213, (.dup : Instr), [], [], 214),
  (214, (.iconst (3) : Instr), [], [(3, 0)], 215),
  (215, (.iconst (-1) : Instr), [], [(-1, 0)], 216),
  (216, (.iastore : Instr), [], [], 217),
  (217, (.putfield 88 : Instr), [10, 37, 3], [], 220),
  (220, (.aload_n 0 : Instr), [], [], 221),
  (221, (.iconst (4) : Instr), [], [(4, 0)], 222),
  (222, (.newarray .int : Instr), [0], [], 224),
  (224, (.putfield 91 : Instr), [10, 38, 3], [], 227),
  (227, (.aload_n 0 : Instr), [], [], 228),
  (228, (.sipush (160) : Instr), [], [(160, 0)], 231),
  (231, (.newarray .int : Instr), [0], [], 233),
  (233, (.putfield 94 : Instr), [10, 39, 3], [], 236),
  (236, (.aload_n 0 : Instr), [], [], 237),
  (237, (.bipush (64) : Instr), [], [(64, 0)], 239),
  (239, (.newarray .int : Instr), [0], [], 241),
  (241, (.putfield 97 : Instr), [10, 40, 3], [], 244),
  (244, (.aload_n 0 : Instr), [], [], 245),
  (245, (.bipush (64) : Instr), [], [(64, 0)], 247),
  (247, (.newarray .int : Instr), [0], [], 249),
  (249, (.putfield 100 : Instr), [10, 41, 3], [], 252),
  (252, (.iconst (0) : Instr), [], [(0, 0)], 253),
  (253, (.istore_n 1 : Instr), [], [], 254),
  (254, (.iload_n 1 : Instr), [], [], 255),
  (255, (.bipush (24) : Instr), [], [(24, 0)], 257),
  (257, (.if_icmp .ge (16) : Instr), [273], [], 260),
  (260, (.aload_n 0 : Instr), [], [], 261),
  (261, (.getfield 7 : Instr), [10, 0, 3], [], 264),
  (264, (.iload_n 1 : Instr), [], [], 265),
  (265, (.iconst (-1) : Instr), [], [(-1, 0)], 266),
  (266, (.iastore : Instr), [], [], 267),
  (267, (.iinc 1 (1) : Instr), [], [], 270),
  (270, (.goto (-16) : Instr), [254], [], 273),
  (273, (.iconst (0) : Instr), [], [(0, 0)], 274),
  (274, (.istore_n 1 : Instr), [], [], 275),
  (275, (.iload_n 1 : Instr), [], [], 276),
  (276, (.iconst (2) : Instr), [], [(2, 0)], 277),
  (277, (.if_icmp .ge (39) : Instr), [316], [], 280),
  (280, (.aload_n 0 : Instr), [], [], 281),
  (281, (.getfield 7 : Instr), [10, 0, 3], [], 284),
  (284, (.bipush (28) : Instr), [], [(28, 0)], 286),
  (286, (.iload_n 1 : Instr), [], [], 287),
  (287, (.iadd : Instr), [], [], 288),
  (288, (.iconst (-1) : Instr), [], [(-1, 0)], 289),
  (289, (.iastore : Instr), [], [], 290),
  (290, (.aload_n 0 : Instr), [], [], 291),
  (291, (.getfield 7 : Instr), [10, 0, 3], [], 294),
  (294, (.bipush (30) : Instr), [], [(30, 0)], 296),
  (296, (.iload_n 1 : Instr), [], [], 297),
  (297, (.iadd : Instr), [], [], 298),
  (298, (.iconst (-1) : Instr), [], [(-1, 0)], 299),
  (299, (.iastore : Instr), [], [], 300),
  (300, (.aload_n 0 : Instr), [], [], 301),
  (301, (.getfield 7 : Instr), [10, 0, 3], [], 304),
  (304, (.bipush (34) : Instr), [], [(34, 0)], 306),
  (306, (.iload_n 1 : Instr), [], [], 307),
  (307, (.iadd : Instr), [], [], 308),
  (308, (.iconst (-1) : Instr), [], [(-1, 0)], 309),
  (309, (.iastore : Instr), [], [], 310),
  (310, (.iinc 1 (1) : Instr), [], [], 313),
  (313, (.goto (-38) : Instr), [275], [], 316),
  (316, (.return_ : Instr), [], [], 0)]
/-! HandsAndWaysModel.in(III)Z -/
def zc_49 : List (Nat × zE) := [(0, (.iload_n 0 : Instr), [], [], 1),
  (1, (.iload_n 1 : Instr), [], [], 2),
  (2, (.if_icmp .lt (12) : Instr), [14], [], 5),
  (5, (.iload_n 0 : Instr), [], [], 6),
  (6, (.iload_n 2 : Instr), [], [], 7),
  (7, (.if_icmp .gt (7) : Instr), [14], [], 10),
  (10, (.iconst (1) : Instr), [], [(1, 0)], 11),
  (11, (.goto (4) : Instr), [15], [], 14),
  (14, (.iconst (0) : Instr), [], [(0, 0)], 15),
  (15, (.ireturn : Instr), [1], [], 0)]
/-! HandsAndWaysModel.isCell(I)Z -/
def zc_50 : List (Nat × zE) := [(0, (.iload_n 0 : Instr), [], [], 1),
  (1, (.iconst (0) : Instr), [], [(0, 0)], 2),
  (2, (.bipush (63) : Instr), [], [(63, 0)], 4),
  (4, (.invokestatic 103 : Instr), [0, 49, 3, 0], [], 7),
  (7, (.ireturn : Instr), [1], [], 0)]
/-! HandsAndWaysModel.isThing(I)Z -/
def zc_51 : List (Nat × zE) := [(0, (.iload_n 1 : Instr), [], [], 1),
  (1, (.iconst (0) : Instr), [], [(0, 0)], 2),
  (2, (.aload_n 0 : Instr), [], [], 3),
  (3, (.getfield 107 : Instr), [10, 8, 0], [], 6),
  (6, (.iconst (1) : Instr), [], [(1, 0)], 7),
  (7, (.isub : Instr), [], [], 8),
  (8, (.invokestatic 103 : Instr), [0, 49, 3, 0], [], 11),
  (11, (.ireturn : Instr), [1], [], 0)]
/-! HandsAndWaysModel.isHand(I)Z -/
def zc_52 : List (Nat × zE) := [(0, (.iload_n 0 : Instr), [], [], 1),
  (1, (.iconst (0) : Instr), [], [(0, 0)], 2),
  (2, (.iconst (1) : Instr), [], [(1, 0)], 3),
  (3, (.invokestatic 103 : Instr), [0, 49, 3, 0], [], 6),
  (6, (.ireturn : Instr), [1], [], 0)]
/-! HandsAndWaysModel.beside(II)I -/
def zc_53 : List (Nat × zE) := [(0, (.iload_n 1 : Instr), [], [], 1),
  (1, (.tableswitch (74) (0) (2) #[(27), (42), (59)] : Instr), [27, 75], [(0, 28), (1, 43), (2, 60)], 28),
  (28, (.iload_n 0 : Instr), [], [], 29),
  (29, (.bipush (8) : Instr), [], [(8, 0)], 31),
  (31, (.if_icmp .lt (10) : Instr), [41], [], 34),
  (34, (.iload_n 0 : Instr), [], [], 35),
  (35, (.bipush (8) : Instr), [], [(8, 0)], 37),
  (37, (.isub : Instr), [], [], 38),
  (38, (.goto (4) : Instr), [42], [], 41),
  (41, (.iconst (-1) : Instr), [], [(-1, 0)], 42),
  (42, (.ireturn : Instr), [0], [], 43),
  (43, (.iload_n 0 : Instr), [], [], 44),
  (44, (.bipush (8) : Instr), [], [(8, 0)], 46),
  (46, (.irem : Instr), [], [], 47),
  (47, (.bipush (7) : Instr), [], [(7, 0)], 49),
  (49, (.if_icmp .ge (9) : Instr), [58], [], 52),
  (52, (.iload_n 0 : Instr), [], [], 53),
  (53, (.iconst (1) : Instr), [], [(1, 0)], 54),
  (54, (.iadd : Instr), [], [], 55),
  (55, (.goto (4) : Instr), [59], [], 58),
  (58, (.iconst (-1) : Instr), [], [(-1, 0)], 59),
  (59, (.ireturn : Instr), [0], [], 60),
  (60, (.iload_n 0 : Instr), [], [], 61),
  (61, (.bipush (56) : Instr), [], [(56, 0)], 63),
  (63, (.if_icmp .ge (10) : Instr), [73], [], 66),
  (66, (.iload_n 0 : Instr), [], [], 67),
  (67, (.bipush (8) : Instr), [], [(8, 0)], 69),
  (69, (.iadd : Instr), [], [], 70),
  (70, (.goto (4) : Instr), [74], [], 73),
  (73, (.iconst (-1) : Instr), [], [(-1, 0)], 74),
  (74, (.ireturn : Instr), [0], [], 75),
  (75, (.iload_n 0 : Instr), [], [], 76),
  (76, (.bipush (8) : Instr), [], [(8, 0)], 78),
  (78, (.irem : Instr), [], [], 79),
  (79, (.ifCond .le (9) : Instr), [88], [], 82),
  (82, (.iload_n 0 : Instr), [], [], 83),
  (83, (.iconst (1) : Instr), [], [(1, 0)], 84),
  (84, (.isub : Instr), [], [], 85),
  (85, (.goto (4) : Instr), [89], [], 88),
  (88, (.iconst (-1) : Instr), [], [(-1, 0)], 89),
  (89, (.ireturn : Instr), [0], [], 0)]
/-! HandsAndWaysModel.sidesOf(I)I -/
def zc_54 : List (Nat × zE) := [(0, (.iload_n 0 : Instr), [], [], 1),
  (1, (.iconst (1) : Instr), [], [(1, 0)], 2),
  (2, (.if_icmp .eq (8) : Instr), [10], [], 5),
  (5, (.iload_n 0 : Instr), [], [], 6),
  (6, (.iconst (4) : Instr), [], [(4, 0)], 7),
  (7, (.if_icmp .ne (8) : Instr), [15], [], 10),
  (10, (.bipush (10) : Instr), [], [(10, 0)], 12),
  (12, (.goto (24) : Instr), [36], [], 15),
  (15, (.iload_n 0 : Instr), [], [], 16),
  (16, (.iconst (2) : Instr), [], [(2, 0)], 17),
  (17, (.if_icmp .ne (8) : Instr), [25], [], 20),
  (20, (.bipush (13) : Instr), [], [(13, 0)], 22),
  (22, (.goto (14) : Instr), [36], [], 25),
  (25, (.iload_n 0 : Instr), [], [], 26),
  (26, (.iconst (5) : Instr), [], [(5, 0)], 27),
  (27, (.if_icmp .ne (7) : Instr), [34], [], 30),
  (30, (.iconst (5) : Instr), [], [(5, 0)], 31),
  (31, (.goto (5) : Instr), [36], [], 34),
  (34, (.bipush (15) : Instr), [], [(15, 0)], 36),
  (36, (.ireturn : Instr), [0], [], 0)]
/-! HandsAndWaysModel.weightOf(II)I -/
def zc_55 : List (Nat × zE) := [(0, (.iload_n 0 : Instr), [], [], 1),
  (1, (.iconst (1) : Instr), [], [(1, 0)], 2),
  (2, (.if_icmp .ne (11) : Instr), [13], [], 5),
  (5, (.iconst (2) : Instr), [], [(2, 0)], 6),
  (6, (.iload_n 1 : Instr), [], [], 7),
  (7, (.imul : Instr), [], [], 8),
  (8, (.iconst (3) : Instr), [], [(3, 0)], 9),
  (9, (.iadd : Instr), [], [], 10),
  (10, (.goto (43) : Instr), [53], [], 13),
  (13, (.iload_n 0 : Instr), [], [], 14),
  (14, (.iconst (3) : Instr), [], [(3, 0)], 15),
  (15, (.if_icmp .ne (7) : Instr), [22], [], 18),
  (18, (.iload_n 1 : Instr), [], [], 19),
  (19, (.goto (34) : Instr), [53], [], 22),
  (22, (.iload_n 0 : Instr), [], [], 23),
  (23, (.iconst (4) : Instr), [], [(4, 0)], 24),
  (24, (.if_icmp .ne (13) : Instr), [37], [], 27),
  (27, (.iconst (2) : Instr), [], [(2, 0)], 28),
  (28, (.iconst (2) : Instr), [], [(2, 0)], 29),
  (29, (.iload_n 1 : Instr), [], [], 30),
  (30, (.imul : Instr), [], [], 31),
  (31, (.iconst (3) : Instr), [], [(3, 0)], 32),
  (32, (.iadd : Instr), [], [], 33),
  (33, (.imul : Instr), [], [], 34),
  (34, (.goto (19) : Instr), [53], [], 37),
  (37, (.iload_n 0 : Instr), [], [], 38),
  (38, (.iconst (5) : Instr), [], [(5, 0)], 39),
  (39, (.if_icmp .ne (11) : Instr), [50], [], 42),
  (42, (.iconst (2) : Instr), [], [(2, 0)], 43),
  (43, (.iload_n 1 : Instr), [], [], 44),
  (44, (.imul : Instr), [], [], 45),
  (45, (.iconst (1) : Instr), [], [(1, 0)], 46),
  (46, (.isub : Instr), [], [], 47),
  (47, (.goto (6) : Instr), [53], [], 50),
  (50, (.iconst (2) : Instr), [], [(2, 0)], 51),
  (51, (.iload_n 1 : Instr), [], [], 52),
  (52, (.imul : Instr), [], [], 53),
  (53, (.ireturn : Instr), [0], [], 0)]
/-! HandsAndWaysModel.turnsUp(I)Z -/
def zc_56 : List (Nat × zE) := [(0, (.iload_n 0 : Instr), [], [], 1),
  (1, (.iconst (2) : Instr), [], [(2, 0)], 2),
  (2, (.if_icmp .eq (12) : Instr), [14], [], 5),
  (5, (.iload_n 0 : Instr), [], [], 6),
  (6, (.iconst (5) : Instr), [], [(5, 0)], 7),
  (7, (.if_icmp .eq (7) : Instr), [14], [], 10),
  (10, (.iconst (1) : Instr), [], [(1, 0)], 11),
  (11, (.goto (4) : Instr), [15], [], 14),
  (14, (.iconst (0) : Instr), [], [(0, 0)], 15),
  (15, (.ireturn : Instr), [1], [], 0)]
/-! HandsAndWaysModel.kindTold(III)I -/
def zc_57 : List (Nat × zE) := [(0, (.iload_n 1 : Instr), [], [], 1),
  (1, (.iconst (0) : Instr), [], [(0, 0)], 2),
  (2, (.iconst (5) : Instr), [], [(5, 0)], 3),
  (3, (.invokestatic 103 : Instr), [0, 49, 3, 0], [], 6),
  (6, (.ifCond .eq (21) : Instr), [27], [], 9),
  (9, (.iload_n 2 : Instr), [], [], 10),
  (10, (.iconst (1) : Instr), [], [(1, 0)], 11),
  (11, (.iconst (2) : Instr), [], [(2, 0)], 12),
  (12, (.invokestatic 103 : Instr), [0, 49, 3, 0], [], 15),
  (15, (.ifCond .eq (12) : Instr), [27], [], 18),
  (18, (.iload_n 3 : Instr), [], [], 19),
  (19, (.iconst (0) : Instr), [], [(0, 0)], 20),
  (20, (.iconst (3) : Instr), [], [(3, 0)], 21),
  (21, (.invokestatic 103 : Instr), [0, 49, 3, 0], [], 24),
  (24, (.ifCond .ne (6) : Instr), [30], [], 27),
  (27, (.bipush (-2) : Instr), [], [(-2, 0)], 29),
  (29, (.ireturn : Instr), [0], [], 30),
  (30, (.iload_n 3 : Instr), [], [], 31),
  (31, (.ifCond .ne (10) : Instr), [41], [], 34),
  (34, (.iload_n 1 : Instr), [], [], 35),
  (35, (.invokestatic 110 : Instr), [0, 54, 1, 0], [], 38),
  (38, (.goto (46) : Instr), [84], [], 41),
  (41, (.iload_n 3 : Instr), [], [], 42),
  (42, (.iconst (1) : Instr), [], [(1, 0)], 43),
  (43, (.if_icmp .ne (11) : Instr), [54], [], 46),
  (46, (.iload_n 1 : Instr), [], [], 47),
  (47, (.iload_n 2 : Instr), [], [], 48),
  (48, (.invokestatic 114 : Instr), [0, 55, 2, 0], [], 51),
  (51, (.goto (33) : Instr), [84], [], 54),
  (54, (.iload_n 3 : Instr), [], [], 55),
  (55, (.iconst (2) : Instr), [], [(2, 0)], 56),
  (56, (.if_icmp .ne (16) : Instr), [72], [], 59),
  (59, (.iload_n 1 : Instr), [], [], 60),
  (60, (.iconst (3) : Instr), [], [(3, 0)], 61),
  (61, (.if_icmp .ne (7) : Instr), [68], [], 64),
  (64, (.iconst (1) : Instr), [], [(1, 0)], 65),
  (65, (.goto (19) : Instr), [84], [], 68),
  (68, (.iconst (0) : Instr), [], [(0, 0)], 69),
  (69, (.goto (15) : Instr), [84], [], 72),
  (72, (.iload_n 1 : Instr), [], [], 73),
  (73, (.invokestatic 118 : Instr), [0, 56, 1, 0], [], 76),
  (76, (.ifCond .eq (7) : Instr), [83], [], 79),
  (79, (.iconst (1) : Instr), [], [(1, 0)], 80),
  (80, (.goto (4) : Instr), [84], [], 83),
  (83, (.iconst (0) : Instr), [], [(0, 0)], 84),
  (84, (.ireturn : Instr), [0], [], 0)]
/-! HandsAndWaysModel.isShut(I)Z -/
def zc_58 : List (Nat × zE) := [(0, (.iconst (0) : Instr), [], [(0, 0)], 1),
  (1, (.istore_n 2 : Instr), [], [], 2),
  (2, (.iload_n 2 : Instr), [], [], 3),
  (3, (.aload_n 0 : Instr), [], [], 4),
  (4, (.getfield 122 : Instr), [10, 5, 0], [], 7),
  (7, (.if_icmp .ge (33) : Instr), [40], [], 10),
  (10, (.aload_n 0 : Instr), [], [], 11),
  (11, (.getfield 23 : Instr), [10, 6, 3], [], 14),
  (14, (.iload_n 2 : Instr), [], [], 15),
  (15, (.iaload : Instr), [], [], 16),
  (16, (.iload_n 1 : Instr), [], [], 17),
  (17, (.if_icmp .ne (17) : Instr), [34], [], 20),
  (20, (.aload_n 0 : Instr), [], [], 21),
  (21, (.getfield 7 : Instr), [10, 0, 3], [], 24),
  (24, (.bipush (24) : Instr), [], [(24, 0)], 26),
  (26, (.iload_n 2 : Instr), [], [], 27),
  (27, (.iadd : Instr), [], [], 28),
  (28, (.iaload : Instr), [], [], 29),
  (29, (.ifCond .ne (5) : Instr), [34], [], 32),
  (32, (.iconst (1) : Instr), [], [(1, 0)], 33),
  (33, (.ireturn : Instr), [1], [], 34),
  (34, (.iinc 2 (1) : Instr), [], [], 37),
  (37, (.goto (-35) : Instr), [2], [], 40),
  (40, (.iconst (0) : Instr), [], [(0, 0)], 41),
  (41, (.ireturn : Instr), [1], [], 0)]
/-! HandsAndWaysModel.thingIn(II)I -/
def zc_59 : List (Nat × zE) := [(0, (.iconst (0) : Instr), [], [(0, 0)], 1),
  (1, (.istore_n 3 : Instr), [], [], 2),
  (2, (.iload_n 3 : Instr), [], [], 3),
  (3, (.aload_n 0 : Instr), [], [], 4),
  (4, (.getfield 107 : Instr), [10, 8, 0], [], 7),
  (7, (.if_icmp .ge (51) : Instr), [58], [], 10),
  (10, (.aload_n 0 : Instr), [], [], 11),
  (11, (.getfield 7 : Instr), [10, 0, 3], [], 14),
  (14, (.iconst (0) : Instr), [], [(0, 0)], 15),
  (15, (.iload_n 3 : Instr), [], [], 16),
  (16, (.iadd : Instr), [], [], 17),
  (17, (.iaload : Instr), [], [], 18),
  (18, (.istore 4 : Instr), [], [], 20),
  (20, (.iload_n 3 : Instr), [], [], 21),
  (21, (.iload_n 2 : Instr), [], [], 22),
  (22, (.if_icmp .eq (30) : Instr), [52], [], 25),
  (25, (.iload 4 : Instr), [], [], 27),
  (27, (.iconst (-1) : Instr), [], [(-1, 0)], 28),
  (28, (.if_icmp .eq (24) : Instr), [52], [], 31),
  (31, (.iload_n 1 : Instr), [], [], 32),
  (32, (.iload 4 : Instr), [], [], 34),
  (34, (.if_icmp .lt (18) : Instr), [52], [], 37),
  (37, (.iload_n 1 : Instr), [], [], 38),
  (38, (.iload 4 : Instr), [], [], 40),
  (40, (.aload_n 0 : Instr), [], [], 41),
  (41, (.getfield 32 : Instr), [10, 10, 3], [], 44),
  (44, (.iload_n 3 : Instr), [], [], 45),
  (45, (.iaload : Instr), [], [], 46),
  (46, (.iadd : Instr), [], [], 47),
  (47, (.if_icmp .ge (5) : Instr), [52], [], 50),
  (50, (.iload_n 3 : Instr), [], [], 51),
  (51, (.ireturn : Instr), [0], [], 52),
  (52, (.iinc 3 (1) : Instr), [], [], 55),
  (55, (.goto (-53) : Instr), [2], [], 58),
  (58, (.iconst (-1) : Instr), [], [(-1, 0)], 59),
  (59, (.ireturn : Instr), [0], [], 0)]
/-! HandsAndWaysModel.isFree(III)Z -/
def zc_60 : List (Nat × zE) := [(0, (.aload_n 0 : Instr), [], [], 1),
  (1, (.getfield 19 : Instr), [10, 4, 3], [], 4),
  (4, (.iload_n 2 : Instr), [], [], 5),
  (5, (.baload : Instr), [], [], 6),
  (6, (.ifCond .ne (38) : Instr), [44], [], 9),
  (9, (.aload_n 0 : Instr), [], [], 10),
  (10, (.iload_n 2 : Instr), [], [], 11),
  (11, (.invokevirtual 125 : Instr), [1, 58, 2, 10], [], 14),
  (14, (.ifCond .ne (30) : Instr), [44], [], 17),
  (17, (.aload_n 0 : Instr), [], [], 18),
  (18, (.iload_n 2 : Instr), [], [], 19),
  (19, (.iload_n 3 : Instr), [], [], 20),
  (20, (.invokevirtual 128 : Instr), [1, 59, 3, 10], [], 23),
  (23, (.iconst (-1) : Instr), [], [(-1, 0)], 24),
  (24, (.if_icmp .ne (20) : Instr), [44], [], 27),
  (27, (.aload_n 0 : Instr), [], [], 28),
  (28, (.getfield 7 : Instr), [10, 0, 3], [], 31),
  (31, (.bipush (29) : Instr), [], [(29, 0)], 33),
  (33, (.iload_n 1 : Instr), [], [], 34),
  (34, (.isub : Instr), [], [], 35),
  (35, (.iaload : Instr), [], [], 36),
  (36, (.iload_n 2 : Instr), [], [], 37),
  (37, (.if_icmp .eq (7) : Instr), [44], [], 40),
  (40, (.iconst (1) : Instr), [], [(1, 0)], 41),
  (41, (.goto (4) : Instr), [45], [], 44),
  (44, (.iconst (0) : Instr), [], [(0, 0)], 45),
  (45, (.ireturn : Instr), [1], [], 0)]
/-! HandsAndWaysModel.firstX(III)I -/
def zc_61 : List (Nat × zE) := [(0, (.iload_n 1 : Instr), [], [], 1),
  (1, (.iconst (1) : Instr), [], [(1, 0)], 2),
  (2, (.if_icmp .ne (12) : Instr), [14], [], 5),
  (5, (.iload_n 0 : Instr), [], [], 6),
  (6, (.bipush (8) : Instr), [], [(8, 0)], 8),
  (8, (.irem : Instr), [], [], 9),
  (9, (.iload_n 2 : Instr), [], [], 10),
  (10, (.isub : Instr), [], [], 11),
  (11, (.goto (21) : Instr), [32], [], 14),
  (14, (.iload_n 1 : Instr), [], [], 15),
  (15, (.iconst (3) : Instr), [], [(3, 0)], 16),
  (16, (.if_icmp .ne (12) : Instr), [28], [], 19),
  (19, (.iload_n 0 : Instr), [], [], 20),
  (20, (.bipush (8) : Instr), [], [(8, 0)], 22),
  (22, (.irem : Instr), [], [], 23),
  (23, (.iconst (1) : Instr), [], [(1, 0)], 24),
  (24, (.iadd : Instr), [], [], 25),
  (25, (.goto (7) : Instr), [32], [], 28),
  (28, (.iload_n 0 : Instr), [], [], 29),
  (29, (.bipush (8) : Instr), [], [(8, 0)], 31),
  (31, (.irem : Instr), [], [], 32),
  (32, (.ireturn : Instr), [0], [], 0)]
/-! HandsAndWaysModel.rowY(II)I -/
def zc_62 : List (Nat × zE) := [(0, (.iload_n 1 : Instr), [], [], 1),
  (1, (.ifCond .ne (12) : Instr), [13], [], 4),
  (4, (.iload_n 0 : Instr), [], [], 5),
  (5, (.bipush (8) : Instr), [], [(8, 0)], 7),
  (7, (.idiv : Instr), [], [], 8),
  (8, (.iconst (1) : Instr), [], [(1, 0)], 9),
  (9, (.iadd : Instr), [], [], 10),
  (10, (.goto (21) : Instr), [31], [], 13),
  (13, (.iload_n 1 : Instr), [], [], 14),
  (14, (.iconst (2) : Instr), [], [(2, 0)], 15),
  (15, (.if_icmp .ne (12) : Instr), [27], [], 18),
  (18, (.iload_n 0 : Instr), [], [], 19),
  (19, (.bipush (8) : Instr), [], [(8, 0)], 21),
  (21, (.idiv : Instr), [], [], 22),
  (22, (.iconst (1) : Instr), [], [(1, 0)], 23),
  (23, (.isub : Instr), [], [], 24),
  (24, (.goto (7) : Instr), [31], [], 27),
  (27, (.iload_n 0 : Instr), [], [], 28),
  (28, (.bipush (8) : Instr), [], [(8, 0)], 30),
  (30, (.idiv : Instr), [], [], 31),
  (31, (.ireturn : Instr), [0], [], 0)]
/-! HandsAndWaysModel.heldAt(III)I -/
def zc_63 : List (Nat × zE) := [(0, (.iload_n 0 : Instr), [], [], 1),
  (1, (.iload_n 1 : Instr), [], [], 2),
  (2, (.iload_n 2 : Instr), [], [], 3),
  (3, (.invokestatic 131 : Instr), [0, 61, 3, 0], [], 6),
  (6, (.istore_n 3 : Instr), [], [], 7),
  (7, (.iload_n 0 : Instr), [], [], 8),
  (8, (.iload_n 1 : Instr), [], [], 9),
  (9, (.invokestatic 135 : Instr), [0, 62, 2, 0], [], 12),
  (12, (.istore 4 : Instr), [], [], 14),
  (14, (.iload_n 3 : Instr), [], [], 15),
  (15, (.ifCond .lt (33) : Instr), [48], [], 18),
  (18, (.iload_n 3 : Instr), [], [], 19),
  (19, (.iload_n 2 : Instr), [], [], 20),
  (20, (.iadd : Instr), [], [], 21),
  (21, (.bipush (8) : Instr), [], [(8, 0)], 23),
  (23, (.if_icmp .gt (25) : Instr), [48], [], 26),
  (26, (.iload 4 : Instr), [], [], 28),
  (28, (.ifCond .lt (20) : Instr), [48], [], 31),
  (31, (.iload 4 : Instr), [], [], 33),
  (33, (.bipush (8) : Instr), [], [(8, 0)], 35),
  (35, (.if_icmp .ge (13) : Instr), [48], [], 38),
  (38, (.bipush (8) : Instr), [], [(8, 0)], 40),
  (40, (.iload 4 : Instr), [], [], 42),
  (42, (.imul : Instr), [], [], 43),
  (43, (.iload_n 3 : Instr), [], [], 44),
  (44, (.iadd : Instr), [], [], 45),
  (45, (.goto (4) : Instr), [49], [], 48),
  (48, (.iconst (-1) : Instr), [], [(-1, 0)], 49),
  (49, (.ireturn : Instr), [0], [], 0)]
/-! HandsAndWaysModel.stands(IIII)Z -/
def zc_64 : List (Nat × zE) := [(0, (.aload_n 0 : Instr), [], [], 1),
  (1, (.iload_n 1 : Instr), [], [], 2),
  (2, (.iload_n 2 : Instr), [], [], 3),
  (3, (.iload_n 3 : Instr), [], [], 4),
  (4, (.invokevirtual 138 : Instr), [1, 60, 4, 10], [], 7),
  (7, (.ifCond .ne (5) : Instr), [12], [], 10),
  (10, (.iconst (0) : Instr), [], [(0, 0)], 11),
  (11, (.ireturn : Instr), [1], [], 12),
  (12, (.iload_n 3 : Instr), [], [], 13),
  (13, (.iconst (-1) : Instr), [], [(-1, 0)], 14),
  (14, (.if_icmp .ne (5) : Instr), [19], [], 17),
  (17, (.iconst (1) : Instr), [], [(1, 0)], 18),
  (18, (.ireturn : Instr), [1], [], 19),
  (19, (.iload_n 2 : Instr), [], [], 20),
  (20, (.iload 4 : Instr), [], [], 22),
  (22, (.aload_n 0 : Instr), [], [], 23),
  (23, (.getfield 32 : Instr), [10, 10, 3], [], 26),
  (26, (.iload_n 3 : Instr), [], [], 27),
  (27, (.iaload : Instr), [], [], 28),
  (28, (.invokestatic 141 : Instr), [0, 63, 3, 0], [], 31),
  (31, (.istore 5 : Instr), [], [], 33),
  (33, (.iload 5 : Instr), [], [], 35),
  (35, (.iconst (-1) : Instr), [], [(-1, 0)], 36),
  (36, (.if_icmp .ne (5) : Instr), [41], [], 39),
  (39, (.iconst (0) : Instr), [], [(0, 0)], 40),
  (40, (.ireturn : Instr), [1], [], 41),
  (41, (.iconst (0) : Instr), [], [(0, 0)], 42),
  (42, (.istore 6 : Instr), [], [], 44),
  (44, (.iload 6 : Instr), [], [], 46),
  (46, (.aload_n 0 : Instr), [], [], 47),
  (47, (.getfield 32 : Instr), [10, 10, 3], [], 50),
  (50, (.iload_n 3 : Instr), [], [], 51),
  (51, (.iaload : Instr), [], [], 52),
  (52, (.if_icmp .ge (25) : Instr), [77], [], 55),
  (55, (.aload_n 0 : Instr), [], [], 56),
  (56, (.iload_n 1 : Instr), [], [], 57),
  (57, (.iload 5 : Instr), [], [], 59),
  (59, (.iload 6 : Instr), [], [], 61),
  (61, (.iadd : Instr), [], [], 62),
  (62, (.iload_n 3 : Instr), [], [], 63),
  (63, (.invokevirtual 138 : Instr), [1, 60, 4, 10], [], 66),
  (66, (.ifCond .ne (5) : Instr), [71], [], 69),
  (69, (.iconst (0) : Instr), [], [(0, 0)], 70),
  (70, (.ireturn : Instr), [1], [], 71),
  (71, (.iinc 6 (1) : Instr), [], [], 74),
  (74, (.goto (-30) : Instr), [44], [], 77),
  (77, (.iconst (1) : Instr), [], [(1, 0)], 78),
  (78, (.ireturn : Instr), [1], [], 0)]
/-! HandsAndWaysModel.maySide(II)Z -/
def zc_65 : List (Nat × zE) := [(0, (.iload_n 1 : Instr), [], [], 1),
  (1, (.iconst (-1) : Instr), [], [(-1, 0)], 2),
  (2, (.if_icmp .eq (22) : Instr), [24], [], 5),
  (5, (.iload_n 2 : Instr), [], [], 6),
  (6, (.iconst (2) : Instr), [], [(2, 0)], 7),
  (7, (.irem : Instr), [], [], 8),
  (8, (.iconst (1) : Instr), [], [(1, 0)], 9),
  (9, (.if_icmp .eq (15) : Instr), [24], [], 12),
  (12, (.aload_n 0 : Instr), [], [], 13),
  (13, (.getfield 29 : Instr), [10, 9, 3], [], 16),
  (16, (.iload_n 1 : Instr), [], [], 17),
  (17, (.iaload : Instr), [], [], 18),
  (18, (.invokestatic 118 : Instr), [0, 56, 1, 0], [], 21),
  (21, (.ifCond .eq (7) : Instr), [28], [], 24),
  (24, (.iconst (1) : Instr), [], [(1, 0)], 25),
  (25, (.goto (4) : Instr), [29], [], 28),
  (28, (.iconst (0) : Instr), [], [(0, 0)], 29),
  (29, (.ireturn : Instr), [1], [], 0)]
/-! HandsAndWaysModel.spreads(IIII)V -/
def zc_66 : List (Nat × zE) := [(0, (.iconst (0) : Instr), [], [(0, 0)], 1),
  (1, (.istore 5 : Instr), [], [], 3),
  (3, (.iload 5 : Instr), [], [], 5),
  (5, (.bipush (64) : Instr), [], [(64, 0)], 7),
  (7, (.if_icmp .ge (19) : Instr), [26], [], 10),
  (10, (.aload_n 0 : Instr), [], [], 11),
  (11, (.getfield 97 : Instr), [10, 40, 3], [], 14),
  (14, (.iload 5 : Instr), [], [], 16),
  (16, (.sipush (1000) : Instr), [], [(1000, 0)], 19),
  (19, (.iastore : Instr), [], [], 20),
  (20, (.iinc 5 (1) : Instr), [], [], 23),
  (23, (.goto (-20) : Instr), [3], [], 26),
  (26, (.aload_n 0 : Instr), [], [], 27),
  (27, (.getfield 97 : Instr), [10, 40, 3], [], 30),
  (30, (.iload_n 2 : Instr), [], [], 31),
  (31, (.iconst (0) : Instr), [], [(0, 0)], 32),
  (32, (.iastore : Instr), [], [], 33),
  (33, (.aload_n 0 : Instr), [], [], 34),
  (34, (.getfield 100 : Instr), [10, 41, 3], [], 37),
  (37, (.iconst (0) : Instr), [], [(0, 0)], 38),
  (38, (.iload_n 2 : Instr), [], [], 39),
  (39, (.iastore : Instr), [], [], 40),
  (40, (.iconst (1) : Instr), [], [(1, 0)], 41),
  (41, (.istore 5 : Instr), [], [], 43),
  (43, (.iconst (0) : Instr), [], [(0, 0)], 44),
  (44, (.istore 6 : Instr), [], [], 46),
  (46, (.iload 6 : Instr), [], [], 48),
  (48, (.iload 5 : Instr), [], [], 50),
  (50, (.if_icmp .ge (117) : Instr), [167], [], 53),
  (53, (.iconst (0) : Instr), [], [(0, 0)], 54),
  (54, (.istore 7 : Instr), [], [], 56),
  (56, (.iload 7 : Instr), [], [], 58),
  (58, (.iconst (4) : Instr), [], [(4, 0)], 59),
  (59, (.if_icmp .ge (102) : Instr), [161], [], 62),
  (62, (.aload_n 0 : Instr), [], [], 63),
  (63, (.iload_n 3 : Instr), [], [], 64),
  (64, (.iload 7 : Instr), [], [], 66),
  (66, (.invokevirtual 144 : Instr), [1, 65, 3, 10], [], 69),
  (69, (.ifCond .eq (18) : Instr), [87], [], 72),
  (72, (.aload_n 0 : Instr), [], [], 73),
  (73, (.getfield 100 : Instr), [10, 41, 3], [], 76),
  (76, (.iload 6 : Instr), [], [], 78),
  (78, (.iaload : Instr), [], [], 79),
  (79, (.iload 7 : Instr), [], [], 81),
  (81, (.invokestatic 148 : Instr), [0, 53, 2, 0], [], 84),
  (84, (.goto (4) : Instr), [88], [], 87),
  (87, (.iconst (-1) : Instr), [], [(-1, 0)], 88),
  (88, (.istore 8 : Instr), [], [], 90),
  (90, (.iload 8 : Instr), [], [], 92),
  (92, (.iconst (-1) : Instr), [], [(-1, 0)], 93),
  (93, (.if_icmp .eq (62) : Instr), [155], [], 96),
  (96, (.aload_n 0 : Instr), [], [], 97),
  (97, (.getfield 97 : Instr), [10, 40, 3], [], 100),
  (100, (.iload 8 : Instr), [], [], 102),
  (102, (.iaload : Instr), [], [], 103),
  (103, (.sipush (1000) : Instr), [], [(1000, 0)], 106),
  (106, (.if_icmp .ne (49) : Instr), [155], [], 109),
  (109, (.aload_n 0 : Instr), [], [], 110),
  (110, (.iload_n 1 : Instr), [], [], 111),
  (111, (.iload 8 : Instr), [], [], 113),
  (113, (.iload_n 3 : Instr), [], [], 114),
  (114, (.iload 4 : Instr), [], [], 116),
  (116, (.invokevirtual 151 : Instr), [1, 64, 5, 10], [], 119),
  (119, (.ifCond .eq (36) : Instr), [155], [], 122),
  (122, (.aload_n 0 : Instr), [], [], 123),
  (123, (.getfield 97 : Instr), [10, 40, 3], [], 126),
  (126, (.iload 8 : Instr), [], [], 128),
  (128, (.aload_n 0 : Instr), [], [], 129),
  (129, (.getfield 97 : Instr), [10, 40, 3], [], 132),
  (132, (.aload_n 0 : Instr), [], [], 133),
  (133, (.getfield 100 : Instr), [10, 41, 3], [], 136),
  (136, (.iload 6 : Instr), [], [], 138),
  (138, (.iaload : Instr), [], [], 139),
  (139, (.iaload : Instr), [], [], 140),
  (140, (.iconst (1) : Instr), [], [(1, 0)], 141),
  (141, (.iadd : Instr), [], [], 142),
  (142, (.iastore : Instr), [], [], 143),
  (143, (.aload_n 0 : Instr), [], [], 144),
  (144, (.getfield 100 : Instr), [10, 41, 3], [], 147),
  (147, (.iload 5 : Instr), [], [], 149),
  (149, (.iload 8 : Instr), [], [], 151),
  (151, (.iastore : Instr), [], [], 152),
  (152, (.iinc 5 (1) : Instr), [], [], 155),
  (155, (.iinc 7 (1) : Instr), [], [], 158),
  (158, (.goto (-102) : Instr), [56], [], 161),
  (161, (.iinc 6 (1) : Instr), [], [], 164),
  (164, (.goto (-118) : Instr), [46], [], 167),
  (167, (.return_ : Instr), [], [], 0)]
/-! HandsAndWaysModel.spreadsNow(I)V -/
def zc_67 : List (Nat × zE) := [(0, (.aload_n 0 : Instr), [], [], 1),
  (1, (.getfield 7 : Instr), [10, 0, 3], [], 4),
  (4, (.bipush (30) : Instr), [], [(30, 0)], 6),
  (6, (.iload_n 1 : Instr), [], [], 7),
  (7, (.iadd : Instr), [], [], 8),
  (8, (.iaload : Instr), [], [], 9),
  (9, (.istore_n 2 : Instr), [], [], 10),
  (10, (.aload_n 0 : Instr), [], [], 11),
  (11, (.iload_n 1 : Instr), [], [], 12),
  (12, (.aload_n 0 : Instr), [], [], 13),
  (13, (.getfield 7 : Instr), [10, 0, 3], [], 16),
  (16, (.bipush (28) : Instr), [], [(28, 0)], 18),
  (18, (.iload_n 1 : Instr), [], [], 19),
  (19, (.iadd : Instr), [], [], 20),
  (20, (.iaload : Instr), [], [], 21),
  (21, (.iload_n 2 : Instr), [], [], 22),
  (22, (.iload_n 2 : Instr), [], [], 23),
  (23, (.iconst (-1) : Instr), [], [(-1, 0)], 24),
  (24, (.if_icmp .ne (7) : Instr), [31], [], 27),
  (27, (.iconst (-1) : Instr), [], [(-1, 0)], 28),
  (28, (.goto (12) : Instr), [40], [], 31),
  (31, (.aload_n 0 : Instr), [], [], 32),
  (32, (.getfield 7 : Instr), [10, 0, 3], [], 35),
  (35, (.bipush (16) : Instr), [], [(16, 0)], 37),
  (37, (.iload_n 2 : Instr), [], [], 38),
  (38, (.iadd : Instr), [], [], 39),
  (39, (.iaload : Instr), [], [], 40),
  (40, (.invokevirtual 155 : Instr), [1, 66, 5, 10], [], 43),
  (43, (.return_ : Instr), [], [], 0)]
/-! HandsAndWaysModel.isThere(I)Z -/
def zc_68 : List (Nat × zE) := [(0, (.iload_n 1 : Instr), [], [], 1),
  (1, (.invokestatic 159 : Instr), [0, 52, 1, 0], [], 4),
  (4, (.ifCond .eq (20) : Instr), [24], [], 7),
  (7, (.aload_n 0 : Instr), [], [], 8),
  (8, (.getfield 7 : Instr), [10, 0, 3], [], 11),
  (11, (.bipush (28) : Instr), [], [(28, 0)], 13),
  (13, (.iload_n 1 : Instr), [], [], 14),
  (14, (.iadd : Instr), [], [], 15),
  (15, (.iaload : Instr), [], [], 16),
  (16, (.iconst (-1) : Instr), [], [(-1, 0)], 17),
  (17, (.if_icmp .eq (7) : Instr), [24], [], 20),
  (20, (.iconst (1) : Instr), [], [(1, 0)], 21),
  (21, (.goto (4) : Instr), [25], [], 24),
  (24, (.iconst (0) : Instr), [], [(0, 0)], 25),
  (25, (.ireturn : Instr), [1], [], 0)]
/-! HandsAndWaysModel.way(II)I -/
def zc_69 : List (Nat × zE) := [(0, (.aload_n 0 : Instr), [], [], 1),
  (1, (.iload_n 1 : Instr), [], [], 2),
  (2, (.invokevirtual 162 : Instr), [1, 68, 2, 10], [], 5),
  (5, (.ifCond .eq (10) : Instr), [15], [], 8),
  (8, (.iload_n 2 : Instr), [], [], 9),
  (9, (.invokestatic 165 : Instr), [0, 50, 1, 0], [], 12),
  (12, (.ifCond .ne (6) : Instr), [18], [], 15),
  (15, (.bipush (-5) : Instr), [], [(-5, 0)], 17),
  (17, (.ireturn : Instr), [0], [], 18),
  (18, (.aload_n 0 : Instr), [], [], 19),
  (19, (.iload_n 1 : Instr), [], [], 20),
  (20, (.invokevirtual 168 : Instr), [1, 67, 2, 10], [], 23),
  (23, (.aload_n 0 : Instr), [], [], 24),
  (24, (.getfield 97 : Instr), [10, 40, 3], [], 27),
  (27, (.iload_n 2 : Instr), [], [], 28),
  (28, (.iaload : Instr), [], [], 29),
  (29, (.sipush (1000) : Instr), [], [(1000, 0)], 32),
  (32, (.if_icmp .ne (8) : Instr), [40], [], 35),
  (35, (.bipush (-3) : Instr), [], [(-3, 0)], 37),
  (37, (.goto (9) : Instr), [46], [], 40),
  (40, (.aload_n 0 : Instr), [], [], 41),
  (41, (.getfield 97 : Instr), [10, 40, 3], [], 44),
  (44, (.iload_n 2 : Instr), [], [], 45),
  (45, (.iaload : Instr), [], [], 46),
  (46, (.ireturn : Instr), [0], [], 0)]
/-! HandsAndWaysModel.cellOn(III)I -/
def zc_70 : List (Nat × zE) := [(0, (.aload_n 0 : Instr), [], [], 1),
  (1, (.getfield 7 : Instr), [10, 0, 3], [], 4),
  (4, (.bipush (30) : Instr), [], [(30, 0)], 6),
  (6, (.iload_n 1 : Instr), [], [], 7),
  (7, (.iadd : Instr), [], [], 8),
  (8, (.iaload : Instr), [], [], 9),
  (9, (.istore 4 : Instr), [], [], 11),
  (11, (.iload_n 2 : Instr), [], [], 12),
  (12, (.istore 5 : Instr), [], [], 14),
  (14, (.aload_n 0 : Instr), [], [], 15),
  (15, (.getfield 97 : Instr), [10, 40, 3], [], 18),
  (18, (.iload 5 : Instr), [], [], 20),
  (20, (.iaload : Instr), [], [], 21),
  (21, (.iload_n 3 : Instr), [], [], 22),
  (22, (.if_icmp .le (70) : Instr), [92], [], 25),
  (25, (.iconst (0) : Instr), [], [(0, 0)], 26),
  (26, (.istore 6 : Instr), [], [], 28),
  (28, (.aload_n 0 : Instr), [], [], 29),
  (29, (.iload 4 : Instr), [], [], 31),
  (31, (.iload 6 : Instr), [], [], 33),
  (33, (.invokevirtual 144 : Instr), [1, 65, 3, 10], [], 36),
  (36, (.ifCond .eq (38) : Instr), [74], [], 39),
  (39, (.iload 5 : Instr), [], [], 41),
  (41, (.iload 6 : Instr), [], [], 43),
  (43, (.invokestatic 148 : Instr), [0, 53, 2, 0], [], 46),
  (46, (.iconst (-1) : Instr), [], [(-1, 0)], 47),
  (47, (.if_icmp .eq (27) : Instr), [74], [], 50),
  (50, (.aload_n 0 : Instr), [], [], 51),
  (51, (.getfield 97 : Instr), [10, 40, 3], [], 54),
  (54, (.iload 5 : Instr), [], [], 56),
  (56, (.iload 6 : Instr), [], [], 58),
  (58, (.invokestatic 148 : Instr), [0, 53, 2, 0], [], 61),
  (61, (.iaload : Instr), [], [], 62),
  (62, (.aload_n 0 : Instr), [], [], 63),
  (63, (.getfield 97 : Instr), [10, 40, 3], [], 66),
  (66, (.iload 5 : Instr), [], [], 68),
  (68, (.iaload : Instr), [], [], 69),
  (69, (.iconst (1) : Instr), [], [(1, 0)], 70),
  (70, (.isub : Instr), [], [], 71),
  (71, (.if_icmp .eq (9) : Instr), [80], [], 74),
  (74, (.iinc 6 (1) : Instr), [], [], 77),
  (77, (.goto (-49) : Instr), [28], [], 80),
  (80, (.iload 5 : Instr), [], [], 82),
  (82, (.iload 6 : Instr), [], [], 84),
  (84, (.invokestatic 148 : Instr), [0, 53, 2, 0], [], 87),
  (87, (.istore 5 : Instr), [], [], 89),
  (89, (.goto (-75) : Instr), [14], [], 92),
  (92, (.iload 5 : Instr), [], [], 94),
  (94, (.ireturn : Instr), [0], [], 0)]
/-! HandsAndWaysModel.step(III)I -/
def zc_71 : List (Nat × zE) := [(0, (.aload_n 0 : Instr), [], [], 1),
  (1, (.iload_n 1 : Instr), [], [], 2),
  (2, (.invokevirtual 162 : Instr), [1, 68, 2, 10], [], 5),
  (5, (.ifCond .eq (10) : Instr), [15], [], 8),
  (8, (.iload_n 2 : Instr), [], [], 9),
  (9, (.invokestatic 165 : Instr), [0, 50, 1, 0], [], 12),
  (12, (.ifCond .ne (6) : Instr), [18], [], 15),
  (15, (.bipush (-5) : Instr), [], [(-5, 0)], 17),
  (17, (.ireturn : Instr), [0], [], 18),
  (18, (.aload_n 0 : Instr), [], [], 19),
  (19, (.iload_n 1 : Instr), [], [], 20),
  (20, (.invokevirtual 168 : Instr), [1, 67, 2, 10], [], 23),
  (23, (.aload_n 0 : Instr), [], [], 24),
  (24, (.getfield 97 : Instr), [10, 40, 3], [], 27),
  (27, (.iload_n 2 : Instr), [], [], 28),
  (28, (.iaload : Instr), [], [], 29),
  (29, (.sipush (1000) : Instr), [], [(1000, 0)], 32),
  (32, (.if_icmp .eq (17) : Instr), [49], [], 35),
  (35, (.iload_n 3 : Instr), [], [], 36),
  (36, (.iconst (0) : Instr), [], [(0, 0)], 37),
  (37, (.aload_n 0 : Instr), [], [], 38),
  (38, (.getfield 97 : Instr), [10, 40, 3], [], 41),
  (41, (.iload_n 2 : Instr), [], [], 42),
  (42, (.iaload : Instr), [], [], 43),
  (43, (.invokestatic 103 : Instr), [0, 49, 3, 0], [], 46),
  (46, (.ifCond .ne (8) : Instr), [54], [], 49),
  (49, (.bipush (-3) : Instr), [], [(-3, 0)], 51),
  (51, (.goto (10) : Instr), [61], [], 54),
  (54, (.aload_n 0 : Instr), [], [], 55),
  (55, (.iload_n 1 : Instr), [], [], 56),
  (56, (.iload_n 2 : Instr), [], [], 57),
  (57, (.iload_n 3 : Instr), [], [], 58),
  (58, (.invokevirtual 172 : Instr), [1, 70, 4, 10], [], 61),
  (61, (.ireturn : Instr), [0], [], 0)]
/-! HandsAndWaysModel.barIn(III)I -/
def zc_72 : List (Nat × zE) := [(0, (.iconst (0) : Instr), [], [(0, 0)], 1),
  (1, (.istore 4 : Instr), [], [], 3),
  (3, (.iconst (0) : Instr), [], [(0, 0)], 4),
  (4, (.istore 5 : Instr), [], [], 6),
  (6, (.iload 5 : Instr), [], [], 8),
  (8, (.aload_n 0 : Instr), [], [], 9),
  (9, (.getfield 122 : Instr), [10, 5, 0], [], 12),
  (12, (.if_icmp .ge (48) : Instr), [60], [], 15),
  (15, (.iload 4 : Instr), [], [], 17),
  (17, (.aload_n 0 : Instr), [], [], 18),
  (18, (.getfield 23 : Instr), [10, 6, 3], [], 21),
  (21, (.iload 5 : Instr), [], [], 23),
  (23, (.iaload : Instr), [], [], 24),
  (24, (.iload_n 2 : Instr), [], [], 25),
  (25, (.if_icmp .ne (25) : Instr), [50], [], 28),
  (28, (.aload_n 0 : Instr), [], [], 29),
  (29, (.getfield 7 : Instr), [10, 0, 3], [], 32),
  (32, (.bipush (24) : Instr), [], [(24, 0)], 34),
  (34, (.iload 5 : Instr), [], [], 36),
  (36, (.iadd : Instr), [], [], 37),
  (37, (.iaload : Instr), [], [], 38),
  (38, (.ifCond .ne (12) : Instr), [50], [], 41),
  (41, (.sipush (256) : Instr), [], [(256, 0)], 44),
  (44, (.iload 5 : Instr), [], [], 46),
  (46, (.ishl : Instr), [], [], 47),
  (47, (.goto (4) : Instr), [51], [], 50),
  (50, (.iconst (0) : Instr), [], [(0, 0)], 51),
  (51, (.ior : Instr), [], [], 52),
  (52, (.istore 4 : Instr), [], [], 54),
  (54, (.iinc 5 (1) : Instr), [], [], 57),
  (57, (.goto (-51) : Instr), [6], [], 60),
  (60, (.aload_n 0 : Instr), [], [], 61),
  (61, (.iload_n 2 : Instr), [], [], 62),
  (62, (.iload_n 3 : Instr), [], [], 63),
  (63, (.invokevirtual 128 : Instr), [1, 59, 3, 10], [], 66),
  (66, (.istore 5 : Instr), [], [], 68),
  (68, (.iload 4 : Instr), [], [], 70),
  (70, (.iload 5 : Instr), [], [], 72),
  (72, (.iconst (-1) : Instr), [], [(-1, 0)], 73),
  (73, (.if_icmp .ne (7) : Instr), [80], [], 76),
  (76, (.iconst (0) : Instr), [], [(0, 0)], 77),
  (77, (.goto (7) : Instr), [84], [], 80),
  (80, (.iconst (1) : Instr), [], [(1, 0)], 81),
  (81, (.iload 5 : Instr), [], [], 83),
  (83, (.ishl : Instr), [], [], 84),
  (84, (.ior : Instr), [], [], 85),
  (85, (.istore 4 : Instr), [], [], 87),
  (87, (.iload 4 : Instr), [], [], 89),
  (89, (.aload_n 0 : Instr), [], [], 90),
  (90, (.getfield 7 : Instr), [10, 0, 3], [], 93),
  (93, (.bipush (29) : Instr), [], [(29, 0)], 95),
  (95, (.iload_n 1 : Instr), [], [], 96),
  (96, (.isub : Instr), [], [], 97),
  (97, (.iaload : Instr), [], [], 98),
  (98, (.iload_n 2 : Instr), [], [], 99),
  (99, (.if_icmp .ne (9) : Instr), [108], [], 102),
  (102, (.sipush (4096) : Instr), [], [(4096, 0)], 105),
  (105, (.goto (4) : Instr), [109], [], 108),
  (108, (.iconst (0) : Instr), [], [(0, 0)], 109),
  (109, (.ior : Instr), [], [], 110),
  (110, (.ireturn : Instr), [0], [], 0)]
/-! HandsAndWaysModel.barsAt(III)I -/
def zc_73 : List (Nat × zE) := [(0, (.aload_n 0 : Instr), [], [], 1),
  (1, (.iload_n 1 : Instr), [], [], 2),
  (2, (.iload_n 2 : Instr), [], [], 3),
  (3, (.iload_n 3 : Instr), [], [], 4),
  (4, (.iload_n 3 : Instr), [], [], 5),
  (5, (.iconst (-1) : Instr), [], [(-1, 0)], 6),
  (6, (.if_icmp .ne (7) : Instr), [13], [], 9),
  (9, (.iconst (-1) : Instr), [], [(-1, 0)], 10),
  (10, (.goto (12) : Instr), [22], [], 13),
  (13, (.aload_n 0 : Instr), [], [], 14),
  (14, (.getfield 7 : Instr), [10, 0, 3], [], 17),
  (17, (.bipush (16) : Instr), [], [(16, 0)], 19),
  (19, (.iload_n 3 : Instr), [], [], 20),
  (20, (.iadd : Instr), [], [], 21),
  (21, (.iaload : Instr), [], [], 22),
  (22, (.invokevirtual 151 : Instr), [1, 64, 5, 10], [], 25),
  (25, (.ifCond .eq (5) : Instr), [30], [], 28),
  (28, (.iconst (0) : Instr), [], [(0, 0)], 29),
  (29, (.ireturn : Instr), [0], [], 30),
  (30, (.aload_n 0 : Instr), [], [], 31),
  (31, (.iload_n 1 : Instr), [], [], 32),
  (32, (.iload_n 2 : Instr), [], [], 33),
  (33, (.iload_n 3 : Instr), [], [], 34),
  (34, (.invokevirtual 175 : Instr), [1, 72, 4, 10], [], 37),
  (37, (.istore 4 : Instr), [], [], 39),
  (39, (.iload_n 3 : Instr), [], [], 40),
  (40, (.iconst (-1) : Instr), [], [(-1, 0)], 41),
  (41, (.if_icmp .eq (110) : Instr), [151], [], 44),
  (44, (.iload_n 2 : Instr), [], [], 45),
  (45, (.aload_n 0 : Instr), [], [], 46),
  (46, (.getfield 7 : Instr), [10, 0, 3], [], 49),
  (49, (.bipush (16) : Instr), [], [(16, 0)], 51),
  (51, (.iload_n 3 : Instr), [], [], 52),
  (52, (.iadd : Instr), [], [], 53),
  (53, (.iaload : Instr), [], [], 54),
  (54, (.aload_n 0 : Instr), [], [], 55),
  (55, (.getfield 32 : Instr), [10, 10, 3], [], 58),
  (58, (.iload_n 3 : Instr), [], [], 59),
  (59, (.iaload : Instr), [], [], 60),
  (60, (.invokestatic 131 : Instr), [0, 61, 3, 0], [], 63),
  (63, (.istore 5 : Instr), [], [], 65),
  (65, (.iload_n 2 : Instr), [], [], 66),
  (66, (.aload_n 0 : Instr), [], [], 67),
  (67, (.getfield 7 : Instr), [10, 0, 3], [], 70),
  (70, (.bipush (16) : Instr), [], [(16, 0)], 72),
  (72, (.iload_n 3 : Instr), [], [], 73),
  (73, (.iadd : Instr), [], [], 74),
  (74, (.iaload : Instr), [], [], 75),
  (75, (.invokestatic 135 : Instr), [0, 62, 2, 0], [], 78),
  (78, (.istore 6 : Instr), [], [], 80),
  (80, (.iconst (0) : Instr), [], [(0, 0)], 81),
  (81, (.istore 7 : Instr), [], [], 83),
  (83, (.iload 7 : Instr), [], [], 85),
  (85, (.aload_n 0 : Instr), [], [], 86),
  (86, (.getfield 32 : Instr), [10, 10, 3], [], 89),
  (89, (.iload_n 3 : Instr), [], [], 90),
  (90, (.iaload : Instr), [], [], 91),
  (91, (.if_icmp .ge (60) : Instr), [151], [], 94),
  (94, (.iload 4 : Instr), [], [], 96),
  (96, (.iload 5 : Instr), [], [], 98),
  (98, (.iload 7 : Instr), [], [], 100),
  (100, (.iadd : Instr), [], [], 101),
  (101, (.iconst (0) : Instr), [], [(0, 0)], 102),
  (102, (.bipush (7) : Instr), [], [(7, 0)], 104),
  (104, (.invokestatic 103 : Instr), [0, 49, 3, 0], [], 107),
  (107, (.ifCond .eq (34) : Instr), [141], [], 110),
  (110, (.iload 6 : Instr), [], [], 112),
  (112, (.iconst (0) : Instr), [], [(0, 0)], 113),
  (113, (.bipush (7) : Instr), [], [(7, 0)], 115),
  (115, (.invokestatic 103 : Instr), [0, 49, 3, 0], [], 118),
  (118, (.ifCond .eq (23) : Instr), [141], [], 121),
  (121, (.aload_n 0 : Instr), [], [], 122),
  (122, (.iload_n 1 : Instr), [], [], 123),
  (123, (.bipush (8) : Instr), [], [(8, 0)], 125),
  (125, (.iload 6 : Instr), [], [], 127),
  (127, (.imul : Instr), [], [], 128),
  (128, (.iload 5 : Instr), [], [], 130),
  (130, (.iadd : Instr), [], [], 131),
  (131, (.iload 7 : Instr), [], [], 133),
  (133, (.iadd : Instr), [], [], 134),
  (134, (.iload_n 3 : Instr), [], [], 135),
  (135, (.invokevirtual 175 : Instr), [1, 72, 4, 10], [], 138),
  (138, (.goto (4) : Instr), [142], [], 141),
  (141, (.iconst (0) : Instr), [], [(0, 0)], 142),
  (142, (.ior : Instr), [], [], 143),
  (143, (.istore 4 : Instr), [], [], 145),
  (145, (.iinc 7 (1) : Instr), [], [], 148),
  (148, (.goto (-65) : Instr), [83], [], 151),
  (151, (.iload 4 : Instr), [], [], 153),
  (153, (.ireturn : Instr), [0], [], 0)]
/-! HandsAndWaysModel.reached(II)I -/
def zc_74 : List (Nat × zE) := [(0, (.aload_n 0 : Instr), [], [], 1),
  (1, (.iload_n 1 : Instr), [], [], 2),
  (2, (.invokevirtual 162 : Instr), [1, 68, 2, 10], [], 5),
  (5, (.ifCond .ne (6) : Instr), [11], [], 8),
  (8, (.bipush (-5) : Instr), [], [(-5, 0)], 10),
  (10, (.ireturn : Instr), [0], [], 11),
  (11, (.iload_n 2 : Instr), [], [], 12),
  (12, (.iconst (0) : Instr), [], [(0, 0)], 13),
  (13, (.iconst (1) : Instr), [], [(1, 0)], 14),
  (14, (.invokestatic 103 : Instr), [0, 49, 3, 0], [], 17),
  (17, (.ifCond .ne (6) : Instr), [23], [], 20),
  (20, (.bipush (-2) : Instr), [], [(-2, 0)], 22),
  (22, (.ireturn : Instr), [0], [], 23),
  (23, (.aload_n 0 : Instr), [], [], 24),
  (24, (.iload_n 1 : Instr), [], [], 25),
  (25, (.invokevirtual 168 : Instr), [1, 67, 2, 10], [], 28),
  (28, (.iconst (0) : Instr), [], [(0, 0)], 29),
  (29, (.istore_n 3 : Instr), [], [], 30),
  (30, (.iconst (0) : Instr), [], [(0, 0)], 31),
  (31, (.istore 4 : Instr), [], [], 33),
  (33, (.aload_n 0 : Instr), [], [], 34),
  (34, (.getfield 7 : Instr), [10, 0, 3], [], 37),
  (37, (.bipush (30) : Instr), [], [(30, 0)], 39),
  (39, (.iload_n 1 : Instr), [], [], 40),
  (40, (.iadd : Instr), [], [], 41),
  (41, (.iaload : Instr), [], [], 42),
  (42, (.istore 5 : Instr), [], [], 44),
  (44, (.iconst (0) : Instr), [], [(0, 0)], 45),
  (45, (.istore 6 : Instr), [], [], 47),
  (47, (.iload 6 : Instr), [], [], 49),
  (49, (.bipush (64) : Instr), [], [(64, 0)], 51),
  (51, (.if_icmp .ge (111) : Instr), [162], [], 54),
  (54, (.iload_n 3 : Instr), [], [], 55),
  (55, (.aload_n 0 : Instr), [], [], 56),
  (56, (.getfield 97 : Instr), [10, 40, 3], [], 59),
  (59, (.iload 6 : Instr), [], [], 61),
  (61, (.iaload : Instr), [], [], 62),
  (62, (.sipush (1000) : Instr), [], [(1000, 0)], 65),
  (65, (.if_icmp .ge (7) : Instr), [72], [], 68),
  (68, (.iconst (1) : Instr), [], [(1, 0)], 69),
  (69, (.goto (4) : Instr), [73], [], 72),
  (72, (.iconst (0) : Instr), [], [(0, 0)], 73),
  (73, (.iadd : Instr), [], [], 74),
  (74, (.istore_n 3 : Instr), [], [], 75),
  (75, (.iconst (0) : Instr), [], [(0, 0)], 76),
  (76, (.istore 7 : Instr), [], [], 78),
  (78, (.iload 7 : Instr), [], [], 80),
  (80, (.iconst (4) : Instr), [], [(4, 0)], 81),
  (81, (.if_icmp .ge (75) : Instr), [156], [], 84),
  (84, (.aload_n 0 : Instr), [], [], 85),
  (85, (.getfield 97 : Instr), [10, 40, 3], [], 88),
  (88, (.iload 6 : Instr), [], [], 90),
  (90, (.iaload : Instr), [], [], 91),
  (91, (.sipush (1000) : Instr), [], [(1000, 0)], 94),
  (94, (.if_icmp .ge (62) : Instr), [156], [], 97),
  (97, (.iload_n 2 : Instr), [], [], 98),
  (98, (.iconst (1) : Instr), [], [(1, 0)], 99),
  (99, (.if_icmp .ne (57) : Instr), [156], [], 102),
  (102, (.aload_n 0 : Instr), [], [], 103),
  (103, (.iload 5 : Instr), [], [], 105),
  (105, (.iload 7 : Instr), [], [], 107),
  (107, (.invokevirtual 144 : Instr), [1, 65, 3, 10], [], 110),
  (110, (.ifCond .eq (13) : Instr), [123], [], 113),
  (113, (.iload 6 : Instr), [], [], 115),
  (115, (.iload 7 : Instr), [], [], 117),
  (117, (.invokestatic 148 : Instr), [0, 53, 2, 0], [], 120),
  (120, (.goto (4) : Instr), [124], [], 123),
  (123, (.iconst (-1) : Instr), [], [(-1, 0)], 124),
  (124, (.istore 8 : Instr), [], [], 126),
  (126, (.iload 4 : Instr), [], [], 128),
  (128, (.iload 8 : Instr), [], [], 130),
  (130, (.iconst (-1) : Instr), [], [(-1, 0)], 131),
  (131, (.if_icmp .ne (7) : Instr), [138], [], 134),
  (134, (.iconst (0) : Instr), [], [(0, 0)], 135),
  (135, (.goto (12) : Instr), [147], [], 138),
  (138, (.aload_n 0 : Instr), [], [], 139),
  (139, (.iload_n 1 : Instr), [], [], 140),
  (140, (.iload 8 : Instr), [], [], 142),
  (142, (.iload 5 : Instr), [], [], 144),
  (144, (.invokevirtual 178 : Instr), [1, 73, 4, 10], [], 147),
  (147, (.ior : Instr), [], [], 148),
  (148, (.istore 4 : Instr), [], [], 150),
  (150, (.iinc 7 (1) : Instr), [], [], 153),
  (153, (.goto (-75) : Instr), [78], [], 156),
  (156, (.iinc 6 (1) : Instr), [], [], 159),
  (159, (.goto (-112) : Instr), [47], [], 162),
  (162, (.iload_n 2 : Instr), [], [], 163),
  (163, (.ifCond .ne (7) : Instr), [170], [], 166),
  (166, (.iload_n 3 : Instr), [], [], 167),
  (167, (.goto (5) : Instr), [172], [], 170),
  (170, (.iload 4 : Instr), [], [], 172),
  (172, (.ireturn : Instr), [0], [], 0)]
/-! HandsAndWaysModel.barred(II)I -/
def zc_75 : List (Nat × zE) := [(0, (.aload_n 0 : Instr), [], [], 1),
  (1, (.iload_n 1 : Instr), [], [], 2),
  (2, (.invokevirtual 162 : Instr), [1, 68, 2, 10], [], 5),
  (5, (.ifCond .eq (10) : Instr), [15], [], 8),
  (8, (.iload_n 2 : Instr), [], [], 9),
  (9, (.invokestatic 165 : Instr), [0, 50, 1, 0], [], 12),
  (12, (.ifCond .ne (6) : Instr), [18], [], 15),
  (15, (.bipush (-5) : Instr), [], [(-5, 0)], 17),
  (17, (.ireturn : Instr), [0], [], 18),
  (18, (.aload_n 0 : Instr), [], [], 19),
  (19, (.iload_n 1 : Instr), [], [], 20),
  (20, (.invokevirtual 168 : Instr), [1, 67, 2, 10], [], 23),
  (23, (.iconst (0) : Instr), [], [(0, 0)], 24),
  (24, (.istore_n 3 : Instr), [], [], 25),
  (25, (.aload_n 0 : Instr), [], [], 26),
  (26, (.getfield 97 : Instr), [10, 40, 3], [], 29),
  (29, (.iload_n 2 : Instr), [], [], 30),
  (30, (.iaload : Instr), [], [], 31),
  (31, (.sipush (1000) : Instr), [], [(1000, 0)], 34),
  (34, (.if_icmp .ge (7) : Instr), [41], [], 37),
  (37, (.iconst (1) : Instr), [], [(1, 0)], 38),
  (38, (.goto (4) : Instr), [42], [], 41),
  (41, (.iconst (0) : Instr), [], [(0, 0)], 42),
  (42, (.istore 4 : Instr), [], [], 44),
  (44, (.iconst (0) : Instr), [], [(0, 0)], 45),
  (45, (.istore 5 : Instr), [], [], 47),
  (47, (.iload 5 : Instr), [], [], 49),
  (49, (.aload_n 0 : Instr), [], [], 50),
  (50, (.getfield 107 : Instr), [10, 8, 0], [], 53),
  (53, (.if_icmp .ge (101) : Instr), [154], [], 56),
  (56, (.iload 4 : Instr), [], [], 58),
  (58, (.ifCond .ne (96) : Instr), [154], [], 61),
  (61, (.aload_n 0 : Instr), [], [], 62),
  (62, (.getfield 7 : Instr), [10, 0, 3], [], 65),
  (65, (.bipush (8) : Instr), [], [(8, 0)], 67),
  (67, (.iload 5 : Instr), [], [], 69),
  (69, (.iadd : Instr), [], [], 70),
  (70, (.iaload : Instr), [], [], 71),
  (71, (.iconst (-1) : Instr), [], [(-1, 0)], 72),
  (72, (.if_icmp .ne (76) : Instr), [148], [], 75),
  (75, (.aload_n 0 : Instr), [], [], 76),
  (76, (.getfield 7 : Instr), [10, 0, 3], [], 79),
  (79, (.iconst (0) : Instr), [], [(0, 0)], 80),
  (80, (.iload 5 : Instr), [], [], 82),
  (82, (.iadd : Instr), [], [], 83),
  (83, (.iaload : Instr), [], [], 84),
  (84, (.iconst (-1) : Instr), [], [(-1, 0)], 85),
  (85, (.if_icmp .eq (63) : Instr), [148], [], 88),
  (88, (.aload_n 0 : Instr), [], [], 89),
  (89, (.getfield 7 : Instr), [10, 0, 3], [], 92),
  (92, (.iconst (0) : Instr), [], [(0, 0)], 93),
  (93, (.iload 5 : Instr), [], [], 95),
  (95, (.iadd : Instr), [], [], 96),
  (96, (.iaload : Instr), [], [], 97),
  (97, (.istore 6 : Instr), [], [], 99),
  (99, (.aload_n 0 : Instr), [], [], 100),
  (100, (.getfield 7 : Instr), [10, 0, 3], [], 103),
  (103, (.iconst (0) : Instr), [], [(0, 0)], 104),
  (104, (.iload 5 : Instr), [], [], 106),
  (106, (.iadd : Instr), [], [], 107),
  (107, (.iconst (-1) : Instr), [], [(-1, 0)], 108),
  (108, (.iastore : Instr), [], [], 109),
  (109, (.aload_n 0 : Instr), [], [], 110),
  (110, (.iload_n 1 : Instr), [], [], 111),
  (111, (.invokevirtual 168 : Instr), [1, 67, 2, 10], [], 114),
  (114, (.iload_n 3 : Instr), [], [], 115),
  (115, (.aload_n 0 : Instr), [], [], 116),
  (116, (.getfield 97 : Instr), [10, 40, 3], [], 119),
  (119, (.iload_n 2 : Instr), [], [], 120),
  (120, (.iaload : Instr), [], [], 121),
  (121, (.sipush (1000) : Instr), [], [(1000, 0)], 124),
  (124, (.if_icmp .ge (10) : Instr), [134], [], 127),
  (127, (.iconst (1) : Instr), [], [(1, 0)], 128),
  (128, (.iload 5 : Instr), [], [], 130),
  (130, (.ishl : Instr), [], [], 131),
  (131, (.goto (4) : Instr), [135], [], 134),
  (134, (.iconst (0) : Instr), [], [(0, 0)], 135),
  (135, (.ior : Instr), [], [], 136),
  (136, (.istore_n 3 : Instr), [], [], 137),
  (137, (.aload_n 0 : Instr), [], [], 138),
  (138, (.getfield 7 : Instr), [10, 0, 3], [], 141),
  (141, (.iconst (0) : Instr), [], [(0, 0)], 142),
  (142, (.iload 5 : Instr), [], [], 144),
  (144, (.iadd : Instr), [], [], 145),
  (145, (.iload 6 : Instr), [], [], 147),
  (147, (.iastore : Instr), [], [], 148),
  (148, (.iinc 5 (1) : Instr), [], [], 151),
  (151, (.goto (-104) : Instr), [47], [], 154),
  (154, (.iload_n 3 : Instr), [], [], 155),
  (155, (.ireturn : Instr), [0], [], 0)]
/-! HandsAndWaysModel.isHandIn(I)Z -/
def zc_76 : List (Nat × zE) := [(0, (.aload_n 0 : Instr), [], [], 1),
  (1, (.getfield 7 : Instr), [10, 0, 3], [], 4),
  (4, (.bipush (28) : Instr), [], [(28, 0)], 6),
  (6, (.iaload : Instr), [], [], 7),
  (7, (.iload_n 1 : Instr), [], [], 8),
  (8, (.if_icmp .eq (14) : Instr), [22], [], 11),
  (11, (.aload_n 0 : Instr), [], [], 12),
  (12, (.getfield 7 : Instr), [10, 0, 3], [], 15),
  (15, (.bipush (29) : Instr), [], [(29, 0)], 17),
  (17, (.iaload : Instr), [], [], 18),
  (18, (.iload_n 1 : Instr), [], [], 19),
  (19, (.if_icmp .ne (7) : Instr), [26], [], 22),
  (22, (.iconst (1) : Instr), [], [(1, 0)], 23),
  (23, (.goto (4) : Instr), [27], [], 26),
  (26, (.iconst (0) : Instr), [], [(0, 0)], 27),
  (27, (.ireturn : Instr), [1], [], 0)]
/-! HandsAndWaysModel.wall(II)I -/
def zc_77 : List (Nat × zE) := [(0, (.iload_n 1 : Instr), [], [], 1),
  (1, (.invokestatic 165 : Instr), [0, 50, 1, 0], [], 4),
  (4, (.ifCond .ne (5) : Instr), [9], [], 7),
  (7, (.iconst (-1) : Instr), [], [(-1, 0)], 8),
  (8, (.ireturn : Instr), [0], [], 9),
  (9, (.iload_n 2 : Instr), [], [], 10),
  (10, (.iconst (0) : Instr), [], [(0, 0)], 11),
  (11, (.iconst (1) : Instr), [], [(1, 0)], 12),
  (12, (.invokestatic 103 : Instr), [0, 49, 3, 0], [], 15),
  (15, (.ifCond .ne (6) : Instr), [21], [], 18),
  (18, (.bipush (-2) : Instr), [], [(-2, 0)], 20),
  (20, (.ireturn : Instr), [0], [], 21),
  (21, (.iload_n 2 : Instr), [], [], 22),
  (22, (.iconst (1) : Instr), [], [(1, 0)], 23),
  (23, (.if_icmp .ne (24) : Instr), [47], [], 26),
  (26, (.aload_n 0 : Instr), [], [], 27),
  (27, (.iload_n 1 : Instr), [], [], 28),
  (28, (.iconst (-1) : Instr), [], [(-1, 0)], 29),
  (29, (.invokevirtual 128 : Instr), [1, 59, 3, 10], [], 32),
  (32, (.iconst (-1) : Instr), [], [(-1, 0)], 33),
  (33, (.if_icmp .ne (11) : Instr), [44], [], 36),
  (36, (.aload_n 0 : Instr), [], [], 37),
  (37, (.iload_n 1 : Instr), [], [], 38),
  (38, (.invokevirtual 181 : Instr), [1, 76, 2, 10], [], 41),
  (41, (.ifCond .eq (6) : Instr), [47], [], 44),
  (44, (.bipush (-3) : Instr), [], [(-3, 0)], 46),
  (46, (.ireturn : Instr), [0], [], 47),
  (47, (.aload_n 0 : Instr), [], [], 48),
  (48, (.getfield 19 : Instr), [10, 4, 3], [], 51),
  (51, (.iload_n 1 : Instr), [], [], 52),
  (52, (.baload : Instr), [], [], 53),
  (53, (.ifCond .eq (7) : Instr), [60], [], 56),
  (56, (.iconst (1) : Instr), [], [(1, 0)], 57),
  (57, (.goto (4) : Instr), [61], [], 60),
  (60, (.iconst (0) : Instr), [], [(0, 0)], 61),
  (61, (.istore_n 3 : Instr), [], [], 62),
  (62, (.aload_n 0 : Instr), [], [], 63),
  (63, (.getfield 19 : Instr), [10, 4, 3], [], 66),
  (66, (.iload_n 1 : Instr), [], [], 67),
  (67, (.iload_n 2 : Instr), [], [], 68),
  (68, (.iconst (1) : Instr), [], [(1, 0)], 69),
  (69, (.if_icmp .ne (7) : Instr), [76], [], 72),
  (72, (.iconst (1) : Instr), [], [(1, 0)], 73),
  (73, (.goto (4) : Instr), [77], [], 76),
  (76, (.iconst (0) : Instr), [], [(0, 0)], 77),
  (77, (.bastore : Instr), [], [], 78),
  (78, (.iload_n 3 : Instr), [], [], 79),
  (79, (.ireturn : Instr), [0], [], 0)]
/-! HandsAndWaysModel.door(II)I -/
def zc_78 : List (Nat × zE) := [(0, (.iload_n 1 : Instr), [], [], 1),
  (1, (.invokestatic 165 : Instr), [0, 50, 1, 0], [], 4),
  (4, (.ifCond .eq (16) : Instr), [20], [], 7),
  (7, (.iload_n 2 : Instr), [], [], 8),
  (8, (.iconst (-1) : Instr), [], [(-1, 0)], 9),
  (9, (.if_icmp .eq (13) : Instr), [22], [], 12),
  (12, (.aload_n 0 : Instr), [], [], 13),
  (13, (.iload_n 2 : Instr), [], [], 14),
  (14, (.invokevirtual 184 : Instr), [1, 51, 2, 10], [], 17),
  (17, (.ifCond .ne (5) : Instr), [22], [], 20),
  (20, (.iconst (-1) : Instr), [], [(-1, 0)], 21),
  (21, (.ireturn : Instr), [0], [], 22),
  (22, (.iload_n 2 : Instr), [], [], 23),
  (23, (.iconst (-1) : Instr), [], [(-1, 0)], 24),
  (24, (.if_icmp .eq (16) : Instr), [40], [], 27),
  (27, (.aload_n 0 : Instr), [], [], 28),
  (28, (.getfield 29 : Instr), [10, 9, 3], [], 31),
  (31, (.iload_n 2 : Instr), [], [], 32),
  (32, (.iaload : Instr), [], [], 33),
  (33, (.iconst (3) : Instr), [], [(3, 0)], 34),
  (34, (.if_icmp .eq (6) : Instr), [40], [], 37),
  (37, (.bipush (-13) : Instr), [], [(-13, 0)], 39),
  (39, (.ireturn : Instr), [0], [], 40),
  (40, (.aload_n 0 : Instr), [], [], 41),
  (41, (.getfield 19 : Instr), [10, 4, 3], [], 44),
  (44, (.iload_n 1 : Instr), [], [], 45),
  (45, (.baload : Instr), [], [], 46),
  (46, (.ifCond .ne (21) : Instr), [67], [], 49),
  (49, (.aload_n 0 : Instr), [], [], 50),
  (50, (.iload_n 1 : Instr), [], [], 51),
  (51, (.iconst (-1) : Instr), [], [(-1, 0)], 52),
  (52, (.invokevirtual 128 : Instr), [1, 59, 3, 10], [], 55),
  (55, (.iconst (-1) : Instr), [], [(-1, 0)], 56),
  (56, (.if_icmp .ne (11) : Instr), [67], [], 59),
  (59, (.aload_n 0 : Instr), [], [], 60),
  (60, (.iload_n 1 : Instr), [], [], 61),
  (61, (.invokevirtual 181 : Instr), [1, 76, 2, 10], [], 64),
  (64, (.ifCond .eq (6) : Instr), [70], [], 67),
  (67, (.bipush (-3) : Instr), [], [(-3, 0)], 69),
  (69, (.ireturn : Instr), [0], [], 70),
  (70, (.aload_n 0 : Instr), [], [], 71),
  (71, (.getfield 122 : Instr), [10, 5, 0], [], 74),
  (74, (.iconst (4) : Instr), [], [(4, 0)], 75),
  (75, (.if_icmp .ne (6) : Instr), [81], [], 78),
  (78, (.bipush (-4) : Instr), [], [(-4, 0)], 80),
  (80, (.ireturn : Instr), [0], [], 81),
  (81, (.aload_n 0 : Instr), [], [], 82),
  (82, (.getfield 23 : Instr), [10, 6, 3], [], 85),
  (85, (.aload_n 0 : Instr), [], [], 86),
  (86, (.getfield 122 : Instr), [10, 5, 0], [], 89),
  (89, (.iload_n 1 : Instr), [], [], 90),
  (90, (.iastore : Instr), [], [], 91),
  (91, (.aload_n 0 : Instr), [], [], 92),
  (92, (.getfield 26 : Instr), [10, 7, 3], [], 95),
  (95, (.aload_n 0 : Instr), [], [], 96),
  (96, (.getfield 122 : Instr), [10, 5, 0], [], 99),
  (99, (.iload_n 2 : Instr), [], [], 100),
  (100, (.iastore : Instr), [], [], 101),
  (101, (.aload_n 0 : Instr), [], [], 102),
  (102, (.getfield 7 : Instr), [10, 0, 3], [], 105),
  (105, (.bipush (24) : Instr), [], [(24, 0)], 107),
  (107, (.aload_n 0 : Instr), [], [], 108),
  (108, (.getfield 122 : Instr), [10, 5, 0], [], 111),
  (111, (.iadd : Instr), [], [], 112),
  (112, (.iconst (0) : Instr), [], [(0, 0)], 113),
  (113, (.iastore : Instr), [], [], 114),
  (114, (.aload_n 0 : Instr), [], [], 115),
  (115, (.dup : Instr), [], [], 116),
  (116, (.getfield 122 : Instr), [10, 5, 0], [], 119),
  (119, (.iconst (1) : Instr), [], [(1, 0)], 120),
  (120, (.iadd : Instr), [], [], 121),
  (121, (.putfield 122 : Instr), [10, 5, 0], [], 124),
  (124, (.aload_n 0 : Instr), [], [], 125),
  (125, (.getfield 122 : Instr), [10, 5, 0], [], 128),
  (128, (.iconst (1) : Instr), [], [(1, 0)], 129),
  (129, (.isub : Instr), [], [], 130),
  (130, (.ireturn : Instr), [0], [], 0)]
/-! HandsAndWaysModel.canLie(III)Z -/
def zc_79 : List (Nat × zE) := [(0, (.iload_n 3 : Instr), [], [], 1),
  (1, (.bipush (8) : Instr), [], [(8, 0)], 3),
  (3, (.irem : Instr), [], [], 4),
  (4, (.iload_n 2 : Instr), [], [], 5),
  (5, (.iadd : Instr), [], [], 6),
  (6, (.bipush (8) : Instr), [], [(8, 0)], 8),
  (8, (.if_icmp .le (5) : Instr), [13], [], 11),
  (11, (.iconst (0) : Instr), [], [(0, 0)], 12),
  (12, (.ireturn : Instr), [1], [], 13),
  (13, (.iconst (0) : Instr), [], [(0, 0)], 14),
  (14, (.istore 4 : Instr), [], [], 16),
  (16, (.iload 4 : Instr), [], [], 18),
  (18, (.iload_n 2 : Instr), [], [], 19),
  (19, (.if_icmp .ge (58) : Instr), [77], [], 22),
  (22, (.aload_n 0 : Instr), [], [], 23),
  (23, (.getfield 19 : Instr), [10, 4, 3], [], 26),
  (26, (.iload_n 3 : Instr), [], [], 27),
  (27, (.iload 4 : Instr), [], [], 29),
  (29, (.iadd : Instr), [], [], 30),
  (30, (.baload : Instr), [], [], 31),
  (31, (.ifCond .ne (38) : Instr), [69], [], 34),
  (34, (.aload_n 0 : Instr), [], [], 35),
  (35, (.iload_n 3 : Instr), [], [], 36),
  (36, (.iload 4 : Instr), [], [], 38),
  (38, (.iadd : Instr), [], [], 39),
  (39, (.invokevirtual 125 : Instr), [1, 58, 2, 10], [], 42),
  (42, (.ifCond .ne (27) : Instr), [69], [], 45),
  (45, (.aload_n 0 : Instr), [], [], 46),
  (46, (.iload_n 3 : Instr), [], [], 47),
  (47, (.iload 4 : Instr), [], [], 49),
  (49, (.iadd : Instr), [], [], 50),
  (50, (.iload_n 1 : Instr), [], [], 51),
  (51, (.invokevirtual 128 : Instr), [1, 59, 3, 10], [], 54),
  (54, (.iconst (-1) : Instr), [], [(-1, 0)], 55),
  (55, (.if_icmp .ne (14) : Instr), [69], [], 58),
  (58, (.aload_n 0 : Instr), [], [], 59),
  (59, (.iload_n 3 : Instr), [], [], 60),
  (60, (.iload 4 : Instr), [], [], 62),
  (62, (.iadd : Instr), [], [], 63),
  (63, (.invokevirtual 181 : Instr), [1, 76, 2, 10], [], 66),
  (66, (.ifCond .eq (5) : Instr), [71], [], 69),
  (69, (.iconst (0) : Instr), [], [(0, 0)], 70),
  (70, (.ireturn : Instr), [1], [], 71),
  (71, (.iinc 4 (1) : Instr), [], [], 74),
  (74, (.goto (-58) : Instr), [16], [], 77),
  (77, (.iconst (1) : Instr), [], [(1, 0)], 78),
  (78, (.ireturn : Instr), [1], [], 0)]
/-! HandsAndWaysModel.thing(III)I -/
def zc_80 : List (Nat × zE) := [(0, (.iload_n 3 : Instr), [], [], 1),
  (1, (.invokestatic 165 : Instr), [0, 50, 1, 0], [], 4),
  (4, (.ifCond .ne (5) : Instr), [9], [], 7),
  (7, (.iconst (-1) : Instr), [], [(-1, 0)], 8),
  (8, (.ireturn : Instr), [0], [], 9),
  (9, (.iload_n 1 : Instr), [], [], 10),
  (10, (.iconst (0) : Instr), [], [(0, 0)], 11),
  (11, (.iconst (5) : Instr), [], [(5, 0)], 12),
  (12, (.invokestatic 103 : Instr), [0, 49, 3, 0], [], 15),
  (15, (.ifCond .eq (12) : Instr), [27], [], 18),
  (18, (.iload_n 2 : Instr), [], [], 19),
  (19, (.iconst (1) : Instr), [], [(1, 0)], 20),
  (20, (.iconst (2) : Instr), [], [(2, 0)], 21),
  (21, (.invokestatic 103 : Instr), [0, 49, 3, 0], [], 24),
  (24, (.ifCond .ne (6) : Instr), [30], [], 27),
  (27, (.bipush (-2) : Instr), [], [(-2, 0)], 29),
  (29, (.ireturn : Instr), [0], [], 30),
  (30, (.aload_n 0 : Instr), [], [], 31),
  (31, (.iconst (-1) : Instr), [], [(-1, 0)], 32),
  (32, (.iload_n 2 : Instr), [], [], 33),
  (33, (.iload_n 3 : Instr), [], [], 34),
  (34, (.invokevirtual 187 : Instr), [1, 79, 4, 10], [], 37),
  (37, (.ifCond .ne (6) : Instr), [43], [], 40),
  (40, (.bipush (-3) : Instr), [], [(-3, 0)], 42),
  (42, (.ireturn : Instr), [0], [], 43),
  (43, (.aload_n 0 : Instr), [], [], 44),
  (44, (.getfield 107 : Instr), [10, 8, 0], [], 47),
  (47, (.bipush (8) : Instr), [], [(8, 0)], 49),
  (49, (.if_icmp .ne (6) : Instr), [55], [], 52),
  (52, (.bipush (-4) : Instr), [], [(-4, 0)], 54),
  (54, (.ireturn : Instr), [0], [], 55),
  (55, (.aload_n 0 : Instr), [], [], 56),
  (56, (.getfield 29 : Instr), [10, 9, 3], [], 59),
  (59, (.aload_n 0 : Instr), [], [], 60),
  (60, (.getfield 107 : Instr), [10, 8, 0], [], 63),
  (63, (.iload_n 1 : Instr), [], [], 64),
  (64, (.iastore : Instr), [], [], 65),
  (65, (.aload_n 0 : Instr), [], [], 66),
  (66, (.getfield 32 : Instr), [10, 10, 3], [], 69),
  (69, (.aload_n 0 : Instr), [], [], 70),
  (70, (.getfield 107 : Instr), [10, 8, 0], [], 73),
  (73, (.iload_n 2 : Instr), [], [], 74),
  (74, (.iastore : Instr), [], [], 75),
  (75, (.aload_n 0 : Instr), [], [], 76),
  (76, (.getfield 7 : Instr), [10, 0, 3], [], 79),
  (79, (.iconst (0) : Instr), [], [(0, 0)], 80),
  (80, (.aload_n 0 : Instr), [], [], 81),
  (81, (.getfield 107 : Instr), [10, 8, 0], [], 84),
  (84, (.iadd : Instr), [], [], 85),
  (85, (.iload_n 3 : Instr), [], [], 86),
  (86, (.iastore : Instr), [], [], 87),
  (87, (.aload_n 0 : Instr), [], [], 88),
  (88, (.dup : Instr), [], [], 89),
  (89, (.getfield 107 : Instr), [10, 8, 0], [], 92),
  (92, (.iconst (1) : Instr), [], [(1, 0)], 93),
  (93, (.iadd : Instr), [], [], 94),
  (94, (.putfield 107 : Instr), [10, 8, 0], [], 97),
  (97, (.aload_n 0 : Instr), [], [], 98),
  (98, (.getfield 107 : Instr), [10, 8, 0], [], 101),
  (101, (.iconst (1) : Instr), [], [(1, 0)], 102),
  (102, (.isub : Instr), [], [], 103),
  (103, (.ireturn : Instr), [0], [], 0)]
/-! HandsAndWaysModel.hand(II)I -/
def zc_81 : List (Nat × zE) := [(0, (.iload_n 1 : Instr), [], [], 1),
  (1, (.invokestatic 159 : Instr), [0, 52, 1, 0], [], 4),
  (4, (.ifCond .eq (10) : Instr), [14], [], 7),
  (7, (.iload_n 2 : Instr), [], [], 8),
  (8, (.invokestatic 165 : Instr), [0, 50, 1, 0], [], 11),
  (11, (.ifCond .ne (6) : Instr), [17], [], 14),
  (14, (.bipush (-5) : Instr), [], [(-5, 0)], 16),
  (16, (.ireturn : Instr), [0], [], 17),
  (17, (.aload_n 0 : Instr), [], [], 18),
  (18, (.getfield 7 : Instr), [10, 0, 3], [], 21),
  (21, (.bipush (30) : Instr), [], [(30, 0)], 23),
  (23, (.iload_n 1 : Instr), [], [], 24),
  (24, (.iadd : Instr), [], [], 25),
  (25, (.iaload : Instr), [], [], 26),
  (26, (.iconst (-1) : Instr), [], [(-1, 0)], 27),
  (27, (.if_icmp .ne (13) : Instr), [40], [], 30),
  (30, (.aload_n 0 : Instr), [], [], 31),
  (31, (.iload_n 1 : Instr), [], [], 32),
  (32, (.iload_n 2 : Instr), [], [], 33),
  (33, (.iconst (-1) : Instr), [], [(-1, 0)], 34),
  (34, (.invokevirtual 138 : Instr), [1, 60, 4, 10], [], 37),
  (37, (.ifCond .ne (6) : Instr), [43], [], 40),
  (40, (.bipush (-3) : Instr), [], [(-3, 0)], 42),
  (42, (.ireturn : Instr), [0], [], 43),
  (43, (.aload_n 0 : Instr), [], [], 44),
  (44, (.getfield 7 : Instr), [10, 0, 3], [], 47),
  (47, (.bipush (28) : Instr), [], [(28, 0)], 49),
  (49, (.iload_n 1 : Instr), [], [], 50),
  (50, (.iadd : Instr), [], [], 51),
  (51, (.iaload : Instr), [], [], 52),
  (52, (.istore_n 3 : Instr), [], [], 53),
  (53, (.aload_n 0 : Instr), [], [], 54),
  (54, (.getfield 7 : Instr), [10, 0, 3], [], 57),
  (57, (.bipush (28) : Instr), [], [(28, 0)], 59),
  (59, (.iload_n 1 : Instr), [], [], 60),
  (60, (.iadd : Instr), [], [], 61),
  (61, (.iload_n 2 : Instr), [], [], 62),
  (62, (.iastore : Instr), [], [], 63),
  (63, (.iload_n 3 : Instr), [], [], 64),
  (64, (.ireturn : Instr), [0], [], 0)]
/-! HandsAndWaysModel.strong(I)I -/
def zc_82 : List (Nat × zE) := [(0, (.iload_n 1 : Instr), [], [], 1),
  (1, (.iconst (1) : Instr), [], [(1, 0)], 2),
  (2, (.bipush (99) : Instr), [], [(99, 0)], 4),
  (4, (.invokestatic 103 : Instr), [0, 49, 3, 0], [], 7),
  (7, (.ifCond .ne (6) : Instr), [13], [], 10),
  (10, (.bipush (-2) : Instr), [], [(-2, 0)], 12),
  (12, (.ireturn : Instr), [0], [], 13),
  (13, (.aload_n 0 : Instr), [], [], 14),
  (14, (.getfield 35 : Instr), [10, 11, 0], [], 17),
  (17, (.istore_n 2 : Instr), [], [], 18),
  (18, (.aload_n 0 : Instr), [], [], 19),
  (19, (.iload_n 1 : Instr), [], [], 20),
  (20, (.putfield 35 : Instr), [10, 11, 0], [], 23),
  (23, (.iload_n 2 : Instr), [], [], 24),
  (24, (.ireturn : Instr), [0], [], 0)]
/-! HandsAndWaysModel.comesTo(II)V -/
def zc_83 : List (Nat × zE) := [(0, (.aload_n 0 : Instr), [], [], 1),
  (1, (.getfield 7 : Instr), [10, 0, 3], [], 4),
  (4, (.bipush (28) : Instr), [], [(28, 0)], 6),
  (6, (.iload_n 1 : Instr), [], [], 7),
  (7, (.iadd : Instr), [], [], 8),
  (8, (.iload_n 2 : Instr), [], [], 9),
  (9, (.iastore : Instr), [], [], 10),
  (10, (.aload_n 0 : Instr), [], [], 11),
  (11, (.getfield 7 : Instr), [10, 0, 3], [], 14),
  (14, (.bipush (30) : Instr), [], [(30, 0)], 16),
  (16, (.iload_n 1 : Instr), [], [], 17),
  (17, (.iadd : Instr), [], [], 18),
  (18, (.iaload : Instr), [], [], 19),
  (19, (.istore_n 3 : Instr), [], [], 20),
  (20, (.iload_n 3 : Instr), [], [], 21),
  (21, (.iconst (-1) : Instr), [], [(-1, 0)], 22),
  (22, (.if_icmp .eq (30) : Instr), [52], [], 25),
  (25, (.aload_n 0 : Instr), [], [], 26),
  (26, (.getfield 7 : Instr), [10, 0, 3], [], 29),
  (29, (.iconst (0) : Instr), [], [(0, 0)], 30),
  (30, (.iload_n 3 : Instr), [], [], 31),
  (31, (.iadd : Instr), [], [], 32),
  (32, (.iload_n 2 : Instr), [], [], 33),
  (33, (.aload_n 0 : Instr), [], [], 34),
  (34, (.getfield 7 : Instr), [10, 0, 3], [], 37),
  (37, (.bipush (16) : Instr), [], [(16, 0)], 39),
  (39, (.iload_n 3 : Instr), [], [], 40),
  (40, (.iadd : Instr), [], [], 41),
  (41, (.iaload : Instr), [], [], 42),
  (42, (.aload_n 0 : Instr), [], [], 43),
  (43, (.getfield 32 : Instr), [10, 10, 3], [], 46),
  (46, (.iload_n 3 : Instr), [], [], 47),
  (47, (.iaload : Instr), [], [], 48),
  (48, (.invokestatic 141 : Instr), [0, 63, 3, 0], [], 51),
  (51, (.iastore : Instr), [], [], 52),
  (52, (.return_ : Instr), [], [], 0)]
/-! HandsAndWaysModel.goes(II)I -/
def zc_84 : List (Nat × zE) := [(0, (.aload_n 0 : Instr), [], [], 1),
  (1, (.getfield 7 : Instr), [10, 0, 3], [], 4),
  (4, (.bipush (28) : Instr), [], [(28, 0)], 6),
  (6, (.iload_n 1 : Instr), [], [], 7),
  (7, (.iadd : Instr), [], [], 8),
  (8, (.iaload : Instr), [], [], 9),
  (9, (.iconst (-1) : Instr), [], [(-1, 0)], 10),
  (10, (.if_icmp .ne (5) : Instr), [15], [], 13),
  (13, (.iconst (1) : Instr), [], [(1, 0)], 14),
  (14, (.ireturn : Instr), [0], [], 15),
  (15, (.aload_n 0 : Instr), [], [], 16),
  (16, (.iload_n 1 : Instr), [], [], 17),
  (17, (.invokevirtual 168 : Instr), [1, 67, 2, 10], [], 20),
  (20, (.aload_n 0 : Instr), [], [], 21),
  (21, (.getfield 97 : Instr), [10, 40, 3], [], 24),
  (24, (.iload_n 2 : Instr), [], [], 25),
  (25, (.iaload : Instr), [], [], 26),
  (26, (.sipush (1000) : Instr), [], [(1000, 0)], 29),
  (29, (.if_icmp .ne (5) : Instr), [34], [], 32),
  (32, (.iconst (4) : Instr), [], [(4, 0)], 33),
  (33, (.ireturn : Instr), [0], [], 34),
  (34, (.aload_n 0 : Instr), [], [], 35),
  (35, (.getfield 7 : Instr), [10, 0, 3], [], 38),
  (38, (.bipush (32) : Instr), [], [(32, 0)], 40),
  (40, (.iload_n 1 : Instr), [], [], 41),
  (41, (.iadd : Instr), [], [], 42),
  (42, (.dup2 : Instr), [], [], 43),
  (43, (.iaload : Instr), [], [], 44),
  (44, (.aload_n 0 : Instr), [], [], 45),
  (45, (.getfield 97 : Instr), [10, 40, 3], [], 48),
  (48, (.iload_n 2 : Instr), [], [], 49),
  (49, (.iaload : Instr), [], [], 50),
  (50, (.iadd : Instr), [], [], 51),
  (51, (.iastore : Instr), [], [], 52),
  (52, (.aload_n 0 : Instr), [], [], 53),
  (53, (.iload_n 1 : Instr), [], [], 54),
  (54, (.iload_n 2 : Instr), [], [], 55),
  (55, (.invokevirtual 190 : Instr), [1, 83, 3, 10], [], 58),
  (58, (.iconst (0) : Instr), [], [(0, 0)], 59),
  (59, (.ireturn : Instr), [0], [], 0)]
/-! HandsAndWaysModel.takes(III)I -/
def zc_85 : List (Nat × zE) := [(0, (.aload_n 0 : Instr), [], [], 1),
  (1, (.getfield 7 : Instr), [10, 0, 3], [], 4),
  (4, (.bipush (28) : Instr), [], [(28, 0)], 6),
  (6, (.iload_n 1 : Instr), [], [], 7),
  (7, (.iadd : Instr), [], [], 8),
  (8, (.iaload : Instr), [], [], 9),
  (9, (.iconst (-1) : Instr), [], [(-1, 0)], 10),
  (10, (.if_icmp .eq (24) : Instr), [34], [], 13),
  (13, (.aload_n 0 : Instr), [], [], 14),
  (14, (.getfield 7 : Instr), [10, 0, 3], [], 17),
  (17, (.bipush (30) : Instr), [], [(30, 0)], 19),
  (19, (.iload_n 1 : Instr), [], [], 20),
  (20, (.iadd : Instr), [], [], 21),
  (21, (.iaload : Instr), [], [], 22),
  (22, (.iconst (-1) : Instr), [], [(-1, 0)], 23),
  (23, (.if_icmp .ne (11) : Instr), [34], [], 26),
  (26, (.aload_n 0 : Instr), [], [], 27),
  (27, (.iload_n 2 : Instr), [], [], 28),
  (28, (.invokevirtual 184 : Instr), [1, 51, 2, 10], [], 31),
  (31, (.ifCond .ne (5) : Instr), [36], [], 34),
  (34, (.iconst (1) : Instr), [], [(1, 0)], 35),
  (35, (.ireturn : Instr), [0], [], 36),
  (36, (.aload_n 0 : Instr), [], [], 37),
  (37, (.getfield 7 : Instr), [10, 0, 3], [], 40),
  (40, (.iconst (0) : Instr), [], [(0, 0)], 41),
  (41, (.iload_n 2 : Instr), [], [], 42),
  (42, (.iadd : Instr), [], [], 43),
  (43, (.iaload : Instr), [], [], 44),
  (44, (.iconst (-1) : Instr), [], [(-1, 0)], 45),
  (45, (.if_icmp .eq (16) : Instr), [61], [], 48),
  (48, (.aload_n 0 : Instr), [], [], 49),
  (49, (.getfield 7 : Instr), [10, 0, 3], [], 52),
  (52, (.bipush (8) : Instr), [], [(8, 0)], 54),
  (54, (.iload_n 2 : Instr), [], [], 55),
  (55, (.iadd : Instr), [], [], 56),
  (56, (.iaload : Instr), [], [], 57),
  (57, (.iconst (-1) : Instr), [], [(-1, 0)], 58),
  (58, (.if_icmp .eq (5) : Instr), [63], [], 61),
  (61, (.iconst (1) : Instr), [], [(1, 0)], 62),
  (62, (.ireturn : Instr), [0], [], 63),
  (63, (.aload_n 0 : Instr), [], [], 64),
  (64, (.getfield 29 : Instr), [10, 9, 3], [], 67),
  (67, (.iload_n 2 : Instr), [], [], 68),
  (68, (.iaload : Instr), [], [], 69),
  (69, (.invokestatic 110 : Instr), [0, 54, 1, 0], [], 72),
  (72, (.iload_n 3 : Instr), [], [], 73),
  (73, (.ishr : Instr), [], [], 74),
  (74, (.iconst (1) : Instr), [], [(1, 0)], 75),
  (75, (.iand : Instr), [], [], 76),
  (76, (.ifCond .ne (5) : Instr), [81], [], 79),
  (79, (.iconst (2) : Instr), [], [(2, 0)], 80),
  (80, (.ireturn : Instr), [0], [], 81),
  (81, (.aload_n 0 : Instr), [], [], 82),
  (82, (.getfield 29 : Instr), [10, 9, 3], [], 85),
  (85, (.iload_n 2 : Instr), [], [], 86),
  (86, (.iaload : Instr), [], [], 87),
  (87, (.aload_n 0 : Instr), [], [], 88),
  (88, (.getfield 32 : Instr), [10, 10, 3], [], 91),
  (91, (.iload_n 2 : Instr), [], [], 92),
  (92, (.iaload : Instr), [], [], 93),
  (93, (.invokestatic 114 : Instr), [0, 55, 2, 0], [], 96),
  (96, (.aload_n 0 : Instr), [], [], 97),
  (97, (.getfield 35 : Instr), [10, 11, 0], [], 100),
  (100, (.if_icmp .le (5) : Instr), [105], [], 103),
  (103, (.iconst (3) : Instr), [], [(3, 0)], 104),
  (104, (.ireturn : Instr), [0], [], 105),
  (105, (.aload_n 0 : Instr), [], [], 106),
  (106, (.getfield 7 : Instr), [10, 0, 3], [], 109),
  (109, (.bipush (28) : Instr), [], [(28, 0)], 111),
  (111, (.iload_n 1 : Instr), [], [], 112),
  (112, (.iadd : Instr), [], [], 113),
  (113, (.iaload : Instr), [], [], 114),
  (114, (.iload_n 3 : Instr), [], [], 115),
  (115, (.aload_n 0 : Instr), [], [], 116),
  (116, (.getfield 32 : Instr), [10, 10, 3], [], 119),
  (119, (.iload_n 2 : Instr), [], [], 120),
  (120, (.iaload : Instr), [], [], 121),
  (121, (.invokestatic 141 : Instr), [0, 63, 3, 0], [], 124),
  (124, (.aload_n 0 : Instr), [], [], 125),
  (125, (.getfield 7 : Instr), [10, 0, 3], [], 128),
  (128, (.iconst (0) : Instr), [], [(0, 0)], 129),
  (129, (.iload_n 2 : Instr), [], [], 130),
  (130, (.iadd : Instr), [], [], 131),
  (131, (.iaload : Instr), [], [], 132),
  (132, (.if_icmp .eq (6) : Instr), [138], [], 135),
  (135, (.bipush (7) : Instr), [], [(7, 0)], 137),
  (137, (.ireturn : Instr), [0], [], 138),
  (138, (.aload_n 0 : Instr), [], [], 139),
  (139, (.getfield 7 : Instr), [10, 0, 3], [], 142),
  (142, (.bipush (8) : Instr), [], [(8, 0)], 144),
  (144, (.iload_n 2 : Instr), [], [], 145),
  (145, (.iadd : Instr), [], [], 146),
  (146, (.iload_n 1 : Instr), [], [], 147),
  (147, (.iastore : Instr), [], [], 148),
  (148, (.aload_n 0 : Instr), [], [], 149),
  (149, (.getfield 7 : Instr), [10, 0, 3], [], 152),
  (152, (.bipush (16) : Instr), [], [(16, 0)], 154),
  (154, (.iload_n 2 : Instr), [], [], 155),
  (155, (.iadd : Instr), [], [], 156),
  (156, (.iload_n 3 : Instr), [], [], 157),
  (157, (.iastore : Instr), [], [], 158),
  (158, (.aload_n 0 : Instr), [], [], 159),
  (159, (.getfield 7 : Instr), [10, 0, 3], [], 162),
  (162, (.bipush (30) : Instr), [], [(30, 0)], 164),
  (164, (.iload_n 1 : Instr), [], [], 165),
  (165, (.iadd : Instr), [], [], 166),
  (166, (.iload_n 2 : Instr), [], [], 167),
  (167, (.iastore : Instr), [], [], 168),
  (168, (.iconst (0) : Instr), [], [(0, 0)], 169),
  (169, (.ireturn : Instr), [0], [], 0)]
/-! HandsAndWaysModel.puts(I)I -/
def zc_86 : List (Nat × zE) := [(0, (.aload_n 0 : Instr), [], [], 1),
  (1, (.getfield 7 : Instr), [10, 0, 3], [], 4),
  (4, (.bipush (30) : Instr), [], [(30, 0)], 6),
  (6, (.iload_n 1 : Instr), [], [], 7),
  (7, (.iadd : Instr), [], [], 8),
  (8, (.iaload : Instr), [], [], 9),
  (9, (.istore_n 2 : Instr), [], [], 10),
  (10, (.aload_n 0 : Instr), [], [], 11),
  (11, (.getfield 7 : Instr), [10, 0, 3], [], 14),
  (14, (.bipush (28) : Instr), [], [(28, 0)], 16),
  (16, (.iload_n 1 : Instr), [], [], 17),
  (17, (.iadd : Instr), [], [], 18),
  (18, (.iaload : Instr), [], [], 19),
  (19, (.iconst (-1) : Instr), [], [(-1, 0)], 20),
  (20, (.if_icmp .eq (8) : Instr), [28], [], 23),
  (23, (.iload_n 2 : Instr), [], [], 24),
  (24, (.iconst (-1) : Instr), [], [(-1, 0)], 25),
  (25, (.if_icmp .ne (5) : Instr), [30], [], 28),
  (28, (.iconst (1) : Instr), [], [(1, 0)], 29),
  (29, (.ireturn : Instr), [0], [], 30),
  (30, (.aload_n 0 : Instr), [], [], 31),
  (31, (.getfield 7 : Instr), [10, 0, 3], [], 34),
  (34, (.bipush (8) : Instr), [], [(8, 0)], 36),
  (36, (.iload_n 2 : Instr), [], [], 37),
  (37, (.iadd : Instr), [], [], 38),
  (38, (.iconst (-1) : Instr), [], [(-1, 0)], 39),
  (39, (.iastore : Instr), [], [], 40),
  (40, (.aload_n 0 : Instr), [], [], 41),
  (41, (.getfield 7 : Instr), [10, 0, 3], [], 44),
  (44, (.bipush (16) : Instr), [], [(16, 0)], 46),
  (46, (.iload_n 2 : Instr), [], [], 47),
  (47, (.iadd : Instr), [], [], 48),
  (48, (.iconst (-1) : Instr), [], [(-1, 0)], 49),
  (49, (.iastore : Instr), [], [], 50),
  (50, (.aload_n 0 : Instr), [], [], 51),
  (51, (.getfield 7 : Instr), [10, 0, 3], [], 54),
  (54, (.bipush (30) : Instr), [], [(30, 0)], 56),
  (56, (.iload_n 1 : Instr), [], [], 57),
  (57, (.iadd : Instr), [], [], 58),
  (58, (.iconst (-1) : Instr), [], [(-1, 0)], 59),
  (59, (.iastore : Instr), [], [], 60),
  (60, (.iconst (0) : Instr), [], [(0, 0)], 61),
  (61, (.ireturn : Instr), [0], [], 0)]
/-! HandsAndWaysModel.opens(II)I -/
def zc_87 : List (Nat × zE) := [(0, (.aload_n 0 : Instr), [], [], 1),
  (1, (.getfield 7 : Instr), [10, 0, 3], [], 4),
  (4, (.bipush (28) : Instr), [], [(28, 0)], 6),
  (6, (.iload_n 1 : Instr), [], [], 7),
  (7, (.iadd : Instr), [], [], 8),
  (8, (.iaload : Instr), [], [], 9),
  (9, (.iconst (-1) : Instr), [], [(-1, 0)], 10),
  (10, (.if_icmp .ne (5) : Instr), [15], [], 13),
  (13, (.iconst (1) : Instr), [], [(1, 0)], 14),
  (14, (.ireturn : Instr), [0], [], 15),
  (15, (.iload_n 2 : Instr), [], [], 16),
  (16, (.iconst (0) : Instr), [], [(0, 0)], 17),
  (17, (.aload_n 0 : Instr), [], [], 18),
  (18, (.getfield 122 : Instr), [10, 5, 0], [], 21),
  (21, (.iconst (1) : Instr), [], [(1, 0)], 22),
  (22, (.isub : Instr), [], [], 23),
  (23, (.invokestatic 103 : Instr), [0, 49, 3, 0], [], 26),
  (26, (.ifCond .ne (5) : Instr), [31], [], 29),
  (29, (.iconst (5) : Instr), [], [(5, 0)], 30),
  (30, (.ireturn : Instr), [0], [], 31),
  (31, (.aload_n 0 : Instr), [], [], 32),
  (32, (.getfield 7 : Instr), [10, 0, 3], [], 35),
  (35, (.bipush (24) : Instr), [], [(24, 0)], 37),
  (37, (.iload_n 2 : Instr), [], [], 38),
  (38, (.iadd : Instr), [], [], 39),
  (39, (.iaload : Instr), [], [], 40),
  (40, (.iconst (1) : Instr), [], [(1, 0)], 41),
  (41, (.if_icmp .ne (5) : Instr), [46], [], 44),
  (44, (.iconst (5) : Instr), [], [(5, 0)], 45),
  (45, (.ireturn : Instr), [0], [], 46),
  (46, (.iconst (0) : Instr), [], [(0, 0)], 47),
  (47, (.istore_n 3 : Instr), [], [], 48),
  (48, (.iconst (0) : Instr), [], [(0, 0)], 49),
  (49, (.istore 4 : Instr), [], [], 51),
  (51, (.iload 4 : Instr), [], [], 53),
  (53, (.iconst (4) : Instr), [], [(4, 0)], 54),
  (54, (.if_icmp .ge (42) : Instr), [96], [], 57),
  (57, (.iload_n 3 : Instr), [], [], 58),
  (58, (.ifCond .ne (26) : Instr), [84], [], 61),
  (61, (.aload_n 0 : Instr), [], [], 62),
  (62, (.getfield 23 : Instr), [10, 6, 3], [], 65),
  (65, (.iload_n 2 : Instr), [], [], 66),
  (66, (.iaload : Instr), [], [], 67),
  (67, (.iload 4 : Instr), [], [], 69),
  (69, (.invokestatic 148 : Instr), [0, 53, 2, 0], [], 72),
  (72, (.aload_n 0 : Instr), [], [], 73),
  (73, (.getfield 7 : Instr), [10, 0, 3], [], 76),
  (76, (.bipush (28) : Instr), [], [(28, 0)], 78),
  (78, (.iload_n 1 : Instr), [], [], 79),
  (79, (.iadd : Instr), [], [], 80),
  (80, (.iaload : Instr), [], [], 81),
  (81, (.if_icmp .ne (7) : Instr), [88], [], 84),
  (84, (.iconst (1) : Instr), [], [(1, 0)], 85),
  (85, (.goto (4) : Instr), [89], [], 88),
  (88, (.iconst (0) : Instr), [], [(0, 0)], 89),
  (89, (.istore_n 3 : Instr), [], [], 90),
  (90, (.iinc 4 (1) : Instr), [], [], 93),
  (93, (.goto (-42) : Instr), [51], [], 96),
  (96, (.iload_n 3 : Instr), [], [], 97),
  (97, (.ifCond .ne (6) : Instr), [103], [], 100),
  (100, (.bipush (7) : Instr), [], [(7, 0)], 102),
  (102, (.ireturn : Instr), [0], [], 103),
  (103, (.aload_n 0 : Instr), [], [], 104),
  (104, (.getfield 26 : Instr), [10, 7, 3], [], 107),
  (107, (.iload_n 2 : Instr), [], [], 108),
  (108, (.iaload : Instr), [], [], 109),
  (109, (.iconst (-1) : Instr), [], [(-1, 0)], 110),
  (110, (.if_icmp .eq (24) : Instr), [134], [], 113),
  (113, (.aload_n 0 : Instr), [], [], 114),
  (114, (.getfield 7 : Instr), [10, 0, 3], [], 117),
  (117, (.bipush (30) : Instr), [], [(30, 0)], 119),
  (119, (.iload_n 1 : Instr), [], [], 120),
  (120, (.iadd : Instr), [], [], 121),
  (121, (.iaload : Instr), [], [], 122),
  (122, (.aload_n 0 : Instr), [], [], 123),
  (123, (.getfield 26 : Instr), [10, 7, 3], [], 126),
  (126, (.iload_n 2 : Instr), [], [], 127),
  (127, (.iaload : Instr), [], [], 128),
  (128, (.if_icmp .eq (6) : Instr), [134], [], 131),
  (131, (.bipush (6) : Instr), [], [(6, 0)], 133),
  (133, (.ireturn : Instr), [0], [], 134),
  (134, (.aload_n 0 : Instr), [], [], 135),
  (135, (.getfield 7 : Instr), [10, 0, 3], [], 138),
  (138, (.bipush (24) : Instr), [], [(24, 0)], 140),
  (140, (.iload_n 2 : Instr), [], [], 141),
  (141, (.iadd : Instr), [], [], 142),
  (142, (.iconst (1) : Instr), [], [(1, 0)], 143),
  (143, (.iastore : Instr), [], [], 144),
  (144, (.iconst (0) : Instr), [], [(0, 0)], 145),
  (145, (.ireturn : Instr), [0], [], 0)]
/-! HandsAndWaysModel.go(II)I -/
def zc_88 : List (Nat × zE) := [(0, (.aload_n 0 : Instr), [], [], 1),
  (1, (.iload_n 1 : Instr), [], [], 2),
  (2, (.invokevirtual 162 : Instr), [1, 68, 2, 10], [], 5),
  (5, (.ifCond .eq (10) : Instr), [15], [], 8),
  (8, (.iload_n 2 : Instr), [], [], 9),
  (9, (.invokestatic 165 : Instr), [0, 50, 1, 0], [], 12),
  (12, (.ifCond .ne (6) : Instr), [18], [], 15),
  (15, (.bipush (-5) : Instr), [], [(-5, 0)], 17),
  (17, (.ireturn : Instr), [0], [], 18),
  (18, (.aload_n 0 : Instr), [], [], 19),
  (19, (.getfield 7 : Instr), [10, 0, 3], [], 22),
  (22, (.bipush (32) : Instr), [], [(32, 0)], 24),
  (24, (.iload_n 1 : Instr), [], [], 25),
  (25, (.iadd : Instr), [], [], 26),
  (26, (.iaload : Instr), [], [], 27),
  (27, (.istore_n 3 : Instr), [], [], 28),
  (28, (.aload_n 0 : Instr), [], [], 29),
  (29, (.iload_n 1 : Instr), [], [], 30),
  (30, (.iload_n 2 : Instr), [], [], 31),
  (31, (.invokevirtual 194 : Instr), [1, 84, 3, 10], [], 34),
  (34, (.istore 4 : Instr), [], [], 36),
  (36, (.iload 4 : Instr), [], [], 38),
  (38, (.ifCond .ne (17) : Instr), [55], [], 41),
  (41, (.aload_n 0 : Instr), [], [], 42),
  (42, (.getfield 7 : Instr), [10, 0, 3], [], 45),
  (45, (.bipush (32) : Instr), [], [(32, 0)], 47),
  (47, (.iload_n 1 : Instr), [], [], 48),
  (48, (.iadd : Instr), [], [], 49),
  (49, (.iaload : Instr), [], [], 50),
  (50, (.iload_n 3 : Instr), [], [], 51),
  (51, (.isub : Instr), [], [], 52),
  (52, (.goto (8) : Instr), [60], [], 55),
  (55, (.bipush (-10) : Instr), [], [(-10, 0)], 57),
  (57, (.iload 4 : Instr), [], [], 59),
  (59, (.isub : Instr), [], [], 60),
  (60, (.ireturn : Instr), [0], [], 0)]
/-! HandsAndWaysModel.told(I)I -/
def zc_89 : List (Nat × zE) := [(0, (.iload_n 0 : Instr), [], [], 1),
  (1, (.ifCond .ne (7) : Instr), [8], [], 4),
  (4, (.iconst (0) : Instr), [], [(0, 0)], 5),
  (5, (.goto (7) : Instr), [12], [], 8),
  (8, (.bipush (-10) : Instr), [], [(-10, 0)], 10),
  (10, (.iload_n 0 : Instr), [], [], 11),
  (11, (.isub : Instr), [], [], 12),
  (12, (.ireturn : Instr), [0], [], 0)]
/-! HandsAndWaysModel.take(III)I -/
def zc_90 : List (Nat × zE) := [(0, (.iload_n 1 : Instr), [], [], 1),
  (1, (.invokestatic 159 : Instr), [0, 52, 1, 0], [], 4),
  (4, (.ifCond .eq (33) : Instr), [37], [], 7),
  (7, (.aload_n 0 : Instr), [], [], 8),
  (8, (.iload_n 2 : Instr), [], [], 9),
  (9, (.invokevirtual 184 : Instr), [1, 51, 2, 10], [], 12),
  (12, (.ifCond .eq (25) : Instr), [37], [], 15),
  (15, (.iload_n 3 : Instr), [], [], 16),
  (16, (.iconst (0) : Instr), [], [(0, 0)], 17),
  (17, (.iconst (3) : Instr), [], [(3, 0)], 18),
  (18, (.invokestatic 103 : Instr), [0, 49, 3, 0], [], 21),
  (21, (.ifCond .eq (16) : Instr), [37], [], 24),
  (24, (.aload_n 0 : Instr), [], [], 25),
  (25, (.iload_n 1 : Instr), [], [], 26),
  (26, (.iload_n 2 : Instr), [], [], 27),
  (27, (.iload_n 3 : Instr), [], [], 28),
  (28, (.invokevirtual 197 : Instr), [1, 85, 4, 10], [], 31),
  (31, (.invokestatic 200 : Instr), [0, 89, 1, 0], [], 34),
  (34, (.goto (5) : Instr), [39], [], 37),
  (37, (.bipush (-5) : Instr), [], [(-5, 0)], 39),
  (39, (.ireturn : Instr), [0], [], 0)]
/-! HandsAndWaysModel.put(I)I -/
def zc_91 : List (Nat × zE) := [(0, (.iload_n 1 : Instr), [], [], 1),
  (1, (.invokestatic 159 : Instr), [0, 52, 1, 0], [], 4),
  (4, (.ifCond .eq (14) : Instr), [18], [], 7),
  (7, (.aload_n 0 : Instr), [], [], 8),
  (8, (.iload_n 1 : Instr), [], [], 9),
  (9, (.invokevirtual 203 : Instr), [1, 86, 2, 10], [], 12),
  (12, (.invokestatic 200 : Instr), [0, 89, 1, 0], [], 15),
  (15, (.goto (5) : Instr), [20], [], 18),
  (18, (.bipush (-5) : Instr), [], [(-5, 0)], 20),
  (20, (.ireturn : Instr), [0], [], 0)]
/-! HandsAndWaysModel.open(II)I -/
def zc_92 : List (Nat × zE) := [(0, (.iload_n 1 : Instr), [], [], 1),
  (1, (.invokestatic 159 : Instr), [0, 52, 1, 0], [], 4),
  (4, (.ifCond .eq (29) : Instr), [33], [], 7),
  (7, (.iload_n 2 : Instr), [], [], 8),
  (8, (.iconst (0) : Instr), [], [(0, 0)], 9),
  (9, (.aload_n 0 : Instr), [], [], 10),
  (10, (.getfield 122 : Instr), [10, 5, 0], [], 13),
  (13, (.iconst (1) : Instr), [], [(1, 0)], 14),
  (14, (.isub : Instr), [], [], 15),
  (15, (.invokestatic 103 : Instr), [0, 49, 3, 0], [], 18),
  (18, (.ifCond .eq (15) : Instr), [33], [], 21),
  (21, (.aload_n 0 : Instr), [], [], 22),
  (22, (.iload_n 1 : Instr), [], [], 23),
  (23, (.iload_n 2 : Instr), [], [], 24),
  (24, (.invokevirtual 206 : Instr), [1, 87, 3, 10], [], 27),
  (27, (.invokestatic 200 : Instr), [0, 89, 1, 0], [], 30),
  (30, (.goto (5) : Instr), [35], [], 33),
  (33, (.bipush (-5) : Instr), [], [(-5, 0)], 35),
  (35, (.ireturn : Instr), [0], [], 0)]
/-! HandsAndWaysModel.thingTold(II)I -/
def zc_93 : List (Nat × zE) := [(0, (.aload_n 0 : Instr), [], [], 1),
  (1, (.iload_n 1 : Instr), [], [], 2),
  (2, (.invokevirtual 184 : Instr), [1, 51, 2, 10], [], 5),
  (5, (.ifCond .ne (6) : Instr), [11], [], 8),
  (8, (.bipush (-5) : Instr), [], [(-5, 0)], 10),
  (10, (.ireturn : Instr), [0], [], 11),
  (11, (.iload_n 2 : Instr), [], [], 12),
  (12, (.tableswitch (100) (0) (6) #[(44), (51), (51), (51), (67), (77), (93)] : Instr), [44, 112], [(0, 56), (1, 63), (2, 63), (3, 63), (4, 79), (5, 89), (6, 105)], 56),
  (56, (.aload_n 0 : Instr), [], [], 57),
  (57, (.getfield 29 : Instr), [10, 9, 3], [], 60),
  (60, (.iload_n 1 : Instr), [], [], 61),
  (61, (.iaload : Instr), [], [], 62),
  (62, (.ireturn : Instr), [0], [], 63),
  (63, (.aload_n 0 : Instr), [], [], 64),
  (64, (.getfield 7 : Instr), [10, 0, 3], [], 67),
  (67, (.iconst (0) : Instr), [], [(0, 0)], 68),
  (68, (.bipush (8) : Instr), [], [(8, 0)], 70),
  (70, (.iload_n 2 : Instr), [], [], 71),
  (71, (.iconst (1) : Instr), [], [(1, 0)], 72),
  (72, (.isub : Instr), [], [], 73),
  (73, (.imul : Instr), [], [], 74),
  (74, (.iadd : Instr), [], [], 75),
  (75, (.iload_n 1 : Instr), [], [], 76),
  (76, (.iadd : Instr), [], [], 77),
  (77, (.iaload : Instr), [], [], 78),
  (78, (.ireturn : Instr), [0], [], 79),
  (79, (.aload_n 0 : Instr), [], [], 80),
  (80, (.getfield 29 : Instr), [10, 9, 3], [], 83),
  (83, (.iload_n 1 : Instr), [], [], 84),
  (84, (.iaload : Instr), [], [], 85),
  (85, (.invokestatic 110 : Instr), [0, 54, 1, 0], [], 88),
  (88, (.ireturn : Instr), [0], [], 89),
  (89, (.aload_n 0 : Instr), [], [], 90),
  (90, (.getfield 29 : Instr), [10, 9, 3], [], 93),
  (93, (.iload_n 1 : Instr), [], [], 94),
  (94, (.iaload : Instr), [], [], 95),
  (95, (.aload_n 0 : Instr), [], [], 96),
  (96, (.getfield 32 : Instr), [10, 10, 3], [], 99),
  (99, (.iload_n 1 : Instr), [], [], 100),
  (100, (.iaload : Instr), [], [], 101),
  (101, (.invokestatic 114 : Instr), [0, 55, 2, 0], [], 104),
  (104, (.ireturn : Instr), [0], [], 105),
  (105, (.aload_n 0 : Instr), [], [], 106),
  (106, (.getfield 32 : Instr), [10, 10, 3], [], 109),
  (109, (.iload_n 1 : Instr), [], [], 110),
  (110, (.iaload : Instr), [], [], 111),
  (111, (.ireturn : Instr), [0], [], 112),
  (112, (.bipush (-7) : Instr), [], [(-7, 0)], 114),
  (114, (.ireturn : Instr), [0], [], 0)]
/-! HandsAndWaysModel.handTold(II)I -/
def zc_94 : List (Nat × zE) := [(0, (.iload_n 1 : Instr), [], [], 1),
  (1, (.invokestatic 159 : Instr), [0, 52, 1, 0], [], 4),
  (4, (.ifCond .ne (6) : Instr), [10], [], 7),
  (7, (.bipush (-5) : Instr), [], [(-5, 0)], 9),
  (9, (.ireturn : Instr), [0], [], 10),
  (10, (.iload_n 2 : Instr), [], [], 11),
  (11, (.iconst (5) : Instr), [], [(5, 0)], 12),
  (12, (.if_icmp .ne (15) : Instr), [27], [], 15),
  (15, (.aload_n 0 : Instr), [], [], 16),
  (16, (.getfield 7 : Instr), [10, 0, 3], [], 19),
  (19, (.bipush (40) : Instr), [], [(40, 0)], 21),
  (21, (.iload_n 1 : Instr), [], [], 22),
  (22, (.iadd : Instr), [], [], 23),
  (23, (.iaload : Instr), [], [], 24),
  (24, (.goto (30) : Instr), [54], [], 27),
  (27, (.iload_n 2 : Instr), [], [], 28),
  (28, (.iconst (0) : Instr), [], [(0, 0)], 29),
  (29, (.iconst (4) : Instr), [], [(4, 0)], 30),
  (30, (.invokestatic 103 : Instr), [0, 49, 3, 0], [], 33),
  (33, (.ifCond .eq (19) : Instr), [52], [], 36),
  (36, (.aload_n 0 : Instr), [], [], 37),
  (37, (.getfield 7 : Instr), [10, 0, 3], [], 40),
  (40, (.bipush (28) : Instr), [], [(28, 0)], 42),
  (42, (.iconst (2) : Instr), [], [(2, 0)], 43),
  (43, (.iload_n 2 : Instr), [], [], 44),
  (44, (.imul : Instr), [], [], 45),
  (45, (.iadd : Instr), [], [], 46),
  (46, (.iload_n 1 : Instr), [], [], 47),
  (47, (.iadd : Instr), [], [], 48),
  (48, (.iaload : Instr), [], [], 49),
  (49, (.goto (5) : Instr), [54], [], 52),
  (52, (.bipush (-7) : Instr), [], [(-7, 0)], 54),
  (54, (.ireturn : Instr), [0], [], 0)]
/-! HandsAndWaysModel.cellTold(I)I -/
def zc_95 : List (Nat × zE) := [(0, (.iload_n 1 : Instr), [], [], 1),
  (1, (.invokestatic 165 : Instr), [0, 50, 1, 0], [], 4),
  (4, (.ifCond .ne (6) : Instr), [10], [], 7),
  (7, (.bipush (-5) : Instr), [], [(-5, 0)], 9),
  (9, (.ireturn : Instr), [0], [], 10),
  (10, (.aload_n 0 : Instr), [], [], 11),
  (11, (.getfield 19 : Instr), [10, 4, 3], [], 14),
  (14, (.iload_n 1 : Instr), [], [], 15),
  (15, (.baload : Instr), [], [], 16),
  (16, (.ifCond .eq (6) : Instr), [22], [], 19),
  (19, (.bipush (-10) : Instr), [], [(-10, 0)], 21),
  (21, (.ireturn : Instr), [0], [], 22),
  (22, (.aload_n 0 : Instr), [], [], 23),
  (23, (.iload_n 1 : Instr), [], [], 24),
  (24, (.invokevirtual 125 : Instr), [1, 58, 2, 10], [], 27),
  (27, (.ifCond .eq (6) : Instr), [33], [], 30),
  (30, (.bipush (-11) : Instr), [], [(-11, 0)], 32),
  (32, (.ireturn : Instr), [0], [], 33),
  (33, (.aload_n 0 : Instr), [], [], 34),
  (34, (.getfield 7 : Instr), [10, 0, 3], [], 37),
  (37, (.bipush (28) : Instr), [], [(28, 0)], 39),
  (39, (.iaload : Instr), [], [], 40),
  (40, (.iload_n 1 : Instr), [], [], 41),
  (41, (.if_icmp .ne (8) : Instr), [49], [], 44),
  (44, (.bipush (100) : Instr), [], [(100, 0)], 46),
  (46, (.goto (25) : Instr), [71], [], 49),
  (49, (.aload_n 0 : Instr), [], [], 50),
  (50, (.getfield 7 : Instr), [10, 0, 3], [], 53),
  (53, (.bipush (29) : Instr), [], [(29, 0)], 55),
  (55, (.iaload : Instr), [], [], 56),
  (56, (.iload_n 1 : Instr), [], [], 57),
  (57, (.if_icmp .ne (8) : Instr), [65], [], 60),
  (60, (.bipush (101) : Instr), [], [(101, 0)], 62),
  (62, (.goto (9) : Instr), [71], [], 65),
  (65, (.aload_n 0 : Instr), [], [], 66),
  (66, (.iload_n 1 : Instr), [], [], 67),
  (67, (.iconst (-1) : Instr), [], [(-1, 0)], 68),
  (68, (.invokevirtual 128 : Instr), [1, 59, 3, 10], [], 71),
  (71, (.ireturn : Instr), [0], [], 0)]
/-! HandsAndWaysModel.isOpen(I)I -/
def zc_96 : List (Nat × zE) := [(0, (.iload_n 1 : Instr), [], [], 1),
  (1, (.iconst (0) : Instr), [], [(0, 0)], 2),
  (2, (.aload_n 0 : Instr), [], [], 3),
  (3, (.getfield 122 : Instr), [10, 5, 0], [], 6),
  (6, (.iconst (1) : Instr), [], [(1, 0)], 7),
  (7, (.isub : Instr), [], [], 8),
  (8, (.invokestatic 103 : Instr), [0, 49, 3, 0], [], 11),
  (11, (.ifCond .eq (15) : Instr), [26], [], 14),
  (14, (.aload_n 0 : Instr), [], [], 15),
  (15, (.getfield 7 : Instr), [10, 0, 3], [], 18),
  (18, (.bipush (24) : Instr), [], [(24, 0)], 20),
  (20, (.iload_n 1 : Instr), [], [], 21),
  (21, (.iadd : Instr), [], [], 22),
  (22, (.iaload : Instr), [], [], 23),
  (23, (.goto (4) : Instr), [27], [], 26),
  (26, (.iconst (-1) : Instr), [], [(-1, 0)], 27),
  (27, (.ireturn : Instr), [0], [], 0)]
/-! HandsAndWaysModel.count(I)I -/
def zc_97 : List (Nat × zE) := [(0, (.iload_n 1 : Instr), [], [], 1),
  (1, (.tableswitch (90) (0) (7) #[(47), (55), (60), (65), (70), (75), (80), (85)] : Instr), [47, 91], [(0, 48), (1, 56), (2, 61), (3, 66), (4, 71), (5, 76), (6, 81), (7, 86)], 48),
  (48, (.aload_n 0 : Instr), [], [], 49),
  (49, (.getfield 7 : Instr), [10, 0, 3], [], 52),
  (52, (.bipush (42) : Instr), [], [(42, 0)], 54),
  (54, (.iaload : Instr), [], [], 55),
  (55, (.ireturn : Instr), [0], [], 56),
  (56, (.aload_n 0 : Instr), [], [], 57),
  (57, (.getfield 107 : Instr), [10, 8, 0], [], 60),
  (60, (.ireturn : Instr), [0], [], 61),
  (61, (.aload_n 0 : Instr), [], [], 62),
  (62, (.getfield 122 : Instr), [10, 5, 0], [], 65),
  (65, (.ireturn : Instr), [0], [], 66),
  (66, (.aload_n 0 : Instr), [], [], 67),
  (67, (.getfield 209 : Instr), [10, 12, 0], [], 70),
  (70, (.ireturn : Instr), [0], [], 71),
  (71, (.aload_n 0 : Instr), [], [], 72),
  (72, (.getfield 212 : Instr), [10, 18, 0], [], 75),
  (75, (.ireturn : Instr), [0], [], 76),
  (76, (.aload_n 0 : Instr), [], [], 77),
  (77, (.getfield 35 : Instr), [10, 11, 0], [], 80),
  (80, (.ireturn : Instr), [0], [], 81),
  (81, (.aload_n 0 : Instr), [], [], 82),
  (82, (.getfield 215 : Instr), [10, 33, 0], [], 85),
  (85, (.ireturn : Instr), [0], [], 86),
  (86, (.aload_n 0 : Instr), [], [], 87),
  (87, (.getfield 218 : Instr), [10, 24, 0], [], 90),
  (90, (.ireturn : Instr), [0], [], 91),
  (91, (.bipush (-2) : Instr), [], [(-2, 0)], 93),
  (93, (.ireturn : Instr), [0], [], 0)]
/-! HandsAndWaysModel.feed(JI)I -/
def zc_98 : List (Nat × zE) := [(0, (.iload_n 3 : Instr), [], [], 1),
  (1, (.iconst (1) : Instr), [], [(1, 0)], 2),
  (2, (.bipush (8) : Instr), [], [(8, 0)], 4),
  (4, (.invokestatic 103 : Instr), [0, 49, 3, 0], [], 7),
  (7, (.ifCond .ne (6) : Instr), [13], [], 10),
  (10, (.bipush (-2) : Instr), [], [(-2, 0)], 12),
  (12, (.ireturn : Instr), [0], [], 13),
  (13, (.aload_n 0 : Instr), [], [], 14),
  (14, (.getfield 212 : Instr), [10, 18, 0], [], 17),
  (17, (.iload_n 3 : Instr), [], [], 18),
  (18, (.iadd : Instr), [], [], 19),
  (19, (.bipush (120) : Instr), [], [(120, 0)], 21),
  (21, (.if_icmp .le (6) : Instr), [27], [], 24),
  (24, (.bipush (-4) : Instr), [], [(-4, 0)], 26),
  (26, (.ireturn : Instr), [0], [], 27),
  (27, (.iload_n 3 : Instr), [], [], 28),
  (28, (.iconst (1) : Instr), [], [(1, 0)], 29),
  (29, (.isub : Instr), [], [], 30),
  (30, (.istore 4 : Instr), [], [], 32),
  (32, (.iload 4 : Instr), [], [], 34),
  (34, (.ifCond .lt (40) : Instr), [74], [], 37),
  (37, (.aload_n 0 : Instr), [], [], 38),
  (38, (.getfield 51 : Instr), [10, 17, 3], [], 41),
  (41, (.aload_n 0 : Instr), [], [], 42),
  (42, (.getfield 212 : Instr), [10, 18, 0], [], 45),
  (45, (.lload_n 1 : Instr), [], [], 46),
  (46, (.bipush (8) : Instr), [], [(8, 0)], 48),
  (48, (.iload 4 : Instr), [], [], 50),
  (50, (.imul : Instr), [], [], 51),
  (51, (.lshr : Instr), [], [], 52),
  (52, (.ldc2_w 221 : Instr), [], [(255, 0)], 55),
  (55, (.land : Instr), [], [], 56),
  (56, (.l2i : Instr), [], [], 57),
  (57, (.iastore : Instr), [], [], 58),
  (58, (.aload_n 0 : Instr), [], [], 59),
  (59, (.dup : Instr), [], [], 60),
  (60, (.getfield 212 : Instr), [10, 18, 0], [], 63),
  (63, (.iconst (1) : Instr), [], [(1, 0)], 64),
  (64, (.iadd : Instr), [], [], 65),
  (65, (.putfield 212 : Instr), [10, 18, 0], [], 68),
  (68, (.iinc 4 (-1) : Instr), [], [], 71),
  (71, (.goto (-39) : Instr), [32], [], 74),
  (74, (.aload_n 0 : Instr), [], [], 75),
  (75, (.getfield 212 : Instr), [10, 18, 0], [], 78),
  (78, (.ireturn : Instr), [0], [], 0)]
/-! HandsAndWaysModel.here()I -/
def zc_99 : List (Nat × zE) := [(0, (.aload_n 0 : Instr), [], [], 1),
  (1, (.getfield 223 : Instr), [10, 42, 0], [], 4),
  (4, (.aload_n 0 : Instr), [], [], 5),
  (5, (.getfield 212 : Instr), [10, 18, 0], [], 8),
  (8, (.if_icmp .ge (15) : Instr), [23], [], 11),
  (11, (.aload_n 0 : Instr), [], [], 12),
  (12, (.getfield 51 : Instr), [10, 17, 3], [], 15),
  (15, (.aload_n 0 : Instr), [], [], 16),
  (16, (.getfield 223 : Instr), [10, 42, 0], [], 19),
  (19, (.iaload : Instr), [], [], 20),
  (20, (.goto (4) : Instr), [24], [], 23),
  (23, (.iconst (-1) : Instr), [], [(-1, 0)], 24),
  (24, (.ireturn : Instr), [0], [], 0)]
/-! HandsAndWaysModel.number(I)I -/
def zc_100 : List (Nat × zE) := [(0, (.iconst (0) : Instr), [], [(0, 0)], 1),
  (1, (.istore_n 2 : Instr), [], [], 2),
  (2, (.iconst (0) : Instr), [], [(0, 0)], 3),
  (3, (.istore_n 3 : Instr), [], [], 4),
  (4, (.iload_n 3 : Instr), [], [], 5),
  (5, (.iconst (2) : Instr), [], [(2, 0)], 6),
  (6, (.if_icmp .ge (62) : Instr), [68], [], 9),
  (9, (.aload_n 0 : Instr), [], [], 10),
  (10, (.invokevirtual 226 : Instr), [1, 99, 1, 10], [], 13),
  (13, (.bipush (48) : Instr), [], [(48, 0)], 15),
  (15, (.bipush (57) : Instr), [], [(57, 0)], 17),
  (17, (.invokestatic 103 : Instr), [0, 49, 3, 0], [], 20),
  (20, (.ifCond .eq (48) : Instr), [68], [], 23),
  (23, (.bipush (10) : Instr), [], [(10, 0)], 25),
  (25, (.iload_n 2 : Instr), [], [], 26),
  (26, (.imul : Instr), [], [], 27),
  (27, (.aload_n 0 : Instr), [], [], 28),
  (28, (.invokevirtual 226 : Instr), [1, 99, 1, 10], [], 31),
  (31, (.iadd : Instr), [], [], 32),
  (32, (.bipush (48) : Instr), [], [(48, 0)], 34),
  (34, (.isub : Instr), [], [], 35),
  (35, (.iload_n 1 : Instr), [], [], 36),
  (36, (.if_icmp .gt (32) : Instr), [68], [], 39),
  (39, (.bipush (10) : Instr), [], [(10, 0)], 41),
  (41, (.iload_n 2 : Instr), [], [], 42),
  (42, (.imul : Instr), [], [], 43),
  (43, (.aload_n 0 : Instr), [], [], 44),
  (44, (.invokevirtual 226 : Instr), [1, 99, 1, 10], [], 47),
  (47, (.iadd : Instr), [], [], 48),
  (48, (.bipush (48) : Instr), [], [(48, 0)], 50),
  (50, (.isub : Instr), [], [], 51),
  (51, (.istore_n 2 : Instr), [], [], 52),
  (52, (.iinc 3 (1) : Instr), [], [], 55),
  (55, (.aload_n 0 : Instr), [], [], 56),
  (56, (.dup : Instr), [], [], 57),
  (57, (.getfield 223 : Instr), [10, 42, 0], [], 60),
  (60, (.iconst (1) : Instr), [], [(1, 0)], 61),
  (61, (.iadd : Instr), [], [], 62),
  (62, (.putfield 223 : Instr), [10, 42, 0], [], 65),
  (65, (.goto (-61) : Instr), [4], [], 68),
  (68, (.iload_n 3 : Instr), [], [], 69),
  (69, (.ifCond .ne (7) : Instr), [76], [], 72),
  (72, (.iconst (-1) : Instr), [], [(-1, 0)], 73),
  (73, (.goto (4) : Instr), [77], [], 76),
  (76, (.iload_n 2 : Instr), [], [], 77),
  (77, (.ireturn : Instr), [0], [], 0)]
/-! HandsAndWaysModel.reads(I)Z -/
def zc_101 : List (Nat × zE) := [(0, (.aload_n 0 : Instr), [], [], 1),
  (1, (.invokevirtual 226 : Instr), [1, 99, 1, 10], [], 4),
  (4, (.istore_n 2 : Instr), [], [], 5),
  (5, (.iload_n 2 : Instr), [], [], 6),
  (6, (.bipush (103) : Instr), [], [(103, 0)], 8),
  (8, (.if_icmp .ne (7) : Instr), [15], [], 11),
  (11, (.iconst (0) : Instr), [], [(0, 0)], 12),
  (12, (.goto (44) : Instr), [56], [], 15),
  (15, (.iload_n 2 : Instr), [], [], 16),
  (16, (.bipush (116) : Instr), [], [(116, 0)], 18),
  (18, (.if_icmp .ne (7) : Instr), [25], [], 21),
  (21, (.iconst (1) : Instr), [], [(1, 0)], 22),
  (22, (.goto (34) : Instr), [56], [], 25),
  (25, (.iload_n 2 : Instr), [], [], 26),
  (26, (.bipush (112) : Instr), [], [(112, 0)], 28),
  (28, (.if_icmp .ne (7) : Instr), [35], [], 31),
  (31, (.iconst (2) : Instr), [], [(2, 0)], 32),
  (32, (.goto (24) : Instr), [56], [], 35),
  (35, (.iload_n 2 : Instr), [], [], 36),
  (36, (.bipush (111) : Instr), [], [(111, 0)], 38),
  (38, (.if_icmp .ne (7) : Instr), [45], [], 41),
  (41, (.iconst (3) : Instr), [], [(3, 0)], 42),
  (42, (.goto (14) : Instr), [56], [], 45),
  (45, (.iload_n 2 : Instr), [], [], 46),
  (46, (.bipush (119) : Instr), [], [(119, 0)], 48),
  (48, (.if_icmp .ne (7) : Instr), [55], [], 51),
  (51, (.iconst (4) : Instr), [], [(4, 0)], 52),
  (52, (.goto (4) : Instr), [56], [], 55),
  (55, (.iconst (-1) : Instr), [], [(-1, 0)], 56),
  (56, (.istore_n 3 : Instr), [], [], 57),
  (57, (.iload_n 3 : Instr), [], [], 58),
  (58, (.iconst (-1) : Instr), [], [(-1, 0)], 59),
  (59, (.if_icmp .ne (5) : Instr), [64], [], 62),
  (62, (.iconst (0) : Instr), [], [(0, 0)], 63),
  (63, (.ireturn : Instr), [1], [], 64),
  (64, (.aload_n 0 : Instr), [], [], 65),
  (65, (.dup : Instr), [], [], 66),
  (66, (.getfield 223 : Instr), [10, 42, 0], [], 69),
  (69, (.iconst (1) : Instr), [], [(1, 0)], 70),
  (70, (.iadd : Instr), [], [], 71),
  (71, (.putfield 223 : Instr), [10, 42, 0], [], 74),
  (74, (.aload_n 0 : Instr), [], [], 75),
  (75, (.getfield 42 : Instr), [10, 14, 3], [], 78),
  (78, (.iload_n 1 : Instr), [], [], 79),
  (79, (.iload_n 3 : Instr), [], [], 80),
  (80, (.iastore : Instr), [], [], 81),
  (81, (.aload_n 0 : Instr), [], [], 82),
  (82, (.getfield 45 : Instr), [10, 15, 3], [], 85),
  (85, (.iload_n 1 : Instr), [], [], 86),
  (86, (.iload_n 3 : Instr), [], [], 87),
  (87, (.iconst (2) : Instr), [], [(2, 0)], 88),
  (88, (.if_icmp .ne (7) : Instr), [95], [], 91),
  (91, (.iconst (0) : Instr), [], [(0, 0)], 92),
  (92, (.goto (37) : Instr), [129], [], 95),
  (95, (.aload_n 0 : Instr), [], [], 96),
  (96, (.iload_n 3 : Instr), [], [], 97),
  (97, (.ifCond .ne (8) : Instr), [105], [], 100),
  (100, (.bipush (63) : Instr), [], [(63, 0)], 102),
  (102, (.goto (24) : Instr), [126], [], 105),
  (105, (.iload_n 3 : Instr), [], [], 106),
  (106, (.iconst (1) : Instr), [], [(1, 0)], 107),
  (107, (.if_icmp .ne (8) : Instr), [115], [], 110),
  (110, (.bipush (7) : Instr), [], [(7, 0)], 112),
  (112, (.goto (14) : Instr), [126], [], 115),
  (115, (.iload_n 3 : Instr), [], [], 116),
  (116, (.iconst (3) : Instr), [], [(3, 0)], 117),
  (117, (.if_icmp .ne (7) : Instr), [124], [], 120),
  (120, (.iconst (3) : Instr), [], [(3, 0)], 121),
  (121, (.goto (5) : Instr), [126], [], 124),
  (124, (.bipush (99) : Instr), [], [(99, 0)], 126),
  (126, (.invokevirtual 230 : Instr), [1, 100, 2, 10], [], 129),
  (129, (.iastore : Instr), [], [], 130),
  (130, (.aload_n 0 : Instr), [], [], 131),
  (131, (.getfield 48 : Instr), [10, 16, 3], [], 134),
  (134, (.iload_n 1 : Instr), [], [], 135),
  (135, (.iconst (0) : Instr), [], [(0, 0)], 136),
  (136, (.iastore : Instr), [], [], 137),
  (137, (.aload_n 0 : Instr), [], [], 138),
  (138, (.getfield 45 : Instr), [10, 15, 3], [], 141),
  (141, (.iload_n 1 : Instr), [], [], 142),
  (142, (.iaload : Instr), [], [], 143),
  (143, (.iconst (-1) : Instr), [], [(-1, 0)], 144),
  (144, (.if_icmp .ne (5) : Instr), [149], [], 147),
  (147, (.iconst (0) : Instr), [], [(0, 0)], 148),
  (148, (.ireturn : Instr), [1], [], 149),
  (149, (.iload_n 3 : Instr), [], [], 150),
  (150, (.iconst (1) : Instr), [], [(1, 0)], 151),
  (151, (.if_icmp .ne (82) : Instr), [233], [], 154),
  (154, (.aload_n 0 : Instr), [], [], 155),
  (155, (.invokevirtual 226 : Instr), [1, 99, 1, 10], [], 158),
  (158, (.istore 4 : Instr), [], [], 160),
  (160, (.aload_n 0 : Instr), [], [], 161),
  (161, (.getfield 48 : Instr), [10, 16, 3], [], 164),
  (164, (.iload_n 1 : Instr), [], [], 165),
  (165, (.iload 4 : Instr), [], [], 167),
  (167, (.bipush (110) : Instr), [], [(110, 0)], 169),
  (169, (.if_icmp .ne (7) : Instr), [176], [], 172),
  (172, (.iconst (0) : Instr), [], [(0, 0)], 173),
  (173, (.goto (37) : Instr), [210], [], 176),
  (176, (.iload 4 : Instr), [], [], 178),
  (178, (.bipush (101) : Instr), [], [(101, 0)], 180),
  (180, (.if_icmp .ne (7) : Instr), [187], [], 183),
  (183, (.iconst (1) : Instr), [], [(1, 0)], 184),
  (184, (.goto (26) : Instr), [210], [], 187),
  (187, (.iload 4 : Instr), [], [], 189),
  (189, (.bipush (115) : Instr), [], [(115, 0)], 191),
  (191, (.if_icmp .ne (7) : Instr), [198], [], 194),
  (194, (.iconst (2) : Instr), [], [(2, 0)], 195),
  (195, (.goto (15) : Instr), [210], [], 198),
  (198, (.iload 4 : Instr), [], [], 200),
  (200, (.bipush (119) : Instr), [], [(119, 0)], 202),
  (202, (.if_icmp .ne (7) : Instr), [209], [], 205),
  (205, (.iconst (3) : Instr), [], [(3, 0)], 206),
  (206, (.goto (4) : Instr), [210], [], 209),
  (209, (.iconst (-1) : Instr), [], [(-1, 0)], 210),
  (210, (.iastore : Instr), [], [], 211),
  (211, (.aload_n 0 : Instr), [], [], 212),
  (212, (.getfield 48 : Instr), [10, 16, 3], [], 215),
  (215, (.iload_n 1 : Instr), [], [], 216),
  (216, (.iaload : Instr), [], [], 217),
  (217, (.iconst (-1) : Instr), [], [(-1, 0)], 218),
  (218, (.if_icmp .ne (5) : Instr), [223], [], 221),
  (221, (.iconst (0) : Instr), [], [(0, 0)], 222),
  (222, (.ireturn : Instr), [1], [], 223),
  (223, (.aload_n 0 : Instr), [], [], 224),
  (224, (.dup : Instr), [], [], 225),
  (225, (.getfield 223 : Instr), [10, 42, 0], [], 228),
  (228, (.iconst (1) : Instr), [], [(1, 0)], 229),
  (229, (.iadd : Instr), [], [], 230),
  (230, (.putfield 223 : Instr), [10, 42, 0], [], 233),
  (233, (.aload_n 0 : Instr), [], [], 234),
  (234, (.invokevirtual 226 : Instr), [1, 99, 1, 10], [], 237),
  (237, (.bipush (59) : Instr), [], [(59, 0)], 239),
  (239, (.if_icmp .eq (5) : Instr), [244], [], 242),
  (242, (.iconst (0) : Instr), [], [(0, 0)], 243),
  (243, (.ireturn : Instr), [1], [], 244),
  (244, (.aload_n 0 : Instr), [], [], 245),
  (245, (.dup : Instr), [], [], 246),
  (246, (.getfield 223 : Instr), [10, 42, 0], [], 249),
  (249, (.iconst (1) : Instr), [], [(1, 0)], 250),
  (250, (.iadd : Instr), [], [], 251),
  (251, (.putfield 223 : Instr), [10, 42, 0], [], 254),
  (254, (.iconst (1) : Instr), [], [(1, 0)], 255),
  (255, (.ireturn : Instr), [1], [], 0)]
/-! HandsAndWaysModel.program()I -/
def zc_102 : List (Nat × zE) := [(0, (.aload_n 0 : Instr), [], [], 1),
  (1, (.getfield 209 : Instr), [10, 12, 0], [], 4),
  (4, (.bipush (6) : Instr), [], [(6, 0)], 6),
  (6, (.if_icmp .ne (6) : Instr), [12], [], 9),
  (9, (.bipush (-4) : Instr), [], [(-4, 0)], 11),
  (11, (.ireturn : Instr), [0], [], 12),
  (12, (.aload_n 0 : Instr), [], [], 13),
  (13, (.iconst (0) : Instr), [], [(0, 0)], 14),
  (14, (.putfield 223 : Instr), [10, 42, 0], [], 17),
  (17, (.iconst (0) : Instr), [], [(0, 0)], 18),
  (18, (.istore_n 1 : Instr), [], [], 19),
  (19, (.iconst (1) : Instr), [], [(1, 0)], 20),
  (20, (.istore_n 2 : Instr), [], [], 21),
  (21, (.iload_n 2 : Instr), [], [], 22),
  (22, (.ifCond .eq (44) : Instr), [66], [], 25),
  (25, (.iload_n 1 : Instr), [], [], 26),
  (26, (.bipush (12) : Instr), [], [(12, 0)], 28),
  (28, (.if_icmp .ge (38) : Instr), [66], [], 31),
  (31, (.iload_n 1 : Instr), [], [], 32),
  (32, (.ifCond .eq (14) : Instr), [46], [], 35),
  (35, (.aload_n 0 : Instr), [], [], 36),
  (36, (.getfield 223 : Instr), [10, 42, 0], [], 39),
  (39, (.aload_n 0 : Instr), [], [], 40),
  (40, (.getfield 212 : Instr), [10, 18, 0], [], 43),
  (43, (.if_icmp .ge (23) : Instr), [66], [], 46),
  (46, (.aload_n 0 : Instr), [], [], 47),
  (47, (.bipush (12) : Instr), [], [(12, 0)], 49),
  (49, (.aload_n 0 : Instr), [], [], 50),
  (50, (.getfield 209 : Instr), [10, 12, 0], [], 53),
  (53, (.imul : Instr), [], [], 54),
  (54, (.iload_n 1 : Instr), [], [], 55),
  (55, (.iadd : Instr), [], [], 56),
  (56, (.invokevirtual 233 : Instr), [1, 101, 2, 10], [], 59),
  (59, (.istore_n 2 : Instr), [], [], 60),
  (60, (.iinc 1 (1) : Instr), [], [], 63),
  (63, (.goto (-42) : Instr), [21], [], 66),
  (66, (.iload_n 2 : Instr), [], [], 67),
  (67, (.ifCond .eq (18) : Instr), [85], [], 70),
  (70, (.aload_n 0 : Instr), [], [], 71),
  (71, (.getfield 223 : Instr), [10, 42, 0], [], 74),
  (74, (.aload_n 0 : Instr), [], [], 75),
  (75, (.getfield 212 : Instr), [10, 18, 0], [], 78),
  (78, (.if_icmp .ne (7) : Instr), [85], [], 81),
  (81, (.iconst (1) : Instr), [], [(1, 0)], 82),
  (82, (.goto (4) : Instr), [86], [], 85),
  (85, (.iconst (0) : Instr), [], [(0, 0)], 86),
  (86, (.istore_n 2 : Instr), [], [], 87),
  (87, (.aload_n 0 : Instr), [], [], 88),
  (88, (.iconst (0) : Instr), [], [(0, 0)], 89),
  (89, (.putfield 212 : Instr), [10, 18, 0], [], 92),
  (92, (.iload_n 2 : Instr), [], [], 93),
  (93, (.ifCond .ne (11) : Instr), [104], [], 96),
  (96, (.bipush (-100) : Instr), [], [(-100, 0)], 98),
  (98, (.aload_n 0 : Instr), [], [], 99),
  (99, (.getfield 223 : Instr), [10, 42, 0], [], 102),
  (102, (.isub : Instr), [], [], 103),
  (103, (.ireturn : Instr), [0], [], 104),
  (104, (.aload_n 0 : Instr), [], [], 105),
  (105, (.getfield 39 : Instr), [10, 13, 3], [], 108),
  (108, (.aload_n 0 : Instr), [], [], 109),
  (109, (.getfield 209 : Instr), [10, 12, 0], [], 112),
  (112, (.iload_n 1 : Instr), [], [], 113),
  (113, (.iastore : Instr), [], [], 114),
  (114, (.aload_n 0 : Instr), [], [], 115),
  (115, (.dup : Instr), [], [], 116),
  (116, (.getfield 209 : Instr), [10, 12, 0], [], 119),
  (119, (.iconst (1) : Instr), [], [(1, 0)], 120),
  (120, (.iadd : Instr), [], [], 121),
  (121, (.putfield 209 : Instr), [10, 12, 0], [], 124),
  (124, (.aload_n 0 : Instr), [], [], 125),
  (125, (.getfield 209 : Instr), [10, 12, 0], [], 128),
  (128, (.iconst (1) : Instr), [], [(1, 0)], 129),
  (129, (.isub : Instr), [], [], 130),
  (130, (.ireturn : Instr), [0], [], 0)]
/-! HandsAndWaysModel.isProgram(I)Z -/
def zc_103 : List (Nat × zE) := [(0, (.iload_n 1 : Instr), [], [], 1),
  (1, (.iconst (0) : Instr), [], [(0, 0)], 2),
  (2, (.aload_n 0 : Instr), [], [], 3),
  (3, (.getfield 209 : Instr), [10, 12, 0], [], 6),
  (6, (.iconst (1) : Instr), [], [(1, 0)], 7),
  (7, (.isub : Instr), [], [], 8),
  (8, (.invokestatic 103 : Instr), [0, 49, 3, 0], [], 11),
  (11, (.ireturn : Instr), [1], [], 0)]
/-! HandsAndWaysModel.actTold(III)I -/
def zc_104 : List (Nat × zE) := [(0, (.aload_n 0 : Instr), [], [], 1),
  (1, (.iload_n 1 : Instr), [], [], 2),
  (2, (.invokevirtual 236 : Instr), [1, 103, 2, 10], [], 5),
  (5, (.ifCond .ne (6) : Instr), [11], [], 8),
  (8, (.bipush (-5) : Instr), [], [(-5, 0)], 10),
  (10, (.ireturn : Instr), [0], [], 11),
  (11, (.iload_n 3 : Instr), [], [], 12),
  (12, (.iconst (3) : Instr), [], [(3, 0)], 13),
  (13, (.if_icmp .ne (10) : Instr), [23], [], 16),
  (16, (.aload_n 0 : Instr), [], [], 17),
  (17, (.getfield 39 : Instr), [10, 13, 3], [], 20),
  (20, (.iload_n 1 : Instr), [], [], 21),
  (21, (.iaload : Instr), [], [], 22),
  (22, (.ireturn : Instr), [0], [], 23),
  (23, (.iload_n 2 : Instr), [], [], 24),
  (24, (.iconst (0) : Instr), [], [(0, 0)], 25),
  (25, (.aload_n 0 : Instr), [], [], 26),
  (26, (.getfield 39 : Instr), [10, 13, 3], [], 29),
  (29, (.iload_n 1 : Instr), [], [], 30),
  (30, (.iaload : Instr), [], [], 31),
  (31, (.iconst (1) : Instr), [], [(1, 0)], 32),
  (32, (.isub : Instr), [], [], 33),
  (33, (.invokestatic 103 : Instr), [0, 49, 3, 0], [], 36),
  (36, (.ifCond .ne (6) : Instr), [42], [], 39),
  (39, (.bipush (-7) : Instr), [], [(-7, 0)], 41),
  (41, (.ireturn : Instr), [0], [], 42),
  (42, (.bipush (12) : Instr), [], [(12, 0)], 44),
  (44, (.iload_n 1 : Instr), [], [], 45),
  (45, (.imul : Instr), [], [], 46),
  (46, (.iload_n 2 : Instr), [], [], 47),
  (47, (.iadd : Instr), [], [], 48),
  (48, (.istore 4 : Instr), [], [], 50),
  (50, (.iload_n 3 : Instr), [], [], 51),
  (51, (.ifCond .ne (13) : Instr), [64], [], 54),
  (54, (.aload_n 0 : Instr), [], [], 55),
  (55, (.getfield 42 : Instr), [10, 14, 3], [], 58),
  (58, (.iload 4 : Instr), [], [], 60),
  (60, (.iaload : Instr), [], [], 61),
  (61, (.goto (35) : Instr), [96], [], 64),
  (64, (.iload_n 3 : Instr), [], [], 65),
  (65, (.iconst (1) : Instr), [], [(1, 0)], 66),
  (66, (.if_icmp .ne (13) : Instr), [79], [], 69),
  (69, (.aload_n 0 : Instr), [], [], 70),
  (70, (.getfield 45 : Instr), [10, 15, 3], [], 73),
  (73, (.iload 4 : Instr), [], [], 75),
  (75, (.iaload : Instr), [], [], 76),
  (76, (.goto (20) : Instr), [96], [], 79),
  (79, (.iload_n 3 : Instr), [], [], 80),
  (80, (.iconst (2) : Instr), [], [(2, 0)], 81),
  (81, (.if_icmp .ne (13) : Instr), [94], [], 84),
  (84, (.aload_n 0 : Instr), [], [], 85),
  (85, (.getfield 48 : Instr), [10, 16, 3], [], 88),
  (88, (.iload 4 : Instr), [], [], 90),
  (90, (.iaload : Instr), [], [], 91),
  (91, (.goto (5) : Instr), [96], [], 94),
  (94, (.bipush (-7) : Instr), [], [(-7, 0)], 96),
  (96, (.ireturn : Instr), [0], [], 0)]
/-! HandsAndWaysModel.does(II)I -/
def zc_105 : List (Nat × zE) := [(0, (.aload_n 0 : Instr), [], [], 1),
  (1, (.getfield 42 : Instr), [10, 14, 3], [], 4),
  (4, (.iload_n 2 : Instr), [], [], 5),
  (5, (.iaload : Instr), [], [], 6),
  (6, (.tableswitch (78) (0) (3) #[(30), (42), (60), (66)] : Instr), [30, 84], [(0, 36), (1, 48), (2, 66), (3, 72)], 36),
  (36, (.aload_n 0 : Instr), [], [], 37),
  (37, (.iload_n 1 : Instr), [], [], 38),
  (38, (.aload_n 0 : Instr), [], [], 39),
  (39, (.getfield 45 : Instr), [10, 15, 3], [], 42),
  (42, (.iload_n 2 : Instr), [], [], 43),
  (43, (.iaload : Instr), [], [], 44),
  (44, (.invokevirtual 194 : Instr), [1, 84, 3, 10], [], 47),
  (47, (.ireturn : Instr), [0], [], 48),
  (48, (.aload_n 0 : Instr), [], [], 49),
  (49, (.iload_n 1 : Instr), [], [], 50),
  (50, (.aload_n 0 : Instr), [], [], 51),
  (51, (.getfield 45 : Instr), [10, 15, 3], [], 54),
  (54, (.iload_n 2 : Instr), [], [], 55),
  (55, (.iaload : Instr), [], [], 56),
  (56, (.aload_n 0 : Instr), [], [], 57),
  (57, (.getfield 48 : Instr), [10, 16, 3], [], 60),
  (60, (.iload_n 2 : Instr), [], [], 61),
  (61, (.iaload : Instr), [], [], 62),
  (62, (.invokevirtual 197 : Instr), [1, 85, 4, 10], [], 65),
  (65, (.ireturn : Instr), [0], [], 66),
  (66, (.aload_n 0 : Instr), [], [], 67),
  (67, (.iload_n 1 : Instr), [], [], 68),
  (68, (.invokevirtual 203 : Instr), [1, 86, 2, 10], [], 71),
  (71, (.ireturn : Instr), [0], [], 72),
  (72, (.aload_n 0 : Instr), [], [], 73),
  (73, (.iload_n 1 : Instr), [], [], 74),
  (74, (.aload_n 0 : Instr), [], [], 75),
  (75, (.getfield 45 : Instr), [10, 15, 3], [], 78),
  (78, (.iload_n 2 : Instr), [], [], 79),
  (79, (.iaload : Instr), [], [], 80),
  (80, (.invokevirtual 206 : Instr), [1, 87, 3, 10], [], 83),
  (83, (.ireturn : Instr), [0], [], 84),
  (84, (.iconst (0) : Instr), [], [(0, 0)], 85),
  (85, (.ireturn : Instr), [0], [], 0)]
/-! HandsAndWaysModel.plays(II)I -/
def zc_106 : List (Nat × zE) := [(0, (.iconst (0) : Instr), [], [(0, 0)], 1),
  (1, (.istore_n 3 : Instr), [], [], 2),
  (2, (.iload_n 3 : Instr), [], [], 3),
  (3, (.aload_n 0 : Instr), [], [], 4),
  (4, (.getfield 39 : Instr), [10, 13, 3], [], 7),
  (7, (.iload_n 2 : Instr), [], [], 8),
  (8, (.iaload : Instr), [], [], 9),
  (9, (.if_icmp .ge (33) : Instr), [42], [], 12),
  (12, (.aload_n 0 : Instr), [], [], 13),
  (13, (.aload_n 0 : Instr), [], [], 14),
  (14, (.iload_n 1 : Instr), [], [], 15),
  (15, (.bipush (12) : Instr), [], [(12, 0)], 17),
  (17, (.iload_n 2 : Instr), [], [], 18),
  (18, (.imul : Instr), [], [], 19),
  (19, (.iload_n 3 : Instr), [], [], 20),
  (20, (.iadd : Instr), [], [], 21),
  (21, (.invokevirtual 239 : Instr), [1, 105, 3, 10], [], 24),
  (24, (.putfield 242 : Instr), [10, 43, 0], [], 27),
  (27, (.aload_n 0 : Instr), [], [], 28),
  (28, (.getfield 242 : Instr), [10, 43, 0], [], 31),
  (31, (.ifCond .eq (5) : Instr), [36], [], 34),
  (34, (.iload_n 3 : Instr), [], [], 35),
  (35, (.ireturn : Instr), [0], [], 36),
  (36, (.iinc 3 (1) : Instr), [], [], 39),
  (39, (.goto (-37) : Instr), [2], [], 42),
  (42, (.iconst (-1) : Instr), [], [(-1, 0)], 43),
  (43, (.ireturn : Instr), [0], [], 0)]
/-! HandsAndWaysModel.lays(Z)V -/
def zc_107 : List (Nat × zE) := [(0, (.iconst (0) : Instr), [], [(0, 0)], 1),
  (1, (.istore_n 2 : Instr), [], [], 2),
  (2, (.iload_n 2 : Instr), [], [], 3),
  (3, (.bipush (43) : Instr), [], [(43, 0)], 5),
  (5, (.if_icmp .ge (40) : Instr), [45], [], 8),
  (8, (.iload_n 1 : Instr), [], [], 9),
  (9, (.ifCond .eq (18) : Instr), [27], [], 12),
  (12, (.aload_n 0 : Instr), [], [], 13),
  (13, (.getfield 7 : Instr), [10, 0, 3], [], 16),
  (16, (.iload_n 2 : Instr), [], [], 17),
  (17, (.aload_n 0 : Instr), [], [], 18),
  (18, (.getfield 13 : Instr), [10, 1, 3], [], 21),
  (21, (.iload_n 2 : Instr), [], [], 22),
  (22, (.iaload : Instr), [], [], 23),
  (23, (.iastore : Instr), [], [], 24),
  (24, (.goto (15) : Instr), [39], [], 27),
  (27, (.aload_n 0 : Instr), [], [], 28),
  (28, (.getfield 13 : Instr), [10, 1, 3], [], 31),
  (31, (.iload_n 2 : Instr), [], [], 32),
  (32, (.aload_n 0 : Instr), [], [], 33),
  (33, (.getfield 7 : Instr), [10, 0, 3], [], 36),
  (36, (.iload_n 2 : Instr), [], [], 37),
  (37, (.iaload : Instr), [], [], 38),
  (38, (.iastore : Instr), [], [], 39),
  (39, (.iinc 2 (1) : Instr), [], [], 42),
  (42, (.goto (-40) : Instr), [2], [], 45),
  (45, (.return_ : Instr), [], [], 0)]
/-! HandsAndWaysModel.judge(III)I -/
def zc_108 : List (Nat × zE) := [(0, (.iload_n 1 : Instr), [], [], 1),
  (1, (.invokestatic 159 : Instr), [0, 52, 1, 0], [], 4),
  (4, (.ifCond .eq (11) : Instr), [15], [], 7),
  (7, (.aload_n 0 : Instr), [], [], 8),
  (8, (.iload_n 2 : Instr), [], [], 9),
  (9, (.invokevirtual 236 : Instr), [1, 103, 2, 10], [], 12),
  (12, (.ifCond .ne (6) : Instr), [18], [], 15),
  (15, (.bipush (-5) : Instr), [], [(-5, 0)], 17),
  (17, (.ireturn : Instr), [0], [], 18),
  (18, (.iload_n 3 : Instr), [], [], 19),
  (19, (.iconst (-1) : Instr), [], [(-1, 0)], 20),
  (20, (.iconst (2) : Instr), [], [(2, 0)], 21),
  (21, (.invokestatic 103 : Instr), [0, 49, 3, 0], [], 24),
  (24, (.ifCond .ne (6) : Instr), [30], [], 27),
  (27, (.bipush (-7) : Instr), [], [(-7, 0)], 29),
  (29, (.ireturn : Instr), [0], [], 30),
  (30, (.aload_n 0 : Instr), [], [], 31),
  (31, (.iconst (0) : Instr), [], [(0, 0)], 32),
  (32, (.invokevirtual 245 : Instr), [1, 107, 2, 10], [], 35),
  (35, (.aload_n 0 : Instr), [], [], 36),
  (36, (.iload_n 1 : Instr), [], [], 37),
  (37, (.iload_n 2 : Instr), [], [], 38),
  (38, (.invokevirtual 249 : Instr), [1, 106, 3, 10], [], 41),
  (41, (.istore 4 : Instr), [], [], 43),
  (43, (.aload_n 0 : Instr), [], [], 44),
  (44, (.getfield 7 : Instr), [10, 0, 3], [], 47),
  (47, (.bipush (32) : Instr), [], [(32, 0)], 49),
  (49, (.iload_n 1 : Instr), [], [], 50),
  (50, (.iadd : Instr), [], [], 51),
  (51, (.iaload : Instr), [], [], 52),
  (52, (.aload_n 0 : Instr), [], [], 53),
  (53, (.getfield 13 : Instr), [10, 1, 3], [], 56),
  (56, (.bipush (32) : Instr), [], [(32, 0)], 58),
  (58, (.iload_n 1 : Instr), [], [], 59),
  (59, (.iadd : Instr), [], [], 60),
  (60, (.iaload : Instr), [], [], 61),
  (61, (.isub : Instr), [], [], 62),
  (62, (.istore 5 : Instr), [], [], 64),
  (64, (.aload_n 0 : Instr), [], [], 65),
  (65, (.getfield 7 : Instr), [10, 0, 3], [], 68),
  (68, (.bipush (28) : Instr), [], [(28, 0)], 70),
  (70, (.iload_n 1 : Instr), [], [], 71),
  (71, (.iadd : Instr), [], [], 72),
  (72, (.iaload : Instr), [], [], 73),
  (73, (.istore 6 : Instr), [], [], 75),
  (75, (.aload_n 0 : Instr), [], [], 76),
  (76, (.iconst (1) : Instr), [], [(1, 0)], 77),
  (77, (.invokevirtual 245 : Instr), [1, 107, 2, 10], [], 80),
  (80, (.iload_n 3 : Instr), [], [], 81),
  (81, (.iconst (-1) : Instr), [], [(-1, 0)], 82),
  (82, (.if_icmp .ne (8) : Instr), [90], [], 85),
  (85, (.iload 4 : Instr), [], [], 87),
  (87, (.goto (36) : Instr), [123], [], 90),
  (90, (.iload_n 3 : Instr), [], [], 91),
  (91, (.ifCond .ne (20) : Instr), [111], [], 94),
  (94, (.iload 4 : Instr), [], [], 96),
  (96, (.iconst (-1) : Instr), [], [(-1, 0)], 97),
  (97, (.if_icmp .ne (7) : Instr), [104], [], 100),
  (100, (.iconst (0) : Instr), [], [(0, 0)], 101),
  (101, (.goto (22) : Instr), [123], [], 104),
  (104, (.aload_n 0 : Instr), [], [], 105),
  (105, (.getfield 242 : Instr), [10, 43, 0], [], 108),
  (108, (.goto (15) : Instr), [123], [], 111),
  (111, (.iload_n 3 : Instr), [], [], 112),
  (112, (.iconst (1) : Instr), [], [(1, 0)], 113),
  (113, (.if_icmp .ne (8) : Instr), [121], [], 116),
  (116, (.iload 5 : Instr), [], [], 118),
  (118, (.goto (5) : Instr), [123], [], 121),
  (121, (.iload 6 : Instr), [], [], 123),
  (123, (.ireturn : Instr), [0], [], 0)]
/-! HandsAndWaysModel.play(II)I -/
def zc_109 : List (Nat × zE) := [(0, (.iload_n 1 : Instr), [], [], 1),
  (1, (.invokestatic 159 : Instr), [0, 52, 1, 0], [], 4),
  (4, (.ifCond .eq (11) : Instr), [15], [], 7),
  (7, (.aload_n 0 : Instr), [], [], 8),
  (8, (.iload_n 2 : Instr), [], [], 9),
  (9, (.invokevirtual 236 : Instr), [1, 103, 2, 10], [], 12),
  (12, (.ifCond .ne (6) : Instr), [18], [], 15),
  (15, (.bipush (-5) : Instr), [], [(-5, 0)], 17),
  (17, (.ireturn : Instr), [0], [], 18),
  (18, (.aload_n 0 : Instr), [], [], 19),
  (19, (.iconst (0) : Instr), [], [(0, 0)], 20),
  (20, (.invokevirtual 245 : Instr), [1, 107, 2, 10], [], 23),
  (23, (.aload_n 0 : Instr), [], [], 24),
  (24, (.iload_n 1 : Instr), [], [], 25),
  (25, (.iload_n 2 : Instr), [], [], 26),
  (26, (.invokevirtual 249 : Instr), [1, 106, 3, 10], [], 29),
  (29, (.iconst (-1) : Instr), [], [(-1, 0)], 30),
  (30, (.if_icmp .eq (16) : Instr), [46], [], 33),
  (33, (.aload_n 0 : Instr), [], [], 34),
  (34, (.iconst (1) : Instr), [], [(1, 0)], 35),
  (35, (.invokevirtual 245 : Instr), [1, 107, 2, 10], [], 38),
  (38, (.bipush (-10) : Instr), [], [(-10, 0)], 40),
  (40, (.aload_n 0 : Instr), [], [], 41),
  (41, (.getfield 242 : Instr), [10, 43, 0], [], 44),
  (44, (.isub : Instr), [], [], 45),
  (45, (.ireturn : Instr), [0], [], 46),
  (46, (.aload_n 0 : Instr), [], [], 47),
  (47, (.getfield 7 : Instr), [10, 0, 3], [], 50),
  (50, (.bipush (32) : Instr), [], [(32, 0)], 52),
  (52, (.iload_n 1 : Instr), [], [], 53),
  (53, (.iadd : Instr), [], [], 54),
  (54, (.iaload : Instr), [], [], 55),
  (55, (.ireturn : Instr), [0], [], 0)]
/-! HandsAndWaysModel.start(II)I -/
def zc_110 : List (Nat × zE) := [(0, (.iload_n 1 : Instr), [], [], 1),
  (1, (.invokestatic 159 : Instr), [0, 52, 1, 0], [], 4),
  (4, (.ifCond .eq (11) : Instr), [15], [], 7),
  (7, (.aload_n 0 : Instr), [], [], 8),
  (8, (.iload_n 2 : Instr), [], [], 9),
  (9, (.invokevirtual 236 : Instr), [1, 103, 2, 10], [], 12),
  (12, (.ifCond .ne (6) : Instr), [18], [], 15),
  (15, (.bipush (-5) : Instr), [], [(-5, 0)], 17),
  (17, (.ireturn : Instr), [0], [], 18),
  (18, (.aload_n 0 : Instr), [], [], 19),
  (19, (.getfield 7 : Instr), [10, 0, 3], [], 22),
  (22, (.bipush (34) : Instr), [], [(34, 0)], 24),
  (24, (.iload_n 1 : Instr), [], [], 25),
  (25, (.iadd : Instr), [], [], 26),
  (26, (.iaload : Instr), [], [], 27),
  (27, (.iconst (-1) : Instr), [], [(-1, 0)], 28),
  (28, (.if_icmp .eq (6) : Instr), [34], [], 31),
  (31, (.bipush (-3) : Instr), [], [(-3, 0)], 33),
  (33, (.ireturn : Instr), [0], [], 34),
  (34, (.aload_n 0 : Instr), [], [], 35),
  (35, (.getfield 7 : Instr), [10, 0, 3], [], 38),
  (38, (.bipush (34) : Instr), [], [(34, 0)], 40),
  (40, (.iload_n 1 : Instr), [], [], 41),
  (41, (.iadd : Instr), [], [], 42),
  (42, (.iload_n 2 : Instr), [], [], 43),
  (43, (.iastore : Instr), [], [], 44),
  (44, (.aload_n 0 : Instr), [], [], 45),
  (45, (.getfield 7 : Instr), [10, 0, 3], [], 48),
  (48, (.bipush (36) : Instr), [], [(36, 0)], 50),
  (50, (.iload_n 1 : Instr), [], [], 51),
  (51, (.iadd : Instr), [], [], 52),
  (52, (.iconst (0) : Instr), [], [(0, 0)], 53),
  (53, (.iastore : Instr), [], [], 54),
  (54, (.aload_n 0 : Instr), [], [], 55),
  (55, (.getfield 7 : Instr), [10, 0, 3], [], 58),
  (58, (.bipush (38) : Instr), [], [(38, 0)], 60),
  (60, (.iload_n 1 : Instr), [], [], 61),
  (61, (.iadd : Instr), [], [], 62),
  (62, (.iconst (0) : Instr), [], [(0, 0)], 63),
  (63, (.iastore : Instr), [], [], 64),
  (64, (.aload_n 0 : Instr), [], [], 65),
  (65, (.getfield 7 : Instr), [10, 0, 3], [], 68),
  (68, (.bipush (40) : Instr), [], [(40, 0)], 70),
  (70, (.iload_n 1 : Instr), [], [], 71),
  (71, (.iadd : Instr), [], [], 72),
  (72, (.iconst (0) : Instr), [], [(0, 0)], 73),
  (73, (.iastore : Instr), [], [], 74),
  (74, (.iload_n 2 : Instr), [], [], 75),
  (75, (.ireturn : Instr), [0], [], 0)]
/-! HandsAndWaysModel.steps(II)Z -/
def zc_111 : List (Nat × zE) := [(0, (.aload_n 0 : Instr), [], [], 1),
  (1, (.getfield 7 : Instr), [10, 0, 3], [], 4),
  (4, (.bipush (28) : Instr), [], [(28, 0)], 6),
  (6, (.iload_n 1 : Instr), [], [], 7),
  (7, (.iadd : Instr), [], [], 8),
  (8, (.iaload : Instr), [], [], 9),
  (9, (.iconst (-1) : Instr), [], [(-1, 0)], 10),
  (10, (.if_icmp .ne (5) : Instr), [15], [], 13),
  (13, (.iconst (0) : Instr), [], [(0, 0)], 14),
  (14, (.ireturn : Instr), [1], [], 15),
  (15, (.aload_n 0 : Instr), [], [], 16),
  (16, (.iload_n 1 : Instr), [], [], 17),
  (17, (.invokevirtual 168 : Instr), [1, 67, 2, 10], [], 20),
  (20, (.aload_n 0 : Instr), [], [], 21),
  (21, (.getfield 97 : Instr), [10, 40, 3], [], 24),
  (24, (.iload_n 2 : Instr), [], [], 25),
  (25, (.iaload : Instr), [], [], 26),
  (26, (.sipush (1000) : Instr), [], [(1000, 0)], 29),
  (29, (.if_icmp .ne (5) : Instr), [34], [], 32),
  (32, (.iconst (0) : Instr), [], [(0, 0)], 33),
  (33, (.ireturn : Instr), [1], [], 34),
  (34, (.aload_n 0 : Instr), [], [], 35),
  (35, (.iload_n 1 : Instr), [], [], 36),
  (36, (.aload_n 0 : Instr), [], [], 37),
  (37, (.iload_n 1 : Instr), [], [], 38),
  (38, (.iload_n 2 : Instr), [], [], 39),
  (39, (.iconst (1) : Instr), [], [(1, 0)], 40),
  (40, (.invokevirtual 172 : Instr), [1, 70, 4, 10], [], 43),
  (43, (.invokevirtual 190 : Instr), [1, 83, 3, 10], [], 46),
  (46, (.aload_n 0 : Instr), [], [], 47),
  (47, (.getfield 7 : Instr), [10, 0, 3], [], 50),
  (50, (.bipush (32) : Instr), [], [(32, 0)], 52),
  (52, (.iload_n 1 : Instr), [], [], 53),
  (53, (.iadd : Instr), [], [], 54),
  (54, (.dup2 : Instr), [], [], 55),
  (55, (.iaload : Instr), [], [], 56),
  (56, (.iconst (1) : Instr), [], [(1, 0)], 57),
  (57, (.iadd : Instr), [], [], 58),
  (58, (.iastore : Instr), [], [], 59),
  (59, (.iconst (1) : Instr), [], [(1, 0)], 60),
  (60, (.ireturn : Instr), [1], [], 0)]
/-! HandsAndWaysModel.ticks(I)V -/
def zc_112 : List (Nat × zE) := [(0, (.aload_n 0 : Instr), [], [], 1),
  (1, (.getfield 7 : Instr), [10, 0, 3], [], 4),
  (4, (.bipush (34) : Instr), [], [(34, 0)], 6),
  (6, (.iload_n 1 : Instr), [], [], 7),
  (7, (.iadd : Instr), [], [], 8),
  (8, (.iaload : Instr), [], [], 9),
  (9, (.istore_n 2 : Instr), [], [], 10),
  (10, (.aload_n 0 : Instr), [], [], 11),
  (11, (.getfield 7 : Instr), [10, 0, 3], [], 14),
  (14, (.bipush (36) : Instr), [], [(36, 0)], 16),
  (16, (.iload_n 1 : Instr), [], [], 17),
  (17, (.iadd : Instr), [], [], 18),
  (18, (.iaload : Instr), [], [], 19),
  (19, (.aload_n 0 : Instr), [], [], 20),
  (20, (.getfield 39 : Instr), [10, 13, 3], [], 23),
  (23, (.iload_n 2 : Instr), [], [], 24),
  (24, (.iaload : Instr), [], [], 25),
  (25, (.if_icmp .ne (14) : Instr), [39], [], 28),
  (28, (.aload_n 0 : Instr), [], [], 29),
  (29, (.getfield 7 : Instr), [10, 0, 3], [], 32),
  (32, (.bipush (34) : Instr), [], [(34, 0)], 34),
  (34, (.iload_n 1 : Instr), [], [], 35),
  (35, (.iadd : Instr), [], [], 36),
  (36, (.iconst (-1) : Instr), [], [(-1, 0)], 37),
  (37, (.iastore : Instr), [], [], 38),
  (38, (.return_ : Instr), [], [], 39),
  (39, (.bipush (12) : Instr), [], [(12, 0)], 41),
  (41, (.iload_n 2 : Instr), [], [], 42),
  (42, (.imul : Instr), [], [], 43),
  (43, (.aload_n 0 : Instr), [], [], 44),
  (44, (.getfield 7 : Instr), [10, 0, 3], [], 47),
  (47, (.bipush (36) : Instr), [], [(36, 0)], 49),
  (49, (.iload_n 1 : Instr), [], [], 50),
  (50, (.iadd : Instr), [], [], 51),
  (51, (.iaload : Instr), [], [], 52),
  (52, (.iadd : Instr), [], [], 53),
  (53, (.istore_n 3 : Instr), [], [], 54),
  (54, (.iconst (0) : Instr), [], [(0, 0)], 55),
  (55, (.istore 4 : Instr), [], [], 57),
  (57, (.iconst (0) : Instr), [], [(0, 0)], 58),
  (58, (.istore 5 : Instr), [], [], 60),
  (60, (.aload_n 0 : Instr), [], [], 61),
  (61, (.getfield 42 : Instr), [10, 14, 3], [], 64),
  (64, (.iload_n 3 : Instr), [], [], 65),
  (65, (.iaload : Instr), [], [], 66),
  (66, (.iconst (4) : Instr), [], [(4, 0)], 67),
  (67, (.if_icmp .ne (44) : Instr), [111], [], 70),
  (70, (.aload_n 0 : Instr), [], [], 71),
  (71, (.getfield 7 : Instr), [10, 0, 3], [], 74),
  (74, (.bipush (38) : Instr), [], [(38, 0)], 76),
  (76, (.iload_n 1 : Instr), [], [], 77),
  (77, (.iadd : Instr), [], [], 78),
  (78, (.dup2 : Instr), [], [], 79),
  (79, (.iaload : Instr), [], [], 80),
  (80, (.iconst (1) : Instr), [], [(1, 0)], 81),
  (81, (.iadd : Instr), [], [], 82),
  (82, (.iastore : Instr), [], [], 83),
  (83, (.aload_n 0 : Instr), [], [], 84),
  (84, (.getfield 7 : Instr), [10, 0, 3], [], 87),
  (87, (.bipush (38) : Instr), [], [(38, 0)], 89),
  (89, (.iload_n 1 : Instr), [], [], 90),
  (90, (.iadd : Instr), [], [], 91),
  (91, (.iaload : Instr), [], [], 92),
  (92, (.aload_n 0 : Instr), [], [], 93),
  (93, (.getfield 45 : Instr), [10, 15, 3], [], 96),
  (96, (.iload_n 3 : Instr), [], [], 97),
  (97, (.iaload : Instr), [], [], 98),
  (98, (.if_icmp .lt (7) : Instr), [105], [], 101),
  (101, (.iconst (1) : Instr), [], [(1, 0)], 102),
  (102, (.goto (4) : Instr), [106], [], 105),
  (105, (.iconst (0) : Instr), [], [(0, 0)], 106),
  (106, (.istore 4 : Instr), [], [], 108),
  (108, (.goto (134) : Instr), [242], [], 111),
  (111, (.aload_n 0 : Instr), [], [], 112),
  (112, (.getfield 42 : Instr), [10, 14, 3], [], 115),
  (115, (.iload_n 3 : Instr), [], [], 116),
  (116, (.iaload : Instr), [], [], 117),
  (117, (.ifCond .ne (97) : Instr), [214], [], 120),
  (120, (.aload_n 0 : Instr), [], [], 121),
  (121, (.getfield 7 : Instr), [10, 0, 3], [], 124),
  (124, (.bipush (28) : Instr), [], [(28, 0)], 126),
  (126, (.iload_n 1 : Instr), [], [], 127),
  (127, (.iadd : Instr), [], [], 128),
  (128, (.iaload : Instr), [], [], 129),
  (129, (.aload_n 0 : Instr), [], [], 130),
  (130, (.getfield 45 : Instr), [10, 15, 3], [], 133),
  (133, (.iload_n 3 : Instr), [], [], 134),
  (134, (.iaload : Instr), [], [], 135),
  (135, (.if_icmp .eq (21) : Instr), [156], [], 138),
  (138, (.aload_n 0 : Instr), [], [], 139),
  (139, (.iload_n 1 : Instr), [], [], 140),
  (140, (.aload_n 0 : Instr), [], [], 141),
  (141, (.getfield 45 : Instr), [10, 15, 3], [], 144),
  (144, (.iload_n 3 : Instr), [], [], 145),
  (145, (.iaload : Instr), [], [], 146),
  (146, (.invokevirtual 252 : Instr), [1, 111, 3, 10], [], 149),
  (149, (.ifCond .ne (7) : Instr), [156], [], 152),
  (152, (.iconst (1) : Instr), [], [(1, 0)], 153),
  (153, (.goto (4) : Instr), [157], [], 156),
  (156, (.iconst (0) : Instr), [], [(0, 0)], 157),
  (157, (.istore 5 : Instr), [], [], 159),
  (159, (.aload_n 0 : Instr), [], [], 160),
  (160, (.getfield 7 : Instr), [10, 0, 3], [], 163),
  (163, (.bipush (28) : Instr), [], [(28, 0)], 165),
  (165, (.iload_n 1 : Instr), [], [], 166),
  (166, (.iadd : Instr), [], [], 167),
  (167, (.iaload : Instr), [], [], 168),
  (168, (.aload_n 0 : Instr), [], [], 169),
  (169, (.getfield 45 : Instr), [10, 15, 3], [], 172),
  (172, (.iload_n 3 : Instr), [], [], 173),
  (173, (.iaload : Instr), [], [], 174),
  (174, (.if_icmp .ne (7) : Instr), [181], [], 177),
  (177, (.iconst (1) : Instr), [], [(1, 0)], 178),
  (178, (.goto (4) : Instr), [182], [], 181),
  (181, (.iconst (0) : Instr), [], [(0, 0)], 182),
  (182, (.istore 4 : Instr), [], [], 184),
  (184, (.aload_n 0 : Instr), [], [], 185),
  (185, (.getfield 7 : Instr), [10, 0, 3], [], 188),
  (188, (.bipush (40) : Instr), [], [(40, 0)], 190),
  (190, (.iload_n 1 : Instr), [], [], 191),
  (191, (.iadd : Instr), [], [], 192),
  (192, (.iload 5 : Instr), [], [], 194),
  (194, (.ifCond .eq (15) : Instr), [209], [], 197),
  (197, (.aload_n 0 : Instr), [], [], 198),
  (198, (.getfield 7 : Instr), [10, 0, 3], [], 201),
  (201, (.bipush (40) : Instr), [], [(40, 0)], 203),
  (203, (.iload_n 1 : Instr), [], [], 204),
  (204, (.iadd : Instr), [], [], 205),
  (205, (.iaload : Instr), [], [], 206),
  (206, (.goto (4) : Instr), [210], [], 209),
  (209, (.iconst (0) : Instr), [], [(0, 0)], 210),
  (210, (.iastore : Instr), [], [], 211),
  (211, (.goto (31) : Instr), [242], [], 214),
  (214, (.aload_n 0 : Instr), [], [], 215),
  (215, (.iload_n 1 : Instr), [], [], 216),
  (216, (.iload_n 3 : Instr), [], [], 217),
  (217, (.invokevirtual 239 : Instr), [1, 105, 3, 10], [], 220),
  (220, (.ifCond .ne (7) : Instr), [227], [], 223),
  (223, (.iconst (1) : Instr), [], [(1, 0)], 224),
  (224, (.goto (4) : Instr), [228], [], 227),
  (227, (.iconst (0) : Instr), [], [(0, 0)], 228),
  (228, (.istore 4 : Instr), [], [], 230),
  (230, (.iload 4 : Instr), [], [], 232),
  (232, (.ifCond .ne (7) : Instr), [239], [], 235),
  (235, (.iconst (1) : Instr), [], [(1, 0)], 236),
  (236, (.goto (4) : Instr), [240], [], 239),
  (239, (.iconst (0) : Instr), [], [(0, 0)], 240),
  (240, (.istore 5 : Instr), [], [], 242),
  (242, (.aload_n 0 : Instr), [], [], 243),
  (243, (.getfield 7 : Instr), [10, 0, 3], [], 246),
  (246, (.bipush (40) : Instr), [], [(40, 0)], 248),
  (248, (.iload_n 1 : Instr), [], [], 249),
  (249, (.iadd : Instr), [], [], 250),
  (250, (.dup2 : Instr), [], [], 251),
  (251, (.iaload : Instr), [], [], 252),
  (252, (.iload 5 : Instr), [], [], 254),
  (254, (.ifCond .eq (7) : Instr), [261], [], 257),
  (257, (.iconst (1) : Instr), [], [(1, 0)], 258),
  (258, (.goto (4) : Instr), [262], [], 261),
  (261, (.iconst (0) : Instr), [], [(0, 0)], 262),
  (262, (.iadd : Instr), [], [], 263),
  (263, (.iastore : Instr), [], [], 264),
  (264, (.iload 4 : Instr), [], [], 266),
  (266, (.ifCond .eq (36) : Instr), [302], [], 269),
  (269, (.aload_n 0 : Instr), [], [], 270),
  (270, (.getfield 7 : Instr), [10, 0, 3], [], 273),
  (273, (.bipush (36) : Instr), [], [(36, 0)], 275),
  (275, (.iload_n 1 : Instr), [], [], 276),
  (276, (.iadd : Instr), [], [], 277),
  (277, (.dup2 : Instr), [], [], 278),
  (278, (.iaload : Instr), [], [], 279),
  (279, (.iconst (1) : Instr), [], [(1, 0)], 280),
  (280, (.iadd : Instr), [], [], 281),
  (281, (.iastore : Instr), [], [], 282),
  (282, (.aload_n 0 : Instr), [], [], 283),
  (283, (.getfield 7 : Instr), [10, 0, 3], [], 286),
  (286, (.bipush (38) : Instr), [], [(38, 0)], 288),
  (288, (.iload_n 1 : Instr), [], [], 289),
  (289, (.iadd : Instr), [], [], 290),
  (290, (.iconst (0) : Instr), [], [(0, 0)], 291),
  (291, (.iastore : Instr), [], [], 292),
  (292, (.aload_n 0 : Instr), [], [], 293),
  (293, (.getfield 7 : Instr), [10, 0, 3], [], 296),
  (296, (.bipush (40) : Instr), [], [(40, 0)], 298),
  (298, (.iload_n 1 : Instr), [], [], 299),
  (299, (.iadd : Instr), [], [], 300),
  (300, (.iconst (0) : Instr), [], [(0, 0)], 301),
  (301, (.iastore : Instr), [], [], 302),
  (302, (.return_ : Instr), [], [], 0)]
/-! HandsAndWaysModel.run(I)I -/
def zc_113 : List (Nat × zE) := [(0, (.iload_n 1 : Instr), [], [], 1),
  (1, (.iconst (1) : Instr), [], [(1, 0)], 2),
  (2, (.bipush (100) : Instr), [], [(100, 0)], 4),
  (4, (.invokestatic 103 : Instr), [0, 49, 3, 0], [], 7),
  (7, (.ifCond .ne (6) : Instr), [13], [], 10),
  (10, (.bipush (-2) : Instr), [], [(-2, 0)], 12),
  (12, (.ireturn : Instr), [0], [], 13),
  (13, (.aload_n 0 : Instr), [], [], 14),
  (14, (.getfield 7 : Instr), [10, 0, 3], [], 17),
  (17, (.bipush (42) : Instr), [], [(42, 0)], 19),
  (19, (.iaload : Instr), [], [], 20),
  (20, (.iload_n 1 : Instr), [], [], 21),
  (21, (.iadd : Instr), [], [], 22),
  (22, (.sipush (5000) : Instr), [], [(5000, 0)], 25),
  (25, (.if_icmp .le (6) : Instr), [31], [], 28),
  (28, (.bipush (-4) : Instr), [], [(-4, 0)], 30),
  (30, (.ireturn : Instr), [0], [], 31),
  (31, (.iconst (0) : Instr), [], [(0, 0)], 32),
  (32, (.istore_n 2 : Instr), [], [], 33),
  (33, (.iload_n 2 : Instr), [], [], 34),
  (34, (.iload_n 1 : Instr), [], [], 35),
  (35, (.if_icmp .ge (51) : Instr), [86], [], 38),
  (38, (.iconst (0) : Instr), [], [(0, 0)], 39),
  (39, (.istore_n 3 : Instr), [], [], 40),
  (40, (.iload_n 3 : Instr), [], [], 41),
  (41, (.iconst (2) : Instr), [], [(2, 0)], 42),
  (42, (.if_icmp .ge (27) : Instr), [69], [], 45),
  (45, (.aload_n 0 : Instr), [], [], 46),
  (46, (.getfield 7 : Instr), [10, 0, 3], [], 49),
  (49, (.bipush (34) : Instr), [], [(34, 0)], 51),
  (51, (.iload_n 3 : Instr), [], [], 52),
  (52, (.iadd : Instr), [], [], 53),
  (53, (.iaload : Instr), [], [], 54),
  (54, (.iconst (-1) : Instr), [], [(-1, 0)], 55),
  (55, (.if_icmp .eq (8) : Instr), [63], [], 58),
  (58, (.aload_n 0 : Instr), [], [], 59),
  (59, (.iload_n 3 : Instr), [], [], 60),
  (60, (.invokevirtual 255 : Instr), [1, 112, 2, 10], [], 63),
  (63, (.iinc 3 (1) : Instr), [], [], 66),
  (66, (.goto (-26) : Instr), [40], [], 69),
  (69, (.aload_n 0 : Instr), [], [], 70),
  (70, (.getfield 7 : Instr), [10, 0, 3], [], 73),
  (73, (.bipush (42) : Instr), [], [(42, 0)], 75),
  (75, (.dup2 : Instr), [], [], 76),
  (76, (.iaload : Instr), [], [], 77),
  (77, (.iconst (1) : Instr), [], [(1, 0)], 78),
  (78, (.iadd : Instr), [], [], 79),
  (79, (.iastore : Instr), [], [], 80),
  (80, (.iinc 2 (1) : Instr), [], [], 83),
  (83, (.goto (-50) : Instr), [33], [], 86),
  (86, (.aload_n 0 : Instr), [], [], 87),
  (87, (.getfield 7 : Instr), [10, 0, 3], [], 90),
  (90, (.bipush (42) : Instr), [], [(42, 0)], 92),
  (92, (.iaload : Instr), [], [], 93),
  (93, (.ireturn : Instr), [0], [], 0)]
/-! HandsAndWaysModel.hangs(I)I -/
def zc_114 : List (Nat × zE) := [(0, (.iload_n 1 : Instr), [], [], 1),
  (1, (.iconst (1) : Instr), [], [(1, 0)], 2),
  (2, (.bipush (99) : Instr), [], [(99, 0)], 4),
  (4, (.invokestatic 103 : Instr), [0, 49, 3, 0], [], 7),
  (7, (.ifCond .ne (6) : Instr), [13], [], 10),
  (10, (.bipush (-2) : Instr), [], [(-2, 0)], 12),
  (12, (.ireturn : Instr), [0], [], 13),
  (13, (.aload_n 0 : Instr), [], [], 14),
  (14, (.getfield 7 : Instr), [10, 0, 3], [], 17),
  (17, (.bipush (34) : Instr), [], [(34, 0)], 19),
  (19, (.iaload : Instr), [], [], 20),
  (20, (.iconst (-1) : Instr), [], [(-1, 0)], 21),
  (21, (.if_icmp .eq (40) : Instr), [61], [], 24),
  (24, (.aload_n 0 : Instr), [], [], 25),
  (25, (.getfield 7 : Instr), [10, 0, 3], [], 28),
  (28, (.bipush (35) : Instr), [], [(35, 0)], 30),
  (30, (.iaload : Instr), [], [], 31),
  (31, (.iconst (-1) : Instr), [], [(-1, 0)], 32),
  (32, (.if_icmp .eq (29) : Instr), [61], [], 35),
  (35, (.aload_n 0 : Instr), [], [], 36),
  (36, (.getfield 7 : Instr), [10, 0, 3], [], 39),
  (39, (.bipush (40) : Instr), [], [(40, 0)], 41),
  (41, (.iaload : Instr), [], [], 42),
  (42, (.iload_n 1 : Instr), [], [], 43),
  (43, (.if_icmp .lt (18) : Instr), [61], [], 46),
  (46, (.aload_n 0 : Instr), [], [], 47),
  (47, (.getfield 7 : Instr), [10, 0, 3], [], 50),
  (50, (.bipush (41) : Instr), [], [(41, 0)], 52),
  (52, (.iaload : Instr), [], [], 53),
  (53, (.iload_n 1 : Instr), [], [], 54),
  (54, (.if_icmp .lt (7) : Instr), [61], [], 57),
  (57, (.iconst (1) : Instr), [], [(1, 0)], 58),
  (58, (.goto (4) : Instr), [62], [], 61),
  (61, (.iconst (0) : Instr), [], [(0, 0)], 62),
  (62, (.ireturn : Instr), [0], [], 0)]
/-! HandsAndWaysModel.handFor(III)I -/
def zc_115 : List (Nat × zE) := [(0, (.iload_n 0 : Instr), [], [], 1),
  (1, (.bipush (8) : Instr), [], [(8, 0)], 3),
  (3, (.irem : Instr), [], [], 4),
  (4, (.iload_n 1 : Instr), [], [], 5),
  (5, (.iconst (1) : Instr), [], [(1, 0)], 6),
  (6, (.if_icmp .ne (7) : Instr), [13], [], 9),
  (9, (.iload_n 2 : Instr), [], [], 10),
  (10, (.goto (13) : Instr), [23], [], 13),
  (13, (.iload_n 1 : Instr), [], [], 14),
  (14, (.iconst (3) : Instr), [], [(3, 0)], 15),
  (15, (.if_icmp .ne (7) : Instr), [22], [], 18),
  (18, (.iconst (-1) : Instr), [], [(-1, 0)], 19),
  (19, (.goto (4) : Instr), [23], [], 22),
  (22, (.iconst (0) : Instr), [], [(0, 0)], 23),
  (23, (.iadd : Instr), [], [], 24),
  (24, (.istore_n 3 : Instr), [], [], 25),
  (25, (.iload_n 0 : Instr), [], [], 26),
  (26, (.bipush (8) : Instr), [], [(8, 0)], 28),
  (28, (.idiv : Instr), [], [], 29),
  (29, (.iload_n 1 : Instr), [], [], 30),
  (30, (.ifCond .ne (7) : Instr), [37], [], 33),
  (33, (.iconst (-1) : Instr), [], [(-1, 0)], 34),
  (34, (.goto (13) : Instr), [47], [], 37),
  (37, (.iload_n 1 : Instr), [], [], 38),
  (38, (.iconst (2) : Instr), [], [(2, 0)], 39),
  (39, (.if_icmp .ne (7) : Instr), [46], [], 42),
  (42, (.iconst (1) : Instr), [], [(1, 0)], 43),
  (43, (.goto (4) : Instr), [47], [], 46),
  (46, (.iconst (0) : Instr), [], [(0, 0)], 47),
  (47, (.iadd : Instr), [], [], 48),
  (48, (.istore 4 : Instr), [], [], 50),
  (50, (.iload_n 3 : Instr), [], [], 51),
  (51, (.iconst (0) : Instr), [], [(0, 0)], 52),
  (52, (.bipush (7) : Instr), [], [(7, 0)], 54),
  (54, (.invokestatic 103 : Instr), [0, 49, 3, 0], [], 57),
  (57, (.ifCond .eq (24) : Instr), [81], [], 60),
  (60, (.iload 4 : Instr), [], [], 62),
  (62, (.iconst (0) : Instr), [], [(0, 0)], 63),
  (63, (.bipush (7) : Instr), [], [(7, 0)], 65),
  (65, (.invokestatic 103 : Instr), [0, 49, 3, 0], [], 68),
  (68, (.ifCond .eq (13) : Instr), [81], [], 71),
  (71, (.bipush (8) : Instr), [], [(8, 0)], 73),
  (73, (.iload 4 : Instr), [], [], 75),
  (75, (.imul : Instr), [], [], 76),
  (76, (.iload_n 3 : Instr), [], [], 77),
  (77, (.iadd : Instr), [], [], 78),
  (78, (.goto (4) : Instr), [82], [], 81),
  (81, (.iconst (-1) : Instr), [], [(-1, 0)], 82),
  (82, (.ireturn : Instr), [0], [], 0)]
/-! HandsAndWaysModel.moveFar(IIII)I -/
def zc_116 : List (Nat × zE) := [(0, (.aload_n 0 : Instr), [], [], 1),
  (1, (.dup : Instr), [], [], 2),
  (2, (.getfield 258 : Instr), [10, 32, 0], [], 5),
  (5, (.iconst (1) : Instr), [], [(1, 0)], 6),
  (6, (.iadd : Instr), [], [], 7),
  (7, (.putfield 258 : Instr), [10, 32, 0], [], 10),
  (10, (.aload_n 0 : Instr), [], [], 11),
  (11, (.getfield 7 : Instr), [10, 0, 3], [], 14),
  (14, (.iconst (0) : Instr), [], [(0, 0)], 15),
  (15, (.iload_n 2 : Instr), [], [], 16),
  (16, (.iadd : Instr), [], [], 17),
  (17, (.iaload : Instr), [], [], 18),
  (18, (.iconst (-1) : Instr), [], [(-1, 0)], 19),
  (19, (.if_icmp .eq (58) : Instr), [77], [], 22),
  (22, (.aload_n 0 : Instr), [], [], 23),
  (23, (.getfield 29 : Instr), [10, 9, 3], [], 26),
  (26, (.iload_n 2 : Instr), [], [], 27),
  (27, (.iaload : Instr), [], [], 28),
  (28, (.invokestatic 110 : Instr), [0, 54, 1, 0], [], 31),
  (31, (.iload_n 3 : Instr), [], [], 32),
  (32, (.ishr : Instr), [], [], 33),
  (33, (.iconst (1) : Instr), [], [(1, 0)], 34),
  (34, (.iand : Instr), [], [], 35),
  (35, (.ifCond .eq (42) : Instr), [77], [], 38),
  (38, (.aload_n 0 : Instr), [], [], 39),
  (39, (.getfield 29 : Instr), [10, 9, 3], [], 42),
  (42, (.iload_n 2 : Instr), [], [], 43),
  (43, (.iaload : Instr), [], [], 44),
  (44, (.aload_n 0 : Instr), [], [], 45),
  (45, (.getfield 32 : Instr), [10, 10, 3], [], 48),
  (48, (.iload_n 2 : Instr), [], [], 49),
  (49, (.iaload : Instr), [], [], 50),
  (50, (.invokestatic 114 : Instr), [0, 55, 2, 0], [], 53),
  (53, (.aload_n 0 : Instr), [], [], 54),
  (54, (.getfield 35 : Instr), [10, 11, 0], [], 57),
  (57, (.if_icmp .gt (20) : Instr), [77], [], 60),
  (60, (.iload 4 : Instr), [], [], 62),
  (62, (.bipush (8) : Instr), [], [(8, 0)], 64),
  (64, (.irem : Instr), [], [], 65),
  (65, (.aload_n 0 : Instr), [], [], 66),
  (66, (.getfield 32 : Instr), [10, 10, 3], [], 69),
  (69, (.iload_n 2 : Instr), [], [], 70),
  (70, (.iaload : Instr), [], [], 71),
  (71, (.iadd : Instr), [], [], 72),
  (72, (.bipush (8) : Instr), [], [(8, 0)], 74),
  (74, (.if_icmp .le (5) : Instr), [79], [], 77),
  (77, (.iconst (-1) : Instr), [], [(-1, 0)], 78),
  (78, (.ireturn : Instr), [0], [], 79),
  (79, (.aload_n 0 : Instr), [], [], 80),
  (80, (.getfield 7 : Instr), [10, 0, 3], [], 83),
  (83, (.iconst (0) : Instr), [], [(0, 0)], 84),
  (84, (.iload_n 2 : Instr), [], [], 85),
  (85, (.iadd : Instr), [], [], 86),
  (86, (.iaload : Instr), [], [], 87),
  (87, (.iload_n 3 : Instr), [], [], 88),
  (88, (.aload_n 0 : Instr), [], [], 89),
  (89, (.getfield 32 : Instr), [10, 10, 3], [], 92),
  (92, (.iload_n 2 : Instr), [], [], 93),
  (93, (.iaload : Instr), [], [], 94),
  (94, (.invokestatic 261 : Instr), [0, 115, 3, 0], [], 97),
  (97, (.istore 5 : Instr), [], [], 99),
  (99, (.iload 4 : Instr), [], [], 101),
  (101, (.iload_n 3 : Instr), [], [], 102),
  (102, (.aload_n 0 : Instr), [], [], 103),
  (103, (.getfield 32 : Instr), [10, 10, 3], [], 106),
  (106, (.iload_n 2 : Instr), [], [], 107),
  (107, (.iaload : Instr), [], [], 108),
  (108, (.invokestatic 261 : Instr), [0, 115, 3, 0], [], 111),
  (111, (.istore 6 : Instr), [], [], 113),
  (113, (.iload 5 : Instr), [], [], 115),
  (115, (.iconst (-1) : Instr), [], [(-1, 0)], 116),
  (116, (.if_icmp .eq (9) : Instr), [125], [], 119),
  (119, (.iload 6 : Instr), [], [], 121),
  (121, (.iconst (-1) : Instr), [], [(-1, 0)], 122),
  (122, (.if_icmp .ne (5) : Instr), [127], [], 125),
  (125, (.iconst (-1) : Instr), [], [(-1, 0)], 126),
  (126, (.ireturn : Instr), [0], [], 127),
  (127, (.aload_n 0 : Instr), [], [], 128),
  (128, (.iload_n 1 : Instr), [], [], 129),
  (129, (.aload_n 0 : Instr), [], [], 130),
  (130, (.getfield 7 : Instr), [10, 0, 3], [], 133),
  (133, (.bipush (28) : Instr), [], [(28, 0)], 135),
  (135, (.iload_n 1 : Instr), [], [], 136),
  (136, (.iadd : Instr), [], [], 137),
  (137, (.iaload : Instr), [], [], 138),
  (138, (.iconst (-1) : Instr), [], [(-1, 0)], 139),
  (139, (.iconst (-1) : Instr), [], [(-1, 0)], 140),
  (140, (.invokevirtual 155 : Instr), [1, 66, 5, 10], [], 143),
  (143, (.aload_n 0 : Instr), [], [], 144),
  (144, (.getfield 97 : Instr), [10, 40, 3], [], 147),
  (147, (.iload 5 : Instr), [], [], 149),
  (149, (.iaload : Instr), [], [], 150),
  (150, (.istore 7 : Instr), [], [], 152),
  (152, (.iload 7 : Instr), [], [], 154),
  (154, (.sipush (1000) : Instr), [], [(1000, 0)], 157),
  (157, (.if_icmp .ne (5) : Instr), [162], [], 160),
  (160, (.iconst (-1) : Instr), [], [(-1, 0)], 161),
  (161, (.ireturn : Instr), [0], [], 162),
  (162, (.aload_n 0 : Instr), [], [], 163),
  (163, (.iload_n 1 : Instr), [], [], 164),
  (164, (.iload 5 : Instr), [], [], 166),
  (166, (.iload_n 2 : Instr), [], [], 167),
  (167, (.iload_n 3 : Instr), [], [], 168),
  (168, (.invokevirtual 155 : Instr), [1, 66, 5, 10], [], 171),
  (171, (.aload_n 0 : Instr), [], [], 172),
  (172, (.getfield 97 : Instr), [10, 40, 3], [], 175),
  (175, (.iload 6 : Instr), [], [], 177),
  (177, (.iaload : Instr), [], [], 178),
  (178, (.sipush (1000) : Instr), [], [(1000, 0)], 181),
  (181, (.if_icmp .ne (7) : Instr), [188], [], 184),
  (184, (.iconst (-1) : Instr), [], [(-1, 0)], 185),
  (185, (.goto (13) : Instr), [198], [], 188),
  (188, (.iload 7 : Instr), [], [], 190),
  (190, (.aload_n 0 : Instr), [], [], 191),
  (191, (.getfield 97 : Instr), [10, 40, 3], [], 194),
  (194, (.iload 6 : Instr), [], [], 196),
  (196, (.iaload : Instr), [], [], 197),
  (197, (.iadd : Instr), [], [], 198),
  (198, (.ireturn : Instr), [0], [], 0)]
/-! HandsAndWaysModel.takenBut(II)J -/
def zc_117 : List (Nat × zE) := [(0, (.lconst 0 : Instr), [], [], 1),
  (1, (.lstore_n 3 : Instr), [], [], 2),
  (2, (.iconst (0) : Instr), [], [(0, 0)], 3),
  (3, (.istore 5 : Instr), [], [], 5),
  (5, (.iload 5 : Instr), [], [], 7),
  (7, (.bipush (64) : Instr), [], [(64, 0)], 9),
  (9, (.if_icmp .ge (31) : Instr), [40], [], 12),
  (12, (.lload_n 3 : Instr), [], [], 13),
  (13, (.aload_n 0 : Instr), [], [], 14),
  (14, (.iload_n 1 : Instr), [], [], 15),
  (15, (.iload 5 : Instr), [], [], 17),
  (17, (.iload_n 2 : Instr), [], [], 18),
  (18, (.invokevirtual 138 : Instr), [1, 60, 4, 10], [], 21),
  (21, (.ifCond .eq (7) : Instr), [28], [], 24),
  (24, (.lconst 0 : Instr), [], [], 25),
  (25, (.goto (7) : Instr), [32], [], 28),
  (28, (.lconst 1 : Instr), [], [], 29),
  (29, (.iload 5 : Instr), [], [], 31),
  (31, (.lshl : Instr), [], [], 32),
  (32, (.lor : Instr), [], [], 33),
  (33, (.lstore_n 3 : Instr), [], [], 34),
  (34, (.iinc 5 (1) : Instr), [], [], 37),
  (37, (.goto (-32) : Instr), [5], [], 40),
  (40, (.lload_n 3 : Instr), [], [], 41),
  (41, (.lreturn : Instr), [], [], 0)]
/-! HandsAndWaysModel.isRuled(III)Z -/
def zc_118 : List (Nat × zE) := [(0, (.iconst (0) : Instr), [], [(0, 0)], 1),
  (1, (.istore 4 : Instr), [], [], 3),
  (3, (.iload 4 : Instr), [], [], 5),
  (5, (.aload_n 0 : Instr), [], [], 6),
  (6, (.getfield 218 : Instr), [10, 24, 0], [], 9),
  (9, (.if_icmp .ge (123) : Instr), [132], [], 12),
  (12, (.aload_n 0 : Instr), [], [], 13),
  (13, (.getfield 63 : Instr), [10, 25, 3], [], 16),
  (16, (.iload 4 : Instr), [], [], 18),
  (18, (.iaload : Instr), [], [], 19),
  (19, (.iload_n 2 : Instr), [], [], 20),
  (20, (.if_icmp .ne (69) : Instr), [89], [], 23),
  (23, (.aload_n 0 : Instr), [], [], 24),
  (24, (.getfield 66 : Instr), [10, 26, 3], [], 27),
  (27, (.iload 4 : Instr), [], [], 29),
  (29, (.iaload : Instr), [], [], 30),
  (30, (.iload_n 3 : Instr), [], [], 31),
  (31, (.if_icmp .ne (58) : Instr), [89], [], 34),
  (34, (.aload_n 0 : Instr), [], [], 35),
  (35, (.getfield 69 : Instr), [10, 27, 3], [], 38),
  (38, (.iload 4 : Instr), [], [], 40),
  (40, (.iaload : Instr), [], [], 41),
  (41, (.aload_n 0 : Instr), [], [], 42),
  (42, (.getfield 7 : Instr), [10, 0, 3], [], 45),
  (45, (.iconst (0) : Instr), [], [(0, 0)], 46),
  (46, (.iload_n 2 : Instr), [], [], 47),
  (47, (.iadd : Instr), [], [], 48),
  (48, (.iaload : Instr), [], [], 49),
  (49, (.if_icmp .ne (40) : Instr), [89], [], 52),
  (52, (.aload_n 0 : Instr), [], [], 53),
  (53, (.getfield 72 : Instr), [10, 28, 3], [], 56),
  (56, (.iload 4 : Instr), [], [], 58),
  (58, (.iaload : Instr), [], [], 59),
  (59, (.aload_n 0 : Instr), [], [], 60),
  (60, (.getfield 7 : Instr), [10, 0, 3], [], 63),
  (63, (.bipush (28) : Instr), [], [(28, 0)], 65),
  (65, (.iload_n 1 : Instr), [], [], 66),
  (66, (.iadd : Instr), [], [], 67),
  (67, (.iaload : Instr), [], [], 68),
  (68, (.if_icmp .ne (21) : Instr), [89], [], 71),
  (71, (.aload_n 0 : Instr), [], [], 72),
  (72, (.getfield 75 : Instr), [10, 29, 3], [], 75),
  (75, (.iload 4 : Instr), [], [], 77),
  (77, (.iaload : Instr), [], [], 78),
  (78, (.aload_n 0 : Instr), [], [], 79),
  (79, (.getfield 35 : Instr), [10, 11, 0], [], 82),
  (82, (.if_icmp .ne (7) : Instr), [89], [], 85),
  (85, (.iconst (1) : Instr), [], [(1, 0)], 86),
  (86, (.goto (4) : Instr), [90], [], 89),
  (89, (.iconst (0) : Instr), [], [(0, 0)], 90),
  (90, (.istore 5 : Instr), [], [], 92),
  (92, (.iload 5 : Instr), [], [], 94),
  (94, (.ifCond .eq (32) : Instr), [126], [], 97),
  (97, (.aload_n 0 : Instr), [], [], 98),
  (98, (.getfield 78 : Instr), [10, 30, 3], [], 101),
  (101, (.iload 4 : Instr), [], [], 103),
  (103, (.laload : Instr), [], [], 104),
  (104, (.aload_n 0 : Instr), [], [], 105),
  (105, (.iload_n 1 : Instr), [], [], 106),
  (106, (.iload_n 2 : Instr), [], [], 107),
  (107, (.invokevirtual 264 : Instr), [1, 117, 3, 10], [], 110),
  (110, (.lcmp : Instr), [], [], 111),
  (111, (.ifCond .ne (15) : Instr), [126], [], 114),
  (114, (.aload_n 0 : Instr), [], [], 115),
  (115, (.dup : Instr), [], [], 116),
  (116, (.getfield 268 : Instr), [10, 31, 0], [], 119),
  (119, (.iconst (1) : Instr), [], [(1, 0)], 120),
  (120, (.iadd : Instr), [], [], 121),
  (121, (.putfield 268 : Instr), [10, 31, 0], [], 124),
  (124, (.iconst (1) : Instr), [], [(1, 0)], 125),
  (125, (.ireturn : Instr), [1], [], 126),
  (126, (.iinc 4 (1) : Instr), [], [], 129),
  (129, (.goto (-126) : Instr), [3], [], 132),
  (132, (.iconst (0) : Instr), [], [(0, 0)], 133),
  (133, (.ireturn : Instr), [1], [], 0)]
/-! HandsAndWaysModel.learns(III)V -/
def zc_119 : List (Nat × zE) := [(0, (.aload_n 0 : Instr), [], [], 1),
  (1, (.getfield 218 : Instr), [10, 24, 0], [], 4),
  (4, (.bipush (12) : Instr), [], [(12, 0)], 6),
  (6, (.if_icmp .ge (96) : Instr), [102], [], 9),
  (9, (.aload_n 0 : Instr), [], [], 10),
  (10, (.getfield 63 : Instr), [10, 25, 3], [], 13),
  (13, (.aload_n 0 : Instr), [], [], 14),
  (14, (.getfield 218 : Instr), [10, 24, 0], [], 17),
  (17, (.iload_n 2 : Instr), [], [], 18),
  (18, (.iastore : Instr), [], [], 19),
  (19, (.aload_n 0 : Instr), [], [], 20),
  (20, (.getfield 66 : Instr), [10, 26, 3], [], 23),
  (23, (.aload_n 0 : Instr), [], [], 24),
  (24, (.getfield 218 : Instr), [10, 24, 0], [], 27),
  (27, (.iload_n 3 : Instr), [], [], 28),
  (28, (.iastore : Instr), [], [], 29),
  (29, (.aload_n 0 : Instr), [], [], 30),
  (30, (.getfield 69 : Instr), [10, 27, 3], [], 33),
  (33, (.aload_n 0 : Instr), [], [], 34),
  (34, (.getfield 218 : Instr), [10, 24, 0], [], 37),
  (37, (.aload_n 0 : Instr), [], [], 38),
  (38, (.getfield 7 : Instr), [10, 0, 3], [], 41),
  (41, (.iconst (0) : Instr), [], [(0, 0)], 42),
  (42, (.iload_n 2 : Instr), [], [], 43),
  (43, (.iadd : Instr), [], [], 44),
  (44, (.iaload : Instr), [], [], 45),
  (45, (.iastore : Instr), [], [], 46),
  (46, (.aload_n 0 : Instr), [], [], 47),
  (47, (.getfield 72 : Instr), [10, 28, 3], [], 50),
  (50, (.aload_n 0 : Instr), [], [], 51),
  (51, (.getfield 218 : Instr), [10, 24, 0], [], 54),
  (54, (.aload_n 0 : Instr), [], [], 55),
  (55, (.getfield 7 : Instr), [10, 0, 3], [], 58),
  (58, (.bipush (28) : Instr), [], [(28, 0)], 60),
  (60, (.iload_n 1 : Instr), [], [], 61),
  (61, (.iadd : Instr), [], [], 62),
  (62, (.iaload : Instr), [], [], 63),
  (63, (.iastore : Instr), [], [], 64),
  (64, (.aload_n 0 : Instr), [], [], 65),
  (65, (.getfield 75 : Instr), [10, 29, 3], [], 68),
  (68, (.aload_n 0 : Instr), [], [], 69),
  (69, (.getfield 218 : Instr), [10, 24, 0], [], 72),
  (72, (.aload_n 0 : Instr), [], [], 73),
  (73, (.getfield 35 : Instr), [10, 11, 0], [], 76),
  (76, (.iastore : Instr), [], [], 77),
  (77, (.aload_n 0 : Instr), [], [], 78),
  (78, (.getfield 78 : Instr), [10, 30, 3], [], 81),
  (81, (.aload_n 0 : Instr), [], [], 82),
  (82, (.getfield 218 : Instr), [10, 24, 0], [], 85),
  (85, (.aload_n 0 : Instr), [], [], 86),
  (86, (.iload_n 1 : Instr), [], [], 87),
  (87, (.iload_n 2 : Instr), [], [], 88),
  (88, (.invokevirtual 264 : Instr), [1, 117, 3, 10], [], 91),
  (91, (.lastore : Instr), [], [], 92),
  (92, (.aload_n 0 : Instr), [], [], 93),
  (93, (.dup : Instr), [], [], 94),
  (94, (.getfield 218 : Instr), [10, 24, 0], [], 97),
  (97, (.iconst (1) : Instr), [], [(1, 0)], 98),
  (98, (.iadd : Instr), [], [], 99),
  (99, (.putfield 218 : Instr), [10, 24, 0], [], 102),
  (102, (.return_ : Instr), [], [], 0)]
/-! HandsAndWaysModel.asksAim(III)V -/
def zc_120 : List (Nat × zE) := [(0, (.aload_n 0 : Instr), [], [], 1),
  (1, (.iload_n 1 : Instr), [], [], 2),
  (2, (.iload_n 2 : Instr), [], [], 3),
  (3, (.iload_n 3 : Instr), [], [], 4),
  (4, (.invokevirtual 271 : Instr), [1, 118, 4, 10], [], 7),
  (7, (.ifCond .eq (4) : Instr), [11], [], 10),
  (10, (.return_ : Instr), [], [], 11),
  (11, (.iconst (0) : Instr), [], [(0, 0)], 12),
  (12, (.istore 4 : Instr), [], [], 14),
  (14, (.iconst (0) : Instr), [], [(0, 0)], 15),
  (15, (.istore 5 : Instr), [], [], 17),
  (17, (.iload 5 : Instr), [], [], 19),
  (19, (.iconst (4) : Instr), [], [(4, 0)], 20),
  (20, (.if_icmp .ge (166) : Instr), [186], [], 23),
  (23, (.aload_n 0 : Instr), [], [], 24),
  (24, (.iload_n 1 : Instr), [], [], 25),
  (25, (.iload_n 2 : Instr), [], [], 26),
  (26, (.iload 5 : Instr), [], [], 28),
  (28, (.iload_n 3 : Instr), [], [], 29),
  (29, (.invokevirtual 274 : Instr), [1, 116, 5, 10], [], 32),
  (32, (.istore 6 : Instr), [], [], 34),
  (34, (.iload 4 : Instr), [], [], 36),
  (36, (.ifCond .ne (9) : Instr), [45], [], 39),
  (39, (.iload 6 : Instr), [], [], 41),
  (41, (.iconst (-1) : Instr), [], [(-1, 0)], 42),
  (42, (.if_icmp .eq (7) : Instr), [49], [], 45),
  (45, (.iconst (1) : Instr), [], [(1, 0)], 46),
  (46, (.goto (4) : Instr), [50], [], 49),
  (49, (.iconst (0) : Instr), [], [(0, 0)], 50),
  (50, (.istore 4 : Instr), [], [], 52),
  (52, (.iload 6 : Instr), [], [], 54),
  (54, (.iconst (-1) : Instr), [], [(-1, 0)], 55),
  (55, (.if_icmp .eq (125) : Instr), [180], [], 58),
  (58, (.aload_n 0 : Instr), [], [], 59),
  (59, (.getfield 278 : Instr), [10, 23, 0], [], 62),
  (62, (.iconst (-1) : Instr), [], [(-1, 0)], 63),
  (63, (.if_icmp .eq (17) : Instr), [80], [], 66),
  (66, (.aload_n 0 : Instr), [], [], 67),
  (67, (.getfield 281 : Instr), [10, 47, 0], [], 70),
  (70, (.iload 6 : Instr), [], [], 72),
  (72, (.iadd : Instr), [], [], 73),
  (73, (.aload_n 0 : Instr), [], [], 74),
  (74, (.getfield 278 : Instr), [10, 23, 0], [], 77),
  (77, (.if_icmp .ge (103) : Instr), [180], [], 80),
  (80, (.aload_n 0 : Instr), [], [], 81),
  (81, (.aload_n 0 : Instr), [], [], 82),
  (82, (.getfield 281 : Instr), [10, 47, 0], [], 85),
  (85, (.iload 6 : Instr), [], [], 87),
  (87, (.iadd : Instr), [], [], 88),
  (88, (.putfield 278 : Instr), [10, 23, 0], [], 91),
  (91, (.aload_n 0 : Instr), [], [], 92),
  (92, (.iconst (0) : Instr), [], [(0, 0)], 93),
  (93, (.putfield 284 : Instr), [10, 19, 0], [], 96),
  (96, (.aload_n 0 : Instr), [], [], 97),
  (97, (.getfield 287 : Instr), [10, 44, 0], [], 100),
  (100, (.iconst (-1) : Instr), [], [(-1, 0)], 101),
  (101, (.if_icmp .eq (38) : Instr), [139], [], 104),
  (104, (.aload_n 0 : Instr), [], [], 105),
  (105, (.getfield 54 : Instr), [10, 20, 3], [], 108),
  (108, (.iconst (0) : Instr), [], [(0, 0)], 109),
  (109, (.aload_n 0 : Instr), [], [], 110),
  (110, (.getfield 287 : Instr), [10, 44, 0], [], 113),
  (113, (.iastore : Instr), [], [], 114),
  (114, (.aload_n 0 : Instr), [], [], 115),
  (115, (.getfield 57 : Instr), [10, 21, 3], [], 118),
  (118, (.iconst (0) : Instr), [], [(0, 0)], 119),
  (119, (.aload_n 0 : Instr), [], [], 120),
  (120, (.getfield 290 : Instr), [10, 45, 0], [], 123),
  (123, (.iastore : Instr), [], [], 124),
  (124, (.aload_n 0 : Instr), [], [], 125),
  (125, (.getfield 60 : Instr), [10, 22, 3], [], 128),
  (128, (.iconst (0) : Instr), [], [(0, 0)], 129),
  (129, (.aload_n 0 : Instr), [], [], 130),
  (130, (.getfield 293 : Instr), [10, 46, 0], [], 133),
  (133, (.iastore : Instr), [], [], 134),
  (134, (.aload_n 0 : Instr), [], [], 135),
  (135, (.iconst (1) : Instr), [], [(1, 0)], 136),
  (136, (.putfield 284 : Instr), [10, 19, 0], [], 139),
  (139, (.aload_n 0 : Instr), [], [], 140),
  (140, (.getfield 54 : Instr), [10, 20, 3], [], 143),
  (143, (.aload_n 0 : Instr), [], [], 144),
  (144, (.getfield 284 : Instr), [10, 19, 0], [], 147),
  (147, (.iload_n 2 : Instr), [], [], 148),
  (148, (.iastore : Instr), [], [], 149),
  (149, (.aload_n 0 : Instr), [], [], 150),
  (150, (.getfield 57 : Instr), [10, 21, 3], [], 153),
  (153, (.aload_n 0 : Instr), [], [], 154),
  (154, (.getfield 284 : Instr), [10, 19, 0], [], 157),
  (157, (.iload 5 : Instr), [], [], 159),
  (159, (.iastore : Instr), [], [], 160),
  (160, (.aload_n 0 : Instr), [], [], 161),
  (161, (.getfield 60 : Instr), [10, 22, 3], [], 164),
  (164, (.aload_n 0 : Instr), [], [], 165),
  (165, (.getfield 284 : Instr), [10, 19, 0], [], 168),
  (168, (.iload_n 3 : Instr), [], [], 169),
  (169, (.iastore : Instr), [], [], 170),
  (170, (.aload_n 0 : Instr), [], [], 171),
  (171, (.dup : Instr), [], [], 172),
  (172, (.getfield 284 : Instr), [10, 19, 0], [], 175),
  (175, (.iconst (1) : Instr), [], [(1, 0)], 176),
  (176, (.iadd : Instr), [], [], 177),
  (177, (.putfield 284 : Instr), [10, 19, 0], [], 180),
  (180, (.iinc 5 (1) : Instr), [], [], 183),
  (183, (.goto (-166) : Instr), [17], [], 186),
  (186, (.iload 4 : Instr), [], [], 188),
  (188, (.ifCond .ne (10) : Instr), [198], [], 191),
  (191, (.aload_n 0 : Instr), [], [], 192),
  (192, (.iload_n 1 : Instr), [], [], 193),
  (193, (.iload_n 2 : Instr), [], [], 194),
  (194, (.iload_n 3 : Instr), [], [], 195),
  (195, (.invokevirtual 296 : Instr), [1, 119, 4, 10], [], 198),
  (198, (.return_ : Instr), [], [], 0)]
/-! HandsAndWaysModel.asksOther(IIIII)V -/
def zc_121 : List (Nat × zE) := [(0, (.aload_n 0 : Instr), [], [], 1),
  (1, (.iload_n 1 : Instr), [], [], 2),
  (2, (.iload_n 2 : Instr), [], [], 3),
  (3, (.iload_n 3 : Instr), [], [], 4),
  (4, (.invokevirtual 271 : Instr), [1, 118, 4, 10], [], 7),
  (7, (.ifCond .eq (4) : Instr), [11], [], 10),
  (10, (.return_ : Instr), [], [], 11),
  (11, (.iconst (0) : Instr), [], [(0, 0)], 12),
  (12, (.istore 6 : Instr), [], [], 14),
  (14, (.aload_n 0 : Instr), [], [], 15),
  (15, (.getfield 7 : Instr), [10, 0, 3], [], 18),
  (18, (.iconst (0) : Instr), [], [(0, 0)], 19),
  (19, (.iload_n 2 : Instr), [], [], 20),
  (20, (.iadd : Instr), [], [], 21),
  (21, (.iaload : Instr), [], [], 22),
  (22, (.istore 7 : Instr), [], [], 24),
  (24, (.aload_n 0 : Instr), [], [], 25),
  (25, (.getfield 7 : Instr), [10, 0, 3], [], 28),
  (28, (.bipush (28) : Instr), [], [(28, 0)], 30),
  (30, (.iload_n 1 : Instr), [], [], 31),
  (31, (.iadd : Instr), [], [], 32),
  (32, (.iaload : Instr), [], [], 33),
  (33, (.istore 8 : Instr), [], [], 35),
  (35, (.iconst (0) : Instr), [], [(0, 0)], 36),
  (36, (.istore 9 : Instr), [], [], 38),
  (38, (.iload 9 : Instr), [], [], 40),
  (40, (.iconst (4) : Instr), [], [(4, 0)], 41),
  (41, (.if_icmp .ge (136) : Instr), [177], [], 44),
  (44, (.aload_n 0 : Instr), [], [], 45),
  (45, (.iload_n 1 : Instr), [], [], 46),
  (46, (.iload_n 2 : Instr), [], [], 47),
  (47, (.iload 9 : Instr), [], [], 49),
  (49, (.iload_n 3 : Instr), [], [], 50),
  (50, (.invokevirtual 274 : Instr), [1, 116, 5, 10], [], 53),
  (53, (.istore 10 : Instr), [], [], 55),
  (55, (.iload 6 : Instr), [], [], 57),
  (57, (.ifCond .ne (9) : Instr), [66], [], 60),
  (60, (.iload 10 : Instr), [], [], 62),
  (62, (.iconst (-1) : Instr), [], [(-1, 0)], 63),
  (63, (.if_icmp .eq (7) : Instr), [70], [], 66),
  (66, (.iconst (1) : Instr), [], [(1, 0)], 67),
  (67, (.goto (4) : Instr), [71], [], 70),
  (70, (.iconst (0) : Instr), [], [(0, 0)], 71),
  (71, (.istore 6 : Instr), [], [], 73),
  (73, (.iload 10 : Instr), [], [], 75),
  (75, (.iconst (-1) : Instr), [], [(-1, 0)], 76),
  (76, (.if_icmp .eq (95) : Instr), [171], [], 79),
  (79, (.aload_n 0 : Instr), [], [], 80),
  (80, (.getfield 7 : Instr), [10, 0, 3], [], 83),
  (83, (.iconst (0) : Instr), [], [(0, 0)], 84),
  (84, (.iload_n 2 : Instr), [], [], 85),
  (85, (.iadd : Instr), [], [], 86),
  (86, (.iload_n 3 : Instr), [], [], 87),
  (87, (.iastore : Instr), [], [], 88),
  (88, (.aload_n 0 : Instr), [], [], 89),
  (89, (.getfield 7 : Instr), [10, 0, 3], [], 92),
  (92, (.bipush (28) : Instr), [], [(28, 0)], 94),
  (94, (.iload_n 1 : Instr), [], [], 95),
  (95, (.iadd : Instr), [], [], 96),
  (96, (.iload_n 3 : Instr), [], [], 97),
  (97, (.iload 9 : Instr), [], [], 99),
  (99, (.aload_n 0 : Instr), [], [], 100),
  (100, (.getfield 32 : Instr), [10, 10, 3], [], 103),
  (103, (.iload_n 2 : Instr), [], [], 104),
  (104, (.iaload : Instr), [], [], 105),
  (105, (.invokestatic 261 : Instr), [0, 115, 3, 0], [], 108),
  (108, (.iastore : Instr), [], [], 109),
  (109, (.aload_n 0 : Instr), [], [], 110),
  (110, (.iload_n 2 : Instr), [], [], 111),
  (111, (.putfield 287 : Instr), [10, 44, 0], [], 114),
  (114, (.aload_n 0 : Instr), [], [], 115),
  (115, (.iload 9 : Instr), [], [], 117),
  (117, (.putfield 290 : Instr), [10, 45, 0], [], 120),
  (120, (.aload_n 0 : Instr), [], [], 121),
  (121, (.iload_n 3 : Instr), [], [], 122),
  (122, (.putfield 293 : Instr), [10, 46, 0], [], 125),
  (125, (.aload_n 0 : Instr), [], [], 126),
  (126, (.iload 10 : Instr), [], [], 128),
  (128, (.putfield 281 : Instr), [10, 47, 0], [], 131),
  (131, (.aload_n 0 : Instr), [], [], 132),
  (132, (.iload_n 1 : Instr), [], [], 133),
  (133, (.iload 4 : Instr), [], [], 135),
  (135, (.iload 5 : Instr), [], [], 137),
  (137, (.invokevirtual 300 : Instr), [1, 120, 4, 10], [], 140),
  (140, (.aload_n 0 : Instr), [], [], 141),
  (141, (.getfield 7 : Instr), [10, 0, 3], [], 144),
  (144, (.iconst (0) : Instr), [], [(0, 0)], 145),
  (145, (.iload_n 2 : Instr), [], [], 146),
  (146, (.iadd : Instr), [], [], 147),
  (147, (.iload 7 : Instr), [], [], 149),
  (149, (.iastore : Instr), [], [], 150),
  (150, (.aload_n 0 : Instr), [], [], 151),
  (151, (.getfield 7 : Instr), [10, 0, 3], [], 154),
  (154, (.bipush (28) : Instr), [], [(28, 0)], 156),
  (156, (.iload_n 1 : Instr), [], [], 157),
  (157, (.iadd : Instr), [], [], 158),
  (158, (.iload 8 : Instr), [], [], 160),
  (160, (.iastore : Instr), [], [], 161),
  (161, (.aload_n 0 : Instr), [], [], 162),
  (162, (.iconst (-1) : Instr), [], [(-1, 0)], 163),
  (163, (.putfield 287 : Instr), [10, 44, 0], [], 166),
  (166, (.aload_n 0 : Instr), [], [], 167),
  (167, (.iconst (0) : Instr), [], [(0, 0)], 168),
  (168, (.putfield 281 : Instr), [10, 47, 0], [], 171),
  (171, (.iinc 9 (1) : Instr), [], [], 174),
  (174, (.goto (-136) : Instr), [38], [], 177),
  (177, (.iload 6 : Instr), [], [], 179),
  (179, (.ifCond .ne (10) : Instr), [189], [], 182),
  (182, (.aload_n 0 : Instr), [], [], 183),
  (183, (.iload_n 1 : Instr), [], [], 184),
  (184, (.iload_n 2 : Instr), [], [], 185),
  (185, (.iload_n 3 : Instr), [], [], 186),
  (186, (.invokevirtual 296 : Instr), [1, 119, 4, 10], [], 189),
  (189, (.return_ : Instr), [], [], 0)]
/-! HandsAndWaysModel.seeks(IIIIIZ)V -/
def zc_122 : List (Nat × zE) := [(0, (.iconst (0) : Instr), [], [(0, 0)], 1),
  (1, (.istore 7 : Instr), [], [], 3),
  (3, (.iload 7 : Instr), [], [], 5),
  (5, (.aload_n 0 : Instr), [], [], 6),
  (6, (.getfield 107 : Instr), [10, 8, 0], [], 9),
  (9, (.if_icmp .ge (129) : Instr), [138], [], 12),
  (12, (.iload 7 : Instr), [], [], 14),
  (14, (.iload_n 2 : Instr), [], [], 15),
  (15, (.if_icmp .ne (13) : Instr), [28], [], 18),
  (18, (.aload_n 0 : Instr), [], [], 19),
  (19, (.iload_n 1 : Instr), [], [], 20),
  (20, (.iload_n 2 : Instr), [], [], 21),
  (21, (.iload_n 3 : Instr), [], [], 22),
  (22, (.invokevirtual 300 : Instr), [1, 120, 4, 10], [], 25),
  (25, (.goto (107) : Instr), [132], [], 28),
  (28, (.iload 6 : Instr), [], [], 30),
  (30, (.ifCond .eq (102) : Instr), [132], [], 33),
  (33, (.iload 4 : Instr), [], [], 35),
  (35, (.iload 7 : Instr), [], [], 37),
  (37, (.ishr : Instr), [], [], 38),
  (38, (.iconst (1) : Instr), [], [(1, 0)], 39),
  (39, (.iand : Instr), [], [], 40),
  (40, (.iconst (1) : Instr), [], [(1, 0)], 41),
  (41, (.if_icmp .ne (91) : Instr), [132], [], 44),
  (44, (.aload_n 0 : Instr), [], [], 45),
  (45, (.getfield 7 : Instr), [10, 0, 3], [], 48),
  (48, (.iconst (0) : Instr), [], [(0, 0)], 49),
  (49, (.iload 7 : Instr), [], [], 51),
  (51, (.iadd : Instr), [], [], 52),
  (52, (.iaload : Instr), [], [], 53),
  (53, (.iconst (-1) : Instr), [], [(-1, 0)], 54),
  (54, (.if_icmp .eq (78) : Instr), [132], [], 57),
  (57, (.aload_n 0 : Instr), [], [], 58),
  (58, (.getfield 7 : Instr), [10, 0, 3], [], 61),
  (61, (.bipush (8) : Instr), [], [(8, 0)], 63),
  (63, (.iload 7 : Instr), [], [], 65),
  (65, (.iadd : Instr), [], [], 66),
  (66, (.iaload : Instr), [], [], 67),
  (67, (.iconst (-1) : Instr), [], [(-1, 0)], 68),
  (68, (.if_icmp .ne (64) : Instr), [132], [], 71),
  (71, (.iconst (0) : Instr), [], [(0, 0)], 72),
  (72, (.istore 8 : Instr), [], [], 74),
  (74, (.iload 8 : Instr), [], [], 76),
  (76, (.aload_n 0 : Instr), [], [], 77),
  (77, (.getfield 91 : Instr), [10, 38, 3], [], 80),
  (80, (.iload 5 : Instr), [], [], 82),
  (82, (.iaload : Instr), [], [], 83),
  (83, (.if_icmp .ge (49) : Instr), [132], [], 86),
  (86, (.aload_n 0 : Instr), [], [], 87),
  (87, (.getfield 94 : Instr), [10, 39, 3], [], 90),
  (90, (.bipush (40) : Instr), [], [(40, 0)], 92),
  (92, (.iload 5 : Instr), [], [], 94),
  (94, (.imul : Instr), [], [], 95),
  (95, (.iload 8 : Instr), [], [], 97),
  (97, (.iadd : Instr), [], [], 98),
  (98, (.iaload : Instr), [], [], 99),
  (99, (.istore 9 : Instr), [], [], 101),
  (101, (.aload_n 0 : Instr), [], [], 102),
  (102, (.getfield 7 : Instr), [10, 0, 3], [], 105),
  (105, (.iconst (0) : Instr), [], [(0, 0)], 106),
  (106, (.iload 7 : Instr), [], [], 108),
  (108, (.iadd : Instr), [], [], 109),
  (109, (.iaload : Instr), [], [], 110),
  (110, (.iload 9 : Instr), [], [], 112),
  (112, (.if_icmp .eq (14) : Instr), [126], [], 115),
  (115, (.aload_n 0 : Instr), [], [], 116),
  (116, (.iload_n 1 : Instr), [], [], 117),
  (117, (.iload 7 : Instr), [], [], 119),
  (119, (.iload 9 : Instr), [], [], 121),
  (121, (.iload_n 2 : Instr), [], [], 122),
  (122, (.iload_n 3 : Instr), [], [], 123),
  (123, (.invokevirtual 303 : Instr), [1, 121, 6, 10], [], 126),
  (126, (.iinc 8 (1) : Instr), [], [], 129),
  (129, (.goto (-55) : Instr), [74], [], 132),
  (132, (.iinc 7 (1) : Instr), [], [], 135),
  (135, (.goto (-132) : Instr), [3], [], 138),
  (138, (.return_ : Instr), [], [], 0)]
/-! HandsAndWaysModel.plan(IIIII)I -/
def zc_123 : List (Nat × zE) := [(0, (.aload_n 0 : Instr), [], [], 1),
  (1, (.iload_n 1 : Instr), [], [], 2),
  (2, (.invokevirtual 162 : Instr), [1, 68, 2, 10], [], 5),
  (5, (.ifCond .eq (28) : Instr), [33], [], 8),
  (8, (.aload_n 0 : Instr), [], [], 9),
  (9, (.iload_n 2 : Instr), [], [], 10),
  (10, (.invokevirtual 184 : Instr), [1, 51, 2, 10], [], 13),
  (13, (.ifCond .eq (20) : Instr), [33], [], 16),
  (16, (.iload_n 3 : Instr), [], [], 17),
  (17, (.invokestatic 165 : Instr), [0, 50, 1, 0], [], 20),
  (20, (.ifCond .eq (13) : Instr), [33], [], 23),
  (23, (.iload 5 : Instr), [], [], 25),
  (25, (.iconst (0) : Instr), [], [(0, 0)], 26),
  (26, (.iconst (3) : Instr), [], [(3, 0)], 27),
  (27, (.invokestatic 103 : Instr), [0, 49, 3, 0], [], 30),
  (30, (.ifCond .ne (6) : Instr), [36], [], 33),
  (33, (.bipush (-5) : Instr), [], [(-5, 0)], 35),
  (35, (.ireturn : Instr), [0], [], 36),
  (36, (.aload_n 0 : Instr), [], [], 37),
  (37, (.getfield 88 : Instr), [10, 37, 3], [], 40),
  (40, (.iload 5 : Instr), [], [], 42),
  (42, (.iaload : Instr), [], [], 43),
  (43, (.iconst (-1) : Instr), [], [(-1, 0)], 44),
  (44, (.if_icmp .ne (6) : Instr), [50], [], 47),
  (47, (.bipush (-11) : Instr), [], [(-11, 0)], 49),
  (49, (.ireturn : Instr), [0], [], 50),
  (50, (.aload_n 0 : Instr), [], [], 51),
  (51, (.getfield 91 : Instr), [10, 38, 3], [], 54),
  (54, (.iload 5 : Instr), [], [], 56),
  (56, (.iaload : Instr), [], [], 57),
  (57, (.iconst (5) : Instr), [], [(5, 0)], 58),
  (58, (.if_icmp .gt (19) : Instr), [77], [], 61),
  (61, (.iload 4 : Instr), [], [], 63),
  (63, (.iconst (0) : Instr), [], [(0, 0)], 64),
  (64, (.sipush (255) : Instr), [], [(255, 0)], 67),
  (67, (.invokestatic 103 : Instr), [0, 49, 3, 0], [], 70),
  (70, (.ifCond .eq (7) : Instr), [77], [], 73),
  (73, (.iconst (1) : Instr), [], [(1, 0)], 74),
  (74, (.goto (4) : Instr), [78], [], 77),
  (77, (.iconst (0) : Instr), [], [(0, 0)], 78),
  (78, (.istore 6 : Instr), [], [], 80),
  (80, (.iconst (0) : Instr), [], [(0, 0)], 81),
  (81, (.istore 7 : Instr), [], [], 83),
  (83, (.iload 7 : Instr), [], [], 85),
  (85, (.aload_n 0 : Instr), [], [], 86),
  (86, (.getfield 91 : Instr), [10, 38, 3], [], 89),
  (89, (.iload 5 : Instr), [], [], 91),
  (91, (.iaload : Instr), [], [], 92),
  (92, (.if_icmp .ge (32) : Instr), [124], [], 95),
  (95, (.iload 6 : Instr), [], [], 97),
  (97, (.ifCond .eq (27) : Instr), [124], [], 100),
  (100, (.aload_n 0 : Instr), [], [], 101),
  (101, (.getfield 94 : Instr), [10, 39, 3], [], 104),
  (104, (.bipush (40) : Instr), [], [(40, 0)], 106),
  (106, (.iload 5 : Instr), [], [], 108),
  (108, (.imul : Instr), [], [], 109),
  (109, (.iload 7 : Instr), [], [], 111),
  (111, (.iadd : Instr), [], [], 112),
  (112, (.iaload : Instr), [], [], 113),
  (113, (.invokestatic 165 : Instr), [0, 50, 1, 0], [], 116),
  (116, (.istore 6 : Instr), [], [], 118),
  (118, (.iinc 7 (1) : Instr), [], [], 121),
  (121, (.goto (-38) : Instr), [83], [], 124),
  (124, (.iload 6 : Instr), [], [], 126),
  (126, (.ifCond .ne (6) : Instr), [132], [], 129),
  (129, (.bipush (-2) : Instr), [], [(-2, 0)], 131),
  (131, (.ireturn : Instr), [0], [], 132),
  (132, (.aload_n 0 : Instr), [], [], 133),
  (133, (.iconst (0) : Instr), [], [(0, 0)], 134),
  (134, (.putfield 284 : Instr), [10, 19, 0], [], 137),
  (137, (.aload_n 0 : Instr), [], [], 138),
  (138, (.iconst (0) : Instr), [], [(0, 0)], 139),
  (139, (.putfield 258 : Instr), [10, 32, 0], [], 142),
  (142, (.aload_n 0 : Instr), [], [], 143),
  (143, (.iconst (-1) : Instr), [], [(-1, 0)], 144),
  (144, (.putfield 278 : Instr), [10, 23, 0], [], 147),
  (147, (.aload_n 0 : Instr), [], [], 148),
  (148, (.getfield 7 : Instr), [10, 0, 3], [], 151),
  (151, (.iconst (0) : Instr), [], [(0, 0)], 152),
  (152, (.iload_n 2 : Instr), [], [], 153),
  (153, (.iadd : Instr), [], [], 154),
  (154, (.iaload : Instr), [], [], 155),
  (155, (.iload_n 3 : Instr), [], [], 156),
  (156, (.if_icmp .ne (10) : Instr), [166], [], 159),
  (159, (.aload_n 0 : Instr), [], [], 160),
  (160, (.iconst (0) : Instr), [], [(0, 0)], 161),
  (161, (.putfield 278 : Instr), [10, 23, 0], [], 164),
  (164, (.iconst (0) : Instr), [], [(0, 0)], 165),
  (165, (.ireturn : Instr), [0], [], 166),
  (166, (.aload_n 0 : Instr), [], [], 167),
  (167, (.getfield 7 : Instr), [10, 0, 3], [], 170),
  (170, (.bipush (30) : Instr), [], [(30, 0)], 172),
  (172, (.iload_n 1 : Instr), [], [], 173),
  (173, (.iadd : Instr), [], [], 174),
  (174, (.iaload : Instr), [], [], 175),
  (175, (.iconst (-1) : Instr), [], [(-1, 0)], 176),
  (176, (.if_icmp .ne (16) : Instr), [192], [], 179),
  (179, (.aload_n 0 : Instr), [], [], 180),
  (180, (.getfield 7 : Instr), [10, 0, 3], [], 183),
  (183, (.bipush (8) : Instr), [], [(8, 0)], 185),
  (185, (.iload_n 2 : Instr), [], [], 186),
  (186, (.iadd : Instr), [], [], 187),
  (187, (.iaload : Instr), [], [], 188),
  (188, (.iconst (-1) : Instr), [], [(-1, 0)], 189),
  (189, (.if_icmp .eq (6) : Instr), [195], [], 192),
  (192, (.bipush (-6) : Instr), [], [(-6, 0)], 194),
  (194, (.ireturn : Instr), [0], [], 195),
  (195, (.aload_n 0 : Instr), [], [], 196),
  (196, (.iconst (-1) : Instr), [], [(-1, 0)], 197),
  (197, (.putfield 287 : Instr), [10, 44, 0], [], 200),
  (200, (.aload_n 0 : Instr), [], [], 201),
  (201, (.iconst (0) : Instr), [], [(0, 0)], 202),
  (202, (.putfield 281 : Instr), [10, 47, 0], [], 205),
  (205, (.aload_n 0 : Instr), [], [], 206),
  (206, (.iload_n 1 : Instr), [], [], 207),
  (207, (.iload_n 2 : Instr), [], [], 208),
  (208, (.iload_n 3 : Instr), [], [], 209),
  (209, (.iload 4 : Instr), [], [], 211),
  (211, (.iload 5 : Instr), [], [], 213),
  (213, (.iconst (0) : Instr), [], [(0, 0)], 214),
  (214, (.invokevirtual 307 : Instr), [1, 122, 7, 10], [], 217),
  (217, (.aload_n 0 : Instr), [], [], 218),
  (218, (.getfield 278 : Instr), [10, 23, 0], [], 221),
  (221, (.iconst (-1) : Instr), [], [(-1, 0)], 222),
  (222, (.if_icmp .ne (15) : Instr), [237], [], 225),
  (225, (.aload_n 0 : Instr), [], [], 226),
  (226, (.iload_n 1 : Instr), [], [], 227),
  (227, (.iload_n 2 : Instr), [], [], 228),
  (228, (.iload_n 3 : Instr), [], [], 229),
  (229, (.iload 4 : Instr), [], [], 231),
  (231, (.iload 5 : Instr), [], [], 233),
  (233, (.iconst (1) : Instr), [], [(1, 0)], 234),
  (234, (.invokevirtual 307 : Instr), [1, 122, 7, 10], [], 237),
  (237, (.aload_n 0 : Instr), [], [], 238),
  (238, (.getfield 278 : Instr), [10, 23, 0], [], 241),
  (241, (.iconst (-1) : Instr), [], [(-1, 0)], 242),
  (242, (.if_icmp .ne (8) : Instr), [250], [], 245),
  (245, (.bipush (-3) : Instr), [], [(-3, 0)], 247),
  (247, (.goto (7) : Instr), [254], [], 250),
  (250, (.aload_n 0 : Instr), [], [], 251),
  (251, (.getfield 284 : Instr), [10, 19, 0], [], 254),
  (254, (.ireturn : Instr), [0], [], 0)]
/-! HandsAndWaysModel.planned(II)I -/
def zc_124 : List (Nat × zE) := [(0, (.iload_n 2 : Instr), [], [], 1),
  (1, (.iconst (3) : Instr), [], [(3, 0)], 2),
  (2, (.if_icmp .ne (21) : Instr), [23], [], 5),
  (5, (.aload_n 0 : Instr), [], [], 6),
  (6, (.getfield 278 : Instr), [10, 23, 0], [], 9),
  (9, (.iconst (-1) : Instr), [], [(-1, 0)], 10),
  (10, (.if_icmp .ne (8) : Instr), [18], [], 13),
  (13, (.bipush (-3) : Instr), [], [(-3, 0)], 15),
  (15, (.goto (7) : Instr), [22], [], 18),
  (18, (.aload_n 0 : Instr), [], [], 19),
  (19, (.getfield 278 : Instr), [10, 23, 0], [], 22),
  (22, (.ireturn : Instr), [0], [], 23),
  (23, (.iload_n 1 : Instr), [], [], 24),
  (24, (.iconst (0) : Instr), [], [(0, 0)], 25),
  (25, (.aload_n 0 : Instr), [], [], 26),
  (26, (.getfield 284 : Instr), [10, 19, 0], [], 29),
  (29, (.iconst (1) : Instr), [], [(1, 0)], 30),
  (30, (.isub : Instr), [], [], 31),
  (31, (.invokestatic 103 : Instr), [0, 49, 3, 0], [], 34),
  (34, (.ifCond .ne (6) : Instr), [40], [], 37),
  (37, (.bipush (-7) : Instr), [], [(-7, 0)], 39),
  (39, (.ireturn : Instr), [0], [], 40),
  (40, (.iload_n 2 : Instr), [], [], 41),
  (41, (.ifCond .ne (12) : Instr), [53], [], 44),
  (44, (.aload_n 0 : Instr), [], [], 45),
  (45, (.getfield 54 : Instr), [10, 20, 3], [], 48),
  (48, (.iload_n 1 : Instr), [], [], 49),
  (49, (.iaload : Instr), [], [], 50),
  (50, (.goto (33) : Instr), [83], [], 53),
  (53, (.iload_n 2 : Instr), [], [], 54),
  (54, (.iconst (1) : Instr), [], [(1, 0)], 55),
  (55, (.if_icmp .ne (12) : Instr), [67], [], 58),
  (58, (.aload_n 0 : Instr), [], [], 59),
  (59, (.getfield 57 : Instr), [10, 21, 3], [], 62),
  (62, (.iload_n 1 : Instr), [], [], 63),
  (63, (.iaload : Instr), [], [], 64),
  (64, (.goto (19) : Instr), [83], [], 67),
  (67, (.iload_n 2 : Instr), [], [], 68),
  (68, (.iconst (2) : Instr), [], [(2, 0)], 69),
  (69, (.if_icmp .ne (12) : Instr), [81], [], 72),
  (72, (.aload_n 0 : Instr), [], [], 73),
  (73, (.getfield 60 : Instr), [10, 22, 3], [], 76),
  (76, (.iload_n 1 : Instr), [], [], 77),
  (77, (.iaload : Instr), [], [], 78),
  (78, (.goto (5) : Instr), [83], [], 81),
  (81, (.bipush (-7) : Instr), [], [(-7, 0)], 83),
  (83, (.ireturn : Instr), [0], [], 0)]
/-! HandsAndWaysModel.learnt(I)I -/
def zc_125 : List (Nat × zE) := [(0, (.iload_n 1 : Instr), [], [], 1),
  (1, (.ifCond .ne (10) : Instr), [11], [], 4),
  (4, (.aload_n 0 : Instr), [], [], 5),
  (5, (.getfield 218 : Instr), [10, 24, 0], [], 8),
  (8, (.goto (29) : Instr), [37], [], 11),
  (11, (.iload_n 1 : Instr), [], [], 12),
  (12, (.iconst (1) : Instr), [], [(1, 0)], 13),
  (13, (.if_icmp .ne (10) : Instr), [23], [], 16),
  (16, (.aload_n 0 : Instr), [], [], 17),
  (17, (.getfield 268 : Instr), [10, 31, 0], [], 20),
  (20, (.goto (17) : Instr), [37], [], 23),
  (23, (.iload_n 1 : Instr), [], [], 24),
  (24, (.iconst (2) : Instr), [], [(2, 0)], 25),
  (25, (.if_icmp .ne (10) : Instr), [35], [], 28),
  (28, (.aload_n 0 : Instr), [], [], 29),
  (29, (.getfield 258 : Instr), [10, 32, 0], [], 32),
  (32, (.goto (5) : Instr), [37], [], 35),
  (35, (.bipush (-2) : Instr), [], [(-2, 0)], 37),
  (37, (.ireturn : Instr), [0], [], 0)]
/-! HandsAndWaysModel.maybe(III)I -/
def zc_126 : List (Nat × zE) := [(0, (.aload_n 0 : Instr), [], [], 1),
  (1, (.iload_n 1 : Instr), [], [], 2),
  (2, (.invokevirtual 184 : Instr), [1, 51, 2, 10], [], 5),
  (5, (.ifCond .eq (10) : Instr), [15], [], 8),
  (8, (.iload_n 2 : Instr), [], [], 9),
  (9, (.invokestatic 165 : Instr), [0, 50, 1, 0], [], 12),
  (12, (.ifCond .ne (5) : Instr), [17], [], 15),
  (15, (.iconst (-1) : Instr), [], [(-1, 0)], 16),
  (16, (.ireturn : Instr), [0], [], 17),
  (17, (.iload_n 3 : Instr), [], [], 18),
  (18, (.iconst (1) : Instr), [], [(1, 0)], 19),
  (19, (.bipush (99) : Instr), [], [(99, 0)], 21),
  (21, (.invokestatic 103 : Instr), [0, 49, 3, 0], [], 24),
  (24, (.ifCond .ne (6) : Instr), [30], [], 27),
  (27, (.bipush (-2) : Instr), [], [(-2, 0)], 29),
  (29, (.ireturn : Instr), [0], [], 30),
  (30, (.aload_n 0 : Instr), [], [], 31),
  (31, (.getfield 215 : Instr), [10, 33, 0], [], 34),
  (34, (.ifCond .le (14) : Instr), [48], [], 37),
  (37, (.aload_n 0 : Instr), [], [], 38),
  (38, (.getfield 311 : Instr), [10, 34, 0], [], 41),
  (41, (.iload_n 1 : Instr), [], [], 42),
  (42, (.if_icmp .eq (6) : Instr), [48], [], 45),
  (45, (.bipush (-3) : Instr), [], [(-3, 0)], 47),
  (47, (.ireturn : Instr), [0], [], 48),
  (48, (.aload_n 0 : Instr), [], [], 49),
  (49, (.getfield 215 : Instr), [10, 33, 0], [], 52),
  (52, (.bipush (6) : Instr), [], [(6, 0)], 54),
  (54, (.if_icmp .ne (6) : Instr), [60], [], 57),
  (57, (.bipush (-4) : Instr), [], [(-4, 0)], 59),
  (59, (.ireturn : Instr), [0], [], 60),
  (60, (.aload_n 0 : Instr), [], [], 61),
  (61, (.iload_n 1 : Instr), [], [], 62),
  (62, (.putfield 311 : Instr), [10, 34, 0], [], 65),
  (65, (.aload_n 0 : Instr), [], [], 66),
  (66, (.getfield 82 : Instr), [10, 35, 3], [], 69),
  (69, (.aload_n 0 : Instr), [], [], 70),
  (70, (.getfield 215 : Instr), [10, 33, 0], [], 73),
  (73, (.iload_n 2 : Instr), [], [], 74),
  (74, (.iastore : Instr), [], [], 75),
  (75, (.aload_n 0 : Instr), [], [], 76),
  (76, (.getfield 85 : Instr), [10, 36, 3], [], 79),
  (79, (.aload_n 0 : Instr), [], [], 80),
  (80, (.getfield 215 : Instr), [10, 33, 0], [], 83),
  (83, (.iload_n 3 : Instr), [], [], 84),
  (84, (.iastore : Instr), [], [], 85),
  (85, (.aload_n 0 : Instr), [], [], 86),
  (86, (.dup : Instr), [], [], 87),
  (87, (.getfield 215 : Instr), [10, 33, 0], [], 90),
  (90, (.iconst (1) : Instr), [], [(1, 0)], 91),
  (91, (.iadd : Instr), [], [], 92),
  (92, (.putfield 215 : Instr), [10, 33, 0], [], 95),
  (95, (.aload_n 0 : Instr), [], [], 96),
  (96, (.getfield 215 : Instr), [10, 33, 0], [], 99),
  (99, (.iconst (1) : Instr), [], [(1, 0)], 100),
  (100, (.isub : Instr), [], [], 101),
  (101, (.ireturn : Instr), [0], [], 0)]
/-! HandsAndWaysModel.sure()I -/
def zc_127 : List (Nat × zE) := [(0, (.aload_n 0 : Instr), [], [], 1),
  (1, (.getfield 215 : Instr), [10, 33, 0], [], 4),
  (4, (.istore_n 1 : Instr), [], [], 5),
  (5, (.aload_n 0 : Instr), [], [], 6),
  (6, (.iconst (0) : Instr), [], [(0, 0)], 7),
  (7, (.putfield 215 : Instr), [10, 33, 0], [], 10),
  (10, (.iload_n 1 : Instr), [], [], 11),
  (11, (.ireturn : Instr), [0], [], 0)]
/-! HandsAndWaysModel.cases(III)I -/
def zc_128 : List (Nat × zE) := [(0, (.iload_n 1 : Instr), [], [], 1),
  (1, (.invokestatic 159 : Instr), [0, 52, 1, 0], [], 4),
  (4, (.ifCond .eq (11) : Instr), [15], [], 7),
  (7, (.aload_n 0 : Instr), [], [], 8),
  (8, (.iload_n 2 : Instr), [], [], 9),
  (9, (.invokevirtual 236 : Instr), [1, 103, 2, 10], [], 12),
  (12, (.ifCond .ne (6) : Instr), [18], [], 15),
  (15, (.bipush (-5) : Instr), [], [(-5, 0)], 17),
  (17, (.ireturn : Instr), [0], [], 18),
  (18, (.iload_n 3 : Instr), [], [], 19),
  (19, (.iconst (0) : Instr), [], [(0, 0)], 20),
  (20, (.iconst (3) : Instr), [], [(3, 0)], 21),
  (21, (.invokestatic 103 : Instr), [0, 49, 3, 0], [], 24),
  (24, (.ifCond .ne (6) : Instr), [30], [], 27),
  (27, (.bipush (-2) : Instr), [], [(-2, 0)], 29),
  (29, (.ireturn : Instr), [0], [], 30),
  (30, (.iconst (0) : Instr), [], [(0, 0)], 31),
  (31, (.istore 4 : Instr), [], [], 33),
  (33, (.iconst (0) : Instr), [], [(0, 0)], 34),
  (34, (.istore 5 : Instr), [], [], 36),
  (36, (.iconst (0) : Instr), [], [(0, 0)], 37),
  (37, (.istore 6 : Instr), [], [], 39),
  (39, (.iconst (0) : Instr), [], [(0, 0)], 40),
  (40, (.istore 7 : Instr), [], [], 42),
  (42, (.aload_n 0 : Instr), [], [], 43),
  (43, (.iconst (0) : Instr), [], [(0, 0)], 44),
  (44, (.invokevirtual 245 : Instr), [1, 107, 2, 10], [], 47),
  (47, (.iconst (0) : Instr), [], [(0, 0)], 48),
  (48, (.istore 8 : Instr), [], [], 50),
  (50, (.iload 8 : Instr), [], [], 52),
  (52, (.aload_n 0 : Instr), [], [], 53),
  (53, (.getfield 215 : Instr), [10, 33, 0], [], 56),
  (56, (.if_icmp .ge (155) : Instr), [211], [], 59),
  (59, (.iload 6 : Instr), [], [], 61),
  (61, (.aload_n 0 : Instr), [], [], 62),
  (62, (.getfield 85 : Instr), [10, 36, 3], [], 65),
  (65, (.iload 8 : Instr), [], [], 67),
  (67, (.iaload : Instr), [], [], 68),
  (68, (.iadd : Instr), [], [], 69),
  (69, (.istore 6 : Instr), [], [], 71),
  (71, (.aload_n 0 : Instr), [], [], 72),
  (72, (.getfield 7 : Instr), [10, 0, 3], [], 75),
  (75, (.bipush (8) : Instr), [], [(8, 0)], 77),
  (77, (.aload_n 0 : Instr), [], [], 78),
  (78, (.getfield 311 : Instr), [10, 34, 0], [], 81),
  (81, (.iadd : Instr), [], [], 82),
  (82, (.iaload : Instr), [], [], 83),
  (83, (.iconst (-1) : Instr), [], [(-1, 0)], 84),
  (84, (.if_icmp .ne (121) : Instr), [205], [], 87),
  (87, (.aload_n 0 : Instr), [], [], 88),
  (88, (.aload_n 0 : Instr), [], [], 89),
  (89, (.getfield 311 : Instr), [10, 34, 0], [], 92),
  (92, (.aload_n 0 : Instr), [], [], 93),
  (93, (.getfield 32 : Instr), [10, 10, 3], [], 96),
  (96, (.aload_n 0 : Instr), [], [], 97),
  (97, (.getfield 311 : Instr), [10, 34, 0], [], 100),
  (100, (.iaload : Instr), [], [], 101),
  (101, (.aload_n 0 : Instr), [], [], 102),
  (102, (.getfield 82 : Instr), [10, 35, 3], [], 105),
  (105, (.iload 8 : Instr), [], [], 107),
  (107, (.iaload : Instr), [], [], 108),
  (108, (.invokevirtual 187 : Instr), [1, 79, 4, 10], [], 111),
  (111, (.ifCond .eq (94) : Instr), [205], [], 114),
  (114, (.aload_n 0 : Instr), [], [], 115),
  (115, (.getfield 7 : Instr), [10, 0, 3], [], 118),
  (118, (.iconst (0) : Instr), [], [(0, 0)], 119),
  (119, (.aload_n 0 : Instr), [], [], 120),
  (120, (.getfield 311 : Instr), [10, 34, 0], [], 123),
  (123, (.iadd : Instr), [], [], 124),
  (124, (.aload_n 0 : Instr), [], [], 125),
  (125, (.getfield 82 : Instr), [10, 35, 3], [], 128),
  (128, (.iload 8 : Instr), [], [], 130),
  (130, (.iaload : Instr), [], [], 131),
  (131, (.iastore : Instr), [], [], 132),
  (132, (.aload_n 0 : Instr), [], [], 133),
  (133, (.iload_n 1 : Instr), [], [], 134),
  (134, (.iload_n 2 : Instr), [], [], 135),
  (135, (.invokevirtual 249 : Instr), [1, 106, 3, 10], [], 138),
  (138, (.iconst (-1) : Instr), [], [(-1, 0)], 139),
  (139, (.if_icmp .ne (61) : Instr), [200], [], 142),
  (142, (.iload 4 : Instr), [], [], 144),
  (144, (.iconst (1) : Instr), [], [(1, 0)], 145),
  (145, (.iload 8 : Instr), [], [], 147),
  (147, (.ishl : Instr), [], [], 148),
  (148, (.ior : Instr), [], [], 149),
  (149, (.istore 4 : Instr), [], [], 151),
  (151, (.iload 5 : Instr), [], [], 153),
  (153, (.aload_n 0 : Instr), [], [], 154),
  (154, (.getfield 85 : Instr), [10, 36, 3], [], 157),
  (157, (.iload 8 : Instr), [], [], 159),
  (159, (.iaload : Instr), [], [], 160),
  (160, (.iadd : Instr), [], [], 161),
  (161, (.istore 5 : Instr), [], [], 163),
  (163, (.aload_n 0 : Instr), [], [], 164),
  (164, (.getfield 7 : Instr), [10, 0, 3], [], 167),
  (167, (.bipush (32) : Instr), [], [(32, 0)], 169),
  (169, (.iload_n 1 : Instr), [], [], 170),
  (170, (.iadd : Instr), [], [], 171),
  (171, (.iaload : Instr), [], [], 172),
  (172, (.aload_n 0 : Instr), [], [], 173),
  (173, (.getfield 13 : Instr), [10, 1, 3], [], 176),
  (176, (.bipush (32) : Instr), [], [(32, 0)], 178),
  (178, (.iload_n 1 : Instr), [], [], 179),
  (179, (.iadd : Instr), [], [], 180),
  (180, (.iaload : Instr), [], [], 181),
  (181, (.isub : Instr), [], [], 182),
  (182, (.istore 9 : Instr), [], [], 184),
  (184, (.iload 9 : Instr), [], [], 186),
  (186, (.iload 7 : Instr), [], [], 188),
  (188, (.if_icmp .le (8) : Instr), [196], [], 191),
  (191, (.iload 9 : Instr), [], [], 193),
  (193, (.goto (5) : Instr), [198], [], 196),
  (196, (.iload 7 : Instr), [], [], 198),
  (198, (.istore 7 : Instr), [], [], 200),
  (200, (.aload_n 0 : Instr), [], [], 201),
  (201, (.iconst (1) : Instr), [], [(1, 0)], 202),
  (202, (.invokevirtual 245 : Instr), [1, 107, 2, 10], [], 205),
  (205, (.iinc 8 (1) : Instr), [], [], 208),
  (208, (.goto (-158) : Instr), [50], [], 211),
  (211, (.iload 5 : Instr), [], [], 213),
  (213, (.istore 8 : Instr), [], [], 215),
  (215, (.iload 6 : Instr), [], [], 217),
  (217, (.istore 9 : Instr), [], [], 219),
  (219, (.iload 9 : Instr), [], [], 221),
  (221, (.ifCond .eq (21) : Instr), [242], [], 224),
  (224, (.iload 8 : Instr), [], [], 226),
  (226, (.iload 9 : Instr), [], [], 228),
  (228, (.irem : Instr), [], [], 229),
  (229, (.istore 10 : Instr), [], [], 231),
  (231, (.iload 9 : Instr), [], [], 233),
  (233, (.istore 8 : Instr), [], [], 235),
  (235, (.iload 10 : Instr), [], [], 237),
  (237, (.istore 9 : Instr), [], [], 239),
  (239, (.goto (-20) : Instr), [219], [], 242),
  (242, (.iload_n 3 : Instr), [], [], 243),
  (243, (.iconst (1) : Instr), [], [(1, 0)], 244),
  (244, (.if_icmp .eq (8) : Instr), [252], [], 247),
  (247, (.iload_n 3 : Instr), [], [], 248),
  (248, (.iconst (2) : Instr), [], [(2, 0)], 249),
  (249, (.if_icmp .ne (30) : Instr), [279], [], 252),
  (252, (.iload 6 : Instr), [], [], 254),
  (254, (.ifCond .ne (9) : Instr), [263], [], 257),
  (257, (.iload_n 3 : Instr), [], [], 258),
  (258, (.iconst (1) : Instr), [], [(1, 0)], 259),
  (259, (.isub : Instr), [], [], 260),
  (260, (.goto (18) : Instr), [278], [], 263),
  (263, (.iload_n 3 : Instr), [], [], 264),
  (264, (.iconst (1) : Instr), [], [(1, 0)], 265),
  (265, (.if_icmp .ne (8) : Instr), [273], [], 268),
  (268, (.iload 5 : Instr), [], [], 270),
  (270, (.goto (5) : Instr), [275], [], 273),
  (273, (.iload 6 : Instr), [], [], 275),
  (275, (.iload 8 : Instr), [], [], 277),
  (277, (.idiv : Instr), [], [], 278),
  (278, (.ireturn : Instr), [0], [], 279),
  (279, (.iload_n 3 : Instr), [], [], 280),
  (280, (.ifCond .ne (8) : Instr), [288], [], 283),
  (283, (.iload 4 : Instr), [], [], 285),
  (285, (.goto (5) : Instr), [290], [], 288),
  (288, (.iload 7 : Instr), [], [], 290),
  (290, (.ireturn : Instr), [0], [], 0)]
/-! HandsAndWaysModel.image()I -/
def zc_129 : List (Nat × zE) := [(0, (.iconst (0) : Instr), [], [(0, 0)], 1),
  (1, (.istore_n 1 : Instr), [], [], 2),
  (2, (.iload_n 1 : Instr), [], [], 3),
  (3, (.bipush (43) : Instr), [], [(43, 0)], 5),
  (5, (.if_icmp .ge (21) : Instr), [26], [], 8),
  (8, (.aload_n 0 : Instr), [], [], 9),
  (9, (.getfield 16 : Instr), [10, 2, 3], [], 12),
  (12, (.iload_n 1 : Instr), [], [], 13),
  (13, (.aload_n 0 : Instr), [], [], 14),
  (14, (.getfield 7 : Instr), [10, 0, 3], [], 17),
  (17, (.iload_n 1 : Instr), [], [], 18),
  (18, (.iaload : Instr), [], [], 19),
  (19, (.iastore : Instr), [], [], 20),
  (20, (.iinc 1 (1) : Instr), [], [], 23),
  (23, (.goto (-21) : Instr), [2], [], 26),
  (26, (.aload_n 0 : Instr), [], [], 27),
  (27, (.iconst (1) : Instr), [], [(1, 0)], 28),
  (28, (.putfield 314 : Instr), [10, 3, 1], [], 31),
  (31, (.aload_n 0 : Instr), [], [], 32),
  (32, (.getfield 7 : Instr), [10, 0, 3], [], 35),
  (35, (.bipush (42) : Instr), [], [(42, 0)], 37),
  (37, (.iaload : Instr), [], [], 38),
  (38, (.ireturn : Instr), [0], [], 0)]
/-! HandsAndWaysModel.back()I -/
def zc_130 : List (Nat × zE) := [(0, (.aload_n 0 : Instr), [], [], 1),
  (1, (.getfield 314 : Instr), [10, 3, 1], [], 4),
  (4, (.ifCond .ne (6) : Instr), [10], [], 7),
  (7, (.bipush (-3) : Instr), [], [(-3, 0)], 9),
  (9, (.ireturn : Instr), [0], [], 10),
  (10, (.iconst (0) : Instr), [], [(0, 0)], 11),
  (11, (.istore_n 1 : Instr), [], [], 12),
  (12, (.iload_n 1 : Instr), [], [], 13),
  (13, (.bipush (43) : Instr), [], [(43, 0)], 15),
  (15, (.if_icmp .ge (21) : Instr), [36], [], 18),
  (18, (.aload_n 0 : Instr), [], [], 19),
  (19, (.getfield 7 : Instr), [10, 0, 3], [], 22),
  (22, (.iload_n 1 : Instr), [], [], 23),
  (23, (.aload_n 0 : Instr), [], [], 24),
  (24, (.getfield 16 : Instr), [10, 2, 3], [], 27),
  (27, (.iload_n 1 : Instr), [], [], 28),
  (28, (.iaload : Instr), [], [], 29),
  (29, (.iastore : Instr), [], [], 30),
  (30, (.iinc 1 (1) : Instr), [], [], 33),
  (33, (.goto (-21) : Instr), [12], [], 36),
  (36, (.aload_n 0 : Instr), [], [], 37),
  (37, (.getfield 7 : Instr), [10, 0, 3], [], 40),
  (40, (.bipush (42) : Instr), [], [(42, 0)], 42),
  (42, (.iaload : Instr), [], [], 43),
  (43, (.ireturn : Instr), [0], [], 0)]
/-! HandsAndWaysModel.sheet(III)I -/
def zc_131 : List (Nat × zE) := [(0, (.iload_n 1 : Instr), [], [], 1),
  (1, (.iconst (0) : Instr), [], [(0, 0)], 2),
  (2, (.iconst (3) : Instr), [], [(3, 0)], 3),
  (3, (.invokestatic 103 : Instr), [0, 49, 3, 0], [], 6),
  (6, (.ifCond .eq (23) : Instr), [29], [], 9),
  (9, (.iload_n 2 : Instr), [], [], 10),
  (10, (.iconst (-1) : Instr), [], [(-1, 0)], 11),
  (11, (.iconst (2) : Instr), [], [(2, 0)], 12),
  (12, (.invokestatic 103 : Instr), [0, 49, 3, 0], [], 15),
  (15, (.ifCond .eq (14) : Instr), [29], [], 18),
  (18, (.iload_n 2 : Instr), [], [], 19),
  (19, (.iconst (-1) : Instr), [], [(-1, 0)], 20),
  (20, (.if_icmp .eq (12) : Instr), [32], [], 23),
  (23, (.iload_n 3 : Instr), [], [], 24),
  (24, (.bipush (40) : Instr), [], [(40, 0)], 26),
  (26, (.if_icmp .le (6) : Instr), [32], [], 29),
  (29, (.bipush (-2) : Instr), [], [(-2, 0)], 31),
  (31, (.ireturn : Instr), [0], [], 32),
  (32, (.iload_n 2 : Instr), [], [], 33),
  (33, (.iconst (-1) : Instr), [], [(-1, 0)], 34),
  (34, (.if_icmp .eq (10) : Instr), [44], [], 37),
  (37, (.iload_n 3 : Instr), [], [], 38),
  (38, (.ifCond .ge (6) : Instr), [44], [], 41),
  (41, (.bipush (-14) : Instr), [], [(-14, 0)], 43),
  (43, (.ireturn : Instr), [0], [], 44),
  (44, (.aload_n 0 : Instr), [], [], 45),
  (45, (.getfield 88 : Instr), [10, 37, 3], [], 48),
  (48, (.iload_n 1 : Instr), [], [], 49),
  (49, (.iload_n 2 : Instr), [], [], 50),
  (50, (.iastore : Instr), [], [], 51),
  (51, (.aload_n 0 : Instr), [], [], 52),
  (52, (.getfield 91 : Instr), [10, 38, 3], [], 55),
  (55, (.iload_n 1 : Instr), [], [], 56),
  (56, (.iload_n 2 : Instr), [], [], 57),
  (57, (.iconst (-1) : Instr), [], [(-1, 0)], 58),
  (58, (.if_icmp .ne (7) : Instr), [65], [], 61),
  (61, (.iconst (0) : Instr), [], [(0, 0)], 62),
  (62, (.goto (4) : Instr), [66], [], 65),
  (65, (.iload_n 3 : Instr), [], [], 66),
  (66, (.iastore : Instr), [], [], 67),
  (67, (.iconst (0) : Instr), [], [(0, 0)], 68),
  (68, (.istore 4 : Instr), [], [], 70),
  (70, (.iload 4 : Instr), [], [], 72),
  (72, (.bipush (40) : Instr), [], [(40, 0)], 74),
  (74, (.if_icmp .ge (22) : Instr), [96], [], 77),
  (77, (.aload_n 0 : Instr), [], [], 78),
  (78, (.getfield 94 : Instr), [10, 39, 3], [], 81),
  (81, (.bipush (40) : Instr), [], [(40, 0)], 83),
  (83, (.iload_n 1 : Instr), [], [], 84),
  (84, (.imul : Instr), [], [], 85),
  (85, (.iload 4 : Instr), [], [], 87),
  (87, (.iadd : Instr), [], [], 88),
  (88, (.iconst (0) : Instr), [], [(0, 0)], 89),
  (89, (.iastore : Instr), [], [], 90),
  (90, (.iinc 4 (1) : Instr), [], [], 93),
  (93, (.goto (-23) : Instr), [70], [], 96),
  (96, (.iconst (1) : Instr), [], [(1, 0)], 97),
  (97, (.ireturn : Instr), [0], [], 0)]
/-! HandsAndWaysModel.cell(III)I -/
def zc_132 : List (Nat × zE) := [(0, (.iload_n 1 : Instr), [], [], 1),
  (1, (.iconst (0) : Instr), [], [(0, 0)], 2),
  (2, (.iconst (3) : Instr), [], [(3, 0)], 3),
  (3, (.invokestatic 103 : Instr), [0, 49, 3, 0], [], 6),
  (6, (.ifCond .ne (6) : Instr), [12], [], 9),
  (9, (.bipush (-2) : Instr), [], [(-2, 0)], 11),
  (11, (.ireturn : Instr), [0], [], 12),
  (12, (.aload_n 0 : Instr), [], [], 13),
  (13, (.getfield 88 : Instr), [10, 37, 3], [], 16),
  (16, (.iload_n 1 : Instr), [], [], 17),
  (17, (.iaload : Instr), [], [], 18),
  (18, (.iconst (-1) : Instr), [], [(-1, 0)], 19),
  (19, (.if_icmp .ne (6) : Instr), [25], [], 22),
  (22, (.bipush (-11) : Instr), [], [(-11, 0)], 24),
  (24, (.ireturn : Instr), [0], [], 25),
  (25, (.iload_n 2 : Instr), [], [], 26),
  (26, (.iconst (0) : Instr), [], [(0, 0)], 27),
  (27, (.aload_n 0 : Instr), [], [], 28),
  (28, (.getfield 91 : Instr), [10, 38, 3], [], 31),
  (31, (.iload_n 1 : Instr), [], [], 32),
  (32, (.iaload : Instr), [], [], 33),
  (33, (.iconst (1) : Instr), [], [(1, 0)], 34),
  (34, (.isub : Instr), [], [], 35),
  (35, (.invokestatic 103 : Instr), [0, 49, 3, 0], [], 38),
  (38, (.ifCond .ne (6) : Instr), [44], [], 41),
  (41, (.bipush (-12) : Instr), [], [(-12, 0)], 43),
  (43, (.ireturn : Instr), [0], [], 44),
  (44, (.aload_n 0 : Instr), [], [], 45),
  (45, (.getfield 94 : Instr), [10, 39, 3], [], 48),
  (48, (.bipush (40) : Instr), [], [(40, 0)], 50),
  (50, (.iload_n 1 : Instr), [], [], 51),
  (51, (.imul : Instr), [], [], 52),
  (52, (.iload_n 2 : Instr), [], [], 53),
  (53, (.iadd : Instr), [], [], 54),
  (54, (.aload_n 0 : Instr), [], [], 55),
  (55, (.getfield 88 : Instr), [10, 37, 3], [], 58),
  (58, (.iload_n 1 : Instr), [], [], 59),
  (59, (.iaload : Instr), [], [], 60),
  (60, (.ifCond .ne (8) : Instr), [68], [], 63),
  (63, (.iload_n 3 : Instr), [], [], 64),
  (64, (.i2b : Instr), [], [], 65),
  (65, (.goto (19) : Instr), [84], [], 68),
  (68, (.aload_n 0 : Instr), [], [], 69),
  (69, (.getfield 88 : Instr), [10, 37, 3], [], 72),
  (72, (.iload_n 1 : Instr), [], [], 73),
  (73, (.iaload : Instr), [], [], 74),
  (74, (.iconst (1) : Instr), [], [(1, 0)], 75),
  (75, (.if_icmp .ne (8) : Instr), [83], [], 78),
  (78, (.iload_n 3 : Instr), [], [], 79),
  (79, (.i2s : Instr), [], [], 80),
  (80, (.goto (4) : Instr), [84], [], 83),
  (83, (.iload_n 3 : Instr), [], [], 84),
  (84, (.iastore : Instr), [], [], 85),
  (85, (.iconst (1) : Instr), [], [(1, 0)], 86),
  (86, (.ireturn : Instr), [0], [], 0)]
/-! HandsAndWaysModel.copy(IIIII)I -/
def zc_133 : List (Nat × zE) := [(0, (.iload_n 1 : Instr), [], [], 1),
  (1, (.iconst (0) : Instr), [], [(0, 0)], 2),
  (2, (.iconst (3) : Instr), [], [(3, 0)], 3),
  (3, (.invokestatic 103 : Instr), [0, 49, 3, 0], [], 6),
  (6, (.ifCond .eq (12) : Instr), [18], [], 9),
  (9, (.iload_n 3 : Instr), [], [], 10),
  (10, (.iconst (0) : Instr), [], [(0, 0)], 11),
  (11, (.iconst (3) : Instr), [], [(3, 0)], 12),
  (12, (.invokestatic 103 : Instr), [0, 49, 3, 0], [], 15),
  (15, (.ifCond .ne (6) : Instr), [21], [], 18),
  (18, (.bipush (-2) : Instr), [], [(-2, 0)], 20),
  (20, (.ireturn : Instr), [0], [], 21),
  (21, (.aload_n 0 : Instr), [], [], 22),
  (22, (.getfield 88 : Instr), [10, 37, 3], [], 25),
  (25, (.iload_n 1 : Instr), [], [], 26),
  (26, (.iaload : Instr), [], [], 27),
  (27, (.iconst (-1) : Instr), [], [(-1, 0)], 28),
  (28, (.if_icmp .eq (13) : Instr), [41], [], 31),
  (31, (.aload_n 0 : Instr), [], [], 32),
  (32, (.getfield 88 : Instr), [10, 37, 3], [], 35),
  (35, (.iload_n 3 : Instr), [], [], 36),
  (36, (.iaload : Instr), [], [], 37),
  (37, (.iconst (-1) : Instr), [], [(-1, 0)], 38),
  (38, (.if_icmp .ne (6) : Instr), [44], [], 41),
  (41, (.bipush (-11) : Instr), [], [(-11, 0)], 43),
  (43, (.ireturn : Instr), [0], [], 44),
  (44, (.aload_n 0 : Instr), [], [], 45),
  (45, (.getfield 88 : Instr), [10, 37, 3], [], 48),
  (48, (.iload_n 1 : Instr), [], [], 49),
  (49, (.iaload : Instr), [], [], 50),
  (50, (.aload_n 0 : Instr), [], [], 51),
  (51, (.getfield 88 : Instr), [10, 37, 3], [], 54),
  (54, (.iload_n 3 : Instr), [], [], 55),
  (55, (.iaload : Instr), [], [], 56),
  (56, (.if_icmp .eq (6) : Instr), [62], [], 59),
  (59, (.bipush (-13) : Instr), [], [(-13, 0)], 61),
  (61, (.ireturn : Instr), [0], [], 62),
  (62, (.iload 5 : Instr), [], [], 64),
  (64, (.ifCond .lt (60) : Instr), [124], [], 67),
  (67, (.iload_n 2 : Instr), [], [], 68),
  (68, (.ifCond .lt (56) : Instr), [124], [], 71),
  (71, (.iload 4 : Instr), [], [], 73),
  (73, (.ifCond .lt (51) : Instr), [124], [], 76),
  (76, (.iload_n 2 : Instr), [], [], 77),
  (77, (.aload_n 0 : Instr), [], [], 78),
  (78, (.getfield 91 : Instr), [10, 38, 3], [], 81),
  (81, (.iload_n 1 : Instr), [], [], 82),
  (82, (.iaload : Instr), [], [], 83),
  (83, (.if_icmp .gt (41) : Instr), [124], [], 86),
  (86, (.iload 4 : Instr), [], [], 88),
  (88, (.aload_n 0 : Instr), [], [], 89),
  (89, (.getfield 91 : Instr), [10, 38, 3], [], 92),
  (92, (.iload_n 3 : Instr), [], [], 93),
  (93, (.iaload : Instr), [], [], 94),
  (94, (.if_icmp .gt (30) : Instr), [124], [], 97),
  (97, (.iload 5 : Instr), [], [], 99),
  (99, (.aload_n 0 : Instr), [], [], 100),
  (100, (.getfield 91 : Instr), [10, 38, 3], [], 103),
  (103, (.iload_n 1 : Instr), [], [], 104),
  (104, (.iaload : Instr), [], [], 105),
  (105, (.iload_n 2 : Instr), [], [], 106),
  (106, (.isub : Instr), [], [], 107),
  (107, (.if_icmp .gt (17) : Instr), [124], [], 110),
  (110, (.iload 5 : Instr), [], [], 112),
  (112, (.aload_n 0 : Instr), [], [], 113),
  (113, (.getfield 91 : Instr), [10, 38, 3], [], 116),
  (116, (.iload_n 3 : Instr), [], [], 117),
  (117, (.iaload : Instr), [], [], 118),
  (118, (.iload 4 : Instr), [], [], 120),
  (120, (.isub : Instr), [], [], 121),
  (121, (.if_icmp .le (6) : Instr), [127], [], 124),
  (124, (.bipush (-12) : Instr), [], [(-12, 0)], 126),
  (126, (.ireturn : Instr), [0], [], 127),
  (127, (.bipush (40) : Instr), [], [(40, 0)], 129),
  (129, (.iload_n 1 : Instr), [], [], 130),
  (130, (.imul : Instr), [], [], 131),
  (131, (.iload_n 2 : Instr), [], [], 132),
  (132, (.iadd : Instr), [], [], 133),
  (133, (.istore 6 : Instr), [], [], 135),
  (135, (.bipush (40) : Instr), [], [(40, 0)], 137),
  (137, (.iload_n 3 : Instr), [], [], 138),
  (138, (.imul : Instr), [], [], 139),
  (139, (.iload 4 : Instr), [], [], 141),
  (141, (.iadd : Instr), [], [], 142),
  (142, (.istore 7 : Instr), [], [], 144),
  (144, (.iconst (0) : Instr), [], [(0, 0)], 145),
  (145, (.istore 8 : Instr), [], [], 147),
  (147, (.iload 8 : Instr), [], [], 149),
  (149, (.iload 5 : Instr), [], [], 151),
  (151, (.if_icmp .ge (50) : Instr), [201], [], 154),
  (154, (.iload 6 : Instr), [], [], 156),
  (156, (.iload 7 : Instr), [], [], 158),
  (158, (.if_icmp .ge (13) : Instr), [171], [], 161),
  (161, (.iload 5 : Instr), [], [], 163),
  (163, (.iconst (1) : Instr), [], [(1, 0)], 164),
  (164, (.isub : Instr), [], [], 165),
  (165, (.iload 8 : Instr), [], [], 167),
  (167, (.isub : Instr), [], [], 168),
  (168, (.goto (5) : Instr), [173], [], 171),
  (171, (.iload 8 : Instr), [], [], 173),
  (173, (.istore 9 : Instr), [], [], 175),
  (175, (.aload_n 0 : Instr), [], [], 176),
  (176, (.getfield 94 : Instr), [10, 39, 3], [], 179),
  (179, (.iload 7 : Instr), [], [], 181),
  (181, (.iload 9 : Instr), [], [], 183),
  (183, (.iadd : Instr), [], [], 184),
  (184, (.aload_n 0 : Instr), [], [], 185),
  (185, (.getfield 94 : Instr), [10, 39, 3], [], 188),
  (188, (.iload 6 : Instr), [], [], 190),
  (190, (.iload 9 : Instr), [], [], 192),
  (192, (.iadd : Instr), [], [], 193),
  (193, (.iaload : Instr), [], [], 194),
  (194, (.iastore : Instr), [], [], 195),
  (195, (.iinc 8 (1) : Instr), [], [], 198),
  (198, (.goto (-51) : Instr), [147], [], 201),
  (201, (.iload 5 : Instr), [], [], 203),
  (203, (.ireturn : Instr), [0], [], 0)]
/-! HandsAndWaysModel.walls(IIII)I -/
def zc_134 : List (Nat × zE) := [(0, (.iload_n 1 : Instr), [], [], 1),
  (1, (.iconst (0) : Instr), [], [(0, 0)], 2),
  (2, (.iconst (3) : Instr), [], [(3, 0)], 3),
  (3, (.invokestatic 103 : Instr), [0, 49, 3, 0], [], 6),
  (6, (.ifCond .eq (23) : Instr), [29], [], 9),
  (9, (.iload_n 2 : Instr), [], [], 10),
  (10, (.iconst (0) : Instr), [], [(0, 0)], 11),
  (11, (.iconst (2) : Instr), [], [(2, 0)], 12),
  (12, (.invokestatic 103 : Instr), [0, 49, 3, 0], [], 15),
  (15, (.ifCond .eq (14) : Instr), [29], [], 18),
  (18, (.iload 4 : Instr), [], [], 20),
  (20, (.iconst (0) : Instr), [], [(0, 0)], 21),
  (21, (.bipush (40) : Instr), [], [(40, 0)], 23),
  (23, (.invokestatic 103 : Instr), [0, 49, 3, 0], [], 26),
  (26, (.ifCond .ne (6) : Instr), [32], [], 29),
  (29, (.bipush (-2) : Instr), [], [(-2, 0)], 31),
  (31, (.ireturn : Instr), [0], [], 32),
  (32, (.aload_n 0 : Instr), [], [], 33),
  (33, (.getfield 88 : Instr), [10, 37, 3], [], 36),
  (36, (.iload_n 1 : Instr), [], [], 37),
  (37, (.iaload : Instr), [], [], 38),
  (38, (.iconst (-1) : Instr), [], [(-1, 0)], 39),
  (39, (.if_icmp .ne (6) : Instr), [45], [], 42),
  (42, (.bipush (-11) : Instr), [], [(-11, 0)], 44),
  (44, (.ireturn : Instr), [0], [], 45),
  (45, (.aload_n 0 : Instr), [], [], 46),
  (46, (.getfield 88 : Instr), [10, 37, 3], [], 49),
  (49, (.iload_n 1 : Instr), [], [], 50),
  (50, (.iaload : Instr), [], [], 51),
  (51, (.iload_n 2 : Instr), [], [], 52),
  (52, (.if_icmp .eq (6) : Instr), [58], [], 55),
  (55, (.bipush (-13) : Instr), [], [(-13, 0)], 57),
  (57, (.ireturn : Instr), [0], [], 58),
  (58, (.iconst (0) : Instr), [], [(0, 0)], 59),
  (59, (.istore 5 : Instr), [], [], 61),
  (61, (.iconst (0) : Instr), [], [(0, 0)], 62),
  (62, (.istore 6 : Instr), [], [], 64),
  (64, (.iload 6 : Instr), [], [], 66),
  (66, (.iload 4 : Instr), [], [], 68),
  (68, (.if_icmp .ge (77) : Instr), [145], [], 71),
  (71, (.iload_n 3 : Instr), [], [], 72),
  (72, (.iconst (1) : Instr), [], [(1, 0)], 73),
  (73, (.iload 6 : Instr), [], [], 75),
  (75, (.imul : Instr), [], [], 76),
  (76, (.iadd : Instr), [], [], 77),
  (77, (.istore 7 : Instr), [], [], 79),
  (79, (.iload_n 3 : Instr), [], [], 80),
  (80, (.ifCond .lt (22) : Instr), [102], [], 83),
  (83, (.iload 7 : Instr), [], [], 85),
  (85, (.iload_n 3 : Instr), [], [], 86),
  (86, (.if_icmp .lt (16) : Instr), [102], [], 89),
  (89, (.iload 7 : Instr), [], [], 91),
  (91, (.aload_n 0 : Instr), [], [], 92),
  (92, (.getfield 91 : Instr), [10, 38, 3], [], 95),
  (95, (.iload_n 1 : Instr), [], [], 96),
  (96, (.iaload : Instr), [], [], 97),
  (97, (.iconst (1) : Instr), [], [(1, 0)], 98),
  (98, (.isub : Instr), [], [], 99),
  (99, (.if_icmp .le (6) : Instr), [105], [], 102),
  (102, (.bipush (-12) : Instr), [], [(-12, 0)], 104),
  (104, (.ireturn : Instr), [0], [], 105),
  (105, (.bipush (40) : Instr), [], [(40, 0)], 107),
  (107, (.iload_n 1 : Instr), [], [], 108),
  (108, (.imul : Instr), [], [], 109),
  (109, (.iload 7 : Instr), [], [], 111),
  (111, (.iadd : Instr), [], [], 112),
  (112, (.istore 8 : Instr), [], [], 114),
  (114, (.iload 5 : Instr), [], [], 116),
  (116, (.aload_n 0 : Instr), [], [], 117),
  (117, (.aload_n 0 : Instr), [], [], 118),
  (118, (.getfield 94 : Instr), [10, 39, 3], [], 121),
  (121, (.iload 8 : Instr), [], [], 123),
  (123, (.iaload : Instr), [], [], 124),
  (124, (.iconst (1) : Instr), [], [(1, 0)], 125),
  (125, (.invokevirtual 318 : Instr), [1, 77, 3, 10], [], 128),
  (128, (.ifCond .lt (7) : Instr), [135], [], 131),
  (131, (.iconst (1) : Instr), [], [(1, 0)], 132),
  (132, (.goto (4) : Instr), [136], [], 135),
  (135, (.iconst (0) : Instr), [], [(0, 0)], 136),
  (136, (.iadd : Instr), [], [], 137),
  (137, (.istore 5 : Instr), [], [], 139),
  (139, (.iinc 6 (1) : Instr), [], [], 142),
  (142, (.goto (-78) : Instr), [64], [], 145),
  (145, (.iload 5 : Instr), [], [], 147),
  (147, (.ireturn : Instr), [0], [], 0)]
/-! HandsAndWaysModel.isUnder(II)Z -/
def zc_135 : List (Nat × zE) := [(0, (.iload_n 1 : Instr), [], [], 1),
  (1, (.ifCond .eq (28) : Instr), [29], [], 4),
  (4, (.iload_n 0 : Instr), [], [], 5),
  (5, (.iload_n 1 : Instr), [], [], 6),
  (6, (.if_icmp .eq (23) : Instr), [29], [], 9),
  (9, (.iload_n 1 : Instr), [], [], 10),
  (10, (.iconst (1) : Instr), [], [(1, 0)], 11),
  (11, (.if_icmp .ne (8) : Instr), [19], [], 14),
  (14, (.iload_n 0 : Instr), [], [], 15),
  (15, (.iconst (4) : Instr), [], [(4, 0)], 16),
  (16, (.if_icmp .eq (13) : Instr), [29], [], 19),
  (19, (.iload_n 1 : Instr), [], [], 20),
  (20, (.iconst (2) : Instr), [], [(2, 0)], 21),
  (21, (.if_icmp .ne (12) : Instr), [33], [], 24),
  (24, (.iload_n 0 : Instr), [], [], 25),
  (25, (.iconst (5) : Instr), [], [(5, 0)], 26),
  (26, (.if_icmp .ne (7) : Instr), [33], [], 29),
  (29, (.iconst (1) : Instr), [], [(1, 0)], 30),
  (30, (.goto (4) : Instr), [34], [], 33),
  (33, (.iconst (0) : Instr), [], [(0, 0)], 34),
  (34, (.ireturn : Instr), [1], [], 0)]
/-! HandsAndWaysModel.taken(II)I -/
def zc_136 : List (Nat × zE) := [(0, (.iload_n 2 : Instr), [], [], 1),
  (1, (.iconst (0) : Instr), [], [(0, 0)], 2),
  (2, (.iconst (5) : Instr), [], [(5, 0)], 3),
  (3, (.invokestatic 103 : Instr), [0, 49, 3, 0], [], 6),
  (6, (.ifCond .ne (6) : Instr), [12], [], 9),
  (9, (.bipush (-2) : Instr), [], [(-2, 0)], 11),
  (11, (.ireturn : Instr), [0], [], 12),
  (12, (.iload_n 1 : Instr), [], [], 13),
  (13, (.invokestatic 165 : Instr), [0, 50, 1, 0], [], 16),
  (16, (.ifCond .ne (6) : Instr), [22], [], 19),
  (19, (.bipush (-12) : Instr), [], [(-12, 0)], 21),
  (21, (.ireturn : Instr), [0], [], 22),
  (22, (.aload_n 0 : Instr), [], [], 23),
  (23, (.iload_n 1 : Instr), [], [], 24),
  (24, (.iconst (-1) : Instr), [], [(-1, 0)], 25),
  (25, (.invokevirtual 128 : Instr), [1, 59, 3, 10], [], 28),
  (28, (.istore_n 3 : Instr), [], [], 29),
  (29, (.iload_n 3 : Instr), [], [], 30),
  (30, (.iconst (-1) : Instr), [], [(-1, 0)], 31),
  (31, (.if_icmp .ne (28) : Instr), [59], [], 34),
  (34, (.aload_n 0 : Instr), [], [], 35),
  (35, (.getfield 19 : Instr), [10, 4, 3], [], 38),
  (38, (.iload_n 1 : Instr), [], [], 39),
  (39, (.baload : Instr), [], [], 40),
  (40, (.ifCond .ne (11) : Instr), [51], [], 43),
  (43, (.aload_n 0 : Instr), [], [], 44),
  (44, (.iload_n 1 : Instr), [], [], 45),
  (45, (.invokevirtual 125 : Instr), [1, 58, 2, 10], [], 48),
  (48, (.ifCond .eq (8) : Instr), [56], [], 51),
  (51, (.bipush (-13) : Instr), [], [(-13, 0)], 53),
  (53, (.goto (5) : Instr), [58], [], 56),
  (56, (.bipush (-11) : Instr), [], [(-11, 0)], 58),
  (58, (.ireturn : Instr), [0], [], 59),
  (59, (.aload_n 0 : Instr), [], [], 60),
  (60, (.getfield 29 : Instr), [10, 9, 3], [], 63),
  (63, (.iload_n 3 : Instr), [], [], 64),
  (64, (.iaload : Instr), [], [], 65),
  (65, (.iload_n 2 : Instr), [], [], 66),
  (66, (.invokestatic 321 : Instr), [0, 135, 2, 0], [], 69),
  (69, (.ifCond .eq (7) : Instr), [76], [], 72),
  (72, (.iload_n 3 : Instr), [], [], 73),
  (73, (.goto (5) : Instr), [78], [], 76),
  (76, (.bipush (-13) : Instr), [], [(-13, 0)], 78),
  (78, (.ireturn : Instr), [0], [], 0)]
/-! HandsAndWays$Acts.<init>(LHandsAndWays$Room;LHandsAndWays$Ways;LHandsAndWays$Tape;)V -/
def zc_137 : List (Nat × zE) := [(0, (.aload_n 0 : Instr), [], [], 1),
  (1, (.invokespecial 3 : Instr), [4], [], 4),
  (4, (.aload_n 0 : Instr), [], [], 5),
  (5, (.iconst (-1) : Instr), [], [(-1, 0)], 6),
  (6, (.putfield 9 : Instr), [5, 3, 0], [], 9),
  (9, (.aload_n 0 : Instr), [], [], 10),
  (10, (.aload_n 1 : Instr), [], [], 11),
  (11, (.putfield 15 : Instr), [5, 0, 3], [], 14),
  (14, (.aload_n 0 : Instr), [], [], 15),
  (15, (.aload_n 2 : Instr), [], [], 16),
  (16, (.putfield 19 : Instr), [5, 1, 3], [], 19),
  (19, (.aload_n 0 : Instr), [], [], 20),
  (20, (.aload_n 3 : Instr), [], [], 21),
  (21, (.putfield 23 : Instr), [5, 2, 3], [], 24),
  (24, (.return_ : Instr), [], [], 0)]
/-! HandsAndWays$Acts.attempt(LHandsAndWays$Scene;IIII)I -/
def zc_138 : List (Nat × zE) := [(0, (.iload_n 3 : Instr), [], [], 1),
  (1, (.iconst (4) : Instr), [], [(4, 0)], 2),
  (2, (.if_icmp .ne (5) : Instr), [7], [], 5),
  (5, (.iconst (0) : Instr), [], [(0, 0)], 6),
  (6, (.ireturn : Instr), [0], [], 7),
  (7, (.aload_n 1 : Instr), [], [], 8),
  (8, (.getfield 27 : Instr), [2, 5, 3], [], 11),
  (11, (.iload_n 2 : Instr), [], [], 12),
  (12, (.iaload : Instr), [], [], 13),
  (13, (.ifCond .ge (5) : Instr), [18], [], 16),
  (16, (.iconst (1) : Instr), [], [(1, 0)], 17),
  (17, (.ireturn : Instr), [0], [], 18),
  (18, (.iload_n 3 : Instr), [], [], 19),
  (19, (.tableswitch (51) (0) (2) #[(25), (34), (45)] : Instr), [25, 70], [(0, 44), (1, 53), (2, 64)], 44),
  (44, (.aload_n 0 : Instr), [], [], 45),
  (45, (.aload_n 1 : Instr), [], [], 46),
  (46, (.iload_n 2 : Instr), [], [], 47),
  (47, (.iload 4 : Instr), [], [], 49),
  (49, (.invokevirtual 33 : Instr), [1, 139, 4, 5], [], 52),
  (52, (.ireturn : Instr), [0], [], 53),
  (53, (.aload_n 0 : Instr), [], [], 54),
  (54, (.aload_n 1 : Instr), [], [], 55),
  (55, (.iload_n 2 : Instr), [], [], 56),
  (56, (.iload 4 : Instr), [], [], 58),
  (58, (.iload 5 : Instr), [], [], 60),
  (60, (.invokevirtual 37 : Instr), [1, 140, 5, 5], [], 63),
  (63, (.ireturn : Instr), [0], [], 64),
  (64, (.aload_n 1 : Instr), [], [], 65),
  (65, (.iload_n 2 : Instr), [], [], 66),
  (66, (.invokestatic 41 : Instr), [0, 141, 2, 0], [], 69),
  (69, (.ireturn : Instr), [0], [], 70),
  (70, (.aload_n 0 : Instr), [], [], 71),
  (71, (.aload_n 1 : Instr), [], [], 72),
  (72, (.iload_n 2 : Instr), [], [], 73),
  (73, (.iload 4 : Instr), [], [], 75),
  (75, (.invokevirtual 45 : Instr), [1, 142, 4, 5], [], 78),
  (78, (.ireturn : Instr), [0], [], 0)]
/-! HandsAndWays$Acts.attemptGo(LHandsAndWays$Scene;II)I -/
def zc_139 : List (Nat × zE) := [(0, (.aload_n 0 : Instr), [], [], 1),
  (1, (.getfield 19 : Instr), [5, 1, 3], [], 4),
  (4, (.aload_n 1 : Instr), [], [], 5),
  (5, (.iload_n 2 : Instr), [], [], 6),
  (6, (.iconst (0) : Instr), [], [(0, 0)], 7),
  (7, (.invokevirtual 48 : Instr), [1, 233, 4, 3], [], 10),
  (10, (.aload_n 0 : Instr), [], [], 11),
  (11, (.getfield 19 : Instr), [5, 1, 3], [], 14),
  (14, (.iload_n 3 : Instr), [], [], 15),
  (15, (.invokevirtual 54 : Instr), [1, 235, 2, 3], [], 18),
  (18, (.istore 4 : Instr), [], [], 20),
  (20, (.iload 4 : Instr), [], [], 22),
  (22, (.ifCond .ge (5) : Instr), [27], [], 25),
  (25, (.iconst (4) : Instr), [], [(4, 0)], 26),
  (26, (.ireturn : Instr), [0], [], 27),
  (27, (.aload_n 1 : Instr), [], [], 28),
  (28, (.iload_n 2 : Instr), [], [], 29),
  (29, (.iload_n 3 : Instr), [], [], 30),
  (30, (.iload 4 : Instr), [], [], 32),
  (32, (.invokevirtual 58 : Instr), [1, 202, 4, 2], [], 35),
  (35, (.iconst (0) : Instr), [], [(0, 0)], 36),
  (36, (.ireturn : Instr), [0], [], 0)]
/-! HandsAndWays$Acts.attemptTake(LHandsAndWays$Scene;III)I -/
def zc_140 : List (Nat × zE) := [(0, (.aload_n 1 : Instr), [], [], 1),
  (1, (.getfield 62 : Instr), [2, 6, 3], [], 4),
  (4, (.iload_n 2 : Instr), [], [], 5),
  (5, (.iaload : Instr), [], [], 6),
  (6, (.ifCond .ge (22) : Instr), [28], [], 9),
  (9, (.iload_n 3 : Instr), [], [], 10),
  (10, (.aload_n 0 : Instr), [], [], 11),
  (11, (.getfield 15 : Instr), [5, 0, 3], [], 14),
  (14, (.getfield 65 : Instr), [1, 2, 0], [], 17),
  (17, (.if_icmp .ge (11) : Instr), [28], [], 20),
  (20, (.aload_n 1 : Instr), [], [], 21),
  (21, (.iload_n 3 : Instr), [], [], 22),
  (22, (.invokevirtual 70 : Instr), [1, 200, 2, 2], [], 25),
  (25, (.ifCond .ne (5) : Instr), [30], [], 28),
  (28, (.iconst (1) : Instr), [], [(1, 0)], 29),
  (29, (.ireturn : Instr), [0], [], 30),
  (30, (.aload_n 0 : Instr), [], [], 31),
  (31, (.getfield 15 : Instr), [5, 0, 3], [], 34),
  (34, (.getfield 74 : Instr), [1, 3, 3], [], 37),
  (37, (.iload_n 3 : Instr), [], [], 38),
  (38, (.iaload : Instr), [], [], 39),
  (39, (.iload 4 : Instr), [], [], 41),
  (41, (.invokestatic 77 : Instr), [0, 173, 2, 0], [], 44),
  (44, (.ifCond .ne (5) : Instr), [49], [], 47),
  (47, (.iconst (2) : Instr), [], [(2, 0)], 48),
  (48, (.ireturn : Instr), [0], [], 49),
  (49, (.aload_n 0 : Instr), [], [], 50),
  (50, (.getfield 15 : Instr), [5, 0, 3], [], 53),
  (53, (.iload_n 3 : Instr), [], [], 54),
  (54, (.invokevirtual 83 : Instr), [1, 192, 2, 1], [], 57),
  (57, (.aload_n 0 : Instr), [], [], 58),
  (58, (.getfield 15 : Instr), [5, 0, 3], [], 61),
  (61, (.getfield 86 : Instr), [1, 1, 0], [], 64),
  (64, (.if_icmp .le (5) : Instr), [69], [], 67),
  (67, (.iconst (3) : Instr), [], [(3, 0)], 68),
  (68, (.ireturn : Instr), [0], [], 69),
  (69, (.aload_n 1 : Instr), [], [], 70),
  (70, (.getfield 89 : Instr), [2, 2, 3], [], 73),
  (73, (.iload_n 3 : Instr), [], [], 74),
  (74, (.iaload : Instr), [], [], 75),
  (75, (.aload_n 0 : Instr), [], [], 76),
  (76, (.getfield 15 : Instr), [5, 0, 3], [], 79),
  (79, (.getfield 92 : Instr), [1, 4, 3], [], 82),
  (82, (.iload_n 3 : Instr), [], [], 83),
  (83, (.iaload : Instr), [], [], 84),
  (84, (.iload 4 : Instr), [], [], 86),
  (86, (.invokestatic 95 : Instr), [0, 162, 3, 0], [], 89),
  (89, (.aload_n 1 : Instr), [], [], 90),
  (90, (.getfield 27 : Instr), [2, 5, 3], [], 93),
  (93, (.iload_n 2 : Instr), [], [], 94),
  (94, (.iaload : Instr), [], [], 95),
  (95, (.if_icmp .eq (6) : Instr), [101], [], 98),
  (98, (.bipush (7) : Instr), [], [(7, 0)], 100),
  (100, (.ireturn : Instr), [0], [], 101),
  (101, (.aload_n 1 : Instr), [], [], 102),
  (102, (.iload_n 2 : Instr), [], [], 103),
  (103, (.iload_n 3 : Instr), [], [], 104),
  (104, (.iload 4 : Instr), [], [], 106),
  (106, (.invokevirtual 101 : Instr), [1, 203, 4, 2], [], 109),
  (109, (.iconst (0) : Instr), [], [(0, 0)], 110),
  (110, (.ireturn : Instr), [0], [], 0)]
/-! HandsAndWays$Acts.attemptPut(LHandsAndWays$Scene;I)I -/
def zc_141 : List (Nat × zE) := [(0, (.aload_n 0 : Instr), [], [], 1),
  (1, (.getfield 62 : Instr), [2, 6, 3], [], 4),
  (4, (.iload_n 1 : Instr), [], [], 5),
  (5, (.iaload : Instr), [], [], 6),
  (6, (.ifCond .ge (5) : Instr), [11], [], 9),
  (9, (.iconst (1) : Instr), [], [(1, 0)], 10),
  (10, (.ireturn : Instr), [0], [], 11),
  (11, (.aload_n 0 : Instr), [], [], 12),
  (12, (.iload_n 1 : Instr), [], [], 13),
  (13, (.invokevirtual 104 : Instr), [1, 204, 2, 2], [], 16),
  (16, (.iconst (0) : Instr), [], [(0, 0)], 17),
  (17, (.ireturn : Instr), [0], [], 0)]
/-! HandsAndWays$Acts.attemptOpen(LHandsAndWays$Scene;II)I -/
def zc_142 : List (Nat × zE) := [(0, (.iload_n 3 : Instr), [], [], 1),
  (1, (.aload_n 0 : Instr), [], [], 2),
  (2, (.getfield 15 : Instr), [5, 0, 3], [], 5),
  (5, (.getfield 108 : Instr), [1, 5, 0], [], 8),
  (8, (.if_icmp .ge (11) : Instr), [19], [], 11),
  (11, (.aload_n 1 : Instr), [], [], 12),
  (12, (.iload_n 3 : Instr), [], [], 13),
  (13, (.invokevirtual 111 : Instr), [1, 199, 2, 2], [], 16),
  (16, (.ifCond .eq (5) : Instr), [21], [], 19),
  (19, (.iconst (5) : Instr), [], [(5, 0)], 20),
  (20, (.ireturn : Instr), [0], [], 21),
  (21, (.aload_n 1 : Instr), [], [], 22),
  (22, (.getfield 27 : Instr), [2, 5, 3], [], 25),
  (25, (.iload_n 2 : Instr), [], [], 26),
  (26, (.iaload : Instr), [], [], 27),
  (27, (.aload_n 0 : Instr), [], [], 28),
  (28, (.getfield 15 : Instr), [5, 0, 3], [], 31),
  (31, (.getfield 114 : Instr), [1, 6, 3], [], 34),
  (34, (.iload_n 3 : Instr), [], [], 35),
  (35, (.iaload : Instr), [], [], 36),
  (36, (.invokestatic 117 : Instr), [0, 155, 2, 0], [], 39),
  (39, (.ifCond .ne (6) : Instr), [45], [], 42),
  (42, (.bipush (7) : Instr), [], [(7, 0)], 44),
  (44, (.ireturn : Instr), [0], [], 45),
  (45, (.aload_n 0 : Instr), [], [], 46),
  (46, (.getfield 15 : Instr), [5, 0, 3], [], 49),
  (49, (.getfield 120 : Instr), [1, 7, 3], [], 52),
  (52, (.iload_n 3 : Instr), [], [], 53),
  (53, (.iaload : Instr), [], [], 54),
  (54, (.istore 4 : Instr), [], [], 56),
  (56, (.iload 4 : Instr), [], [], 58),
  (58, (.ifCond .lt (17) : Instr), [75], [], 61),
  (61, (.aload_n 1 : Instr), [], [], 62),
  (62, (.getfield 62 : Instr), [2, 6, 3], [], 65),
  (65, (.iload_n 2 : Instr), [], [], 66),
  (66, (.iaload : Instr), [], [], 67),
  (67, (.iload 4 : Instr), [], [], 69),
  (69, (.if_icmp .eq (6) : Instr), [75], [], 72),
  (72, (.bipush (6) : Instr), [], [(6, 0)], 74),
  (74, (.ireturn : Instr), [0], [], 75),
  (75, (.aload_n 1 : Instr), [], [], 76),
  (76, (.dup : Instr), [], [], 77),
  (77, (.getfield 123 : Instr), [2, 1, 0], [], 80),
  (80, (.iconst (1) : Instr), [], [(1, 0)], 81),
  (81, (.iload_n 3 : Instr), [], [], 82),
  (82, (.ishl : Instr), [], [], 83),
  (83, (.ior : Instr), [], [], 84),
  (84, (.putfield 123 : Instr), [2, 1, 0], [], 87),
  (87, (.iconst (0) : Instr), [], [(0, 0)], 88),
  (88, (.ireturn : Instr), [0], [], 0)]
/-! HandsAndWays$Acts.playAll(LHandsAndWays$Scene;II)I -/
def zc_143 : List (Nat × zE) := [(0, (.aload_n 0 : Instr), [], [], 1),
  (1, (.iconst (-1) : Instr), [], [(-1, 0)], 2),
  (2, (.putfield 9 : Instr), [5, 3, 0], [], 5),
  (5, (.iconst (0) : Instr), [], [(0, 0)], 6),
  (6, (.istore 4 : Instr), [], [], 8),
  (8, (.iload 4 : Instr), [], [], 10),
  (10, (.aload_n 0 : Instr), [], [], 11),
  (11, (.getfield 23 : Instr), [5, 2, 3], [], 14),
  (14, (.getfield 126 : Instr), [4, 3, 3], [], 17),
  (17, (.iload_n 3 : Instr), [], [], 18),
  (18, (.iaload : Instr), [], [], 19),
  (19, (.if_icmp .ge (69) : Instr), [88], [], 22),
  (22, (.iload_n 3 : Instr), [], [], 23),
  (23, (.iload 4 : Instr), [], [], 25),
  (25, (.invokestatic 131 : Instr), [0, 216, 2, 0], [], 28),
  (28, (.istore 5 : Instr), [], [], 30),
  (30, (.aload_n 0 : Instr), [], [], 31),
  (31, (.aload_n 1 : Instr), [], [], 32),
  (32, (.iload_n 2 : Instr), [], [], 33),
  (33, (.aload_n 0 : Instr), [], [], 34),
  (34, (.getfield 23 : Instr), [5, 2, 3], [], 37),
  (37, (.getfield 135 : Instr), [4, 4, 3], [], 40),
  (40, (.iload 5 : Instr), [], [], 42),
  (42, (.iaload : Instr), [], [], 43),
  (43, (.aload_n 0 : Instr), [], [], 44),
  (44, (.getfield 23 : Instr), [5, 2, 3], [], 47),
  (47, (.getfield 138 : Instr), [4, 5, 3], [], 50),
  (50, (.iload 5 : Instr), [], [], 52),
  (52, (.iaload : Instr), [], [], 53),
  (53, (.aload_n 0 : Instr), [], [], 54),
  (54, (.getfield 23 : Instr), [5, 2, 3], [], 57),
  (57, (.getfield 141 : Instr), [4, 6, 3], [], 60),
  (60, (.iload 5 : Instr), [], [], 62),
  (62, (.iaload : Instr), [], [], 63),
  (63, (.invokevirtual 144 : Instr), [1, 138, 6, 5], [], 66),
  (66, (.istore 6 : Instr), [], [], 68),
  (68, (.iload 6 : Instr), [], [], 70),
  (70, (.ifCond .eq (12) : Instr), [82], [], 73),
  (73, (.aload_n 0 : Instr), [], [], 74),
  (74, (.iload 4 : Instr), [], [], 76),
  (76, (.putfield 9 : Instr), [5, 3, 0], [], 79),
  (79, (.iload 6 : Instr), [], [], 81),
  (81, (.ireturn : Instr), [0], [], 82),
  (82, (.iinc 4 (1) : Instr), [], [], 85),
  (85, (.goto (-77) : Instr), [8], [], 88),
  (88, (.iconst (0) : Instr), [], [(0, 0)], 89),
  (89, (.ireturn : Instr), [0], [], 0)]
/-! HandsAndWays$Acts.tickHand(LHandsAndWays$Scene;I)V -/
def zc_144 : List (Nat × zE) := [(0, (.aload_n 1 : Instr), [], [], 1),
  (1, (.getfield 148 : Instr), [2, 8, 3], [], 4),
  (4, (.iload_n 2 : Instr), [], [], 5),
  (5, (.iaload : Instr), [], [], 6),
  (6, (.istore_n 3 : Instr), [], [], 7),
  (7, (.iload_n 3 : Instr), [], [], 8),
  (8, (.ifCond .ge (4) : Instr), [12], [], 11),
  (11, (.return_ : Instr), [], [], 12),
  (12, (.aload_n 1 : Instr), [], [], 13),
  (13, (.getfield 151 : Instr), [2, 9, 3], [], 16),
  (16, (.iload_n 2 : Instr), [], [], 17),
  (17, (.iaload : Instr), [], [], 18),
  (18, (.istore 4 : Instr), [], [], 20),
  (20, (.iload 4 : Instr), [], [], 22),
  (22, (.aload_n 0 : Instr), [], [], 23),
  (23, (.getfield 23 : Instr), [5, 2, 3], [], 26),
  (26, (.getfield 126 : Instr), [4, 3, 3], [], 29),
  (29, (.iload_n 3 : Instr), [], [], 30),
  (30, (.iaload : Instr), [], [], 31),
  (31, (.if_icmp .lt (11) : Instr), [42], [], 34),
  (34, (.aload_n 1 : Instr), [], [], 35),
  (35, (.getfield 148 : Instr), [2, 8, 3], [], 38),
  (38, (.iload_n 2 : Instr), [], [], 39),
  (39, (.iconst (-1) : Instr), [], [(-1, 0)], 40),
  (40, (.iastore : Instr), [], [], 41),
  (41, (.return_ : Instr), [], [], 42),
  (42, (.iload_n 3 : Instr), [], [], 43),
  (43, (.iload 4 : Instr), [], [], 45),
  (45, (.invokestatic 131 : Instr), [0, 216, 2, 0], [], 48),
  (48, (.istore 5 : Instr), [], [], 50),
  (50, (.aload_n 0 : Instr), [], [], 51),
  (51, (.getfield 23 : Instr), [5, 2, 3], [], 54),
  (54, (.getfield 135 : Instr), [4, 4, 3], [], 57),
  (57, (.iload 5 : Instr), [], [], 59),
  (59, (.iaload : Instr), [], [], 60),
  (60, (.istore 6 : Instr), [], [], 62),
  (62, (.aload_n 0 : Instr), [], [], 63),
  (63, (.getfield 23 : Instr), [5, 2, 3], [], 66),
  (66, (.getfield 138 : Instr), [4, 5, 3], [], 69),
  (69, (.iload 5 : Instr), [], [], 71),
  (71, (.iaload : Instr), [], [], 72),
  (72, (.istore 7 : Instr), [], [], 74),
  (74, (.iload 6 : Instr), [], [], 76),
  (76, (.lookupswitch (49) #[((0), (38)), ((4), (28))] : Instr), [28, 125], [(0, 114), (4, 104)], 104),
  (104, (.aload_n 1 : Instr), [], [], 105),
  (105, (.iload_n 2 : Instr), [], [], 106),
  (106, (.iload 7 : Instr), [], [], 108),
  (108, (.invokestatic 154 : Instr), [0, 145, 3, 0], [], 111),
  (111, (.goto (39) : Instr), [150], [], 114),
  (114, (.aload_n 0 : Instr), [], [], 115),
  (115, (.aload_n 1 : Instr), [], [], 116),
  (116, (.iload_n 2 : Instr), [], [], 117),
  (117, (.iload 7 : Instr), [], [], 119),
  (119, (.invokevirtual 157 : Instr), [1, 146, 4, 5], [], 122),
  (122, (.goto (28) : Instr), [150], [], 125),
  (125, (.aload_n 1 : Instr), [], [], 126),
  (126, (.iload_n 2 : Instr), [], [], 127),
  (127, (.aload_n 0 : Instr), [], [], 128),
  (128, (.aload_n 1 : Instr), [], [], 129),
  (129, (.iload_n 2 : Instr), [], [], 130),
  (130, (.iload 6 : Instr), [], [], 132),
  (132, (.iload 7 : Instr), [], [], 134),
  (134, (.aload_n 0 : Instr), [], [], 135),
  (135, (.getfield 23 : Instr), [5, 2, 3], [], 138),
  (138, (.getfield 141 : Instr), [4, 6, 3], [], 141),
  (141, (.iload 5 : Instr), [], [], 143),
  (143, (.iaload : Instr), [], [], 144),
  (144, (.invokevirtual 144 : Instr), [1, 138, 6, 5], [], 147),
  (147, (.invokestatic 160 : Instr), [0, 148, 3, 0], [], 150),
  (150, (.return_ : Instr), [], [], 0)]
/-! HandsAndWays$Acts.tickWait(LHandsAndWays$Scene;II)V -/
def zc_145 : List (Nat × zE) := [(0, (.aload_n 0 : Instr), [], [], 1),
  (1, (.getfield 163 : Instr), [2, 10, 3], [], 4),
  (4, (.iload_n 1 : Instr), [], [], 5),
  (5, (.dup2 : Instr), [], [], 6),
  (6, (.iaload : Instr), [], [], 7),
  (7, (.iconst (1) : Instr), [], [(1, 0)], 8),
  (8, (.iadd : Instr), [], [], 9),
  (9, (.iastore : Instr), [], [], 10),
  (10, (.aload_n 0 : Instr), [], [], 11),
  (11, (.getfield 163 : Instr), [2, 10, 3], [], 14),
  (14, (.iload_n 1 : Instr), [], [], 15),
  (15, (.iaload : Instr), [], [], 16),
  (16, (.iload_n 2 : Instr), [], [], 17),
  (17, (.if_icmp .lt (8) : Instr), [25], [], 20),
  (20, (.aload_n 0 : Instr), [], [], 21),
  (21, (.iload_n 1 : Instr), [], [], 22),
  (22, (.invokevirtual 166 : Instr), [1, 206, 2, 2], [], 25),
  (25, (.return_ : Instr), [], [], 0)]
/-! HandsAndWays$Acts.tickGo(LHandsAndWays$Scene;II)V -/
def zc_146 : List (Nat × zE) := [(0, (.aload_n 1 : Instr), [], [], 1),
  (1, (.getfield 27 : Instr), [2, 5, 3], [], 4),
  (4, (.iload_n 2 : Instr), [], [], 5),
  (5, (.iaload : Instr), [], [], 6),
  (6, (.iload_n 3 : Instr), [], [], 7),
  (7, (.if_icmp .ne (9) : Instr), [16], [], 10),
  (10, (.aload_n 1 : Instr), [], [], 11),
  (11, (.iload_n 2 : Instr), [], [], 12),
  (12, (.invokevirtual 166 : Instr), [1, 206, 2, 2], [], 15),
  (15, (.return_ : Instr), [], [], 16),
  (16, (.aload_n 0 : Instr), [], [], 17),
  (17, (.aload_n 1 : Instr), [], [], 18),
  (18, (.iload_n 2 : Instr), [], [], 19),
  (19, (.iload_n 3 : Instr), [], [], 20),
  (20, (.invokevirtual 169 : Instr), [1, 147, 4, 5], [], 23),
  (23, (.istore 4 : Instr), [], [], 25),
  (25, (.iload 4 : Instr), [], [], 27),
  (27, (.ifCond .ge (14) : Instr), [41], [], 30),
  (30, (.aload_n 1 : Instr), [], [], 31),
  (31, (.getfield 172 : Instr), [2, 11, 3], [], 34),
  (34, (.iload_n 2 : Instr), [], [], 35),
  (35, (.dup2 : Instr), [], [], 36),
  (36, (.iaload : Instr), [], [], 37),
  (37, (.iconst (1) : Instr), [], [(1, 0)], 38),
  (38, (.iadd : Instr), [], [], 39),
  (39, (.iastore : Instr), [], [], 40),
  (40, (.return_ : Instr), [], [], 41),
  (41, (.aload_n 1 : Instr), [], [], 42),
  (42, (.iload_n 2 : Instr), [], [], 43),
  (43, (.iload 4 : Instr), [], [], 45),
  (45, (.iconst (1) : Instr), [], [(1, 0)], 46),
  (46, (.invokevirtual 58 : Instr), [1, 202, 4, 2], [], 49),
  (49, (.aload_n 1 : Instr), [], [], 50),
  (50, (.getfield 172 : Instr), [2, 11, 3], [], 53),
  (53, (.iload_n 2 : Instr), [], [], 54),
  (54, (.iconst (0) : Instr), [], [(0, 0)], 55),
  (55, (.iastore : Instr), [], [], 56),
  (56, (.iload 4 : Instr), [], [], 58),
  (58, (.iload_n 3 : Instr), [], [], 59),
  (59, (.if_icmp .ne (8) : Instr), [67], [], 62),
  (62, (.aload_n 1 : Instr), [], [], 63),
  (63, (.iload_n 2 : Instr), [], [], 64),
  (64, (.invokevirtual 166 : Instr), [1, 206, 2, 2], [], 67),
  (67, (.return_ : Instr), [], [], 0)]
/-! HandsAndWays$Acts.firstStep(LHandsAndWays$Scene;II)I -/
def zc_147 : List (Nat × zE) := [(0, (.aload_n 1 : Instr), [], [], 1),
  (1, (.getfield 27 : Instr), [2, 5, 3], [], 4),
  (4, (.iload_n 2 : Instr), [], [], 5),
  (5, (.iaload : Instr), [], [], 6),
  (6, (.ifCond .ge (5) : Instr), [11], [], 9),
  (9, (.iconst (-1) : Instr), [], [(-1, 0)], 10),
  (10, (.ireturn : Instr), [0], [], 11),
  (11, (.aload_n 0 : Instr), [], [], 12),
  (12, (.getfield 19 : Instr), [5, 1, 3], [], 15),
  (15, (.aload_n 1 : Instr), [], [], 16),
  (16, (.iload_n 2 : Instr), [], [], 17),
  (17, (.iconst (0) : Instr), [], [(0, 0)], 18),
  (18, (.invokevirtual 48 : Instr), [1, 233, 4, 3], [], 21),
  (21, (.aload_n 0 : Instr), [], [], 22),
  (22, (.getfield 19 : Instr), [5, 1, 3], [], 25),
  (25, (.iload_n 3 : Instr), [], [], 26),
  (26, (.invokevirtual 54 : Instr), [1, 235, 2, 3], [], 29),
  (29, (.ifCond .ge (7) : Instr), [36], [], 32),
  (32, (.iconst (-1) : Instr), [], [(-1, 0)], 33),
  (33, (.goto (12) : Instr), [45], [], 36),
  (36, (.aload_n 0 : Instr), [], [], 37),
  (37, (.getfield 19 : Instr), [5, 1, 3], [], 40),
  (40, (.iload_n 3 : Instr), [], [], 41),
  (41, (.iconst (1) : Instr), [], [(1, 0)], 42),
  (42, (.invokevirtual 175 : Instr), [1, 236, 3, 3], [], 45),
  (45, (.ireturn : Instr), [0], [], 0)]
/-! HandsAndWays$Acts.tickOther(LHandsAndWays$Scene;II)V -/
def zc_148 : List (Nat × zE) := [(0, (.iload_n 2 : Instr), [], [], 1),
  (1, (.ifCond .ne (11) : Instr), [12], [], 4),
  (4, (.aload_n 0 : Instr), [], [], 5),
  (5, (.iload_n 1 : Instr), [], [], 6),
  (6, (.invokevirtual 166 : Instr), [1, 206, 2, 2], [], 9),
  (9, (.goto (13) : Instr), [22], [], 12),
  (12, (.aload_n 0 : Instr), [], [], 13),
  (13, (.getfield 172 : Instr), [2, 11, 3], [], 16),
  (16, (.iload_n 1 : Instr), [], [], 17),
  (17, (.dup2 : Instr), [], [], 18),
  (18, (.iaload : Instr), [], [], 19),
  (19, (.iconst (1) : Instr), [], [(1, 0)], 20),
  (20, (.iadd : Instr), [], [], 21),
  (21, (.iastore : Instr), [], [], 22),
  (22, (.return_ : Instr), [], [], 0)]
/-! HandsAndWays$Cells.isCell(I)Z -/
def zc_149 : List (Nat × zE) := [(0, (.iload_n 0 : Instr), [], [], 1),
  (1, (.ifCond .lt (13) : Instr), [14], [], 4),
  (4, (.iload_n 0 : Instr), [], [], 5),
  (5, (.bipush (64) : Instr), [], [(64, 0)], 7),
  (7, (.if_icmp .ge (7) : Instr), [14], [], 10),
  (10, (.iconst (1) : Instr), [], [(1, 0)], 11),
  (11, (.goto (4) : Instr), [15], [], 14),
  (14, (.iconst (0) : Instr), [], [(0, 0)], 15),
  (15, (.ireturn : Instr), [1], [], 0)]
/-! HandsAndWays$Cells.isSide(I)Z -/
def zc_150 : List (Nat × zE) := [(0, (.iload_n 0 : Instr), [], [], 1),
  (1, (.ifCond .lt (12) : Instr), [13], [], 4),
  (4, (.iload_n 0 : Instr), [], [], 5),
  (5, (.iconst (3) : Instr), [], [(3, 0)], 6),
  (6, (.if_icmp .gt (7) : Instr), [13], [], 9),
  (9, (.iconst (1) : Instr), [], [(1, 0)], 10),
  (10, (.goto (4) : Instr), [14], [], 13),
  (13, (.iconst (0) : Instr), [], [(0, 0)], 14),
  (14, (.ireturn : Instr), [1], [], 0)]
/-! HandsAndWays$Cells.bit(I)J -/
def zc_151 : List (Nat × zE) := [(0, (.lconst 1 : Instr), [], [], 1),
  (1, (.iload_n 0 : Instr), [], [], 2),
  (2, (.lshl : Instr), [], [], 3),
  (3, (.lreturn : Instr), [], [], 0)]
/-! HandsAndWays$Cells.has(JI)Z -/
def zc_152 : List (Nat × zE) := [(0, (.lload_n 0 : Instr), [], [], 1),
  (1, (.iload_n 2 : Instr), [], [], 2),
  (2, (.lushr : Instr), [], [], 3),
  (3, (.lconst 1 : Instr), [], [], 4),
  (4, (.land : Instr), [], [], 5),
  (5, (.lconst 0 : Instr), [], [], 6),
  (6, (.lcmp : Instr), [], [], 7),
  (7, (.ifCond .eq (7) : Instr), [14], [], 10),
  (10, (.iconst (1) : Instr), [], [(1, 0)], 11),
  (11, (.goto (4) : Instr), [15], [], 14),
  (14, (.iconst (0) : Instr), [], [(0, 0)], 15),
  (15, (.ireturn : Instr), [1], [], 0)]
/-! HandsAndWays$Cells.at(II)I -/
def zc_153 : List (Nat × zE) := [(0, (.iload_n 0 : Instr), [], [], 1),
  (1, (.ifCond .lt (19) : Instr), [20], [], 4),
  (4, (.iload_n 0 : Instr), [], [], 5),
  (5, (.bipush (8) : Instr), [], [(8, 0)], 7),
  (7, (.if_icmp .ge (13) : Instr), [20], [], 10),
  (10, (.iload_n 1 : Instr), [], [], 11),
  (11, (.ifCond .lt (9) : Instr), [20], [], 14),
  (14, (.iload_n 1 : Instr), [], [], 15),
  (15, (.bipush (8) : Instr), [], [(8, 0)], 17),
  (17, (.if_icmp .lt (7) : Instr), [24], [], 20),
  (20, (.iconst (-1) : Instr), [], [(-1, 0)], 21),
  (21, (.goto (9) : Instr), [30], [], 24),
  (24, (.iload_n 1 : Instr), [], [], 25),
  (25, (.bipush (8) : Instr), [], [(8, 0)], 27),
  (27, (.imul : Instr), [], [], 28),
  (28, (.iload_n 0 : Instr), [], [], 29),
  (29, (.iadd : Instr), [], [], 30),
  (30, (.ireturn : Instr), [0], [], 0)]
/-! HandsAndWays$Cells.beside(II)I -/
def zc_154 : List (Nat × zE) := [(0, (.iload_n 0 : Instr), [], [], 1),
  (1, (.bipush (8) : Instr), [], [(8, 0)], 3),
  (3, (.irem : Instr), [], [], 4),
  (4, (.istore_n 2 : Instr), [], [], 5),
  (5, (.iload_n 0 : Instr), [], [], 6),
  (6, (.bipush (8) : Instr), [], [(8, 0)], 8),
  (8, (.idiv : Instr), [], [], 9),
  (9, (.istore_n 3 : Instr), [], [], 10),
  (10, (.iload_n 1 : Instr), [], [], 11),
  (11, (.tableswitch (49) (0) (2) #[(25), (33), (41)] : Instr), [25, 60], [(0, 36), (1, 44), (2, 52)], 36),
  (36, (.iload_n 2 : Instr), [], [], 37),
  (37, (.iload_n 3 : Instr), [], [], 38),
  (38, (.iconst (1) : Instr), [], [(1, 0)], 39),
  (39, (.isub : Instr), [], [], 40),
  (40, (.invokestatic 11 : Instr), [0, 153, 2, 0], [], 43),
  (43, (.ireturn : Instr), [0], [], 44),
  (44, (.iload_n 2 : Instr), [], [], 45),
  (45, (.iconst (1) : Instr), [], [(1, 0)], 46),
  (46, (.iadd : Instr), [], [], 47),
  (47, (.iload_n 3 : Instr), [], [], 48),
  (48, (.invokestatic 11 : Instr), [0, 153, 2, 0], [], 51),
  (51, (.ireturn : Instr), [0], [], 52),
  (52, (.iload_n 2 : Instr), [], [], 53),
  (53, (.iload_n 3 : Instr), [], [], 54),
  (54, (.iconst (1) : Instr), [], [(1, 0)], 55),
  (55, (.iadd : Instr), [], [], 56),
  (56, (.invokestatic 11 : Instr), [0, 153, 2, 0], [], 59),
  (59, (.ireturn : Instr), [0], [], 60),
  (60, (.iload_n 2 : Instr), [], [], 61),
  (61, (.iconst (1) : Instr), [], [(1, 0)], 62),
  (62, (.isub : Instr), [], [], 63),
  (63, (.iload_n 3 : Instr), [], [], 64),
  (64, (.invokestatic 11 : Instr), [0, 153, 2, 0], [], 67),
  (67, (.ireturn : Instr), [0], [], 0)]
/-! HandsAndWays$Cells.areBeside(II)Z -/
def zc_155 : List (Nat × zE) := [(0, (.iconst (0) : Instr), [], [(0, 0)], 1),
  (1, (.istore_n 2 : Instr), [], [], 2),
  (2, (.iload_n 2 : Instr), [], [], 3),
  (3, (.iconst (3) : Instr), [], [(3, 0)], 4),
  (4, (.if_icmp .gt (20) : Instr), [24], [], 7),
  (7, (.iload_n 0 : Instr), [], [], 8),
  (8, (.iload_n 2 : Instr), [], [], 9),
  (9, (.invokestatic 15 : Instr), [0, 154, 2, 0], [], 12),
  (12, (.iload_n 1 : Instr), [], [], 13),
  (13, (.if_icmp .ne (5) : Instr), [18], [], 16),
  (16, (.iconst (1) : Instr), [], [(1, 0)], 17),
  (17, (.ireturn : Instr), [1], [], 18),
  (18, (.iinc 2 (1) : Instr), [], [], 21),
  (21, (.goto (-19) : Instr), [2], [], 24),
  (24, (.iconst (0) : Instr), [], [(0, 0)], 25),
  (25, (.ireturn : Instr), [1], [], 0)]
/-! HandsAndWays$Cells.allBeside(JZ)J -/
def zc_156 : List (Nat × zE) := [(0, (.lload_n 0 : Instr), [], [], 1),
  (1, (.ldc2_w 18 : Instr), [], [(9187201950435737471, 0)], 4),
  (4, (.land : Instr), [], [], 5),
  (5, (.iconst (1) : Instr), [], [(1, 0)], 6),
  (6, (.lshl : Instr), [], [], 7),
  (7, (.lload_n 0 : Instr), [], [], 8),
  (8, (.ldc2_w 20 : Instr), [], [(-72340172838076674, 0)], 11),
  (11, (.land : Instr), [], [], 12),
  (12, (.iconst (1) : Instr), [], [(1, 0)], 13),
  (13, (.lushr : Instr), [], [], 14),
  (14, (.lor : Instr), [], [], 15),
  (15, (.lstore_n 3 : Instr), [], [], 16),
  (16, (.iload_n 2 : Instr), [], [], 17),
  (17, (.ifCond .eq (17) : Instr), [34], [], 20),
  (20, (.lload_n 3 : Instr), [], [], 21),
  (21, (.lload_n 0 : Instr), [], [], 22),
  (22, (.bipush (8) : Instr), [], [(8, 0)], 24),
  (24, (.lshl : Instr), [], [], 25),
  (25, (.lor : Instr), [], [], 26),
  (26, (.lload_n 0 : Instr), [], [], 27),
  (27, (.bipush (8) : Instr), [], [(8, 0)], 29),
  (29, (.lushr : Instr), [], [], 30),
  (30, (.lor : Instr), [], [], 31),
  (31, (.goto (4) : Instr), [35], [], 34),
  (34, (.lload_n 3 : Instr), [], [], 35),
  (35, (.lreturn : Instr), [], [], 0)]
/-! HandsAndWays$Cells.shifted(JII)J -/
def zc_157 : List (Nat × zE) := [(0, (.lload_n 0 : Instr), [], [], 1),
  (1, (.lstore 4 : Instr), [], [], 3),
  (3, (.iload_n 3 : Instr), [], [], 4),
  (4, (.ifCond .le (10) : Instr), [14], [], 7),
  (7, (.lload 4 : Instr), [], [], 9),
  (9, (.bipush (8) : Instr), [], [(8, 0)], 11),
  (11, (.lshl : Instr), [], [], 12),
  (12, (.lstore 4 : Instr), [], [], 14),
  (14, (.iload_n 3 : Instr), [], [], 15),
  (15, (.ifCond .ge (10) : Instr), [25], [], 18),
  (18, (.lload 4 : Instr), [], [], 20),
  (20, (.bipush (8) : Instr), [], [(8, 0)], 22),
  (22, (.lushr : Instr), [], [], 23),
  (23, (.lstore 4 : Instr), [], [], 25),
  (25, (.iconst (0) : Instr), [], [(0, 0)], 26),
  (26, (.istore 6 : Instr), [], [], 28),
  (28, (.iload 6 : Instr), [], [], 30),
  (30, (.iload_n 2 : Instr), [], [], 31),
  (31, (.if_icmp .ge (19) : Instr), [50], [], 34),
  (34, (.lload 4 : Instr), [], [], 36),
  (36, (.ldc2_w 18 : Instr), [], [(9187201950435737471, 0)], 39),
  (39, (.land : Instr), [], [], 40),
  (40, (.iconst (1) : Instr), [], [(1, 0)], 41),
  (41, (.lshl : Instr), [], [], 42),
  (42, (.lstore 4 : Instr), [], [], 44),
  (44, (.iinc 6 (1) : Instr), [], [], 47),
  (47, (.goto (-19) : Instr), [28], [], 50),
  (50, (.iconst (0) : Instr), [], [(0, 0)], 51),
  (51, (.istore 6 : Instr), [], [], 53),
  (53, (.iload 6 : Instr), [], [], 55),
  (55, (.iload_n 2 : Instr), [], [], 56),
  (56, (.if_icmp .le (19) : Instr), [75], [], 59),
  (59, (.lload 4 : Instr), [], [], 61),
  (61, (.ldc2_w 20 : Instr), [], [(-72340172838076674, 0)], 64),
  (64, (.land : Instr), [], [], 65),
  (65, (.iconst (1) : Instr), [], [(1, 0)], 66),
  (66, (.lushr : Instr), [], [], 67),
  (67, (.lstore 4 : Instr), [], [], 69),
  (69, (.iinc 6 (-1) : Instr), [], [], 72),
  (72, (.goto (-19) : Instr), [53], [], 75),
  (75, (.lload 4 : Instr), [], [], 77),
  (77, (.lreturn : Instr), [], [], 0)]
/-! HandsAndWays$Cells.isInRow(II)Z -/
def zc_158 : List (Nat × zE) := [(0, (.iload_n 0 : Instr), [], [], 1),
  (1, (.bipush (8) : Instr), [], [(8, 0)], 3),
  (3, (.irem : Instr), [], [], 4),
  (4, (.iload_n 1 : Instr), [], [], 5),
  (5, (.iadd : Instr), [], [], 6),
  (6, (.bipush (8) : Instr), [], [(8, 0)], 8),
  (8, (.if_icmp .gt (7) : Instr), [15], [], 11),
  (11, (.iconst (1) : Instr), [], [(1, 0)], 12),
  (12, (.goto (4) : Instr), [16], [], 15),
  (15, (.iconst (0) : Instr), [], [(0, 0)], 16),
  (16, (.ireturn : Instr), [1], [], 0)]
/-! HandsAndWays$Cells.row(II)J -/
def zc_159 : List (Nat × zE) := [(0, (.iload_n 0 : Instr), [], [], 1),
  (1, (.ifCond .ge (7) : Instr), [8], [], 4),
  (4, (.lconst 0 : Instr), [], [], 5),
  (5, (.goto (10) : Instr), [15], [], 8),
  (8, (.lconst 1 : Instr), [], [], 9),
  (9, (.iload_n 1 : Instr), [], [], 10),
  (10, (.lshl : Instr), [], [], 11),
  (11, (.lconst 1 : Instr), [], [], 12),
  (12, (.lsub : Instr), [], [], 13),
  (13, (.iload_n 0 : Instr), [], [], 14),
  (14, (.lshl : Instr), [], [], 15),
  (15, (.lreturn : Instr), [], [], 0)]
/-! HandsAndWays$Cells.eastOfHand(II)I -/
def zc_160 : List (Nat × zE) := [(0, (.iload_n 0 : Instr), [], [], 1),
  (1, (.iconst (1) : Instr), [], [(1, 0)], 2),
  (2, (.if_icmp .ne (8) : Instr), [10], [], 5),
  (5, (.iload_n 1 : Instr), [], [], 6),
  (6, (.ineg : Instr), [], [], 7),
  (7, (.goto (13) : Instr), [20], [], 10),
  (10, (.iload_n 0 : Instr), [], [], 11),
  (11, (.iconst (3) : Instr), [], [(3, 0)], 12),
  (12, (.if_icmp .ne (7) : Instr), [19], [], 15),
  (15, (.iconst (1) : Instr), [], [(1, 0)], 16),
  (16, (.goto (4) : Instr), [20], [], 19),
  (19, (.iconst (0) : Instr), [], [(0, 0)], 20),
  (20, (.ireturn : Instr), [0], [], 0)]
/-! HandsAndWays$Cells.southOfHand(I)I -/
def zc_161 : List (Nat × zE) := [(0, (.iload_n 0 : Instr), [], [], 1),
  (1, (.ifCond .ne (7) : Instr), [8], [], 4),
  (4, (.iconst (1) : Instr), [], [(1, 0)], 5),
  (5, (.goto (13) : Instr), [18], [], 8),
  (8, (.iload_n 0 : Instr), [], [], 9),
  (9, (.iconst (2) : Instr), [], [(2, 0)], 10),
  (10, (.if_icmp .ne (7) : Instr), [17], [], 13),
  (13, (.iconst (-1) : Instr), [], [(-1, 0)], 14),
  (14, (.goto (4) : Instr), [18], [], 17),
  (17, (.iconst (0) : Instr), [], [(0, 0)], 18),
  (18, (.ireturn : Instr), [0], [], 0)]
/-! HandsAndWays$Cells.handCell(III)I -/
def zc_162 : List (Nat × zE) := [(0, (.iload_n 0 : Instr), [], [], 1),
  (1, (.bipush (8) : Instr), [], [(8, 0)], 3),
  (3, (.irem : Instr), [], [], 4),
  (4, (.iload_n 2 : Instr), [], [], 5),
  (5, (.iload_n 1 : Instr), [], [], 6),
  (6, (.invokestatic 22 : Instr), [0, 160, 2, 0], [], 9),
  (9, (.isub : Instr), [], [], 10),
  (10, (.iload_n 0 : Instr), [], [], 11),
  (11, (.bipush (8) : Instr), [], [(8, 0)], 13),
  (13, (.idiv : Instr), [], [], 14),
  (14, (.iload_n 2 : Instr), [], [], 15),
  (15, (.invokestatic 25 : Instr), [0, 161, 1, 0], [], 18),
  (18, (.isub : Instr), [], [], 19),
  (19, (.invokestatic 11 : Instr), [0, 153, 2, 0], [], 22),
  (22, (.ireturn : Instr), [0], [], 0)]
/-! HandsAndWays$Chances.<init>(LHandsAndWays$Room;LHandsAndWays$Ways;LHandsAndWays$Acts;LHandsAndWays$Scene;)V -/
def zc_163 : List (Nat × zE) := [(0, (.aload_n 0 : Instr), [], [], 1),
  (1, (.invokespecial 3 : Instr), [4], [], 4),
  (4, (.aload_n 0 : Instr), [], [], 5),
  (5, (.iconst (0) : Instr), [], [(0, 0)], 6),
  (6, (.putfield 9 : Instr), [8, 4, 0], [], 9),
  (9, (.aload_n 0 : Instr), [], [], 10),
  (10, (.iconst (-1) : Instr), [], [(-1, 0)], 11),
  (11, (.putfield 15 : Instr), [8, 5, 0], [], 14),
  (14, (.aload_n 0 : Instr), [], [], 15),
  (15, (.bipush (6) : Instr), [], [(6, 0)], 17),
  (17, (.newarray .int : Instr), [0], [], 19),
  (19, (.putfield 18 : Instr), [8, 6, 3], [], 22),
  (22, (.aload_n 0 : Instr), [], [], 23),
  (23, (.bipush (6) : Instr), [], [(6, 0)], 25),
  (25, (.newarray .int : Instr), [0], [], 27),
  (27, (.putfield 22 : Instr), [8, 7, 3], [], 30),
  (30, (.aload_n 0 : Instr), [], [], 31),
  (31, (.iconst (0) : Instr), [], [(0, 0)], 32),
  (32, (.putfield 25 : Instr), [8, 8, 0], [], 35),
  (35, (.aload_n 0 : Instr), [], [], 36),
  (36, (.iconst (0) : Instr), [], [(0, 0)], 37),
  (37, (.putfield 28 : Instr), [8, 9, 0], [], 40),
  (40, (.aload_n 0 : Instr), [], [], 41),
  (41, (.iconst (0) : Instr), [], [(0, 0)], 42),
  (42, (.putfield 31 : Instr), [8, 10, 0], [], 45),
  (45, (.aload_n 0 : Instr), [], [], 46),
  (46, (.iconst (0) : Instr), [], [(0, 0)], 47),
  (47, (.putfield 34 : Instr), [8, 11, 0], [], 50),
  (50, (.aload_n 0 : Instr), [], [], 51),
  (51, (.aload_n 1 : Instr), [], [], 52),
  (52, (.putfield 37 : Instr), [8, 0, 3], [], 55),
  (55, (.aload_n 0 : Instr), [], [], 56),
  (56, (.aload_n 2 : Instr), [], [], 57),
  (57, (.putfield 41 : Instr), [8, 1, 3], [], 60),
  (60, (.aload_n 0 : Instr), [], [], 61),
  (61, (.aload_n 3 : Instr), [], [], 62),
  (62, (.putfield 45 : Instr), [8, 2, 3], [], 65),
  (65, (.aload_n 0 : Instr), [], [], 66),
  (66, (.aload 4 : Instr), [], [], 68),
  (68, (.putfield 49 : Instr), [8, 3, 3], [], 71),
  (71, (.return_ : Instr), [], [], 0)]
/-! HandsAndWays$Chances.add(III)I -/
def zc_164 : List (Nat × zE) := [(0, (.aload_n 0 : Instr), [], [], 1),
  (1, (.iload_n 1 : Instr), [], [], 2),
  (2, (.putfield 15 : Instr), [8, 5, 0], [], 5),
  (5, (.aload_n 0 : Instr), [], [], 6),
  (6, (.getfield 18 : Instr), [8, 6, 3], [], 9),
  (9, (.aload_n 0 : Instr), [], [], 10),
  (10, (.getfield 9 : Instr), [8, 4, 0], [], 13),
  (13, (.iload_n 2 : Instr), [], [], 14),
  (14, (.iastore : Instr), [], [], 15),
  (15, (.aload_n 0 : Instr), [], [], 16),
  (16, (.getfield 22 : Instr), [8, 7, 3], [], 19),
  (19, (.aload_n 0 : Instr), [], [], 20),
  (20, (.getfield 9 : Instr), [8, 4, 0], [], 23),
  (23, (.iload_n 3 : Instr), [], [], 24),
  (24, (.iastore : Instr), [], [], 25),
  (25, (.aload_n 0 : Instr), [], [], 26),
  (26, (.dup : Instr), [], [], 27),
  (27, (.getfield 9 : Instr), [8, 4, 0], [], 30),
  (30, (.dup_x1 : Instr), [], [], 31),
  (31, (.iconst (1) : Instr), [], [(1, 0)], 32),
  (32, (.iadd : Instr), [], [], 33),
  (33, (.putfield 9 : Instr), [8, 4, 0], [], 36),
  (36, (.ireturn : Instr), [0], [], 0)]
/-! HandsAndWays$Chances.weigh(LHandsAndWays$Scene;II)V -/
def zc_165 : List (Nat × zE) := [(0, (.aload_n 0 : Instr), [], [], 1),
  (1, (.iconst (0) : Instr), [], [(0, 0)], 2),
  (2, (.putfield 25 : Instr), [8, 8, 0], [], 5),
  (5, (.aload_n 0 : Instr), [], [], 6),
  (6, (.iconst (0) : Instr), [], [(0, 0)], 7),
  (7, (.putfield 31 : Instr), [8, 10, 0], [], 10),
  (10, (.aload_n 0 : Instr), [], [], 11),
  (11, (.iconst (0) : Instr), [], [(0, 0)], 12),
  (12, (.putfield 34 : Instr), [8, 11, 0], [], 15),
  (15, (.aload_n 0 : Instr), [], [], 16),
  (16, (.iconst (0) : Instr), [], [(0, 0)], 17),
  (17, (.putfield 28 : Instr), [8, 9, 0], [], 20),
  (20, (.iconst (0) : Instr), [], [(0, 0)], 21),
  (21, (.istore 4 : Instr), [], [], 23),
  (23, (.iload 4 : Instr), [], [], 25),
  (25, (.aload_n 0 : Instr), [], [], 26),
  (26, (.getfield 9 : Instr), [8, 4, 0], [], 29),
  (29, (.if_icmp .ge (145) : Instr), [174], [], 32),
  (32, (.aload_n 0 : Instr), [], [], 33),
  (33, (.dup : Instr), [], [], 34),
  (34, (.getfield 34 : Instr), [8, 11, 0], [], 37),
  (37, (.aload_n 0 : Instr), [], [], 38),
  (38, (.getfield 22 : Instr), [8, 7, 3], [], 41),
  (41, (.iload 4 : Instr), [], [], 43),
  (43, (.iaload : Instr), [], [], 44),
  (44, (.iadd : Instr), [], [], 45),
  (45, (.putfield 34 : Instr), [8, 11, 0], [], 48),
  (48, (.aload_n 0 : Instr), [], [], 49),
  (49, (.aload_n 1 : Instr), [], [], 50),
  (50, (.aload_n 0 : Instr), [], [], 51),
  (51, (.getfield 18 : Instr), [8, 6, 3], [], 54),
  (54, (.iload 4 : Instr), [], [], 56),
  (56, (.iaload : Instr), [], [], 57),
  (57, (.invokevirtual 53 : Instr), [1, 166, 3, 8], [], 60),
  (60, (.ifCond .ne (6) : Instr), [66], [], 63),
  (63, (.goto (105) : Instr), [168], [], 66),
  (66, (.aload_n 0 : Instr), [], [], 67),
  (67, (.getfield 49 : Instr), [8, 3, 3], [], 70),
  (70, (.aload_n 1 : Instr), [], [], 71),
  (71, (.invokevirtual 57 : Instr), [1, 198, 2, 2], [], 74),
  (74, (.aload_n 0 : Instr), [], [], 75),
  (75, (.getfield 49 : Instr), [8, 3, 3], [], 78),
  (78, (.getfield 63 : Instr), [2, 2, 3], [], 81),
  (81, (.aload_n 0 : Instr), [], [], 82),
  (82, (.getfield 15 : Instr), [8, 5, 0], [], 85),
  (85, (.aload_n 0 : Instr), [], [], 86),
  (86, (.getfield 18 : Instr), [8, 6, 3], [], 89),
  (89, (.iload 4 : Instr), [], [], 91),
  (91, (.iaload : Instr), [], [], 92),
  (92, (.iastore : Instr), [], [], 93),
  (93, (.aload_n 0 : Instr), [], [], 94),
  (94, (.getfield 45 : Instr), [8, 2, 3], [], 97),
  (97, (.aload_n 0 : Instr), [], [], 98),
  (98, (.getfield 49 : Instr), [8, 3, 3], [], 101),
  (101, (.iload_n 2 : Instr), [], [], 102),
  (102, (.iload_n 3 : Instr), [], [], 103),
  (103, (.invokevirtual 66 : Instr), [1, 143, 4, 5], [], 106),
  (106, (.ifCond .eq (6) : Instr), [112], [], 109),
  (109, (.goto (59) : Instr), [168], [], 112),
  (112, (.aload_n 0 : Instr), [], [], 113),
  (113, (.dup : Instr), [], [], 114),
  (114, (.getfield 25 : Instr), [8, 8, 0], [], 117),
  (117, (.iconst (1) : Instr), [], [(1, 0)], 118),
  (118, (.iload 4 : Instr), [], [], 120),
  (120, (.ishl : Instr), [], [], 121),
  (121, (.ior : Instr), [], [], 122),
  (122, (.putfield 25 : Instr), [8, 8, 0], [], 125),
  (125, (.aload_n 0 : Instr), [], [], 126),
  (126, (.dup : Instr), [], [], 127),
  (127, (.getfield 31 : Instr), [8, 10, 0], [], 130),
  (130, (.aload_n 0 : Instr), [], [], 131),
  (131, (.getfield 22 : Instr), [8, 7, 3], [], 134),
  (134, (.iload 4 : Instr), [], [], 136),
  (136, (.iaload : Instr), [], [], 137),
  (137, (.iadd : Instr), [], [], 138),
  (138, (.putfield 31 : Instr), [8, 10, 0], [], 141),
  (141, (.aload_n 0 : Instr), [], [], 142),
  (142, (.aload_n 0 : Instr), [], [], 143),
  (143, (.getfield 28 : Instr), [8, 9, 0], [], 146),
  (146, (.aload_n 0 : Instr), [], [], 147),
  (147, (.getfield 49 : Instr), [8, 3, 3], [], 150),
  (150, (.getfield 72 : Instr), [2, 7, 3], [], 153),
  (153, (.iload_n 2 : Instr), [], [], 154),
  (154, (.iaload : Instr), [], [], 155),
  (155, (.aload_n 1 : Instr), [], [], 156),
  (156, (.getfield 72 : Instr), [2, 7, 3], [], 159),
  (159, (.iload_n 2 : Instr), [], [], 160),
  (160, (.iaload : Instr), [], [], 161),
  (161, (.isub : Instr), [], [], 162),
  (162, (.invokestatic 75 : Instr), [0, 244, 2, 0], [], 165),
  (165, (.putfield 28 : Instr), [8, 9, 0], [], 168),
  (168, (.iinc 4 (1) : Instr), [], [], 171),
  (171, (.goto (-148) : Instr), [23], [], 174),
  (174, (.return_ : Instr), [], [], 0)]
/-! HandsAndWays$Chances.canLay(LHandsAndWays$Scene;I)Z -/
def zc_166 : List (Nat × zE) := [(0, (.aload_n 1 : Instr), [], [], 1),
  (1, (.getfield 81 : Instr), [2, 3, 3], [], 4),
  (4, (.aload_n 0 : Instr), [], [], 5),
  (5, (.getfield 15 : Instr), [8, 5, 0], [], 8),
  (8, (.iaload : Instr), [], [], 9),
  (9, (.ifCond .ge (35) : Instr), [44], [], 12),
  (12, (.aload_n 0 : Instr), [], [], 13),
  (13, (.getfield 41 : Instr), [8, 1, 3], [], 16),
  (16, (.aload_n 1 : Instr), [], [], 17),
  (17, (.aload_n 0 : Instr), [], [], 18),
  (18, (.getfield 15 : Instr), [8, 5, 0], [], 21),
  (21, (.aload_n 0 : Instr), [], [], 22),
  (22, (.getfield 37 : Instr), [8, 0, 3], [], 25),
  (25, (.getfield 84 : Instr), [1, 4, 3], [], 28),
  (28, (.aload_n 0 : Instr), [], [], 29),
  (29, (.getfield 15 : Instr), [8, 5, 0], [], 32),
  (32, (.iaload : Instr), [], [], 33),
  (33, (.iload_n 2 : Instr), [], [], 34),
  (34, (.invokevirtual 89 : Instr), [1, 231, 5, 3], [], 37),
  (37, (.ifCond .eq (7) : Instr), [44], [], 40),
  (40, (.iconst (1) : Instr), [], [(1, 0)], 41),
  (41, (.goto (4) : Instr), [45], [], 44),
  (44, (.iconst (0) : Instr), [], [(0, 0)], 45),
  (45, (.ireturn : Instr), [1], [], 0)]
/-! HandsAndWays$Chances.above()I -/
def zc_167 : List (Nat × zE) := [(0, (.aload_n 0 : Instr), [], [], 1),
  (1, (.getfield 31 : Instr), [8, 10, 0], [], 4),
  (4, (.ifCond .ne (7) : Instr), [11], [], 7),
  (7, (.iconst (0) : Instr), [], [(0, 0)], 8),
  (8, (.goto (12) : Instr), [20], [], 11),
  (11, (.aload_n 0 : Instr), [], [], 12),
  (12, (.getfield 31 : Instr), [8, 10, 0], [], 15),
  (15, (.aload_n 0 : Instr), [], [], 16),
  (16, (.invokevirtual 95 : Instr), [1, 169, 1, 8], [], 19),
  (19, (.idiv : Instr), [], [], 20),
  (20, (.ireturn : Instr), [0], [], 0)]
/-! HandsAndWays$Chances.below()I -/
def zc_168 : List (Nat × zE) := [(0, (.aload_n 0 : Instr), [], [], 1),
  (1, (.getfield 31 : Instr), [8, 10, 0], [], 4),
  (4, (.ifCond .ne (7) : Instr), [11], [], 7),
  (7, (.iconst (1) : Instr), [], [(1, 0)], 8),
  (8, (.goto (12) : Instr), [20], [], 11),
  (11, (.aload_n 0 : Instr), [], [], 12),
  (12, (.getfield 34 : Instr), [8, 11, 0], [], 15),
  (15, (.aload_n 0 : Instr), [], [], 16),
  (16, (.invokevirtual 95 : Instr), [1, 169, 1, 8], [], 19),
  (19, (.idiv : Instr), [], [], 20),
  (20, (.ireturn : Instr), [0], [], 0)]
/-! HandsAndWays$Chances.commonPart()I -/
def zc_169 : List (Nat × zE) := [(0, (.aload_n 0 : Instr), [], [], 1),
  (1, (.getfield 34 : Instr), [8, 11, 0], [], 4),
  (4, (.istore_n 1 : Instr), [], [], 5),
  (5, (.aload_n 0 : Instr), [], [], 6),
  (6, (.getfield 31 : Instr), [8, 10, 0], [], 9),
  (9, (.istore_n 2 : Instr), [], [], 10),
  (10, (.iconst (0) : Instr), [], [(0, 0)], 11),
  (11, (.istore_n 3 : Instr), [], [], 12),
  (12, (.iload_n 3 : Instr), [], [], 13),
  (13, (.bipush (100) : Instr), [], [(100, 0)], 15),
  (15, (.if_icmp .ge (23) : Instr), [38], [], 18),
  (18, (.iload_n 2 : Instr), [], [], 19),
  (19, (.ifCond .eq (19) : Instr), [38], [], 22),
  (22, (.iload_n 1 : Instr), [], [], 23),
  (23, (.iload_n 2 : Instr), [], [], 24),
  (24, (.irem : Instr), [], [], 25),
  (25, (.istore 4 : Instr), [], [], 27),
  (27, (.iload_n 2 : Instr), [], [], 28),
  (28, (.istore_n 1 : Instr), [], [], 29),
  (29, (.iload 4 : Instr), [], [], 31),
  (31, (.istore_n 2 : Instr), [], [], 32),
  (32, (.iinc 3 (1) : Instr), [], [], 35),
  (35, (.goto (-23) : Instr), [12], [], 38),
  (38, (.iload_n 1 : Instr), [], [], 39),
  (39, (.iconst (1) : Instr), [], [(1, 0)], 40),
  (40, (.invokestatic 75 : Instr), [0, 244, 2, 0], [], 43),
  (43, (.ireturn : Instr), [0], [], 0)]
/-! HandsAndWays$Kinds.isKind(I)Z -/
def zc_170 : List (Nat × zE) := [(0, (.iload_n 0 : Instr), [], [], 1),
  (1, (.ifCond .lt (13) : Instr), [14], [], 4),
  (4, (.iload_n 0 : Instr), [], [], 5),
  (5, (.bipush (6) : Instr), [], [(6, 0)], 7),
  (7, (.if_icmp .ge (7) : Instr), [14], [], 10),
  (10, (.iconst (1) : Instr), [], [(1, 0)], 11),
  (11, (.goto (4) : Instr), [15], [], 14),
  (14, (.iconst (0) : Instr), [], [(0, 0)], 15),
  (15, (.ireturn : Instr), [1], [], 0)]
/-! HandsAndWays$Kinds.isWide(I)Z -/
def zc_171 : List (Nat × zE) := [(0, (.iload_n 0 : Instr), [], [], 1),
  (1, (.iconst (1) : Instr), [], [(1, 0)], 2),
  (2, (.if_icmp .eq (8) : Instr), [10], [], 5),
  (5, (.iload_n 0 : Instr), [], [], 6),
  (6, (.iconst (2) : Instr), [], [(2, 0)], 7),
  (7, (.if_icmp .ne (7) : Instr), [14], [], 10),
  (10, (.iconst (1) : Instr), [], [(1, 0)], 11),
  (11, (.goto (4) : Instr), [15], [], 14),
  (14, (.iconst (0) : Instr), [], [(0, 0)], 15),
  (15, (.ireturn : Instr), [1], [], 0)]
/-! HandsAndWays$Kinds.sidesOf(I)I -/
def zc_172 : List (Nat × zE) := [(0, (.getstatic 9 : Instr), [2], [], 3),
  (3, (.iload_n 0 : Instr), [], [], 4),
  (4, (.iaload : Instr), [], [], 5),
  (5, (.ireturn : Instr), [0], [], 0)]
/-! HandsAndWays$Kinds.isHeldFrom(II)Z -/
def zc_173 : List (Nat × zE) := [(0, (.getstatic 9 : Instr), [2], [], 3),
  (3, (.iload_n 0 : Instr), [], [], 4),
  (4, (.iaload : Instr), [], [], 5),
  (5, (.iload_n 1 : Instr), [], [], 6),
  (6, (.ishr : Instr), [], [], 7),
  (7, (.iconst (1) : Instr), [], [(1, 0)], 8),
  (8, (.iand : Instr), [], [], 9),
  (9, (.ifCond .eq (7) : Instr), [16], [], 12),
  (12, (.iconst (1) : Instr), [], [(1, 0)], 13),
  (13, (.goto (4) : Instr), [17], [], 16),
  (16, (.iconst (0) : Instr), [], [(0, 0)], 17),
  (17, (.ireturn : Instr), [1], [], 0)]
/-! HandsAndWays$Kinds.weightOf(II)I -/
def zc_174 : List (Nat × zE) := [(0, (.iconst (2) : Instr), [], [(2, 0)], 1),
  (1, (.iload_n 1 : Instr), [], [], 2),
  (2, (.imul : Instr), [], [], 3),
  (3, (.istore_n 2 : Instr), [], [], 4),
  (4, (.iload_n 2 : Instr), [], [], 5),
  (5, (.iconst (3) : Instr), [], [(3, 0)], 6),
  (6, (.iadd : Instr), [], [], 7),
  (7, (.istore_n 3 : Instr), [], [], 8),
  (8, (.iload_n 0 : Instr), [], [], 9),
  (9, (.tableswitch (49) (1) (5) #[(35), (49), (37), (41), (45)] : Instr), [35, 58], [(1, 44), (2, 58), (3, 46), (4, 50), (5, 54)], 44),
  (44, (.iload_n 3 : Instr), [], [], 45),
  (45, (.ireturn : Instr), [0], [], 46),
  (46, (.iload_n 2 : Instr), [], [], 47),
  (47, (.iconst (2) : Instr), [], [(2, 0)], 48),
  (48, (.idiv : Instr), [], [], 49),
  (49, (.ireturn : Instr), [0], [], 50),
  (50, (.iconst (2) : Instr), [], [(2, 0)], 51),
  (51, (.iload_n 3 : Instr), [], [], 52),
  (52, (.imul : Instr), [], [], 53),
  (53, (.ireturn : Instr), [0], [], 54),
  (54, (.iload_n 2 : Instr), [], [], 55),
  (55, (.iconst (1) : Instr), [], [(1, 0)], 56),
  (56, (.isub : Instr), [], [], 57),
  (57, (.ireturn : Instr), [0], [], 58),
  (58, (.iload_n 2 : Instr), [], [], 59),
  (59, (.ireturn : Instr), [0], [], 0)]
/-! HandsAndWays$Kinds.isKey(I)Z -/
def zc_175 : List (Nat × zE) := [(0, (.iload_n 0 : Instr), [], [], 1),
  (1, (.iconst (3) : Instr), [], [(3, 0)], 2),
  (2, (.if_icmp .ne (7) : Instr), [9], [], 5),
  (5, (.iconst (1) : Instr), [], [(1, 0)], 6),
  (6, (.goto (4) : Instr), [10], [], 9),
  (9, (.iconst (0) : Instr), [], [(0, 0)], 10),
  (10, (.ireturn : Instr), [1], [], 0)]
/-! HandsAndWays$Kinds.turnsUp(I)Z -/
def zc_176 : List (Nat × zE) := [(0, (.getstatic 13 : Instr), [4], [], 3),
  (3, (.iload_n 0 : Instr), [], [], 4),
  (4, (.iaload : Instr), [], [], 5),
  (5, (.iconst (1) : Instr), [], [(1, 0)], 6),
  (6, (.if_icmp .ne (7) : Instr), [13], [], 9),
  (9, (.iconst (1) : Instr), [], [(1, 0)], 10),
  (10, (.goto (4) : Instr), [14], [], 13),
  (13, (.iconst (0) : Instr), [], [(0, 0)], 14),
  (14, (.ireturn : Instr), [1], [], 0)]
/-! HandsAndWays$Kinds.isOf(II)Z -/
def zc_177 : List (Nat × zE) := [(0, (.iload_n 0 : Instr), [], [], 1),
  (1, (.istore_n 2 : Instr), [], [], 2),
  (2, (.iconst (0) : Instr), [], [(0, 0)], 3),
  (3, (.istore_n 3 : Instr), [], [], 4),
  (4, (.iload_n 3 : Instr), [], [], 5),
  (5, (.bipush (6) : Instr), [], [(6, 0)], 7),
  (7, (.if_icmp .ge (26) : Instr), [33], [], 10),
  (10, (.iload_n 2 : Instr), [], [], 11),
  (11, (.ifCond .lt (22) : Instr), [33], [], 14),
  (14, (.iload_n 2 : Instr), [], [], 15),
  (15, (.iload_n 1 : Instr), [], [], 16),
  (16, (.if_icmp .ne (5) : Instr), [21], [], 19),
  (19, (.iconst (1) : Instr), [], [(1, 0)], 20),
  (20, (.ireturn : Instr), [1], [], 21),
  (21, (.getstatic 16 : Instr), [3], [], 24),
  (24, (.iload_n 2 : Instr), [], [], 25),
  (25, (.iaload : Instr), [], [], 26),
  (26, (.istore_n 2 : Instr), [], [], 27),
  (27, (.iinc 3 (1) : Instr), [], [], 30),
  (30, (.goto (-26) : Instr), [4], [], 33),
  (33, (.iconst (0) : Instr), [], [(0, 0)], 34),
  (34, (.ireturn : Instr), [1], [], 0)]
/-! HandsAndWays$Planner.<init>(LHandsAndWays$Room;LHandsAndWays$Ways;LHandsAndWays$Rules;LHandsAndWays$Scene;)V -/
def zc_178 : List (Nat × zE) := [(0, (.aload_n 0 : Instr), [], [], 1),
  (1, (.invokespecial 3 : Instr), [4], [], 4),
  (4, (.aload_n 0 : Instr), [], [], 5),
  (5, (.iconst (5) : Instr), [], [(5, 0)], 6),
  (6, (.newarray .int : Instr), [0], [], 8),
  (8, (.putfield 11 : Instr), [7, 4, 3], [], 11),
  (11, (.aload_n 0 : Instr), [], [], 12),
  (12, (.iconst (0) : Instr), [], [(0, 0)], 13),
  (13, (.putfield 15 : Instr), [7, 5, 0], [], 16),
  (16, (.aload_n 0 : Instr), [], [], 17),
  (17, (.iconst (0) : Instr), [], [(0, 0)], 18),
  (18, (.putfield 19 : Instr), [7, 6, 0], [], 21),
  (21, (.aload_n 0 : Instr), [], [], 22),
  (22, (.iconst (0) : Instr), [], [(0, 0)], 23),
  (23, (.putfield 22 : Instr), [7, 7, 0], [], 26),
  (26, (.aload_n 0 : Instr), [], [], 27),
  (27, (.iconst (0) : Instr), [], [(0, 0)], 28),
  (28, (.putfield 25 : Instr), [7, 8, 0], [], 31),
  (31, (.aload_n 0 : Instr), [], [], 32),
  (32, (.iconst (0) : Instr), [], [(0, 0)], 33),
  (33, (.putfield 28 : Instr), [7, 9, 0], [], 36),
  (36, (.aload_n 0 : Instr), [], [], 37),
  (37, (.iconst (0) : Instr), [], [(0, 0)], 38),
  (38, (.putfield 31 : Instr), [7, 10, 0], [], 41),
  (41, (.aload_n 0 : Instr), [], [], 42),
  (42, (.iconst (0) : Instr), [], [(0, 0)], 43),
  (43, (.putfield 34 : Instr), [7, 11, 0], [], 46),
  (46, (.aload_n 0 : Instr), [], [], 47),
  (47, (.iconst (0) : Instr), [], [(0, 0)], 48),
  (48, (.putfield 37 : Instr), [7, 12, 0], [], 51),
  (51, (.aload_n 0 : Instr), [], [], 52),
  (52, (.bipush (6) : Instr), [], [(6, 0)], 54),
  (54, (.newarray .int : Instr), [0], [], 56),
  (56, (.putfield 40 : Instr), [7, 13, 3], [], 59),
  (59, (.aload_n 0 : Instr), [], [], 60),
  (60, (.bipush (6) : Instr), [], [(6, 0)], 62),
  (62, (.newarray .int : Instr), [0], [], 64),
  (64, (.putfield 43 : Instr), [7, 14, 3], [], 67),
  (67, (.aload_n 0 : Instr), [], [], 68),
  (68, (.aload_n 1 : Instr), [], [], 69),
  (69, (.putfield 46 : Instr), [7, 0, 3], [], 72),
  (72, (.aload_n 0 : Instr), [], [], 73),
  (73, (.aload_n 2 : Instr), [], [], 74),
  (74, (.putfield 50 : Instr), [7, 1, 3], [], 77),
  (77, (.aload_n 0 : Instr), [], [], 78),
  (78, (.aload_n 3 : Instr), [], [], 79),
  (79, (.putfield 54 : Instr), [7, 2, 3], [], 82),
  (82, (.aload_n 0 : Instr), [], [], 83),
  (83, (.aload 4 : Instr), [], [], 85),
  (85, (.putfield 58 : Instr), [7, 3, 3], [], 88),
  (88, (.return_ : Instr), [], [], 0)]
/-! HandsAndWays$Planner.forget()V -/
def zc_179 : List (Nat × zE) := [(0, (.aload_n 0 : Instr), [], [], 1),
  (1, (.iconst (-1) : Instr), [], [(-1, 0)], 2),
  (2, (.putfield 34 : Instr), [7, 11, 0], [], 5),
  (5, (.aload_n 0 : Instr), [], [], 6),
  (6, (.iconst (0) : Instr), [], [(0, 0)], 7),
  (7, (.putfield 37 : Instr), [7, 12, 0], [], 10),
  (10, (.aload_n 0 : Instr), [], [], 11),
  (11, (.iconst (0) : Instr), [], [(0, 0)], 12),
  (12, (.putfield 31 : Instr), [7, 10, 0], [], 15),
  (15, (.return_ : Instr), [], [], 0)]
/-! HandsAndWays$Planner.findNothingToDo()I -/
def zc_180 : List (Nat × zE) := [(0, (.aload_n 0 : Instr), [], [], 1),
  (1, (.iconst (0) : Instr), [], [(0, 0)], 2),
  (2, (.putfield 34 : Instr), [7, 11, 0], [], 5),
  (5, (.iconst (0) : Instr), [], [(0, 0)], 6),
  (6, (.ireturn : Instr), [0], [], 0)]
/-! HandsAndWays$Planner.clearPlaces()V -/
def zc_181 : List (Nat × zE) := [(0, (.aload_n 0 : Instr), [], [], 1),
  (1, (.iconst (0) : Instr), [], [(0, 0)], 2),
  (2, (.putfield 15 : Instr), [7, 5, 0], [], 5),
  (5, (.return_ : Instr), [], [], 0)]
/-! HandsAndWays$Planner.addPlace(I)V -/
def zc_182 : List (Nat × zE) := [(0, (.aload_n 0 : Instr), [], [], 1),
  (1, (.getfield 15 : Instr), [7, 5, 0], [], 4),
  (4, (.iconst (5) : Instr), [], [(5, 0)], 5),
  (5, (.if_icmp .ge (20) : Instr), [25], [], 8),
  (8, (.aload_n 0 : Instr), [], [], 9),
  (9, (.getfield 11 : Instr), [7, 4, 3], [], 12),
  (12, (.aload_n 0 : Instr), [], [], 13),
  (13, (.dup : Instr), [], [], 14),
  (14, (.getfield 15 : Instr), [7, 5, 0], [], 17),
  (17, (.dup_x1 : Instr), [], [], 18),
  (18, (.iconst (1) : Instr), [], [(1, 0)], 19),
  (19, (.iadd : Instr), [], [], 20),
  (20, (.putfield 15 : Instr), [7, 5, 0], [], 23),
  (23, (.iload_n 1 : Instr), [], [], 24),
  (24, (.iastore : Instr), [], [], 25),
  (25, (.return_ : Instr), [], [], 0)]
/-! HandsAndWays$Planner.bestTold(II)I -/
def zc_183 : List (Nat × zE) := [(0, (.aload_n 0 : Instr), [], [], 1),
  (1, (.getfield 40 : Instr), [7, 13, 3], [], 4),
  (4, (.iload_n 1 : Instr), [], [], 5),
  (5, (.iconst (3) : Instr), [], [(3, 0)], 6),
  (6, (.imul : Instr), [], [], 7),
  (7, (.iload_n 2 : Instr), [], [], 8),
  (8, (.iadd : Instr), [], [], 9),
  (9, (.iaload : Instr), [], [], 10),
  (10, (.ireturn : Instr), [0], [], 0)]
/-! HandsAndWays$Planner.find(IIII)I -/
def zc_184 : List (Nat × zE) := [(0, (.aload_n 0 : Instr), [], [], 1),
  (1, (.iload_n 1 : Instr), [], [], 2),
  (2, (.putfield 19 : Instr), [7, 6, 0], [], 5),
  (5, (.aload_n 0 : Instr), [], [], 6),
  (6, (.iload_n 2 : Instr), [], [], 7),
  (7, (.putfield 22 : Instr), [7, 7, 0], [], 10),
  (10, (.aload_n 0 : Instr), [], [], 11),
  (11, (.iload_n 3 : Instr), [], [], 12),
  (12, (.putfield 25 : Instr), [7, 8, 0], [], 15),
  (15, (.aload_n 0 : Instr), [], [], 16),
  (16, (.iload 4 : Instr), [], [], 18),
  (18, (.putfield 28 : Instr), [7, 9, 0], [], 21),
  (21, (.iconst (1) : Instr), [], [(1, 0)], 22),
  (22, (.istore 5 : Instr), [], [], 24),
  (24, (.iload 5 : Instr), [], [], 26),
  (26, (.iconst (2) : Instr), [], [(2, 0)], 27),
  (27, (.if_icmp .gt (29) : Instr), [56], [], 30),
  (30, (.aload_n 0 : Instr), [], [], 31),
  (31, (.iconst (0) : Instr), [], [(0, 0)], 32),
  (32, (.iload 5 : Instr), [], [], 34),
  (34, (.iconst (0) : Instr), [], [(0, 0)], 35),
  (35, (.invokevirtual 62 : Instr), [1, 185, 4, 7], [], 38),
  (38, (.aload_n 0 : Instr), [], [], 39),
  (39, (.getfield 34 : Instr), [7, 11, 0], [], 42),
  (42, (.ifCond .le (8) : Instr), [50], [], 45),
  (45, (.aload_n 0 : Instr), [], [], 46),
  (46, (.getfield 34 : Instr), [7, 11, 0], [], 49),
  (49, (.ireturn : Instr), [0], [], 50),
  (50, (.iinc 5 (1) : Instr), [], [], 53),
  (53, (.goto (-29) : Instr), [24], [], 56),
  (56, (.iconst (0) : Instr), [], [(0, 0)], 57),
  (57, (.ireturn : Instr), [0], [], 0)]
/-! HandsAndWays$Planner.seek(III)V -/
def zc_185 : List (Nat × zE) := [(0, (.iload_n 1 : Instr), [], [], 1),
  (1, (.iload_n 2 : Instr), [], [], 2),
  (2, (.if_icmp .lt (4) : Instr), [6], [], 5),
  (5, (.return_ : Instr), [], [], 6),
  (6, (.iconst (0) : Instr), [], [(0, 0)], 7),
  (7, (.istore 4 : Instr), [], [], 9),
  (9, (.iload 4 : Instr), [], [], 11),
  (11, (.aload_n 0 : Instr), [], [], 12),
  (12, (.getfield 46 : Instr), [7, 0, 3], [], 15),
  (15, (.getfield 66 : Instr), [1, 2, 0], [], 18),
  (18, (.if_icmp .ge (74) : Instr), [92], [], 21),
  (21, (.iload 4 : Instr), [], [], 23),
  (23, (.aload_n 0 : Instr), [], [], 24),
  (24, (.getfield 22 : Instr), [7, 7, 0], [], 27),
  (27, (.if_icmp .ne (19) : Instr), [46], [], 30),
  (30, (.aload_n 0 : Instr), [], [], 31),
  (31, (.iload 4 : Instr), [], [], 33),
  (33, (.aload_n 0 : Instr), [], [], 34),
  (34, (.getfield 25 : Instr), [7, 8, 0], [], 37),
  (37, (.iload_n 1 : Instr), [], [], 38),
  (38, (.iload_n 2 : Instr), [], [], 39),
  (39, (.iload_n 3 : Instr), [], [], 40),
  (40, (.invokevirtual 71 : Instr), [1, 187, 6, 7], [], 43),
  (43, (.goto (43) : Instr), [86], [], 46),
  (46, (.iload_n 1 : Instr), [], [], 47),
  (47, (.iconst (1) : Instr), [], [(1, 0)], 48),
  (48, (.iadd : Instr), [], [], 49),
  (49, (.iload_n 2 : Instr), [], [], 50),
  (50, (.if_icmp .ge (36) : Instr), [86], [], 53),
  (53, (.aload_n 0 : Instr), [], [], 54),
  (54, (.getfield 28 : Instr), [7, 9, 0], [], 57),
  (57, (.iload 4 : Instr), [], [], 59),
  (59, (.ishr : Instr), [], [], 60),
  (60, (.iconst (1) : Instr), [], [(1, 0)], 61),
  (61, (.iand : Instr), [], [], 62),
  (62, (.ifCond .eq (24) : Instr), [86], [], 65),
  (65, (.aload_n 0 : Instr), [], [], 66),
  (66, (.getfield 58 : Instr), [7, 3, 3], [], 69),
  (69, (.iload 4 : Instr), [], [], 71),
  (71, (.invokevirtual 75 : Instr), [1, 200, 2, 2], [], 74),
  (74, (.ifCond .eq (12) : Instr), [86], [], 77),
  (77, (.aload_n 0 : Instr), [], [], 78),
  (78, (.iload 4 : Instr), [], [], 80),
  (80, (.iload_n 1 : Instr), [], [], 81),
  (81, (.iload_n 2 : Instr), [], [], 82),
  (82, (.iload_n 3 : Instr), [], [], 83),
  (83, (.invokevirtual 81 : Instr), [1, 186, 5, 7], [], 86),
  (86, (.iinc 4 (1) : Instr), [], [], 89),
  (89, (.goto (-80) : Instr), [9], [], 92),
  (92, (.return_ : Instr), [], [], 0)]
/-! HandsAndWays$Planner.askPlaces(IIII)V -/
def zc_186 : List (Nat × zE) := [(0, (.iconst (0) : Instr), [], [(0, 0)], 1),
  (1, (.istore 5 : Instr), [], [], 3),
  (3, (.iload 5 : Instr), [], [], 5),
  (5, (.aload_n 0 : Instr), [], [], 6),
  (6, (.getfield 15 : Instr), [7, 5, 0], [], 9),
  (9, (.if_icmp .ge (44) : Instr), [53], [], 12),
  (12, (.aload_n 0 : Instr), [], [], 13),
  (13, (.getfield 58 : Instr), [7, 3, 3], [], 16),
  (16, (.getfield 85 : Instr), [2, 2, 3], [], 19),
  (19, (.iload_n 1 : Instr), [], [], 20),
  (20, (.iaload : Instr), [], [], 21),
  (21, (.aload_n 0 : Instr), [], [], 22),
  (22, (.getfield 11 : Instr), [7, 4, 3], [], 25),
  (25, (.iload 5 : Instr), [], [], 27),
  (27, (.iaload : Instr), [], [], 28),
  (28, (.if_icmp .eq (19) : Instr), [47], [], 31),
  (31, (.aload_n 0 : Instr), [], [], 32),
  (32, (.iload_n 1 : Instr), [], [], 33),
  (33, (.aload_n 0 : Instr), [], [], 34),
  (34, (.getfield 11 : Instr), [7, 4, 3], [], 37),
  (37, (.iload 5 : Instr), [], [], 39),
  (39, (.iaload : Instr), [], [], 40),
  (40, (.iload_n 2 : Instr), [], [], 41),
  (41, (.iload_n 3 : Instr), [], [], 42),
  (42, (.iload 4 : Instr), [], [], 44),
  (44, (.invokevirtual 71 : Instr), [1, 187, 6, 7], [], 47),
  (47, (.iinc 5 (1) : Instr), [], [], 50),
  (50, (.goto (-47) : Instr), [3], [], 53),
  (53, (.return_ : Instr), [], [], 0)]
/-! HandsAndWays$Planner.askThing(IIIII)V -/
def zc_187 : List (Nat × zE) := [(0, (.aload_n 0 : Instr), [], [], 1),
  (1, (.getfield 58 : Instr), [7, 3, 3], [], 4),
  (4, (.getfield 85 : Instr), [2, 2, 3], [], 7),
  (7, (.iload_n 1 : Instr), [], [], 8),
  (8, (.iaload : Instr), [], [], 9),
  (9, (.istore 6 : Instr), [], [], 11),
  (11, (.aload_n 0 : Instr), [], [], 12),
  (12, (.getfield 58 : Instr), [7, 3, 3], [], 15),
  (15, (.getfield 88 : Instr), [2, 5, 3], [], 18),
  (18, (.aload_n 0 : Instr), [], [], 19),
  (19, (.getfield 19 : Instr), [7, 6, 0], [], 22),
  (22, (.iaload : Instr), [], [], 23),
  (23, (.istore 7 : Instr), [], [], 25),
  (25, (.aload_n 0 : Instr), [], [], 26),
  (26, (.getfield 50 : Instr), [7, 1, 3], [], 29),
  (29, (.aload_n 0 : Instr), [], [], 30),
  (30, (.getfield 58 : Instr), [7, 3, 3], [], 33),
  (33, (.aload_n 0 : Instr), [], [], 34),
  (34, (.getfield 19 : Instr), [7, 6, 0], [], 37),
  (37, (.iconst (1) : Instr), [], [(1, 0)], 38),
  (38, (.iload_n 1 : Instr), [], [], 39),
  (39, (.ishl : Instr), [], [], 40),
  (40, (.invokevirtual 91 : Instr), [1, 230, 4, 3], [], 43),
  (43, (.lstore 8 : Instr), [], [], 45),
  (45, (.aload_n 0 : Instr), [], [], 46),
  (46, (.getfield 54 : Instr), [7, 2, 3], [], 49),
  (49, (.iload_n 1 : Instr), [], [], 50),
  (50, (.iload_n 2 : Instr), [], [], 51),
  (51, (.iload 6 : Instr), [], [], 53),
  (53, (.iload 7 : Instr), [], [], 55),
  (55, (.aload_n 0 : Instr), [], [], 56),
  (56, (.getfield 46 : Instr), [7, 0, 3], [], 59),
  (59, (.getfield 97 : Instr), [1, 1, 0], [], 62),
  (62, (.lload 8 : Instr), [], [], 64),
  (64, (.invokevirtual 100 : Instr), [1, 195, 7, 6], [], 67),
  (67, (.ifCond .eq (17) : Instr), [84], [], 70),
  (70, (.aload_n 0 : Instr), [], [], 71),
  (71, (.getfield 54 : Instr), [7, 2, 3], [], 74),
  (74, (.dup : Instr), [], [], 75),
  (75, (.getfield 106 : Instr), [6, 1, 0], [], 78),
  (78, (.iconst (1) : Instr), [], [(1, 0)], 79),
  (79, (.iadd : Instr), [], [], 80),
  (80, (.putfield 106 : Instr), [6, 1, 0], [], 83),
  (83, (.return_ : Instr), [], [], 84),
  (84, (.iconst (0) : Instr), [], [(0, 0)], 85),
  (85, (.istore 10 : Instr), [], [], 87),
  (87, (.iconst (0) : Instr), [], [(0, 0)], 88),
  (88, (.istore 11 : Instr), [], [], 90),
  (90, (.iload 11 : Instr), [], [], 92),
  (92, (.iconst (3) : Instr), [], [(3, 0)], 93),
  (93, (.if_icmp .gt (150) : Instr), [243], [], 96),
  (96, (.aload_n 0 : Instr), [], [], 97),
  (97, (.dup : Instr), [], [], 98),
  (98, (.getfield 31 : Instr), [7, 10, 0], [], 101),
  (101, (.iconst (1) : Instr), [], [(1, 0)], 102),
  (102, (.iadd : Instr), [], [], 103),
  (103, (.putfield 31 : Instr), [7, 10, 0], [], 106),
  (106, (.aload_n 0 : Instr), [], [], 107),
  (107, (.iload_n 1 : Instr), [], [], 108),
  (108, (.iload 11 : Instr), [], [], 110),
  (110, (.iload_n 2 : Instr), [], [], 111),
  (111, (.lload 8 : Instr), [], [], 113),
  (113, (.invokevirtual 111 : Instr), [1, 188, 5, 7], [], 116),
  (116, (.istore 12 : Instr), [], [], 118),
  (118, (.iload 12 : Instr), [], [], 120),
  (120, (.ifCond .ge (6) : Instr), [126], [], 123),
  (123, (.goto (114) : Instr), [237], [], 126),
  (126, (.iconst (1) : Instr), [], [(1, 0)], 127),
  (127, (.istore 10 : Instr), [], [], 129),
  (129, (.aload_n 0 : Instr), [], [], 130),
  (130, (.iload_n 3 : Instr), [], [], 131),
  (131, (.iload_n 1 : Instr), [], [], 132),
  (132, (.iload 11 : Instr), [], [], 134),
  (134, (.iload_n 2 : Instr), [], [], 135),
  (135, (.invokevirtual 115 : Instr), [1, 189, 5, 7], [], 138),
  (138, (.iload_n 1 : Instr), [], [], 139),
  (139, (.aload_n 0 : Instr), [], [], 140),
  (140, (.getfield 22 : Instr), [7, 7, 0], [], 143),
  (143, (.if_icmp .ne (18) : Instr), [161], [], 146),
  (146, (.aload_n 0 : Instr), [], [], 147),
  (147, (.iload_n 3 : Instr), [], [], 148),
  (148, (.iconst (1) : Instr), [], [(1, 0)], 149),
  (149, (.iadd : Instr), [], [], 150),
  (150, (.iload 5 : Instr), [], [], 152),
  (152, (.iload 12 : Instr), [], [], 154),
  (154, (.iadd : Instr), [], [], 155),
  (155, (.invokevirtual 118 : Instr), [1, 190, 3, 7], [], 158),
  (158, (.goto (79) : Instr), [237], [], 161),
  (161, (.aload_n 0 : Instr), [], [], 162),
  (162, (.getfield 58 : Instr), [7, 3, 3], [], 165),
  (165, (.getfield 85 : Instr), [2, 2, 3], [], 168),
  (168, (.iload_n 1 : Instr), [], [], 169),
  (169, (.iload_n 2 : Instr), [], [], 170),
  (170, (.iastore : Instr), [], [], 171),
  (171, (.aload_n 0 : Instr), [], [], 172),
  (172, (.getfield 58 : Instr), [7, 3, 3], [], 175),
  (175, (.getfield 88 : Instr), [2, 5, 3], [], 178),
  (178, (.aload_n 0 : Instr), [], [], 179),
  (179, (.getfield 19 : Instr), [7, 6, 0], [], 182),
  (182, (.iload_n 2 : Instr), [], [], 183),
  (183, (.aload_n 0 : Instr), [], [], 184),
  (184, (.getfield 46 : Instr), [7, 0, 3], [], 187),
  (187, (.getfield 122 : Instr), [1, 4, 3], [], 190),
  (190, (.iload_n 1 : Instr), [], [], 191),
  (191, (.iaload : Instr), [], [], 192),
  (192, (.iload 11 : Instr), [], [], 194),
  (194, (.invokestatic 125 : Instr), [0, 162, 3, 0], [], 197),
  (197, (.iastore : Instr), [], [], 198),
  (198, (.aload_n 0 : Instr), [], [], 199),
  (199, (.iload_n 3 : Instr), [], [], 200),
  (200, (.iconst (1) : Instr), [], [(1, 0)], 201),
  (201, (.iadd : Instr), [], [], 202),
  (202, (.iload 4 : Instr), [], [], 204),
  (204, (.iload 5 : Instr), [], [], 206),
  (206, (.iload 12 : Instr), [], [], 208),
  (208, (.iadd : Instr), [], [], 209),
  (209, (.invokevirtual 62 : Instr), [1, 185, 4, 7], [], 212),
  (212, (.aload_n 0 : Instr), [], [], 213),
  (213, (.getfield 58 : Instr), [7, 3, 3], [], 216),
  (216, (.getfield 85 : Instr), [2, 2, 3], [], 219),
  (219, (.iload_n 1 : Instr), [], [], 220),
  (220, (.iload 6 : Instr), [], [], 222),
  (222, (.iastore : Instr), [], [], 223),
  (223, (.aload_n 0 : Instr), [], [], 224),
  (224, (.getfield 58 : Instr), [7, 3, 3], [], 227),
  (227, (.getfield 88 : Instr), [2, 5, 3], [], 230),
  (230, (.aload_n 0 : Instr), [], [], 231),
  (231, (.getfield 19 : Instr), [7, 6, 0], [], 234),
  (234, (.iload 7 : Instr), [], [], 236),
  (236, (.iastore : Instr), [], [], 237),
  (237, (.iinc 11 (1) : Instr), [], [], 240),
  (240, (.goto (-150) : Instr), [90], [], 243),
  (243, (.iload 10 : Instr), [], [], 245),
  (245, (.ifCond .ne (25) : Instr), [270], [], 248),
  (248, (.aload_n 0 : Instr), [], [], 249),
  (249, (.getfield 54 : Instr), [7, 2, 3], [], 252),
  (252, (.iload_n 1 : Instr), [], [], 253),
  (253, (.iload_n 2 : Instr), [], [], 254),
  (254, (.iload 6 : Instr), [], [], 256),
  (256, (.iload 7 : Instr), [], [], 258),
  (258, (.aload_n 0 : Instr), [], [], 259),
  (259, (.getfield 46 : Instr), [7, 0, 3], [], 262),
  (262, (.getfield 97 : Instr), [1, 1, 0], [], 265),
  (265, (.lload 8 : Instr), [], [], 267),
  (267, (.invokevirtual 129 : Instr), [1, 196, 7, 6], [], 270),
  (270, (.return_ : Instr), [], [], 0)]
/-! HandsAndWays$Planner.farOfMove(IIIJ)I -/
def zc_188 : List (Nat × zE) := [(0, (.aload_n 0 : Instr), [], [], 1),
  (1, (.getfield 58 : Instr), [7, 3, 3], [], 4),
  (4, (.getfield 85 : Instr), [2, 2, 3], [], 7),
  (7, (.iload_n 1 : Instr), [], [], 8),
  (8, (.iaload : Instr), [], [], 9),
  (9, (.istore 6 : Instr), [], [], 11),
  (11, (.aload_n 0 : Instr), [], [], 12),
  (12, (.getfield 46 : Instr), [7, 0, 3], [], 15),
  (15, (.getfield 122 : Instr), [1, 4, 3], [], 18),
  (18, (.iload_n 1 : Instr), [], [], 19),
  (19, (.iaload : Instr), [], [], 20),
  (20, (.istore 7 : Instr), [], [], 22),
  (22, (.iload 6 : Instr), [], [], 24),
  (24, (.ifCond .lt (15) : Instr), [39], [], 27),
  (27, (.aload_n 0 : Instr), [], [], 28),
  (28, (.getfield 46 : Instr), [7, 0, 3], [], 31),
  (31, (.iload_n 1 : Instr), [], [], 32),
  (32, (.iload_n 2 : Instr), [], [], 33),
  (33, (.invokevirtual 133 : Instr), [1, 193, 3, 1], [], 36),
  (36, (.ifCond .ne (5) : Instr), [41], [], 39),
  (39, (.iconst (-1) : Instr), [], [(-1, 0)], 40),
  (40, (.ireturn : Instr), [0], [], 41),
  (41, (.iload 6 : Instr), [], [], 43),
  (43, (.iload 7 : Instr), [], [], 45),
  (45, (.iload_n 2 : Instr), [], [], 46),
  (46, (.invokestatic 125 : Instr), [0, 162, 3, 0], [], 49),
  (49, (.istore 8 : Instr), [], [], 51),
  (51, (.iload_n 3 : Instr), [], [], 52),
  (52, (.iload 7 : Instr), [], [], 54),
  (54, (.iload_n 2 : Instr), [], [], 55),
  (55, (.invokestatic 125 : Instr), [0, 162, 3, 0], [], 58),
  (58, (.istore 9 : Instr), [], [], 60),
  (60, (.iload 8 : Instr), [], [], 62),
  (62, (.ifCond .lt (8) : Instr), [70], [], 65),
  (65, (.iload 9 : Instr), [], [], 67),
  (67, (.ifCond .ge (5) : Instr), [72], [], 70),
  (70, (.iconst (-1) : Instr), [], [(-1, 0)], 71),
  (71, (.ireturn : Instr), [0], [], 72),
  (72, (.aload_n 0 : Instr), [], [], 73),
  (73, (.getfield 50 : Instr), [7, 1, 3], [], 76),
  (76, (.aload_n 0 : Instr), [], [], 77),
  (77, (.getfield 58 : Instr), [7, 3, 3], [], 80),
  (80, (.getfield 88 : Instr), [2, 5, 3], [], 83),
  (83, (.aload_n 0 : Instr), [], [], 84),
  (84, (.getfield 19 : Instr), [7, 6, 0], [], 87),
  (87, (.iaload : Instr), [], [], 88),
  (88, (.lload 4 : Instr), [], [], 90),
  (90, (.iload 6 : Instr), [], [], 92),
  (92, (.iload 7 : Instr), [], [], 94),
  (94, (.invokestatic 137 : Instr), [0, 159, 2, 0], [], 97),
  (97, (.lor : Instr), [], [], 98),
  (98, (.iconst (-1) : Instr), [], [(-1, 0)], 99),
  (99, (.iconst (0) : Instr), [], [(0, 0)], 100),
  (100, (.invokevirtual 140 : Instr), [1, 234, 5, 3], [], 103),
  (103, (.aload_n 0 : Instr), [], [], 104),
  (104, (.getfield 50 : Instr), [7, 1, 3], [], 107),
  (107, (.iload 8 : Instr), [], [], 109),
  (109, (.invokevirtual 144 : Instr), [1, 235, 2, 3], [], 112),
  (112, (.istore 10 : Instr), [], [], 114),
  (114, (.iload 10 : Instr), [], [], 116),
  (116, (.ifCond .ge (5) : Instr), [121], [], 119),
  (119, (.iconst (-1) : Instr), [], [(-1, 0)], 120),
  (120, (.ireturn : Instr), [0], [], 121),
  (121, (.aload_n 0 : Instr), [], [], 122),
  (122, (.getfield 50 : Instr), [7, 1, 3], [], 125),
  (125, (.iload 8 : Instr), [], [], 127),
  (127, (.lload 4 : Instr), [], [], 129),
  (129, (.iload_n 1 : Instr), [], [], 130),
  (130, (.iload_n 2 : Instr), [], [], 131),
  (131, (.invokevirtual 140 : Instr), [1, 234, 5, 3], [], 134),
  (134, (.aload_n 0 : Instr), [], [], 135),
  (135, (.getfield 50 : Instr), [7, 1, 3], [], 138),
  (138, (.iload 9 : Instr), [], [], 140),
  (140, (.invokevirtual 144 : Instr), [1, 235, 2, 3], [], 143),
  (143, (.istore 11 : Instr), [], [], 145),
  (145, (.iload 11 : Instr), [], [], 147),
  (147, (.ifCond .ge (7) : Instr), [154], [], 150),
  (150, (.iconst (-1) : Instr), [], [(-1, 0)], 151),
  (151, (.goto (8) : Instr), [159], [], 154),
  (154, (.iload 10 : Instr), [], [], 156),
  (156, (.iload 11 : Instr), [], [], 158),
  (158, (.iadd : Instr), [], [], 159),
  (159, (.ireturn : Instr), [0], [], 0)]
/-! HandsAndWays$Planner.noteMove(IIII)V -/
def zc_189 : List (Nat × zE) := [(0, (.aload_n 0 : Instr), [], [], 1),
  (1, (.getfield 43 : Instr), [7, 14, 3], [], 4),
  (4, (.iload_n 1 : Instr), [], [], 5),
  (5, (.iconst (3) : Instr), [], [(3, 0)], 6),
  (6, (.imul : Instr), [], [], 7),
  (7, (.iload_n 2 : Instr), [], [], 8),
  (8, (.iastore : Instr), [], [], 9),
  (9, (.aload_n 0 : Instr), [], [], 10),
  (10, (.getfield 43 : Instr), [7, 14, 3], [], 13),
  (13, (.iload_n 1 : Instr), [], [], 14),
  (14, (.iconst (3) : Instr), [], [(3, 0)], 15),
  (15, (.imul : Instr), [], [], 16),
  (16, (.iconst (1) : Instr), [], [(1, 0)], 17),
  (17, (.iadd : Instr), [], [], 18),
  (18, (.iload_n 3 : Instr), [], [], 19),
  (19, (.iastore : Instr), [], [], 20),
  (20, (.aload_n 0 : Instr), [], [], 21),
  (21, (.getfield 43 : Instr), [7, 14, 3], [], 24),
  (24, (.iload_n 1 : Instr), [], [], 25),
  (25, (.iconst (3) : Instr), [], [(3, 0)], 26),
  (26, (.imul : Instr), [], [], 27),
  (27, (.iconst (2) : Instr), [], [(2, 0)], 28),
  (28, (.iadd : Instr), [], [], 29),
  (29, (.iload 4 : Instr), [], [], 31),
  (31, (.iastore : Instr), [], [], 32),
  (32, (.return_ : Instr), [], [], 0)]
/-! HandsAndWays$Planner.keepRow(II)V -/
def zc_190 : List (Nat × zE) := [(0, (.aload_n 0 : Instr), [], [], 1),
  (1, (.getfield 34 : Instr), [7, 11, 0], [], 4),
  (4, (.ifCond .lt (12) : Instr), [16], [], 7),
  (7, (.aload_n 0 : Instr), [], [], 8),
  (8, (.getfield 37 : Instr), [7, 12, 0], [], 11),
  (11, (.iload_n 2 : Instr), [], [], 12),
  (12, (.if_icmp .gt (4) : Instr), [16], [], 15),
  (15, (.return_ : Instr), [], [], 16),
  (16, (.aload_n 0 : Instr), [], [], 17),
  (17, (.iload_n 1 : Instr), [], [], 18),
  (18, (.putfield 34 : Instr), [7, 11, 0], [], 21),
  (21, (.aload_n 0 : Instr), [], [], 22),
  (22, (.iload_n 2 : Instr), [], [], 23),
  (23, (.putfield 37 : Instr), [7, 12, 0], [], 26),
  (26, (.aload_n 0 : Instr), [], [], 27),
  (27, (.getfield 43 : Instr), [7, 14, 3], [], 30),
  (30, (.iconst (0) : Instr), [], [(0, 0)], 31),
  (31, (.aload_n 0 : Instr), [], [], 32),
  (32, (.getfield 40 : Instr), [7, 13, 3], [], 35),
  (35, (.iconst (0) : Instr), [], [(0, 0)], 36),
  (36, (.iload_n 1 : Instr), [], [], 37),
  (37, (.iconst (3) : Instr), [], [(3, 0)], 38),
  (38, (.imul : Instr), [], [], 39),
  (39, (.invokestatic 148 : Instr), [5], [], 42),
  (42, (.return_ : Instr), [], [], 0)]
/-! HandsAndWays$Room.<init>()V -/
def zc_191 : List (Nat × zE) := [(0, (.aload_n 0 : Instr), [], [], 1),
  (1, (.invokespecial 1 : Instr), [4], [], 4),
  (4, (.aload_n 0 : Instr), [], [], 5),
  (5, (.lconst 0 : Instr), [], [], 6),
  (6, (.putfield 7 : Instr), [1, 0, 2], [], 9),
  (9, (.aload_n 0 : Instr), [], [], 10),
  (10, (.bipush (8) : Instr), [], [(8, 0)], 12),
  (12, (.putfield 13 : Instr), [1, 1, 0], [], 15),
  (15, (.aload_n 0 : Instr), [], [], 16),
  (16, (.iconst (0) : Instr), [], [(0, 0)], 17),
  (17, (.putfield 17 : Instr), [1, 2, 0], [], 20),
  (20, (.aload_n 0 : Instr), [], [], 21),
  (21, (.bipush (8) : Instr), [], [(8, 0)], 23),
  (23, (.newarray .int : Instr), [0], [], 25),
  (25, (.putfield 20 : Instr), [1, 3, 3], [], 28),
  (28, (.aload_n 0 : Instr), [], [], 29),
  (29, (.bipush (8) : Instr), [], [(8, 0)], 31),
  (31, (.newarray .int : Instr), [0], [], 33),
  (33, (.putfield 24 : Instr), [1, 4, 3], [], 36),
  (36, (.aload_n 0 : Instr), [], [], 37),
  (37, (.iconst (0) : Instr), [], [(0, 0)], 38),
  (38, (.putfield 27 : Instr), [1, 5, 0], [], 41),
  (41, (.aload_n 0 : Instr), [], [], 42),
  (42, (.iconst (4) : Instr), [], [(4, 0)], 43),
  (43, (.newarray .int : Instr), [0], [], 45),
  (45, (.putfield 30 : Instr), [1, 6, 3], [], 48),
  (48, (.aload_n 0 : Instr), [], [], 49),
  (49, (.iconst (4) : Instr), [], [(4, 0)], 50),
  (50, (.newarray .int : Instr), [0], [], 52),
  (52, (.putfield 33 : Instr), [1, 7, 3], [], 55),
  (55, (.return_ : Instr), [], [], 0)]
/-! HandsAndWays$Room.weightOf(I)I -/
def zc_192 : List (Nat × zE) := [(0, (.aload_n 0 : Instr), [], [], 1),
  (1, (.getfield 20 : Instr), [1, 3, 3], [], 4),
  (4, (.iload_n 1 : Instr), [], [], 5),
  (5, (.iaload : Instr), [], [], 6),
  (6, (.aload_n 0 : Instr), [], [], 7),
  (7, (.getfield 24 : Instr), [1, 4, 3], [], 10),
  (10, (.iload_n 1 : Instr), [], [], 11),
  (11, (.iaload : Instr), [], [], 12),
  (12, (.invokestatic 36 : Instr), [0, 174, 2, 0], [], 15),
  (15, (.ireturn : Instr), [0], [], 0)]
/-! HandsAndWays$Room.canBeHeld(II)Z -/
def zc_193 : List (Nat × zE) := [(0, (.aload_n 0 : Instr), [], [], 1),
  (1, (.getfield 20 : Instr), [1, 3, 3], [], 4),
  (4, (.iload_n 1 : Instr), [], [], 5),
  (5, (.iaload : Instr), [], [], 6),
  (6, (.iload_n 2 : Instr), [], [], 7),
  (7, (.invokestatic 42 : Instr), [0, 173, 2, 0], [], 10),
  (10, (.ifCond .eq (29) : Instr), [39], [], 13),
  (13, (.aload_n 0 : Instr), [], [], 14),
  (14, (.getfield 20 : Instr), [1, 3, 3], [], 17),
  (17, (.iload_n 1 : Instr), [], [], 18),
  (18, (.iaload : Instr), [], [], 19),
  (19, (.aload_n 0 : Instr), [], [], 20),
  (20, (.getfield 24 : Instr), [1, 4, 3], [], 23),
  (23, (.iload_n 1 : Instr), [], [], 24),
  (24, (.iaload : Instr), [], [], 25),
  (25, (.invokestatic 36 : Instr), [0, 174, 2, 0], [], 28),
  (28, (.aload_n 0 : Instr), [], [], 29),
  (29, (.getfield 13 : Instr), [1, 1, 0], [], 32),
  (32, (.if_icmp .gt (7) : Instr), [39], [], 35),
  (35, (.iconst (1) : Instr), [], [(1, 0)], 36),
  (36, (.goto (4) : Instr), [40], [], 39),
  (39, (.iconst (0) : Instr), [], [(0, 0)], 40),
  (40, (.ireturn : Instr), [1], [], 0)]
/-! HandsAndWays$Rules.<init>()V -/
def zc_194 : List (Nat × zE) := [(0, (.aload_n 0 : Instr), [], [], 1),
  (1, (.invokespecial 1 : Instr), [4], [], 4),
  (4, (.aload_n 0 : Instr), [], [], 5),
  (5, (.iconst (0) : Instr), [], [(0, 0)], 6),
  (6, (.putfield 7 : Instr), [6, 0, 0], [], 9),
  (9, (.aload_n 0 : Instr), [], [], 10),
  (10, (.iconst (0) : Instr), [], [(0, 0)], 11),
  (11, (.putfield 13 : Instr), [6, 1, 0], [], 14),
  (14, (.aload_n 0 : Instr), [], [], 15),
  (15, (.bipush (12) : Instr), [], [(12, 0)], 17),
  (17, (.newarray .int : Instr), [0], [], 19),
  (19, (.putfield 16 : Instr), [6, 2, 3], [], 22),
  (22, (.aload_n 0 : Instr), [], [], 23),
  (23, (.bipush (12) : Instr), [], [(12, 0)], 25),
  (25, (.newarray .int : Instr), [0], [], 27),
  (27, (.putfield 20 : Instr), [6, 3, 3], [], 30),
  (30, (.aload_n 0 : Instr), [], [], 31),
  (31, (.bipush (12) : Instr), [], [(12, 0)], 33),
  (33, (.newarray .int : Instr), [0], [], 35),
  (35, (.putfield 23 : Instr), [6, 4, 3], [], 38),
  (38, (.aload_n 0 : Instr), [], [], 39),
  (39, (.bipush (12) : Instr), [], [(12, 0)], 41),
  (41, (.newarray .int : Instr), [0], [], 43),
  (43, (.putfield 26 : Instr), [6, 5, 3], [], 46),
  (46, (.aload_n 0 : Instr), [], [], 47),
  (47, (.bipush (12) : Instr), [], [(12, 0)], 49),
  (49, (.newarray .int : Instr), [0], [], 51),
  (51, (.putfield 29 : Instr), [6, 6, 3], [], 54),
  (54, (.aload_n 0 : Instr), [], [], 55),
  (55, (.bipush (12) : Instr), [], [(12, 0)], 57),
  (57, (.newarray .long : Instr), [2], [], 59),
  (59, (.putfield 32 : Instr), [6, 7, 3], [], 62),
  (62, (.return_ : Instr), [], [], 0)]
/-! HandsAndWays$Rules.isSo(IIIIIJ)Z -/
def zc_195 : List (Nat × zE) := [(0, (.iconst (0) : Instr), [], [(0, 0)], 1),
  (1, (.istore 8 : Instr), [], [], 3),
  (3, (.iload 8 : Instr), [], [], 5),
  (5, (.aload_n 0 : Instr), [], [], 6),
  (6, (.getfield 7 : Instr), [6, 0, 0], [], 9),
  (9, (.if_icmp .ge (81) : Instr), [90], [], 12),
  (12, (.aload_n 0 : Instr), [], [], 13),
  (13, (.getfield 16 : Instr), [6, 2, 3], [], 16),
  (16, (.iload 8 : Instr), [], [], 18),
  (18, (.iaload : Instr), [], [], 19),
  (19, (.iload_n 1 : Instr), [], [], 20),
  (20, (.if_icmp .ne (64) : Instr), [84], [], 23),
  (23, (.aload_n 0 : Instr), [], [], 24),
  (24, (.getfield 20 : Instr), [6, 3, 3], [], 27),
  (27, (.iload 8 : Instr), [], [], 29),
  (29, (.iaload : Instr), [], [], 30),
  (30, (.iload_n 2 : Instr), [], [], 31),
  (31, (.if_icmp .ne (53) : Instr), [84], [], 34),
  (34, (.aload_n 0 : Instr), [], [], 35),
  (35, (.getfield 23 : Instr), [6, 4, 3], [], 38),
  (38, (.iload 8 : Instr), [], [], 40),
  (40, (.iaload : Instr), [], [], 41),
  (41, (.iload_n 3 : Instr), [], [], 42),
  (42, (.if_icmp .ne (42) : Instr), [84], [], 45),
  (45, (.aload_n 0 : Instr), [], [], 46),
  (46, (.getfield 26 : Instr), [6, 5, 3], [], 49),
  (49, (.iload 8 : Instr), [], [], 51),
  (51, (.iaload : Instr), [], [], 52),
  (52, (.iload 4 : Instr), [], [], 54),
  (54, (.if_icmp .ne (30) : Instr), [84], [], 57),
  (57, (.aload_n 0 : Instr), [], [], 58),
  (58, (.getfield 29 : Instr), [6, 6, 3], [], 61),
  (61, (.iload 8 : Instr), [], [], 63),
  (63, (.iaload : Instr), [], [], 64),
  (64, (.iload 5 : Instr), [], [], 66),
  (66, (.if_icmp .ne (18) : Instr), [84], [], 69),
  (69, (.aload_n 0 : Instr), [], [], 70),
  (70, (.getfield 32 : Instr), [6, 7, 3], [], 73),
  (73, (.iload 8 : Instr), [], [], 75),
  (75, (.laload : Instr), [], [], 76),
  (76, (.lload 6 : Instr), [], [], 78),
  (78, (.lcmp : Instr), [], [], 79),
  (79, (.ifCond .ne (5) : Instr), [84], [], 82),
  (82, (.iconst (1) : Instr), [], [(1, 0)], 83),
  (83, (.ireturn : Instr), [1], [], 84),
  (84, (.iinc 8 (1) : Instr), [], [], 87),
  (87, (.goto (-84) : Instr), [3], [], 90),
  (90, (.iconst (0) : Instr), [], [(0, 0)], 91),
  (91, (.ireturn : Instr), [1], [], 0)]
/-! HandsAndWays$Rules.learn(IIIIIJ)V -/
def zc_196 : List (Nat × zE) := [(0, (.aload_n 0 : Instr), [], [], 1),
  (1, (.getfield 7 : Instr), [6, 0, 0], [], 4),
  (4, (.bipush (12) : Instr), [], [(12, 0)], 6),
  (6, (.if_icmp .lt (4) : Instr), [10], [], 9),
  (9, (.return_ : Instr), [], [], 10),
  (10, (.aload_n 0 : Instr), [], [], 11),
  (11, (.getfield 16 : Instr), [6, 2, 3], [], 14),
  (14, (.aload_n 0 : Instr), [], [], 15),
  (15, (.getfield 7 : Instr), [6, 0, 0], [], 18),
  (18, (.iload_n 1 : Instr), [], [], 19),
  (19, (.iastore : Instr), [], [], 20),
  (20, (.aload_n 0 : Instr), [], [], 21),
  (21, (.getfield 20 : Instr), [6, 3, 3], [], 24),
  (24, (.aload_n 0 : Instr), [], [], 25),
  (25, (.getfield 7 : Instr), [6, 0, 0], [], 28),
  (28, (.iload_n 2 : Instr), [], [], 29),
  (29, (.iastore : Instr), [], [], 30),
  (30, (.aload_n 0 : Instr), [], [], 31),
  (31, (.getfield 23 : Instr), [6, 4, 3], [], 34),
  (34, (.aload_n 0 : Instr), [], [], 35),
  (35, (.getfield 7 : Instr), [6, 0, 0], [], 38),
  (38, (.iload_n 3 : Instr), [], [], 39),
  (39, (.iastore : Instr), [], [], 40),
  (40, (.aload_n 0 : Instr), [], [], 41),
  (41, (.getfield 26 : Instr), [6, 5, 3], [], 44),
  (44, (.aload_n 0 : Instr), [], [], 45),
  (45, (.getfield 7 : Instr), [6, 0, 0], [], 48),
  (48, (.iload 4 : Instr), [], [], 50),
  (50, (.iastore : Instr), [], [], 51),
  (51, (.aload_n 0 : Instr), [], [], 52),
  (52, (.getfield 29 : Instr), [6, 6, 3], [], 55),
  (55, (.aload_n 0 : Instr), [], [], 56),
  (56, (.getfield 7 : Instr), [6, 0, 0], [], 59),
  (59, (.iload 5 : Instr), [], [], 61),
  (61, (.iastore : Instr), [], [], 62),
  (62, (.aload_n 0 : Instr), [], [], 63),
  (63, (.getfield 32 : Instr), [6, 7, 3], [], 66),
  (66, (.aload_n 0 : Instr), [], [], 67),
  (67, (.getfield 7 : Instr), [6, 0, 0], [], 70),
  (70, (.lload 6 : Instr), [], [], 72),
  (72, (.lastore : Instr), [], [], 73),
  (73, (.aload_n 0 : Instr), [], [], 74),
  (74, (.dup : Instr), [], [], 75),
  (75, (.getfield 7 : Instr), [6, 0, 0], [], 78),
  (78, (.iconst (1) : Instr), [], [(1, 0)], 79),
  (79, (.iadd : Instr), [], [], 80),
  (80, (.putfield 7 : Instr), [6, 0, 0], [], 83),
  (83, (.return_ : Instr), [], [], 0)]
/-! HandsAndWays$Scene.<init>()V -/
def zc_197 : List (Nat × zE) := [(0, (.aload_n 0 : Instr), [], [], 1),
  (1, (.invokespecial 3 : Instr), [4], [], 4),
  (4, (.aload_n 0 : Instr), [], [], 5),
  (5, (.iconst (0) : Instr), [], [(0, 0)], 6),
  (6, (.putfield 9 : Instr), [2, 0, 0], [], 9),
  (9, (.aload_n 0 : Instr), [], [], 10),
  (10, (.iconst (0) : Instr), [], [(0, 0)], 11),
  (11, (.putfield 15 : Instr), [2, 1, 0], [], 14),
  (14, (.aload_n 0 : Instr), [], [], 15),
  (15, (.bipush (8) : Instr), [], [(8, 0)], 17),
  (17, (.newarray .int : Instr), [0], [], 19),
  (19, (.putfield 20 : Instr), [2, 2, 3], [], 22),
  (22, (.aload_n 0 : Instr), [], [], 23),
  (23, (.bipush (8) : Instr), [], [(8, 0)], 25),
  (25, (.newarray .int : Instr), [0], [], 27),
  (27, (.putfield 24 : Instr), [2, 3, 3], [], 30),
  (30, (.aload_n 0 : Instr), [], [], 31),
  (31, (.bipush (8) : Instr), [], [(8, 0)], 33),
  (33, (.newarray .int : Instr), [0], [], 35),
  (35, (.putfield 27 : Instr), [2, 4, 3], [], 38),
  (38, (.aload_n 0 : Instr), [], [], 39),
  (39, (.iconst (2) : Instr), [], [(2, 0)], 40),
  (40, (.newarray .int : Instr), [0], [], 42),
  (42, (.dup : Instr), [], [], 43),
  (43, (.iconst (0) : Instr), [], [(0, 0)], 44),
  (44, (.iconst (-1) : Instr), [], [(-1, 0)], 45),
  (45, (.iastore : Instr), [], [], 46),
  (46, (.dup : Instr), [], [], 47),
  (47, (.iconst (1) : Instr), [], [(1, 0)], 48),
  (48, (.iconst (-1) : Instr), [], [(-1, 0)], 49),
  (49, (.iastore : Instr), [], [], 50),
  (50, (.putfield 30 : Instr), [2, 5, 3], [], 53),
  (53, (.aload_n 0 : Instr), [], [], 54),
  (54, (.iconst (2) : Instr), [], [(2, 0)], 55),
  (55, (.newarray .int : Instr), [0], [], 57),
  (57, (.dup : Instr), [], [], 58),
  (58, (.iconst (0) : Instr), [], [(0, 0)], 59),
  (59, (.iconst (-1) : Instr), [], [(-1, 0)], 60),
  (60, (.iastore : Instr), [], [], 61),
  (61, (.dup : Instr), [], [], 62),
  (62, (.iconst (1) : Instr), [], [(1, 0)], 63),
  (63, (.iconst (-1) : Instr), [], [(-1, 0)], 64),
  (64, (.iastore : Instr), [], [], 65),
  (65, (.putfield 33 : Instr), [2, 6, 3], [], 68),
  (68, (.aload_n 0 : Instr), [], [], 69),
  (69, (.iconst (2) : Instr), [], [(2, 0)], 70),
  (70, (.newarray .int : Instr), [0], [], 72),
  (72, (.putfield 36 : Instr), [2, 7, 3], [], 75),
  (75, (.aload_n 0 : Instr), [], [], 76),
  (76, (.iconst (2) : Instr), [], [(2, 0)], 77),
  (77, (.newarray .int : Instr), [0], [], 79),
  (79, (.dup : Instr), [], [], 80),
  (80, (.iconst (0) : Instr), [], [(0, 0)], 81),
  (81, (.iconst (-1) : Instr), [], [(-1, 0)], 82),
  (82, (.iastore : Instr), [], [], 83),
  (83, (.dup : Instr), [], [], 84),
  (84, (.iconst (1) : Instr), [], [(1, 0)], 85),
  (85, (.iconst (-1) : Instr), [], [(-1, 0)], 86),
  (86, (.iastore : Instr), [], [], 87),
  (87, (.putfield 39 : Instr), [2, 8, 3], [], 90),
  (90, (.aload_n 0 : Instr), [], [], 91),
  (91, (.iconst (2) : Instr), [], [(2, 0)], 92),
  (92, (.newarray .int : Instr), [0], [], 94),
  (94, (.putfield 42 : Instr), [2, 9, 3], [], 97),
  (97, (.aload_n 0 : Instr), [], [], 98),
  (98, (.iconst (2) : Instr), [], [(2, 0)], 99),
  (99, (.newarray .int : Instr), [0], [], 101),
  (101, (.putfield 45 : Instr), [2, 10, 3], [], 104),
  (104, (.aload_n 0 : Instr), [], [], 105),
  (105, (.iconst (2) : Instr), [], [(2, 0)], 106),
  (106, (.newarray .int : Instr), [0], [], 108),
  (108, (.putfield 48 : Instr), [2, 11, 3], [], 111),
  (111, (.iconst (0) : Instr), [], [(0, 0)], 112),
  (112, (.istore_n 1 : Instr), [], [], 113),
  (113, (.iload_n 1 : Instr), [], [], 114),
  (114, (.bipush (8) : Instr), [], [(8, 0)], 116),
  (116, (.if_icmp .ge (30) : Instr), [146], [], 119),
  (119, (.aload_n 0 : Instr), [], [], 120),
  (120, (.getfield 20 : Instr), [2, 2, 3], [], 123),
  (123, (.iload_n 1 : Instr), [], [], 124),
  (124, (.iconst (-1) : Instr), [], [(-1, 0)], 125),
  (125, (.iastore : Instr), [], [], 126),
  (126, (.aload_n 0 : Instr), [], [], 127),
  (127, (.getfield 24 : Instr), [2, 3, 3], [], 130),
  (130, (.iload_n 1 : Instr), [], [], 131),
  (131, (.iconst (-1) : Instr), [], [(-1, 0)], 132),
  (132, (.iastore : Instr), [], [], 133),
  (133, (.aload_n 0 : Instr), [], [], 134),
  (134, (.getfield 27 : Instr), [2, 4, 3], [], 137),
  (137, (.iload_n 1 : Instr), [], [], 138),
  (138, (.iconst (-1) : Instr), [], [(-1, 0)], 139),
  (139, (.iastore : Instr), [], [], 140),
  (140, (.iinc 1 (1) : Instr), [], [], 143),
  (143, (.goto (-30) : Instr), [113], [], 146),
  (146, (.return_ : Instr), [], [], 0)]
/-! HandsAndWays$Scene.become(LHandsAndWays$Scene;)V -/
def zc_198 : List (Nat × zE) := [(0, (.aload_n 0 : Instr), [], [], 1),
  (1, (.aload_n 1 : Instr), [], [], 2),
  (2, (.getfield 9 : Instr), [2, 0, 0], [], 5),
  (5, (.putfield 9 : Instr), [2, 0, 0], [], 8),
  (8, (.aload_n 0 : Instr), [], [], 9),
  (9, (.aload_n 1 : Instr), [], [], 10),
  (10, (.getfield 15 : Instr), [2, 1, 0], [], 13),
  (13, (.putfield 15 : Instr), [2, 1, 0], [], 16),
  (16, (.aload_n 1 : Instr), [], [], 17),
  (17, (.getfield 20 : Instr), [2, 2, 3], [], 20),
  (20, (.iconst (0) : Instr), [], [(0, 0)], 21),
  (21, (.aload_n 0 : Instr), [], [], 22),
  (22, (.getfield 20 : Instr), [2, 2, 3], [], 25),
  (25, (.iconst (0) : Instr), [], [(0, 0)], 26),
  (26, (.bipush (8) : Instr), [], [(8, 0)], 28),
  (28, (.invokestatic 51 : Instr), [5], [], 31),
  (31, (.aload_n 1 : Instr), [], [], 32),
  (32, (.getfield 24 : Instr), [2, 3, 3], [], 35),
  (35, (.iconst (0) : Instr), [], [(0, 0)], 36),
  (36, (.aload_n 0 : Instr), [], [], 37),
  (37, (.getfield 24 : Instr), [2, 3, 3], [], 40),
  (40, (.iconst (0) : Instr), [], [(0, 0)], 41),
  (41, (.bipush (8) : Instr), [], [(8, 0)], 43),
  (43, (.invokestatic 51 : Instr), [5], [], 46),
  (46, (.aload_n 1 : Instr), [], [], 47),
  (47, (.getfield 27 : Instr), [2, 4, 3], [], 50),
  (50, (.iconst (0) : Instr), [], [(0, 0)], 51),
  (51, (.aload_n 0 : Instr), [], [], 52),
  (52, (.getfield 27 : Instr), [2, 4, 3], [], 55),
  (55, (.iconst (0) : Instr), [], [(0, 0)], 56),
  (56, (.bipush (8) : Instr), [], [(8, 0)], 58),
  (58, (.invokestatic 51 : Instr), [5], [], 61),
  (61, (.aload_n 1 : Instr), [], [], 62),
  (62, (.getfield 30 : Instr), [2, 5, 3], [], 65),
  (65, (.iconst (0) : Instr), [], [(0, 0)], 66),
  (66, (.aload_n 0 : Instr), [], [], 67),
  (67, (.getfield 30 : Instr), [2, 5, 3], [], 70),
  (70, (.iconst (0) : Instr), [], [(0, 0)], 71),
  (71, (.iconst (2) : Instr), [], [(2, 0)], 72),
  (72, (.invokestatic 51 : Instr), [5], [], 75),
  (75, (.aload_n 1 : Instr), [], [], 76),
  (76, (.getfield 33 : Instr), [2, 6, 3], [], 79),
  (79, (.iconst (0) : Instr), [], [(0, 0)], 80),
  (80, (.aload_n 0 : Instr), [], [], 81),
  (81, (.getfield 33 : Instr), [2, 6, 3], [], 84),
  (84, (.iconst (0) : Instr), [], [(0, 0)], 85),
  (85, (.iconst (2) : Instr), [], [(2, 0)], 86),
  (86, (.invokestatic 51 : Instr), [5], [], 89),
  (89, (.aload_n 1 : Instr), [], [], 90),
  (90, (.getfield 36 : Instr), [2, 7, 3], [], 93),
  (93, (.iconst (0) : Instr), [], [(0, 0)], 94),
  (94, (.aload_n 0 : Instr), [], [], 95),
  (95, (.getfield 36 : Instr), [2, 7, 3], [], 98),
  (98, (.iconst (0) : Instr), [], [(0, 0)], 99),
  (99, (.iconst (2) : Instr), [], [(2, 0)], 100),
  (100, (.invokestatic 51 : Instr), [5], [], 103),
  (103, (.aload_n 1 : Instr), [], [], 104),
  (104, (.getfield 39 : Instr), [2, 8, 3], [], 107),
  (107, (.iconst (0) : Instr), [], [(0, 0)], 108),
  (108, (.aload_n 0 : Instr), [], [], 109),
  (109, (.getfield 39 : Instr), [2, 8, 3], [], 112),
  (112, (.iconst (0) : Instr), [], [(0, 0)], 113),
  (113, (.iconst (2) : Instr), [], [(2, 0)], 114),
  (114, (.invokestatic 51 : Instr), [5], [], 117),
  (117, (.aload_n 1 : Instr), [], [], 118),
  (118, (.getfield 42 : Instr), [2, 9, 3], [], 121),
  (121, (.iconst (0) : Instr), [], [(0, 0)], 122),
  (122, (.aload_n 0 : Instr), [], [], 123),
  (123, (.getfield 42 : Instr), [2, 9, 3], [], 126),
  (126, (.iconst (0) : Instr), [], [(0, 0)], 127),
  (127, (.iconst (2) : Instr), [], [(2, 0)], 128),
  (128, (.invokestatic 51 : Instr), [5], [], 131),
  (131, (.aload_n 1 : Instr), [], [], 132),
  (132, (.getfield 45 : Instr), [2, 10, 3], [], 135),
  (135, (.iconst (0) : Instr), [], [(0, 0)], 136),
  (136, (.aload_n 0 : Instr), [], [], 137),
  (137, (.getfield 45 : Instr), [2, 10, 3], [], 140),
  (140, (.iconst (0) : Instr), [], [(0, 0)], 141),
  (141, (.iconst (2) : Instr), [], [(2, 0)], 142),
  (142, (.invokestatic 51 : Instr), [5], [], 145),
  (145, (.aload_n 1 : Instr), [], [], 146),
  (146, (.getfield 48 : Instr), [2, 11, 3], [], 149),
  (149, (.iconst (0) : Instr), [], [(0, 0)], 150),
  (150, (.aload_n 0 : Instr), [], [], 151),
  (151, (.getfield 48 : Instr), [2, 11, 3], [], 154),
  (154, (.iconst (0) : Instr), [], [(0, 0)], 155),
  (155, (.iconst (2) : Instr), [], [(2, 0)], 156),
  (156, (.invokestatic 51 : Instr), [5], [], 159),
  (159, (.return_ : Instr), [], [], 0)]
/-! HandsAndWays$Scene.isOpened(I)Z -/
def zc_199 : List (Nat × zE) := [(0, (.aload_n 0 : Instr), [], [], 1),
  (1, (.getfield 15 : Instr), [2, 1, 0], [], 4),
  (4, (.iload_n 1 : Instr), [], [], 5),
  (5, (.ishr : Instr), [], [], 6),
  (6, (.iconst (1) : Instr), [], [(1, 0)], 7),
  (7, (.iand : Instr), [], [], 8),
  (8, (.ifCond .eq (7) : Instr), [15], [], 11),
  (11, (.iconst (1) : Instr), [], [(1, 0)], 12),
  (12, (.goto (4) : Instr), [16], [], 15),
  (15, (.iconst (0) : Instr), [], [(0, 0)], 16),
  (16, (.ireturn : Instr), [1], [], 0)]
/-! HandsAndWays$Scene.isLoose(I)Z -/
def zc_200 : List (Nat × zE) := [(0, (.aload_n 0 : Instr), [], [], 1),
  (1, (.getfield 20 : Instr), [2, 2, 3], [], 4),
  (4, (.iload_n 1 : Instr), [], [], 5),
  (5, (.iaload : Instr), [], [], 6),
  (6, (.ifCond .lt (16) : Instr), [22], [], 9),
  (9, (.aload_n 0 : Instr), [], [], 10),
  (10, (.getfield 24 : Instr), [2, 3, 3], [], 13),
  (13, (.iload_n 1 : Instr), [], [], 14),
  (14, (.iaload : Instr), [], [], 15),
  (15, (.ifCond .ge (7) : Instr), [22], [], 18),
  (18, (.iconst (1) : Instr), [], [(1, 0)], 19),
  (19, (.goto (4) : Instr), [23], [], 22),
  (22, (.iconst (0) : Instr), [], [(0, 0)], 23),
  (23, (.ireturn : Instr), [1], [], 0)]
/-! HandsAndWays$Scene.isStuck(II)Z -/
def zc_201 : List (Nat × zE) := [(0, (.aload_n 0 : Instr), [], [], 1),
  (1, (.getfield 39 : Instr), [2, 8, 3], [], 4),
  (4, (.iload_n 1 : Instr), [], [], 5),
  (5, (.iaload : Instr), [], [], 6),
  (6, (.ifCond .lt (17) : Instr), [23], [], 9),
  (9, (.aload_n 0 : Instr), [], [], 10),
  (10, (.getfield 48 : Instr), [2, 11, 3], [], 13),
  (13, (.iload_n 1 : Instr), [], [], 14),
  (14, (.iaload : Instr), [], [], 15),
  (15, (.iload_n 2 : Instr), [], [], 16),
  (16, (.if_icmp .lt (7) : Instr), [23], [], 19),
  (19, (.iconst (1) : Instr), [], [(1, 0)], 20),
  (20, (.goto (4) : Instr), [24], [], 23),
  (23, (.iconst (0) : Instr), [], [(0, 0)], 24),
  (24, (.ireturn : Instr), [1], [], 0)]
/-! HandsAndWays$Scene.moveHand(III)V -/
def zc_202 : List (Nat × zE) := [(0, (.aload_n 0 : Instr), [], [], 1),
  (1, (.getfield 33 : Instr), [2, 6, 3], [], 4),
  (4, (.iload_n 1 : Instr), [], [], 5),
  (5, (.iaload : Instr), [], [], 6),
  (6, (.istore 4 : Instr), [], [], 8),
  (8, (.iload 4 : Instr), [], [], 10),
  (10, (.ifCond .lt (21) : Instr), [31], [], 13),
  (13, (.aload_n 0 : Instr), [], [], 14),
  (14, (.getfield 20 : Instr), [2, 2, 3], [], 17),
  (17, (.iload 4 : Instr), [], [], 19),
  (19, (.dup2 : Instr), [], [], 20),
  (20, (.iaload : Instr), [], [], 21),
  (21, (.iload_n 2 : Instr), [], [], 22),
  (22, (.aload_n 0 : Instr), [], [], 23),
  (23, (.getfield 30 : Instr), [2, 5, 3], [], 26),
  (26, (.iload_n 1 : Instr), [], [], 27),
  (27, (.iaload : Instr), [], [], 28),
  (28, (.isub : Instr), [], [], 29),
  (29, (.iadd : Instr), [], [], 30),
  (30, (.iastore : Instr), [], [], 31),
  (31, (.aload_n 0 : Instr), [], [], 32),
  (32, (.getfield 30 : Instr), [2, 5, 3], [], 35),
  (35, (.iload_n 1 : Instr), [], [], 36),
  (36, (.iload_n 2 : Instr), [], [], 37),
  (37, (.iastore : Instr), [], [], 38),
  (38, (.aload_n 0 : Instr), [], [], 39),
  (39, (.getfield 36 : Instr), [2, 7, 3], [], 42),
  (42, (.iload_n 1 : Instr), [], [], 43),
  (43, (.dup2 : Instr), [], [], 44),
  (44, (.iaload : Instr), [], [], 45),
  (45, (.iload_n 3 : Instr), [], [], 46),
  (46, (.iadd : Instr), [], [], 47),
  (47, (.iastore : Instr), [], [], 48),
  (48, (.return_ : Instr), [], [], 0)]
/-! HandsAndWays$Scene.hold(III)V -/
def zc_203 : List (Nat × zE) := [(0, (.aload_n 0 : Instr), [], [], 1),
  (1, (.getfield 33 : Instr), [2, 6, 3], [], 4),
  (4, (.iload_n 1 : Instr), [], [], 5),
  (5, (.iload_n 2 : Instr), [], [], 6),
  (6, (.iastore : Instr), [], [], 7),
  (7, (.aload_n 0 : Instr), [], [], 8),
  (8, (.getfield 24 : Instr), [2, 3, 3], [], 11),
  (11, (.iload_n 2 : Instr), [], [], 12),
  (12, (.iload_n 1 : Instr), [], [], 13),
  (13, (.iastore : Instr), [], [], 14),
  (14, (.aload_n 0 : Instr), [], [], 15),
  (15, (.getfield 27 : Instr), [2, 4, 3], [], 18),
  (18, (.iload_n 2 : Instr), [], [], 19),
  (19, (.iload_n 3 : Instr), [], [], 20),
  (20, (.iastore : Instr), [], [], 21),
  (21, (.return_ : Instr), [], [], 0)]
/-! HandsAndWays$Scene.letGo(I)V -/
def zc_204 : List (Nat × zE) := [(0, (.aload_n 0 : Instr), [], [], 1),
  (1, (.getfield 33 : Instr), [2, 6, 3], [], 4),
  (4, (.iload_n 1 : Instr), [], [], 5),
  (5, (.iaload : Instr), [], [], 6),
  (6, (.istore_n 2 : Instr), [], [], 7),
  (7, (.iload_n 2 : Instr), [], [], 8),
  (8, (.ifCond .ge (4) : Instr), [12], [], 11),
  (11, (.return_ : Instr), [], [], 12),
  (12, (.aload_n 0 : Instr), [], [], 13),
  (13, (.getfield 33 : Instr), [2, 6, 3], [], 16),
  (16, (.iload_n 1 : Instr), [], [], 17),
  (17, (.iconst (-1) : Instr), [], [(-1, 0)], 18),
  (18, (.iastore : Instr), [], [], 19),
  (19, (.aload_n 0 : Instr), [], [], 20),
  (20, (.getfield 24 : Instr), [2, 3, 3], [], 23),
  (23, (.iload_n 2 : Instr), [], [], 24),
  (24, (.iconst (-1) : Instr), [], [(-1, 0)], 25),
  (25, (.iastore : Instr), [], [], 26),
  (26, (.aload_n 0 : Instr), [], [], 27),
  (27, (.getfield 27 : Instr), [2, 4, 3], [], 30),
  (30, (.iload_n 2 : Instr), [], [], 31),
  (31, (.iconst (-1) : Instr), [], [(-1, 0)], 32),
  (32, (.iastore : Instr), [], [], 33),
  (33, (.return_ : Instr), [], [], 0)]
/-! HandsAndWays$Scene.begin(II)V -/
def zc_205 : List (Nat × zE) := [(0, (.aload_n 0 : Instr), [], [], 1),
  (1, (.getfield 39 : Instr), [2, 8, 3], [], 4),
  (4, (.iload_n 1 : Instr), [], [], 5),
  (5, (.iload_n 2 : Instr), [], [], 6),
  (6, (.iastore : Instr), [], [], 7),
  (7, (.aload_n 0 : Instr), [], [], 8),
  (8, (.getfield 42 : Instr), [2, 9, 3], [], 11),
  (11, (.iload_n 1 : Instr), [], [], 12),
  (12, (.iconst (0) : Instr), [], [(0, 0)], 13),
  (13, (.iastore : Instr), [], [], 14),
  (14, (.aload_n 0 : Instr), [], [], 15),
  (15, (.getfield 45 : Instr), [2, 10, 3], [], 18),
  (18, (.iload_n 1 : Instr), [], [], 19),
  (19, (.iconst (0) : Instr), [], [(0, 0)], 20),
  (20, (.iastore : Instr), [], [], 21),
  (21, (.aload_n 0 : Instr), [], [], 22),
  (22, (.getfield 48 : Instr), [2, 11, 3], [], 25),
  (25, (.iload_n 1 : Instr), [], [], 26),
  (26, (.iconst (0) : Instr), [], [(0, 0)], 27),
  (27, (.iastore : Instr), [], [], 28),
  (28, (.return_ : Instr), [], [], 0)]
/-! HandsAndWays$Scene.endAct(I)V -/
def zc_206 : List (Nat × zE) := [(0, (.aload_n 0 : Instr), [], [], 1),
  (1, (.getfield 42 : Instr), [2, 9, 3], [], 4),
  (4, (.iload_n 1 : Instr), [], [], 5),
  (5, (.dup2 : Instr), [], [], 6),
  (6, (.iaload : Instr), [], [], 7),
  (7, (.iconst (1) : Instr), [], [(1, 0)], 8),
  (8, (.iadd : Instr), [], [], 9),
  (9, (.iastore : Instr), [], [], 10),
  (10, (.aload_n 0 : Instr), [], [], 11),
  (11, (.getfield 45 : Instr), [2, 10, 3], [], 14),
  (14, (.iload_n 1 : Instr), [], [], 15),
  (15, (.iconst (0) : Instr), [], [(0, 0)], 16),
  (16, (.iastore : Instr), [], [], 17),
  (17, (.aload_n 0 : Instr), [], [], 18),
  (18, (.getfield 48 : Instr), [2, 11, 3], [], 21),
  (21, (.iload_n 1 : Instr), [], [], 22),
  (22, (.iconst (0) : Instr), [], [(0, 0)], 23),
  (23, (.iastore : Instr), [], [], 24),
  (24, (.return_ : Instr), [], [], 0)]
/-! HandsAndWays$Sheets.<init>()V -/
def zc_207 : List (Nat × zE) := [(0, (.aload_n 0 : Instr), [], [], 1),
  (1, (.invokespecial 1 : Instr), [4], [], 4),
  (4, (.aload_n 0 : Instr), [], [], 5),
  (5, (.iconst (4) : Instr), [], [(4, 0)], 6),
  (6, (.newarray .int : Instr), [0], [], 8),
  (8, (.dup : Instr), [], [], 9),
  (9, (.iconst (0) : Instr), [], [(0, 0)], 10),
  (10, (.iconst (-1) : Instr), [], [(-1, 0)], 11),
  (11, (.iastore : Instr), [], [], 12),
  (12, (.dup : Instr), [], [], 13),
  (13, (.iconst (1) : Instr), [], [(1, 0)], 14),
  (14, (.iconst (-1) : Instr), [], [(-1, 0)], 15),
  (15, (.iastore : Instr), [], [], 16),
  (16, (.dup : Instr), [], [], 17),
  (17, (.iconst (2) : Instr), [], [(2, 0)], 18),
  (18, (.iconst (-1) : Instr), [], [(-1, 0)], 19),
  (19, (.iastore : Instr), [], [], 20),
  (20, (.dup : Instr), [], [], 21),
  (21, (.iconst (3) : Instr), [], [(3, 0)], 22),
  (22, (.iconst (-1) : Instr), [], [(-1, 0)], 23),
  (23, (.iastore : Instr), [], [], 24),
  (24, (.putfield 9 : Instr), [9, 0, 3], [], 27),
  (27, (.aload_n 0 : Instr), [], [], 28),
  (28, (.iconst (4) : Instr), [], [(4, 0)], 29),
  (29, (.newarray .int : Instr), [0], [], 31),
  (31, (.putfield 13 : Instr), [9, 1, 3], [], 34),
  (34, (.aload_n 0 : Instr), [], [], 35),
  (35, (.sipush (160) : Instr), [], [(160, 0)], 38),
  (38, (.newarray .int : Instr), [0], [], 40),
  (40, (.putfield 16 : Instr), [9, 2, 3], [], 43),
  (43, (.return_ : Instr), [], [], 0)]
/-! HandsAndWays$Sheets.isSheet(I)Z -/
def zc_208 : List (Nat × zE) := [(0, (.iload_n 0 : Instr), [], [], 1),
  (1, (.ifCond .lt (12) : Instr), [13], [], 4),
  (4, (.iload_n 0 : Instr), [], [], 5),
  (5, (.iconst (4) : Instr), [], [(4, 0)], 6),
  (6, (.if_icmp .ge (7) : Instr), [13], [], 9),
  (9, (.iconst (1) : Instr), [], [(1, 0)], 10),
  (10, (.goto (4) : Instr), [14], [], 13),
  (13, (.iconst (0) : Instr), [], [(0, 0)], 14),
  (14, (.ireturn : Instr), [1], [], 0)]
/-! HandsAndWays$Sheets.isThere(I)Z -/
def zc_209 : List (Nat × zE) := [(0, (.aload_n 0 : Instr), [], [], 1),
  (1, (.getfield 9 : Instr), [9, 0, 3], [], 4),
  (4, (.iload_n 1 : Instr), [], [], 5),
  (5, (.iaload : Instr), [], [], 6),
  (6, (.iconst (-1) : Instr), [], [(-1, 0)], 7),
  (7, (.if_icmp .eq (7) : Instr), [14], [], 10),
  (10, (.iconst (1) : Instr), [], [(1, 0)], 11),
  (11, (.goto (4) : Instr), [15], [], 14),
  (14, (.iconst (0) : Instr), [], [(0, 0)], 15),
  (15, (.ireturn : Instr), [1], [], 0)]
/-! HandsAndWays$Sheets.make(III)I -/
def zc_210 : List (Nat × zE) := [(0, (.aload_n 0 : Instr), [], [], 1),
  (1, (.getfield 9 : Instr), [9, 0, 3], [], 4),
  (4, (.iload_n 1 : Instr), [], [], 5),
  (5, (.iload_n 2 : Instr), [], [], 6),
  (6, (.iastore : Instr), [], [], 7),
  (7, (.aload_n 0 : Instr), [], [], 8),
  (8, (.getfield 13 : Instr), [9, 1, 3], [], 11),
  (11, (.iload_n 1 : Instr), [], [], 12),
  (12, (.iload_n 3 : Instr), [], [], 13),
  (13, (.iastore : Instr), [], [], 14),
  (14, (.iconst (0) : Instr), [], [(0, 0)], 15),
  (15, (.istore 4 : Instr), [], [], 17),
  (17, (.iload 4 : Instr), [], [], 19),
  (19, (.iload_n 3 : Instr), [], [], 20),
  (20, (.if_icmp .ge (22) : Instr), [42], [], 23),
  (23, (.aload_n 0 : Instr), [], [], 24),
  (24, (.getfield 16 : Instr), [9, 2, 3], [], 27),
  (27, (.iload_n 1 : Instr), [], [], 28),
  (28, (.bipush (40) : Instr), [], [(40, 0)], 30),
  (30, (.imul : Instr), [], [], 31),
  (31, (.iload 4 : Instr), [], [], 33),
  (33, (.iadd : Instr), [], [], 34),
  (34, (.iconst (0) : Instr), [], [(0, 0)], 35),
  (35, (.iastore : Instr), [], [], 36),
  (36, (.iinc 4 (1) : Instr), [], [], 39),
  (39, (.goto (-22) : Instr), [17], [], 42),
  (42, (.iconst (1) : Instr), [], [(1, 0)], 43),
  (43, (.ireturn : Instr), [0], [], 0)]
/-! HandsAndWays$Sheets.numberAt(II)I -/
def zc_211 : List (Nat × zE) := [(0, (.aload_n 0 : Instr), [], [], 1),
  (1, (.getfield 16 : Instr), [9, 2, 3], [], 4),
  (4, (.iload_n 1 : Instr), [], [], 5),
  (5, (.bipush (40) : Instr), [], [(40, 0)], 7),
  (7, (.imul : Instr), [], [], 8),
  (8, (.iload_n 2 : Instr), [], [], 9),
  (9, (.iadd : Instr), [], [], 10),
  (10, (.iaload : Instr), [], [], 11),
  (11, (.ireturn : Instr), [0], [], 0)]
/-! HandsAndWays$Sheets.write(III)V -/
def zc_212 : List (Nat × zE) := [(0, (.aload_n 0 : Instr), [], [], 1),
  (1, (.getfield 9 : Instr), [9, 0, 3], [], 4),
  (4, (.iload_n 1 : Instr), [], [], 5),
  (5, (.iaload : Instr), [], [], 6),
  (6, (.ifCond .ne (8) : Instr), [14], [], 9),
  (9, (.iload_n 3 : Instr), [], [], 10),
  (10, (.i2b : Instr), [], [], 11),
  (11, (.goto (19) : Instr), [30], [], 14),
  (14, (.aload_n 0 : Instr), [], [], 15),
  (15, (.getfield 9 : Instr), [9, 0, 3], [], 18),
  (18, (.iload_n 1 : Instr), [], [], 19),
  (19, (.iaload : Instr), [], [], 20),
  (20, (.iconst (1) : Instr), [], [(1, 0)], 21),
  (21, (.if_icmp .ne (8) : Instr), [29], [], 24),
  (24, (.iload_n 3 : Instr), [], [], 25),
  (25, (.i2s : Instr), [], [], 26),
  (26, (.goto (4) : Instr), [30], [], 29),
  (29, (.iload_n 3 : Instr), [], [], 30),
  (30, (.istore 4 : Instr), [], [], 32),
  (32, (.aload_n 0 : Instr), [], [], 33),
  (33, (.getfield 16 : Instr), [9, 2, 3], [], 36),
  (36, (.iload_n 1 : Instr), [], [], 37),
  (37, (.bipush (40) : Instr), [], [(40, 0)], 39),
  (39, (.imul : Instr), [], [], 40),
  (40, (.iload_n 2 : Instr), [], [], 41),
  (41, (.iadd : Instr), [], [], 42),
  (42, (.iload 4 : Instr), [], [], 44),
  (44, (.iastore : Instr), [], [], 45),
  (45, (.return_ : Instr), [], [], 0)]
/-! HandsAndWays$Sheets.isPart(III)Z -/
def zc_213 : List (Nat × zE) := [(0, (.iload_n 2 : Instr), [], [], 1),
  (1, (.ifCond .lt (33) : Instr), [34], [], 4),
  (4, (.iload_n 3 : Instr), [], [], 5),
  (5, (.ifCond .lt (29) : Instr), [34], [], 8),
  (8, (.iload_n 2 : Instr), [], [], 9),
  (9, (.aload_n 0 : Instr), [], [], 10),
  (10, (.getfield 13 : Instr), [9, 1, 3], [], 13),
  (13, (.iload_n 1 : Instr), [], [], 14),
  (14, (.iaload : Instr), [], [], 15),
  (15, (.if_icmp .gt (19) : Instr), [34], [], 18),
  (18, (.iload_n 3 : Instr), [], [], 19),
  (19, (.aload_n 0 : Instr), [], [], 20),
  (20, (.getfield 13 : Instr), [9, 1, 3], [], 23),
  (23, (.iload_n 1 : Instr), [], [], 24),
  (24, (.iaload : Instr), [], [], 25),
  (25, (.iload_n 2 : Instr), [], [], 26),
  (26, (.isub : Instr), [], [], 27),
  (27, (.if_icmp .gt (7) : Instr), [34], [], 30),
  (30, (.iconst (1) : Instr), [], [(1, 0)], 31),
  (31, (.goto (4) : Instr), [35], [], 34),
  (34, (.iconst (0) : Instr), [], [(0, 0)], 35),
  (35, (.ireturn : Instr), [1], [], 0)]
/-! HandsAndWays$Sheets.copyPart(IIIII)V -/
def zc_214 : List (Nat × zE) := [(0, (.aload_n 0 : Instr), [], [], 1),
  (1, (.getfield 16 : Instr), [9, 2, 3], [], 4),
  (4, (.iload_n 1 : Instr), [], [], 5),
  (5, (.bipush (40) : Instr), [], [(40, 0)], 7),
  (7, (.imul : Instr), [], [], 8),
  (8, (.iload_n 2 : Instr), [], [], 9),
  (9, (.iadd : Instr), [], [], 10),
  (10, (.aload_n 0 : Instr), [], [], 11),
  (11, (.getfield 16 : Instr), [9, 2, 3], [], 14),
  (14, (.iload_n 3 : Instr), [], [], 15),
  (15, (.bipush (40) : Instr), [], [(40, 0)], 17),
  (17, (.imul : Instr), [], [], 18),
  (18, (.iload 4 : Instr), [], [], 20),
  (20, (.iadd : Instr), [], [], 21),
  (21, (.iload 5 : Instr), [], [], 23),
  (23, (.invokestatic 19 : Instr), [5], [], 26),
  (26, (.return_ : Instr), [], [], 0)]
/-! HandsAndWays$Tape.<init>()V -/
def zc_215 : List (Nat × zE) := [(0, (.aload_n 0 : Instr), [], [], 1),
  (1, (.invokespecial 3 : Instr), [4], [], 4),
  (4, (.aload_n 0 : Instr), [], [], 5),
  (5, (.bipush (120) : Instr), [], [(120, 0)], 7),
  (7, (.newarray .int : Instr), [0], [], 9),
  (9, (.putfield 11 : Instr), [4, 0, 3], [], 12),
  (12, (.aload_n 0 : Instr), [], [], 13),
  (13, (.iconst (0) : Instr), [], [(0, 0)], 14),
  (14, (.putfield 15 : Instr), [4, 1, 0], [], 17),
  (17, (.aload_n 0 : Instr), [], [], 18),
  (18, (.iconst (0) : Instr), [], [(0, 0)], 19),
  (19, (.putfield 19 : Instr), [4, 2, 0], [], 22),
  (22, (.aload_n 0 : Instr), [], [], 23),
  (23, (.bipush (6) : Instr), [], [(6, 0)], 25),
  (25, (.newarray .int : Instr), [0], [], 27),
  (27, (.putfield 22 : Instr), [4, 3, 3], [], 30),
  (30, (.aload_n 0 : Instr), [], [], 31),
  (31, (.bipush (72) : Instr), [], [(72, 0)], 33),
  (33, (.newarray .int : Instr), [0], [], 35),
  (35, (.putfield 25 : Instr), [4, 4, 3], [], 38),
  (38, (.aload_n 0 : Instr), [], [], 39),
  (39, (.bipush (72) : Instr), [], [(72, 0)], 41),
  (41, (.newarray .int : Instr), [0], [], 43),
  (43, (.putfield 28 : Instr), [4, 5, 3], [], 46),
  (46, (.aload_n 0 : Instr), [], [], 47),
  (47, (.bipush (72) : Instr), [], [(72, 0)], 49),
  (49, (.newarray .int : Instr), [0], [], 51),
  (51, (.putfield 31 : Instr), [4, 6, 3], [], 54),
  (54, (.aload_n 0 : Instr), [], [], 55),
  (55, (.iconst (0) : Instr), [], [(0, 0)], 56),
  (56, (.putfield 34 : Instr), [4, 7, 0], [], 59),
  (59, (.aload_n 0 : Instr), [], [], 60),
  (60, (.iconst (0) : Instr), [], [(0, 0)], 61),
  (61, (.putfield 37 : Instr), [4, 8, 0], [], 64),
  (64, (.return_ : Instr), [], [], 0)]
/-! HandsAndWays$Tape.placeOf(II)I -/
def zc_216 : List (Nat × zE) := [(0, (.iload_n 0 : Instr), [], [], 1),
  (1, (.bipush (12) : Instr), [], [(12, 0)], 3),
  (3, (.imul : Instr), [], [], 4),
  (4, (.iload_n 1 : Instr), [], [], 5),
  (5, (.iadd : Instr), [], [], 6),
  (6, (.ireturn : Instr), [0], [], 0)]
/-! HandsAndWays$Tape.append(JI)V -/
def zc_217 : List (Nat × zE) := [(0, (.iload_n 3 : Instr), [], [], 1),
  (1, (.iconst (1) : Instr), [], [(1, 0)], 2),
  (2, (.isub : Instr), [], [], 3),
  (3, (.istore 4 : Instr), [], [], 5),
  (5, (.iload 4 : Instr), [], [], 7),
  (7, (.ifCond .lt (37) : Instr), [44], [], 10),
  (10, (.aload_n 0 : Instr), [], [], 11),
  (11, (.getfield 11 : Instr), [4, 0, 3], [], 14),
  (14, (.aload_n 0 : Instr), [], [], 15),
  (15, (.dup : Instr), [], [], 16),
  (16, (.getfield 15 : Instr), [4, 1, 0], [], 19),
  (19, (.dup_x1 : Instr), [], [], 20),
  (20, (.iconst (1) : Instr), [], [(1, 0)], 21),
  (21, (.iadd : Instr), [], [], 22),
  (22, (.putfield 15 : Instr), [4, 1, 0], [], 25),
  (25, (.lload_n 1 : Instr), [], [], 26),
  (26, (.bipush (8) : Instr), [], [(8, 0)], 28),
  (28, (.iload 4 : Instr), [], [], 30),
  (30, (.imul : Instr), [], [], 31),
  (31, (.lushr : Instr), [], [], 32),
  (32, (.l2i : Instr), [], [], 33),
  (33, (.sipush (255) : Instr), [], [(255, 0)], 36),
  (36, (.iand : Instr), [], [], 37),
  (37, (.iastore : Instr), [], [], 38),
  (38, (.iinc 4 (-1) : Instr), [], [], 41),
  (41, (.goto (-36) : Instr), [5], [], 44),
  (44, (.return_ : Instr), [], [], 0)]
/-! HandsAndWays$Tape.readProgram()I -/
def zc_218 : List (Nat × zE) := [(0, (.aload_n 0 : Instr), [], [], 1),
  (1, (.iconst (0) : Instr), [], [(0, 0)], 2),
  (2, (.putfield 34 : Instr), [4, 7, 0], [], 5),
  (5, (.iconst (0) : Instr), [], [(0, 0)], 6),
  (6, (.istore_n 1 : Instr), [], [], 7),
  (7, (.iconst (1) : Instr), [], [(1, 0)], 8),
  (8, (.istore_n 2 : Instr), [], [], 9),
  (9, (.iload_n 2 : Instr), [], [], 10),
  (10, (.ifCond .eq (43) : Instr), [53], [], 13),
  (13, (.iload_n 1 : Instr), [], [], 14),
  (14, (.bipush (12) : Instr), [], [(12, 0)], 16),
  (16, (.if_icmp .ge (37) : Instr), [53], [], 19),
  (19, (.iload_n 1 : Instr), [], [], 20),
  (20, (.ifCond .eq (14) : Instr), [34], [], 23),
  (23, (.aload_n 0 : Instr), [], [], 24),
  (24, (.getfield 34 : Instr), [4, 7, 0], [], 27),
  (27, (.aload_n 0 : Instr), [], [], 28),
  (28, (.getfield 15 : Instr), [4, 1, 0], [], 31),
  (31, (.if_icmp .ge (22) : Instr), [53], [], 34),
  (34, (.aload_n 0 : Instr), [], [], 35),
  (35, (.aload_n 0 : Instr), [], [], 36),
  (36, (.getfield 19 : Instr), [4, 2, 0], [], 39),
  (39, (.iload_n 1 : Instr), [], [], 40),
  (40, (.invokestatic 40 : Instr), [0, 216, 2, 0], [], 43),
  (43, (.invokevirtual 44 : Instr), [1, 219, 2, 4], [], 46),
  (46, (.istore_n 2 : Instr), [], [], 47),
  (47, (.iinc 1 (1) : Instr), [], [], 50),
  (50, (.goto (-41) : Instr), [9], [], 53),
  (53, (.iload_n 2 : Instr), [], [], 54),
  (54, (.ifCond .eq (18) : Instr), [72], [], 57),
  (57, (.aload_n 0 : Instr), [], [], 58),
  (58, (.getfield 34 : Instr), [4, 7, 0], [], 61),
  (61, (.aload_n 0 : Instr), [], [], 62),
  (62, (.getfield 15 : Instr), [4, 1, 0], [], 65),
  (65, (.if_icmp .lt (7) : Instr), [72], [], 68),
  (68, (.iconst (1) : Instr), [], [(1, 0)], 69),
  (69, (.goto (4) : Instr), [73], [], 72),
  (72, (.iconst (0) : Instr), [], [(0, 0)], 73),
  (73, (.istore_n 2 : Instr), [], [], 74),
  (74, (.aload_n 0 : Instr), [], [], 75),
  (75, (.iconst (0) : Instr), [], [(0, 0)], 76),
  (76, (.putfield 15 : Instr), [4, 1, 0], [], 79),
  (79, (.iload_n 2 : Instr), [], [], 80),
  (80, (.ifCond .ne (8) : Instr), [88], [], 83),
  (83, (.aload_n 0 : Instr), [], [], 84),
  (84, (.getfield 34 : Instr), [4, 7, 0], [], 87),
  (87, (.ireturn : Instr), [0], [], 88),
  (88, (.aload_n 0 : Instr), [], [], 89),
  (89, (.getfield 22 : Instr), [4, 3, 3], [], 92),
  (92, (.aload_n 0 : Instr), [], [], 93),
  (93, (.dup : Instr), [], [], 94),
  (94, (.getfield 19 : Instr), [4, 2, 0], [], 97),
  (97, (.dup_x1 : Instr), [], [], 98),
  (98, (.iconst (1) : Instr), [], [(1, 0)], 99),
  (99, (.iadd : Instr), [], [], 100),
  (100, (.putfield 19 : Instr), [4, 2, 0], [], 103),
  (103, (.iload_n 1 : Instr), [], [], 104),
  (104, (.iastore : Instr), [], [], 105),
  (105, (.iconst (-1) : Instr), [], [(-1, 0)], 106),
  (106, (.ireturn : Instr), [0], [], 0)]
/-! HandsAndWays$Tape.readAct(I)Z -/
def zc_219 : List (Nat × zE) := [(0, (.aload_n 0 : Instr), [], [], 1),
  (1, (.invokevirtual 48 : Instr), [1, 221, 1, 4], [], 4),
  (4, (.invokestatic 52 : Instr), [0, 223, 1, 0], [], 7),
  (7, (.istore_n 2 : Instr), [], [], 8),
  (8, (.iload_n 2 : Instr), [], [], 9),
  (9, (.ifCond .ge (5) : Instr), [14], [], 12),
  (12, (.iconst (0) : Instr), [], [(0, 0)], 13),
  (13, (.ireturn : Instr), [1], [], 14),
  (14, (.aload_n 0 : Instr), [], [], 15),
  (15, (.dup : Instr), [], [], 16),
  (16, (.getfield 34 : Instr), [4, 7, 0], [], 19),
  (19, (.iconst (1) : Instr), [], [(1, 0)], 20),
  (20, (.iadd : Instr), [], [], 21),
  (21, (.putfield 34 : Instr), [4, 7, 0], [], 24),
  (24, (.aload_n 0 : Instr), [], [], 25),
  (25, (.iconst (0) : Instr), [], [(0, 0)], 26),
  (26, (.putfield 37 : Instr), [4, 8, 0], [], 29),
  (29, (.iconst (0) : Instr), [], [(0, 0)], 30),
  (30, (.istore_n 3 : Instr), [], [], 31),
  (31, (.iload_n 2 : Instr), [], [], 32),
  (32, (.iconst (2) : Instr), [], [(2, 0)], 33),
  (33, (.if_icmp .eq (16) : Instr), [49], [], 36),
  (36, (.aload_n 0 : Instr), [], [], 37),
  (37, (.iload_n 2 : Instr), [], [], 38),
  (38, (.invokestatic 58 : Instr), [0, 225, 1, 0], [], 41),
  (41, (.invokevirtual 61 : Instr), [1, 220, 2, 4], [], 44),
  (44, (.ifCond .ne (5) : Instr), [49], [], 47),
  (47, (.iconst (0) : Instr), [], [(0, 0)], 48),
  (48, (.ireturn : Instr), [1], [], 49),
  (49, (.iload_n 2 : Instr), [], [], 50),
  (50, (.iconst (1) : Instr), [], [(1, 0)], 51),
  (51, (.if_icmp .ne (27) : Instr), [78], [], 54),
  (54, (.aload_n 0 : Instr), [], [], 55),
  (55, (.invokevirtual 48 : Instr), [1, 221, 1, 4], [], 58),
  (58, (.invokestatic 64 : Instr), [0, 224, 1, 0], [], 61),
  (61, (.istore_n 3 : Instr), [], [], 62),
  (62, (.iload_n 3 : Instr), [], [], 63),
  (63, (.ifCond .ge (5) : Instr), [68], [], 66),
  (66, (.iconst (0) : Instr), [], [(0, 0)], 67),
  (67, (.ireturn : Instr), [1], [], 68),
  (68, (.aload_n 0 : Instr), [], [], 69),
  (69, (.dup : Instr), [], [], 70),
  (70, (.getfield 34 : Instr), [4, 7, 0], [], 73),
  (73, (.iconst (1) : Instr), [], [(1, 0)], 74),
  (74, (.iadd : Instr), [], [], 75),
  (75, (.putfield 34 : Instr), [4, 7, 0], [], 78),
  (78, (.aload_n 0 : Instr), [], [], 79),
  (79, (.invokevirtual 48 : Instr), [1, 221, 1, 4], [], 82),
  (82, (.bipush (59) : Instr), [], [(59, 0)], 84),
  (84, (.if_icmp .eq (5) : Instr), [89], [], 87),
  (87, (.iconst (0) : Instr), [], [(0, 0)], 88),
  (88, (.ireturn : Instr), [1], [], 89),
  (89, (.aload_n 0 : Instr), [], [], 90),
  (90, (.dup : Instr), [], [], 91),
  (91, (.getfield 34 : Instr), [4, 7, 0], [], 94),
  (94, (.iconst (1) : Instr), [], [(1, 0)], 95),
  (95, (.iadd : Instr), [], [], 96),
  (96, (.putfield 34 : Instr), [4, 7, 0], [], 99),
  (99, (.aload_n 0 : Instr), [], [], 100),
  (100, (.getfield 25 : Instr), [4, 4, 3], [], 103),
  (103, (.iload_n 1 : Instr), [], [], 104),
  (104, (.iload_n 2 : Instr), [], [], 105),
  (105, (.iastore : Instr), [], [], 106),
  (106, (.aload_n 0 : Instr), [], [], 107),
  (107, (.getfield 28 : Instr), [4, 5, 3], [], 110),
  (110, (.iload_n 1 : Instr), [], [], 111),
  (111, (.aload_n 0 : Instr), [], [], 112),
  (112, (.getfield 37 : Instr), [4, 8, 0], [], 115),
  (115, (.iastore : Instr), [], [], 116),
  (116, (.aload_n 0 : Instr), [], [], 117),
  (117, (.getfield 31 : Instr), [4, 6, 3], [], 120),
  (120, (.iload_n 1 : Instr), [], [], 121),
  (121, (.iload_n 3 : Instr), [], [], 122),
  (122, (.iastore : Instr), [], [], 123),
  (123, (.iconst (1) : Instr), [], [(1, 0)], 124),
  (124, (.ireturn : Instr), [1], [], 0)]
/-! HandsAndWays$Tape.readNumber(I)Z -/
def zc_220 : List (Nat × zE) := [(0, (.aload_n 0 : Instr), [], [], 1),
  (1, (.invokevirtual 48 : Instr), [1, 221, 1, 4], [], 4),
  (4, (.invokestatic 67 : Instr), [0, 222, 1, 0], [], 7),
  (7, (.istore_n 2 : Instr), [], [], 8),
  (8, (.iload_n 2 : Instr), [], [], 9),
  (9, (.ifCond .lt (8) : Instr), [17], [], 12),
  (12, (.iload_n 2 : Instr), [], [], 13),
  (13, (.iload_n 1 : Instr), [], [], 14),
  (14, (.if_icmp .le (5) : Instr), [19], [], 17),
  (17, (.iconst (0) : Instr), [], [(0, 0)], 18),
  (18, (.ireturn : Instr), [1], [], 19),
  (19, (.aload_n 0 : Instr), [], [], 20),
  (20, (.iload_n 2 : Instr), [], [], 21),
  (21, (.putfield 37 : Instr), [4, 8, 0], [], 24),
  (24, (.aload_n 0 : Instr), [], [], 25),
  (25, (.dup : Instr), [], [], 26),
  (26, (.getfield 34 : Instr), [4, 7, 0], [], 29),
  (29, (.iconst (1) : Instr), [], [(1, 0)], 30),
  (30, (.iadd : Instr), [], [], 31),
  (31, (.putfield 34 : Instr), [4, 7, 0], [], 34),
  (34, (.aload_n 0 : Instr), [], [], 35),
  (35, (.invokevirtual 48 : Instr), [1, 221, 1, 4], [], 38),
  (38, (.invokestatic 67 : Instr), [0, 222, 1, 0], [], 41),
  (41, (.istore_n 2 : Instr), [], [], 42),
  (42, (.iload_n 2 : Instr), [], [], 43),
  (43, (.ifCond .ge (5) : Instr), [48], [], 46),
  (46, (.iconst (1) : Instr), [], [(1, 0)], 47),
  (47, (.ireturn : Instr), [1], [], 48),
  (48, (.aload_n 0 : Instr), [], [], 49),
  (49, (.getfield 37 : Instr), [4, 8, 0], [], 52),
  (52, (.bipush (10) : Instr), [], [(10, 0)], 54),
  (54, (.imul : Instr), [], [], 55),
  (55, (.iload_n 2 : Instr), [], [], 56),
  (56, (.iadd : Instr), [], [], 57),
  (57, (.iload_n 1 : Instr), [], [], 58),
  (58, (.if_icmp .le (5) : Instr), [63], [], 61),
  (61, (.iconst (0) : Instr), [], [(0, 0)], 62),
  (62, (.ireturn : Instr), [1], [], 63),
  (63, (.aload_n 0 : Instr), [], [], 64),
  (64, (.aload_n 0 : Instr), [], [], 65),
  (65, (.getfield 37 : Instr), [4, 8, 0], [], 68),
  (68, (.bipush (10) : Instr), [], [(10, 0)], 70),
  (70, (.imul : Instr), [], [], 71),
  (71, (.iload_n 2 : Instr), [], [], 72),
  (72, (.iadd : Instr), [], [], 73),
  (73, (.putfield 37 : Instr), [4, 8, 0], [], 76),
  (76, (.aload_n 0 : Instr), [], [], 77),
  (77, (.dup : Instr), [], [], 78),
  (78, (.getfield 34 : Instr), [4, 7, 0], [], 81),
  (81, (.iconst (1) : Instr), [], [(1, 0)], 82),
  (82, (.iadd : Instr), [], [], 83),
  (83, (.putfield 34 : Instr), [4, 7, 0], [], 86),
  (86, (.iconst (1) : Instr), [], [(1, 0)], 87),
  (87, (.ireturn : Instr), [1], [], 0)]
/-! HandsAndWays$Tape.here()I -/
def zc_221 : List (Nat × zE) := [(0, (.aload_n 0 : Instr), [], [], 1),
  (1, (.getfield 34 : Instr), [4, 7, 0], [], 4),
  (4, (.aload_n 0 : Instr), [], [], 5),
  (5, (.getfield 15 : Instr), [4, 1, 0], [], 8),
  (8, (.if_icmp .ge (15) : Instr), [23], [], 11),
  (11, (.aload_n 0 : Instr), [], [], 12),
  (12, (.getfield 11 : Instr), [4, 0, 3], [], 15),
  (15, (.aload_n 0 : Instr), [], [], 16),
  (16, (.getfield 34 : Instr), [4, 7, 0], [], 19),
  (19, (.iaload : Instr), [], [], 20),
  (20, (.goto (4) : Instr), [24], [], 23),
  (23, (.iconst (-1) : Instr), [], [(-1, 0)], 24),
  (24, (.ireturn : Instr), [0], [], 0)]
/-! HandsAndWays$Tape.digitOf(I)I -/
def zc_222 : List (Nat × zE) := [(0, (.iload_n 0 : Instr), [], [], 1),
  (1, (.bipush (48) : Instr), [], [(48, 0)], 3),
  (3, (.if_icmp .lt (16) : Instr), [19], [], 6),
  (6, (.iload_n 0 : Instr), [], [], 7),
  (7, (.bipush (57) : Instr), [], [(57, 0)], 9),
  (9, (.if_icmp .gt (10) : Instr), [19], [], 12),
  (12, (.iload_n 0 : Instr), [], [], 13),
  (13, (.bipush (48) : Instr), [], [(48, 0)], 15),
  (15, (.isub : Instr), [], [], 16),
  (16, (.goto (4) : Instr), [20], [], 19),
  (19, (.iconst (-1) : Instr), [], [(-1, 0)], 20),
  (20, (.ireturn : Instr), [0], [], 0)]
/-! HandsAndWays$Tape.actOf(I)I -/
def zc_223 : List (Nat × zE) := [(0, (.iload_n 0 : Instr), [], [], 1),
  (1, (.lookupswitch (61) #[((103), (51)), ((111), (57)), ((112), (55)), ((116), (53)), ((119), (59))] : Instr), [51, 62], [(103, 52), (111, 58), (112, 56), (116, 54), (119, 60)], 52),
  (52, (.iconst (0) : Instr), [], [(0, 0)], 53),
  (53, (.ireturn : Instr), [0], [], 54),
  (54, (.iconst (1) : Instr), [], [(1, 0)], 55),
  (55, (.ireturn : Instr), [0], [], 56),
  (56, (.iconst (2) : Instr), [], [(2, 0)], 57),
  (57, (.ireturn : Instr), [0], [], 58),
  (58, (.iconst (3) : Instr), [], [(3, 0)], 59),
  (59, (.ireturn : Instr), [0], [], 60),
  (60, (.iconst (4) : Instr), [], [(4, 0)], 61),
  (61, (.ireturn : Instr), [0], [], 62),
  (62, (.iconst (-1) : Instr), [], [(-1, 0)], 63),
  (63, (.ireturn : Instr), [0], [], 0)]
/-! HandsAndWays$Tape.sideOf(I)I -/
def zc_224 : List (Nat × zE) := [(0, (.iload_n 0 : Instr), [], [], 1),
  (1, (.lookupswitch (51) #[((101), (45)), ((110), (43)), ((115), (47)), ((119), (49))] : Instr), [43, 52], [(101, 46), (110, 44), (115, 48), (119, 50)], 44),
  (44, (.iconst (0) : Instr), [], [(0, 0)], 45),
  (45, (.ireturn : Instr), [0], [], 46),
  (46, (.iconst (1) : Instr), [], [(1, 0)], 47),
  (47, (.ireturn : Instr), [0], [], 48),
  (48, (.iconst (2) : Instr), [], [(2, 0)], 49),
  (49, (.ireturn : Instr), [0], [], 50),
  (50, (.iconst (3) : Instr), [], [(3, 0)], 51),
  (51, (.ireturn : Instr), [0], [], 52),
  (52, (.iconst (-1) : Instr), [], [(-1, 0)], 53),
  (53, (.ireturn : Instr), [0], [], 0)]
/-! HandsAndWays$Tape.mostOf(I)I -/
def zc_225 : List (Nat × zE) := [(0, (.iload_n 0 : Instr), [], [], 1),
  (1, (.tableswitch (39) (0) (3) #[(31), (34), (39), (37)] : Instr), [31, 40], [(0, 32), (1, 35), (2, 40), (3, 38)], 32),
  (32, (.bipush (63) : Instr), [], [(63, 0)], 34),
  (34, (.ireturn : Instr), [0], [], 35),
  (35, (.bipush (7) : Instr), [], [(7, 0)], 37),
  (37, (.ireturn : Instr), [0], [], 38),
  (38, (.iconst (3) : Instr), [], [(3, 0)], 39),
  (39, (.ireturn : Instr), [0], [], 40),
  (40, (.bipush (99) : Instr), [], [(99, 0)], 42),
  (42, (.ireturn : Instr), [0], [], 0)]
/-! HandsAndWays$Ways.<init>(LHandsAndWays$Room;)V -/
def zc_226 : List (Nat × zE) := [(0, (.aload_n 0 : Instr), [], [], 1),
  (1, (.invokespecial 3 : Instr), [4], [], 4),
  (4, (.aload_n 0 : Instr), [], [], 5),
  (5, (.bipush (64) : Instr), [], [(64, 0)], 7),
  (7, (.newarray .long : Instr), [2], [], 9),
  (9, (.putfield 11 : Instr), [3, 1, 3], [], 12),
  (12, (.aload_n 0 : Instr), [], [], 13),
  (13, (.iconst (0) : Instr), [], [(0, 0)], 14),
  (14, (.putfield 15 : Instr), [3, 2, 0], [], 17),
  (17, (.aload_n 0 : Instr), [], [], 18),
  (18, (.lconst 0 : Instr), [], [], 19),
  (19, (.putfield 19 : Instr), [3, 3, 2], [], 22),
  (22, (.aload_n 0 : Instr), [], [], 23),
  (23, (.iconst (1) : Instr), [], [(1, 0)], 24),
  (24, (.putfield 23 : Instr), [3, 4, 1], [], 27),
  (27, (.aload_n 0 : Instr), [], [], 28),
  (28, (.lconst 0 : Instr), [], [], 29),
  (29, (.putfield 27 : Instr), [3, 5, 2], [], 32),
  (32, (.aload_n 0 : Instr), [], [], 33),
  (33, (.aload_n 1 : Instr), [], [], 34),
  (34, (.putfield 30 : Instr), [3, 0, 3], [], 37),
  (37, (.return_ : Instr), [], [], 0)]
/-! HandsAndWays$Ways.cellsOf(LHandsAndWays$Scene;I)J -/
def zc_227 : List (Nat × zE) := [(0, (.aload_n 1 : Instr), [], [], 1),
  (1, (.getfield 34 : Instr), [2, 2, 3], [], 4),
  (4, (.iload_n 2 : Instr), [], [], 5),
  (5, (.iaload : Instr), [], [], 6),
  (6, (.aload_n 0 : Instr), [], [], 7),
  (7, (.getfield 30 : Instr), [3, 0, 3], [], 10),
  (10, (.getfield 40 : Instr), [1, 4, 3], [], 13),
  (13, (.iload_n 2 : Instr), [], [], 14),
  (14, (.iaload : Instr), [], [], 15),
  (15, (.invokestatic 45 : Instr), [0, 159, 2, 0], [], 18),
  (18, (.lreturn : Instr), [], [], 0)]
/-! HandsAndWays$Ways.shutDoors(LHandsAndWays$Scene;)J -/
def zc_228 : List (Nat × zE) := [(0, (.lconst 0 : Instr), [], [], 1),
  (1, (.lstore_n 2 : Instr), [], [], 2),
  (2, (.iconst (0) : Instr), [], [(0, 0)], 3),
  (3, (.istore 4 : Instr), [], [], 5),
  (5, (.iload 4 : Instr), [], [], 7),
  (7, (.aload_n 0 : Instr), [], [], 8),
  (8, (.getfield 30 : Instr), [3, 0, 3], [], 11),
  (11, (.getfield 51 : Instr), [1, 5, 0], [], 14),
  (14, (.if_icmp .ge (36) : Instr), [50], [], 17),
  (17, (.aload_n 1 : Instr), [], [], 18),
  (18, (.getfield 54 : Instr), [2, 1, 0], [], 21),
  (21, (.iload 4 : Instr), [], [], 23),
  (23, (.ishr : Instr), [], [], 24),
  (24, (.iconst (1) : Instr), [], [(1, 0)], 25),
  (25, (.iand : Instr), [], [], 26),
  (26, (.ifCond .ne (18) : Instr), [44], [], 29),
  (29, (.lload_n 2 : Instr), [], [], 30),
  (30, (.lconst 1 : Instr), [], [], 31),
  (31, (.aload_n 0 : Instr), [], [], 32),
  (32, (.getfield 30 : Instr), [3, 0, 3], [], 35),
  (35, (.getfield 57 : Instr), [1, 6, 3], [], 38),
  (38, (.iload 4 : Instr), [], [], 40),
  (40, (.iaload : Instr), [], [], 41),
  (41, (.lshl : Instr), [], [], 42),
  (42, (.lor : Instr), [], [], 43),
  (43, (.lstore_n 2 : Instr), [], [], 44),
  (44, (.iinc 4 (1) : Instr), [], [], 47),
  (47, (.goto (-42) : Instr), [5], [], 50),
  (50, (.lload_n 2 : Instr), [], [], 51),
  (51, (.lreturn : Instr), [], [], 0)]
/-! HandsAndWays$Ways.leastThingIn(LHandsAndWays$Scene;I)I -/
def zc_229 : List (Nat × zE) := [(0, (.iconst (0) : Instr), [], [(0, 0)], 1),
  (1, (.istore_n 3 : Instr), [], [], 2),
  (2, (.iload_n 3 : Instr), [], [], 3),
  (3, (.aload_n 0 : Instr), [], [], 4),
  (4, (.getfield 30 : Instr), [3, 0, 3], [], 7),
  (7, (.getfield 60 : Instr), [1, 2, 0], [], 10),
  (10, (.if_icmp .ge (24) : Instr), [34], [], 13),
  (13, (.aload_n 0 : Instr), [], [], 14),
  (14, (.aload_n 1 : Instr), [], [], 15),
  (15, (.iload_n 3 : Instr), [], [], 16),
  (16, (.invokevirtual 63 : Instr), [1, 227, 3, 3], [], 19),
  (19, (.iload_n 2 : Instr), [], [], 20),
  (20, (.invokestatic 67 : Instr), [0, 152, 2, 0], [], 23),
  (23, (.ifCond .eq (5) : Instr), [28], [], 26),
  (26, (.iload_n 3 : Instr), [], [], 27),
  (27, (.ireturn : Instr), [0], [], 28),
  (28, (.iinc 3 (1) : Instr), [], [], 31),
  (31, (.goto (-29) : Instr), [2], [], 34),
  (34, (.iconst (-1) : Instr), [], [(-1, 0)], 35),
  (35, (.ireturn : Instr), [0], [], 0)]
/-! HandsAndWays$Ways.takenFor(LHandsAndWays$Scene;II)J -/
def zc_230 : List (Nat × zE) := [(0, (.aload_n 0 : Instr), [], [], 1),
  (1, (.getfield 30 : Instr), [3, 0, 3], [], 4),
  (4, (.getfield 71 : Instr), [1, 0, 2], [], 7),
  (7, (.aload_n 0 : Instr), [], [], 8),
  (8, (.aload_n 1 : Instr), [], [], 9),
  (9, (.invokevirtual 74 : Instr), [1, 228, 2, 3], [], 12),
  (12, (.lor : Instr), [], [], 13),
  (13, (.lstore 4 : Instr), [], [], 15),
  (15, (.iconst (0) : Instr), [], [(0, 0)], 16),
  (16, (.istore 6 : Instr), [], [], 18),
  (18, (.iload 6 : Instr), [], [], 20),
  (20, (.aload_n 0 : Instr), [], [], 21),
  (21, (.getfield 30 : Instr), [3, 0, 3], [], 24),
  (24, (.getfield 60 : Instr), [1, 2, 0], [], 27),
  (27, (.if_icmp .ge (43) : Instr), [70], [], 30),
  (30, (.iload_n 3 : Instr), [], [], 31),
  (31, (.iload 6 : Instr), [], [], 33),
  (33, (.ishr : Instr), [], [], 34),
  (34, (.iconst (1) : Instr), [], [(1, 0)], 35),
  (35, (.iand : Instr), [], [], 36),
  (36, (.ifCond .ne (28) : Instr), [64], [], 39),
  (39, (.lload 4 : Instr), [], [], 41),
  (41, (.aload_n 1 : Instr), [], [], 42),
  (42, (.getfield 34 : Instr), [2, 2, 3], [], 45),
  (45, (.iload 6 : Instr), [], [], 47),
  (47, (.iaload : Instr), [], [], 48),
  (48, (.aload_n 0 : Instr), [], [], 49),
  (49, (.getfield 30 : Instr), [3, 0, 3], [], 52),
  (52, (.getfield 40 : Instr), [1, 4, 3], [], 55),
  (55, (.iload 6 : Instr), [], [], 57),
  (57, (.iaload : Instr), [], [], 58),
  (58, (.invokestatic 45 : Instr), [0, 159, 2, 0], [], 61),
  (61, (.lor : Instr), [], [], 62),
  (62, (.lstore 4 : Instr), [], [], 64),
  (64, (.iinc 6 (1) : Instr), [], [], 67),
  (67, (.goto (-49) : Instr), [18], [], 70),
  (70, (.iconst (0) : Instr), [], [(0, 0)], 71),
  (71, (.istore 6 : Instr), [], [], 73),
  (73, (.iload 6 : Instr), [], [], 75),
  (75, (.iconst (2) : Instr), [], [(2, 0)], 76),
  (76, (.if_icmp .ge (40) : Instr), [116], [], 79),
  (79, (.iload 6 : Instr), [], [], 81),
  (81, (.iload_n 2 : Instr), [], [], 82),
  (82, (.if_icmp .eq (28) : Instr), [110], [], 85),
  (85, (.aload_n 1 : Instr), [], [], 86),
  (86, (.getfield 78 : Instr), [2, 5, 3], [], 89),
  (89, (.iload 6 : Instr), [], [], 91),
  (91, (.iaload : Instr), [], [], 92),
  (92, (.ifCond .lt (18) : Instr), [110], [], 95),
  (95, (.lload 4 : Instr), [], [], 97),
  (97, (.aload_n 1 : Instr), [], [], 98),
  (98, (.getfield 78 : Instr), [2, 5, 3], [], 101),
  (101, (.iload 6 : Instr), [], [], 103),
  (103, (.iaload : Instr), [], [], 104),
  (104, (.invokestatic 81 : Instr), [0, 151, 1, 0], [], 107),
  (107, (.lor : Instr), [], [], 108),
  (108, (.lstore 4 : Instr), [], [], 110),
  (110, (.iinc 6 (1) : Instr), [], [], 113),
  (113, (.goto (-40) : Instr), [73], [], 116),
  (116, (.lload 4 : Instr), [], [], 118),
  (118, (.lreturn : Instr), [], [], 0)]
/-! HandsAndWays$Ways.canLie(LHandsAndWays$Scene;III)Z -/
def zc_231 : List (Nat × zE) := [(0, (.iload 4 : Instr), [], [], 2),
  (2, (.iload_n 3 : Instr), [], [], 3),
  (3, (.invokestatic 85 : Instr), [0, 158, 2, 0], [], 6),
  (6, (.ifCond .ne (5) : Instr), [11], [], 9),
  (9, (.iconst (0) : Instr), [], [(0, 0)], 10),
  (10, (.ireturn : Instr), [1], [], 11),
  (11, (.aload_n 0 : Instr), [], [], 12),
  (12, (.aload_n 1 : Instr), [], [], 13),
  (13, (.iconst (-1) : Instr), [], [(-1, 0)], 14),
  (14, (.iload_n 2 : Instr), [], [], 15),
  (15, (.invokestatic 89 : Instr), [0, 232, 1, 0], [], 18),
  (18, (.invokevirtual 93 : Instr), [1, 230, 4, 3], [], 21),
  (21, (.lstore 5 : Instr), [], [], 23),
  (23, (.lload 5 : Instr), [], [], 25),
  (25, (.iload 4 : Instr), [], [], 27),
  (27, (.iload_n 3 : Instr), [], [], 28),
  (28, (.invokestatic 45 : Instr), [0, 159, 2, 0], [], 31),
  (31, (.land : Instr), [], [], 32),
  (32, (.lconst 0 : Instr), [], [], 33),
  (33, (.lcmp : Instr), [], [], 34),
  (34, (.ifCond .ne (7) : Instr), [41], [], 37),
  (37, (.iconst (1) : Instr), [], [(1, 0)], 38),
  (38, (.goto (4) : Instr), [42], [], 41),
  (41, (.iconst (0) : Instr), [], [(0, 0)], 42),
  (42, (.ireturn : Instr), [1], [], 0)]
/-! HandsAndWays$Ways.bitOf(I)I -/
def zc_232 : List (Nat × zE) := [(0, (.iload_n 0 : Instr), [], [], 1),
  (1, (.ifCond .ge (7) : Instr), [8], [], 4),
  (4, (.iconst (0) : Instr), [], [(0, 0)], 5),
  (5, (.goto (6) : Instr), [11], [], 8),
  (8, (.iconst (1) : Instr), [], [(1, 0)], 9),
  (9, (.iload_n 0 : Instr), [], [], 10),
  (10, (.ishl : Instr), [], [], 11),
  (11, (.ireturn : Instr), [0], [], 0)]
/-! HandsAndWays$Ways.floodFromHand(LHandsAndWays$Scene;II)V -/
def zc_233 : List (Nat × zE) := [(0, (.aload_n 1 : Instr), [], [], 1),
  (1, (.getfield 97 : Instr), [2, 6, 3], [], 4),
  (4, (.iload_n 2 : Instr), [], [], 5),
  (5, (.iaload : Instr), [], [], 6),
  (6, (.istore 4 : Instr), [], [], 8),
  (8, (.iload 4 : Instr), [], [], 10),
  (10, (.ifCond .ge (7) : Instr), [17], [], 13),
  (13, (.iconst (0) : Instr), [], [(0, 0)], 14),
  (14, (.goto (10) : Instr), [24], [], 17),
  (17, (.aload_n 1 : Instr), [], [], 18),
  (18, (.getfield 100 : Instr), [2, 4, 3], [], 21),
  (21, (.iload 4 : Instr), [], [], 23),
  (23, (.iaload : Instr), [], [], 24),
  (24, (.istore 5 : Instr), [], [], 26),
  (26, (.aload_n 0 : Instr), [], [], 27),
  (27, (.aload_n 1 : Instr), [], [], 28),
  (28, (.getfield 78 : Instr), [2, 5, 3], [], 31),
  (31, (.iload_n 2 : Instr), [], [], 32),
  (32, (.iaload : Instr), [], [], 33),
  (33, (.aload_n 0 : Instr), [], [], 34),
  (34, (.aload_n 1 : Instr), [], [], 35),
  (35, (.iload_n 2 : Instr), [], [], 36),
  (36, (.iload_n 3 : Instr), [], [], 37),
  (37, (.iload 4 : Instr), [], [], 39),
  (39, (.invokestatic 89 : Instr), [0, 232, 1, 0], [], 42),
  (42, (.ior : Instr), [], [], 43),
  (43, (.invokevirtual 93 : Instr), [1, 230, 4, 3], [], 46),
  (46, (.iload 4 : Instr), [], [], 48),
  (48, (.iload 5 : Instr), [], [], 50),
  (50, (.invokevirtual 103 : Instr), [1, 234, 5, 3], [], 53),
  (53, (.return_ : Instr), [], [], 0)]
/-! HandsAndWays$Ways.flood(IJII)V -/
def zc_234 : List (Nat × zE) := [(0, (.aload_n 0 : Instr), [], [], 1),
  (1, (.iload 4 : Instr), [], [], 3),
  (3, (.ifCond .lt (19) : Instr), [22], [], 6),
  (6, (.aload_n 0 : Instr), [], [], 7),
  (7, (.getfield 30 : Instr), [3, 0, 3], [], 10),
  (10, (.getfield 107 : Instr), [1, 3, 3], [], 13),
  (13, (.iload 4 : Instr), [], [], 15),
  (15, (.iaload : Instr), [], [], 16),
  (16, (.invokestatic 110 : Instr), [0, 176, 1, 0], [], 19),
  (19, (.ifCond .eq (7) : Instr), [26], [], 22),
  (22, (.iconst (1) : Instr), [], [(1, 0)], 23),
  (23, (.goto (4) : Instr), [27], [], 26),
  (26, (.iconst (0) : Instr), [], [(0, 0)], 27),
  (27, (.putfield 23 : Instr), [3, 4, 1], [], 30),
  (30, (.aload_n 0 : Instr), [], [], 31),
  (31, (.lload_n 2 : Instr), [], [], 32),
  (32, (.ldc2_w 116 : Instr), [], [(-1, 0)], 35),
  (35, (.lxor : Instr), [], [], 36),
  (36, (.putfield 19 : Instr), [3, 3, 2], [], 39),
  (39, (.iload 4 : Instr), [], [], 41),
  (41, (.ifCond .lt (73) : Instr), [114], [], 44),
  (44, (.aload_n 0 : Instr), [], [], 45),
  (45, (.getfield 30 : Instr), [3, 0, 3], [], 48),
  (48, (.getfield 40 : Instr), [1, 4, 3], [], 51),
  (51, (.iload 4 : Instr), [], [], 53),
  (53, (.iaload : Instr), [], [], 54),
  (54, (.istore 6 : Instr), [], [], 56),
  (56, (.iload 5 : Instr), [], [], 58),
  (58, (.iload 6 : Instr), [], [], 60),
  (60, (.invokestatic 118 : Instr), [0, 160, 2, 0], [], 63),
  (63, (.istore 7 : Instr), [], [], 65),
  (65, (.iload 5 : Instr), [], [], 67),
  (67, (.invokestatic 122 : Instr), [0, 161, 1, 0], [], 70),
  (70, (.istore 8 : Instr), [], [], 72),
  (72, (.iconst (0) : Instr), [], [(0, 0)], 73),
  (73, (.istore 9 : Instr), [], [], 75),
  (75, (.iload 9 : Instr), [], [], 77),
  (77, (.iload 6 : Instr), [], [], 79),
  (79, (.if_icmp .ge (35) : Instr), [114], [], 82),
  (82, (.aload_n 0 : Instr), [], [], 83),
  (83, (.dup : Instr), [], [], 84),
  (84, (.getfield 19 : Instr), [3, 3, 2], [], 87),
  (87, (.lload_n 2 : Instr), [], [], 88),
  (88, (.ldc2_w 116 : Instr), [], [(-1, 0)], 91),
  (91, (.lxor : Instr), [], [], 92),
  (92, (.iload 7 : Instr), [], [], 94),
  (94, (.ineg : Instr), [], [], 95),
  (95, (.iload 9 : Instr), [], [], 97),
  (97, (.isub : Instr), [], [], 98),
  (98, (.iload 8 : Instr), [], [], 100),
  (100, (.ineg : Instr), [], [], 101),
  (101, (.invokestatic 125 : Instr), [0, 157, 3, 0], [], 104),
  (104, (.land : Instr), [], [], 105),
  (105, (.putfield 19 : Instr), [3, 3, 2], [], 108),
  (108, (.iinc 9 (1) : Instr), [], [], 111),
  (111, (.goto (-36) : Instr), [75], [], 114),
  (114, (.iload_n 1 : Instr), [], [], 115),
  (115, (.invokestatic 81 : Instr), [0, 151, 1, 0], [], 118),
  (118, (.lstore 6 : Instr), [], [], 120),
  (120, (.aload_n 0 : Instr), [], [], 121),
  (121, (.lload 6 : Instr), [], [], 123),
  (123, (.putfield 27 : Instr), [3, 5, 2], [], 126),
  (126, (.aload_n 0 : Instr), [], [], 127),
  (127, (.iconst (0) : Instr), [], [(0, 0)], 128),
  (128, (.putfield 15 : Instr), [3, 2, 0], [], 131),
  (131, (.lload 6 : Instr), [], [], 133),
  (133, (.lconst 0 : Instr), [], [], 134),
  (134, (.lcmp : Instr), [], [], 135),
  (135, (.ifCond .eq (69) : Instr), [204], [], 138),
  (138, (.aload_n 0 : Instr), [], [], 139),
  (139, (.getfield 15 : Instr), [3, 2, 0], [], 142),
  (142, (.bipush (64) : Instr), [], [(64, 0)], 144),
  (144, (.if_icmp .ge (60) : Instr), [204], [], 147),
  (147, (.aload_n 0 : Instr), [], [], 148),
  (148, (.getfield 11 : Instr), [3, 1, 3], [], 151),
  (151, (.aload_n 0 : Instr), [], [], 152),
  (152, (.dup : Instr), [], [], 153),
  (153, (.getfield 15 : Instr), [3, 2, 0], [], 156),
  (156, (.dup_x1 : Instr), [], [], 157),
  (157, (.iconst (1) : Instr), [], [(1, 0)], 158),
  (158, (.iadd : Instr), [], [], 159),
  (159, (.putfield 15 : Instr), [3, 2, 0], [], 162),
  (162, (.lload 6 : Instr), [], [], 164),
  (164, (.lastore : Instr), [], [], 165),
  (165, (.lload 6 : Instr), [], [], 167),
  (167, (.aload_n 0 : Instr), [], [], 168),
  (168, (.getfield 23 : Instr), [3, 4, 1], [], 171),
  (171, (.invokestatic 129 : Instr), [0, 156, 2, 0], [], 174),
  (174, (.aload_n 0 : Instr), [], [], 175),
  (175, (.getfield 19 : Instr), [3, 3, 2], [], 178),
  (178, (.land : Instr), [], [], 179),
  (179, (.aload_n 0 : Instr), [], [], 180),
  (180, (.getfield 27 : Instr), [3, 5, 2], [], 183),
  (183, (.ldc2_w 116 : Instr), [], [(-1, 0)], 186),
  (186, (.lxor : Instr), [], [], 187),
  (187, (.land : Instr), [], [], 188),
  (188, (.lstore 6 : Instr), [], [], 190),
  (190, (.aload_n 0 : Instr), [], [], 191),
  (191, (.dup : Instr), [], [], 192),
  (192, (.getfield 27 : Instr), [3, 5, 2], [], 195),
  (195, (.lload 6 : Instr), [], [], 197),
  (197, (.lor : Instr), [], [], 198),
  (198, (.putfield 27 : Instr), [3, 5, 2], [], 201),
  (201, (.goto (-70) : Instr), [131], [], 204),
  (204, (.return_ : Instr), [], [], 0)]
/-! HandsAndWays$Ways.farTo(I)I -/
def zc_235 : List (Nat × zE) := [(0, (.iconst (0) : Instr), [], [(0, 0)], 1),
  (1, (.istore_n 2 : Instr), [], [], 2),
  (2, (.iload_n 2 : Instr), [], [], 3),
  (3, (.aload_n 0 : Instr), [], [], 4),
  (4, (.getfield 15 : Instr), [3, 2, 0], [], 7),
  (7, (.if_icmp .ge (24) : Instr), [31], [], 10),
  (10, (.aload_n 0 : Instr), [], [], 11),
  (11, (.getfield 11 : Instr), [3, 1, 3], [], 14),
  (14, (.iload_n 2 : Instr), [], [], 15),
  (15, (.laload : Instr), [], [], 16),
  (16, (.iload_n 1 : Instr), [], [], 17),
  (17, (.invokestatic 67 : Instr), [0, 152, 2, 0], [], 20),
  (20, (.ifCond .eq (5) : Instr), [25], [], 23),
  (23, (.iload_n 2 : Instr), [], [], 24),
  (24, (.ireturn : Instr), [0], [], 25),
  (25, (.iinc 2 (1) : Instr), [], [], 28),
  (28, (.goto (-26) : Instr), [2], [], 31),
  (31, (.iconst (-1) : Instr), [], [(-1, 0)], 32),
  (32, (.ireturn : Instr), [0], [], 0)]
/-! HandsAndWays$Ways.cellOnWay(II)I -/
def zc_236 : List (Nat × zE) := [(0, (.iload_n 1 : Instr), [], [], 1),
  (1, (.istore_n 3 : Instr), [], [], 2),
  (2, (.aload_n 0 : Instr), [], [], 3),
  (3, (.iload_n 1 : Instr), [], [], 4),
  (4, (.invokevirtual 133 : Instr), [1, 235, 2, 3], [], 7),
  (7, (.istore 4 : Instr), [], [], 9),
  (9, (.iload 4 : Instr), [], [], 11),
  (11, (.iload_n 2 : Instr), [], [], 12),
  (12, (.if_icmp .le (23) : Instr), [35], [], 15),
  (15, (.iload_n 3 : Instr), [], [], 16),
  (16, (.ifCond .lt (19) : Instr), [35], [], 19),
  (19, (.aload_n 0 : Instr), [], [], 20),
  (20, (.iload_n 3 : Instr), [], [], 21),
  (21, (.iload 4 : Instr), [], [], 23),
  (23, (.iconst (1) : Instr), [], [(1, 0)], 24),
  (24, (.isub : Instr), [], [], 25),
  (25, (.invokevirtual 136 : Instr), [1, 237, 3, 3], [], 28),
  (28, (.istore_n 3 : Instr), [], [], 29),
  (29, (.iinc 4 (-1) : Instr), [], [], 32),
  (32, (.goto (-23) : Instr), [9], [], 35),
  (35, (.iload_n 3 : Instr), [], [], 36),
  (36, (.ireturn : Instr), [0], [], 0)]
/-! HandsAndWays$Ways.cellAhead(II)I -/
def zc_237 : List (Nat × zE) := [(0, (.iconst (0) : Instr), [], [(0, 0)], 1),
  (1, (.istore_n 3 : Instr), [], [], 2),
  (2, (.iload_n 3 : Instr), [], [], 3),
  (3, (.iconst (3) : Instr), [], [(3, 0)], 4),
  (4, (.if_icmp .gt (38) : Instr), [42], [], 7),
  (7, (.iload_n 1 : Instr), [], [], 8),
  (8, (.iload_n 3 : Instr), [], [], 9),
  (9, (.invokestatic 139 : Instr), [0, 154, 2, 0], [], 12),
  (12, (.istore 4 : Instr), [], [], 14),
  (14, (.iload 4 : Instr), [], [], 16),
  (16, (.ifCond .lt (20) : Instr), [36], [], 19),
  (19, (.aload_n 0 : Instr), [], [], 20),
  (20, (.getfield 11 : Instr), [3, 1, 3], [], 23),
  (23, (.iload_n 2 : Instr), [], [], 24),
  (24, (.laload : Instr), [], [], 25),
  (25, (.iload 4 : Instr), [], [], 27),
  (27, (.invokestatic 67 : Instr), [0, 152, 2, 0], [], 30),
  (30, (.ifCond .eq (6) : Instr), [36], [], 33),
  (33, (.iload 4 : Instr), [], [], 35),
  (35, (.ireturn : Instr), [0], [], 36),
  (36, (.iinc 3 (1) : Instr), [], [], 39),
  (39, (.goto (-37) : Instr), [2], [], 42),
  (42, (.iconst (-1) : Instr), [], [(-1, 0)], 43),
  (43, (.ireturn : Instr), [0], [], 0)]
/-! HandsAndWays$Ways.bars(LHandsAndWays$Scene;I)I -/
def zc_238 : List (Nat × zE) := [(0, (.aload_n 0 : Instr), [], [], 1),
  (1, (.getfield 27 : Instr), [3, 5, 2], [], 4),
  (4, (.aload_n 0 : Instr), [], [], 5),
  (5, (.getfield 23 : Instr), [3, 4, 1], [], 8),
  (8, (.invokestatic 129 : Instr), [0, 156, 2, 0], [], 11),
  (11, (.aload_n 0 : Instr), [], [], 12),
  (12, (.getfield 19 : Instr), [3, 3, 2], [], 15),
  (15, (.ldc2_w 116 : Instr), [], [(-1, 0)], 18),
  (18, (.lxor : Instr), [], [], 19),
  (19, (.land : Instr), [], [], 20),
  (20, (.lstore_n 3 : Instr), [], [], 21),
  (21, (.lload_n 3 : Instr), [], [], 22),
  (22, (.lstore 5 : Instr), [], [], 24),
  (24, (.aload_n 1 : Instr), [], [], 25),
  (25, (.getfield 97 : Instr), [2, 6, 3], [], 28),
  (28, (.iload_n 2 : Instr), [], [], 29),
  (29, (.iaload : Instr), [], [], 30),
  (30, (.istore 7 : Instr), [], [], 32),
  (32, (.iload 7 : Instr), [], [], 34),
  (34, (.ifCond .lt (72) : Instr), [106], [], 37),
  (37, (.aload_n 0 : Instr), [], [], 38),
  (38, (.getfield 30 : Instr), [3, 0, 3], [], 41),
  (41, (.getfield 40 : Instr), [1, 4, 3], [], 44),
  (44, (.iload 7 : Instr), [], [], 46),
  (46, (.iaload : Instr), [], [], 47),
  (47, (.istore 8 : Instr), [], [], 49),
  (49, (.aload_n 1 : Instr), [], [], 50),
  (50, (.getfield 100 : Instr), [2, 4, 3], [], 53),
  (53, (.iload 7 : Instr), [], [], 55),
  (55, (.iaload : Instr), [], [], 56),
  (56, (.istore 9 : Instr), [], [], 58),
  (58, (.iload 9 : Instr), [], [], 60),
  (60, (.iload 8 : Instr), [], [], 62),
  (62, (.invokestatic 118 : Instr), [0, 160, 2, 0], [], 65),
  (65, (.istore 10 : Instr), [], [], 67),
  (67, (.iload 9 : Instr), [], [], 69),
  (69, (.invokestatic 122 : Instr), [0, 161, 1, 0], [], 72),
  (72, (.istore 11 : Instr), [], [], 74),
  (74, (.iconst (0) : Instr), [], [(0, 0)], 75),
  (75, (.istore 12 : Instr), [], [], 77),
  (77, (.iload 12 : Instr), [], [], 79),
  (79, (.iload 8 : Instr), [], [], 81),
  (81, (.if_icmp .ge (25) : Instr), [106], [], 84),
  (84, (.lload 5 : Instr), [], [], 86),
  (86, (.lload_n 3 : Instr), [], [], 87),
  (87, (.iload 10 : Instr), [], [], 89),
  (89, (.iload 12 : Instr), [], [], 91),
  (91, (.iadd : Instr), [], [], 92),
  (92, (.iload 11 : Instr), [], [], 94),
  (94, (.invokestatic 125 : Instr), [0, 157, 3, 0], [], 97),
  (97, (.lor : Instr), [], [], 98),
  (98, (.lstore 5 : Instr), [], [], 100),
  (100, (.iinc 12 (1) : Instr), [], [], 103),
  (103, (.goto (-26) : Instr), [77], [], 106),
  (106, (.aload_n 0 : Instr), [], [], 107),
  (107, (.aload_n 1 : Instr), [], [], 108),
  (108, (.lload 5 : Instr), [], [], 110),
  (110, (.iload 7 : Instr), [], [], 112),
  (112, (.invokevirtual 142 : Instr), [1, 239, 4, 3], [], 115),
  (115, (.aload_n 0 : Instr), [], [], 116),
  (116, (.aload_n 1 : Instr), [], [], 117),
  (117, (.lload 5 : Instr), [], [], 119),
  (119, (.invokevirtual 146 : Instr), [1, 240, 3, 3], [], 122),
  (122, (.bipush (8) : Instr), [], [(8, 0)], 124),
  (124, (.ishl : Instr), [], [], 125),
  (125, (.ior : Instr), [], [], 126),
  (126, (.aload_n 1 : Instr), [], [], 127),
  (127, (.lload 5 : Instr), [], [], 129),
  (129, (.iload_n 2 : Instr), [], [], 130),
  (130, (.invokestatic 150 : Instr), [0, 241, 3, 0], [], 133),
  (133, (.bipush (12) : Instr), [], [(12, 0)], 135),
  (135, (.ishl : Instr), [], [], 136),
  (136, (.ior : Instr), [], [], 137),
  (137, (.ireturn : Instr), [0], [], 0)]
/-! HandsAndWays$Ways.thingsIn(LHandsAndWays$Scene;JI)I -/
def zc_239 : List (Nat × zE) := [(0, (.iconst (0) : Instr), [], [(0, 0)], 1),
  (1, (.istore 5 : Instr), [], [], 3),
  (3, (.iconst (0) : Instr), [], [(0, 0)], 4),
  (4, (.istore 6 : Instr), [], [], 6),
  (6, (.iload 6 : Instr), [], [], 8),
  (8, (.aload_n 0 : Instr), [], [], 9),
  (9, (.getfield 30 : Instr), [3, 0, 3], [], 12),
  (12, (.getfield 60 : Instr), [1, 2, 0], [], 15),
  (15, (.if_icmp .ge (39) : Instr), [54], [], 18),
  (18, (.iload 6 : Instr), [], [], 20),
  (20, (.iload 4 : Instr), [], [], 22),
  (22, (.if_icmp .eq (26) : Instr), [48], [], 25),
  (25, (.aload_n 0 : Instr), [], [], 26),
  (26, (.aload_n 1 : Instr), [], [], 27),
  (27, (.iload 6 : Instr), [], [], 29),
  (29, (.invokevirtual 63 : Instr), [1, 227, 3, 3], [], 32),
  (32, (.lload_n 2 : Instr), [], [], 33),
  (33, (.land : Instr), [], [], 34),
  (34, (.lconst 0 : Instr), [], [], 35),
  (35, (.lcmp : Instr), [], [], 36),
  (36, (.ifCond .eq (12) : Instr), [48], [], 39),
  (39, (.iload 5 : Instr), [], [], 41),
  (41, (.iconst (1) : Instr), [], [(1, 0)], 42),
  (42, (.iload 6 : Instr), [], [], 44),
  (44, (.ishl : Instr), [], [], 45),
  (45, (.ior : Instr), [], [], 46),
  (46, (.istore 5 : Instr), [], [], 48),
  (48, (.iinc 6 (1) : Instr), [], [], 51),
  (51, (.goto (-45) : Instr), [6], [], 54),
  (54, (.iload 5 : Instr), [], [], 56),
  (56, (.ireturn : Instr), [0], [], 0)]
/-! HandsAndWays$Ways.shutDoorsIn(LHandsAndWays$Scene;J)I -/
def zc_240 : List (Nat × zE) := [(0, (.iconst (0) : Instr), [], [(0, 0)], 1),
  (1, (.istore 4 : Instr), [], [], 3),
  (3, (.iconst (0) : Instr), [], [(0, 0)], 4),
  (4, (.istore 5 : Instr), [], [], 6),
  (6, (.iload 5 : Instr), [], [], 8),
  (8, (.aload_n 0 : Instr), [], [], 9),
  (9, (.getfield 30 : Instr), [3, 0, 3], [], 12),
  (12, (.getfield 51 : Instr), [1, 5, 0], [], 15),
  (15, (.if_icmp .ge (44) : Instr), [59], [], 18),
  (18, (.aload_n 1 : Instr), [], [], 19),
  (19, (.iload 5 : Instr), [], [], 21),
  (21, (.invokevirtual 153 : Instr), [1, 199, 2, 2], [], 24),
  (24, (.ifCond .ne (29) : Instr), [53], [], 27),
  (27, (.lload_n 2 : Instr), [], [], 28),
  (28, (.aload_n 0 : Instr), [], [], 29),
  (29, (.getfield 30 : Instr), [3, 0, 3], [], 32),
  (32, (.getfield 57 : Instr), [1, 6, 3], [], 35),
  (35, (.iload 5 : Instr), [], [], 37),
  (37, (.iaload : Instr), [], [], 38),
  (38, (.invokestatic 67 : Instr), [0, 152, 2, 0], [], 41),
  (41, (.ifCond .eq (12) : Instr), [53], [], 44),
  (44, (.iload 4 : Instr), [], [], 46),
  (46, (.iconst (1) : Instr), [], [(1, 0)], 47),
  (47, (.iload 5 : Instr), [], [], 49),
  (49, (.ishl : Instr), [], [], 50),
  (50, (.ior : Instr), [], [], 51),
  (51, (.istore 4 : Instr), [], [], 53),
  (53, (.iinc 5 (1) : Instr), [], [], 56),
  (56, (.goto (-50) : Instr), [6], [], 59),
  (59, (.iload 4 : Instr), [], [], 61),
  (61, (.ireturn : Instr), [0], [], 0)]
/-! HandsAndWays$Ways.otherHandIn(LHandsAndWays$Scene;JI)I -/
def zc_241 : List (Nat × zE) := [(0, (.aload_n 0 : Instr), [], [], 1),
  (1, (.getfield 78 : Instr), [2, 5, 3], [], 4),
  (4, (.iconst (1) : Instr), [], [(1, 0)], 5),
  (5, (.iload_n 3 : Instr), [], [], 6),
  (6, (.isub : Instr), [], [], 7),
  (7, (.iaload : Instr), [], [], 8),
  (8, (.istore 4 : Instr), [], [], 10),
  (10, (.iload 4 : Instr), [], [], 12),
  (12, (.ifCond .lt (16) : Instr), [28], [], 15),
  (15, (.lload_n 1 : Instr), [], [], 16),
  (16, (.iload 4 : Instr), [], [], 18),
  (18, (.invokestatic 67 : Instr), [0, 152, 2, 0], [], 21),
  (21, (.ifCond .eq (7) : Instr), [28], [], 24),
  (24, (.iconst (1) : Instr), [], [(1, 0)], 25),
  (25, (.goto (4) : Instr), [29], [], 28),
  (28, (.iconst (0) : Instr), [], [(0, 0)], 29),
  (29, (.ireturn : Instr), [0], [], 0)]
/-! HandsAndWaysLaw.law([I)Z -/
def zc_242_0 : List (Nat × zE) := [(0, (.new 7 : Instr), [0, 12], [], 3),
  (3, (.dup : Instr), [], [], 4),
  (4, (.invokespecial 9 : Instr), [2, 0, 1, 0], [], 7),
  (7, (.astore_n 1 : Instr), [], [], 8),
  (8, (.new 10 : Instr), [10, 48], [], 11),
  (11, (.dup : Instr), [], [], 12),
  (12, (.invokespecial 12 : Instr), [2, 48, 1, 10], [], 15),
  (15, (.astore_n 2 : Instr), [], [], 16),
  (16, (.iconst (0) : Instr), [], [(0, 0)], 17),
  (17, (.istore_n 3 : Instr), [], [], 18),
  (18, (.iload_n 3 : Instr), [], [], 19),
  (19, (.aload_n 0 : Instr), [], [], 20),
  (20, (.arraylength : Instr), [], [], 21),
  (21, (.bipush (6) : Instr), [], [(6, 0)], 23),
  (23, (.isub : Instr), [], [], 24),
  (24, (.if_icmp .gt (1560) : Instr), [1584], [], 27),
  (27, (.aload_n 0 : Instr), [], [], 28),
  (28, (.iload_n 3 : Instr), [], [], 29),
  (29, (.iaload : Instr), [], [], 30),
  (30, (.bipush (63) : Instr), [], [(63, 0)], 32),
  (32, (.iand : Instr), [], [], 33),
  (33, (.tableswitch (1545) (0) (39) #[(175), (208), (241), (284), (317), (340), (373), (416), (439), (472), (505), (548), (581), (614), (647), (680), (723), (746), (769), (792), (855), (868), (911), (954), (987), (1020), (1043), (1066), (1129), (1162), (1185), (1228), (1241), (1284), (1297), (1310), (1353), (1396), (1459), (1512)] : Instr), [175, 1578], [(0, 208), (1, 241), (2, 274), (3, 317), (4, 350), (5, 373), (6, 406), (7, 449), (8, 472), (9, 505), (10, 538), (11, 581), (12, 614), (13, 647), (14, 680), (15, 713), (16, 756), (17, 779), (18, 802), (19, 825), (20, 888), (21, 901), (22, 944), (23, 987), (24, 1020), (25, 1053), (26, 1076), (27, 1099), (28, 1162), (29, 1195), (30, 1218), (31, 1261), (32, 1274), (33, 1317), (34, 1330), (35, 1343), (36, 1386), (37, 1429), (38, 1492), (39, 1545)], 208),
  (208, (.aload_n 1 : Instr), [], [], 209),
  (209, (.aload_n 0 : Instr), [], [], 210),
  (210, (.iload_n 3 : Instr), [], [], 211),
  (211, (.iconst (1) : Instr), [], [(1, 0)], 212),
  (212, (.iadd : Instr), [], [], 213),
  (213, (.iaload : Instr), [], [], 214),
  (214, (.aload_n 0 : Instr), [], [], 215),
  (215, (.iload_n 3 : Instr), [], [], 216),
  (216, (.iconst (2) : Instr), [], [(2, 0)], 217),
  (217, (.iadd : Instr), [], [], 218),
  (218, (.iaload : Instr), [], [], 219),
  (219, (.invokevirtual 13 : Instr), [1, 1, 3, 0], [], 222),
  (222, (.aload_n 2 : Instr), [], [], 223),
  (223, (.aload_n 0 : Instr), [], [], 224),
  (224, (.iload_n 3 : Instr), [], [], 225),
  (225, (.iconst (1) : Instr), [], [(1, 0)], 226),
  (226, (.iadd : Instr), [], [], 227),
  (227, (.iaload : Instr), [], [], 228)]
def zc_242_1 : List (Nat × zE) := [(228, (.aload_n 0 : Instr), [], [], 229),
  (229, (.iload_n 3 : Instr), [], [], 230),
  (230, (.iconst (2) : Instr), [], [(2, 0)], 231),
  (231, (.iadd : Instr), [], [], 232),
  (232, (.iaload : Instr), [], [], 233),
  (233, (.invokevirtual 17 : Instr), [1, 77, 3, 10], [], 236),
  (236, (.if_icmp .eq (1342) : Instr), [1578], [], 239),
  (239, (.iconst (0) : Instr), [], [(0, 0)], 240),
  (240, (.ireturn : Instr), [1], [], 241),
  (241, (.aload_n 1 : Instr), [], [], 242),
  (242, (.aload_n 0 : Instr), [], [], 243),
  (243, (.iload_n 3 : Instr), [], [], 244),
  (244, (.iconst (1) : Instr), [], [(1, 0)], 245),
  (245, (.iadd : Instr), [], [], 246),
  (246, (.iaload : Instr), [], [], 247),
  (247, (.aload_n 0 : Instr), [], [], 248),
  (248, (.iload_n 3 : Instr), [], [], 249),
  (249, (.iconst (2) : Instr), [], [(2, 0)], 250),
  (250, (.iadd : Instr), [], [], 251),
  (251, (.iaload : Instr), [], [], 252),
  (252, (.invokevirtual 18 : Instr), [1, 2, 3, 0], [], 255),
  (255, (.aload_n 2 : Instr), [], [], 256),
  (256, (.aload_n 0 : Instr), [], [], 257),
  (257, (.iload_n 3 : Instr), [], [], 258),
  (258, (.iconst (1) : Instr), [], [(1, 0)], 259),
  (259, (.iadd : Instr), [], [], 260),
  (260, (.iaload : Instr), [], [], 261),
  (261, (.aload_n 0 : Instr), [], [], 262),
  (262, (.iload_n 3 : Instr), [], [], 263),
  (263, (.iconst (2) : Instr), [], [(2, 0)], 264),
  (264, (.iadd : Instr), [], [], 265),
  (265, (.iaload : Instr), [], [], 266),
  (266, (.invokevirtual 21 : Instr), [1, 78, 3, 10], [], 269),
  (269, (.if_icmp .eq (1309) : Instr), [1578], [], 272),
  (272, (.iconst (0) : Instr), [], [(0, 0)], 273),
  (273, (.ireturn : Instr), [1], [], 274),
  (274, (.aload_n 1 : Instr), [], [], 275),
  (275, (.aload_n 0 : Instr), [], [], 276),
  (276, (.iload_n 3 : Instr), [], [], 277),
  (277, (.iconst (1) : Instr), [], [(1, 0)], 278)]
def zc_242_2 : List (Nat × zE) := [(278, (.iadd : Instr), [], [], 279),
  (279, (.iaload : Instr), [], [], 280),
  (280, (.aload_n 0 : Instr), [], [], 281),
  (281, (.iload_n 3 : Instr), [], [], 282),
  (282, (.iconst (2) : Instr), [], [(2, 0)], 283),
  (283, (.iadd : Instr), [], [], 284),
  (284, (.iaload : Instr), [], [], 285),
  (285, (.aload_n 0 : Instr), [], [], 286),
  (286, (.iload_n 3 : Instr), [], [], 287),
  (287, (.iconst (3) : Instr), [], [(3, 0)], 288),
  (288, (.iadd : Instr), [], [], 289),
  (289, (.iaload : Instr), [], [], 290),
  (290, (.invokevirtual 22 : Instr), [1, 3, 4, 0], [], 293),
  (293, (.aload_n 2 : Instr), [], [], 294),
  (294, (.aload_n 0 : Instr), [], [], 295),
  (295, (.iload_n 3 : Instr), [], [], 296),
  (296, (.iconst (1) : Instr), [], [(1, 0)], 297),
  (297, (.iadd : Instr), [], [], 298),
  (298, (.iaload : Instr), [], [], 299),
  (299, (.aload_n 0 : Instr), [], [], 300),
  (300, (.iload_n 3 : Instr), [], [], 301),
  (301, (.iconst (2) : Instr), [], [(2, 0)], 302),
  (302, (.iadd : Instr), [], [], 303),
  (303, (.iaload : Instr), [], [], 304),
  (304, (.aload_n 0 : Instr), [], [], 305),
  (305, (.iload_n 3 : Instr), [], [], 306),
  (306, (.iconst (3) : Instr), [], [(3, 0)], 307),
  (307, (.iadd : Instr), [], [], 308),
  (308, (.iaload : Instr), [], [], 309),
  (309, (.invokevirtual 26 : Instr), [1, 80, 4, 10], [], 312),
  (312, (.if_icmp .eq (1266) : Instr), [1578], [], 315),
  (315, (.iconst (0) : Instr), [], [(0, 0)], 316),
  (316, (.ireturn : Instr), [1], [], 317),
  (317, (.aload_n 1 : Instr), [], [], 318),
  (318, (.aload_n 0 : Instr), [], [], 319),
  (319, (.iload_n 3 : Instr), [], [], 320),
  (320, (.iconst (1) : Instr), [], [(1, 0)], 321),
  (321, (.iadd : Instr), [], [], 322),
  (322, (.iaload : Instr), [], [], 323),
  (323, (.aload_n 0 : Instr), [], [], 324)]
def zc_242_3 : List (Nat × zE) := [(324, (.iload_n 3 : Instr), [], [], 325),
  (325, (.iconst (2) : Instr), [], [(2, 0)], 326),
  (326, (.iadd : Instr), [], [], 327),
  (327, (.iaload : Instr), [], [], 328),
  (328, (.invokevirtual 27 : Instr), [1, 4, 3, 0], [], 331),
  (331, (.aload_n 2 : Instr), [], [], 332),
  (332, (.aload_n 0 : Instr), [], [], 333),
  (333, (.iload_n 3 : Instr), [], [], 334),
  (334, (.iconst (1) : Instr), [], [(1, 0)], 335),
  (335, (.iadd : Instr), [], [], 336),
  (336, (.iaload : Instr), [], [], 337),
  (337, (.aload_n 0 : Instr), [], [], 338),
  (338, (.iload_n 3 : Instr), [], [], 339),
  (339, (.iconst (2) : Instr), [], [(2, 0)], 340),
  (340, (.iadd : Instr), [], [], 341),
  (341, (.iaload : Instr), [], [], 342),
  (342, (.invokevirtual 30 : Instr), [1, 81, 3, 10], [], 345),
  (345, (.if_icmp .eq (1233) : Instr), [1578], [], 348),
  (348, (.iconst (0) : Instr), [], [(0, 0)], 349),
  (349, (.ireturn : Instr), [1], [], 350),
  (350, (.aload_n 1 : Instr), [], [], 351),
  (351, (.aload_n 0 : Instr), [], [], 352),
  (352, (.iload_n 3 : Instr), [], [], 353),
  (353, (.iconst (1) : Instr), [], [(1, 0)], 354),
  (354, (.iadd : Instr), [], [], 355),
  (355, (.iaload : Instr), [], [], 356),
  (356, (.invokevirtual 31 : Instr), [1, 5, 2, 0], [], 359),
  (359, (.aload_n 2 : Instr), [], [], 360),
  (360, (.aload_n 0 : Instr), [], [], 361),
  (361, (.iload_n 3 : Instr), [], [], 362),
  (362, (.iconst (1) : Instr), [], [(1, 0)], 363),
  (363, (.iadd : Instr), [], [], 364),
  (364, (.iaload : Instr), [], [], 365),
  (365, (.invokevirtual 35 : Instr), [1, 82, 2, 10], [], 368),
  (368, (.if_icmp .eq (1210) : Instr), [1578], [], 371),
  (371, (.iconst (0) : Instr), [], [(0, 0)], 372),
  (372, (.ireturn : Instr), [1], [], 373),
  (373, (.aload_n 1 : Instr), [], [], 374),
  (374, (.aload_n 0 : Instr), [], [], 375),
  (375, (.iload_n 3 : Instr), [], [], 376)]
def zc_242_4 : List (Nat × zE) := [(376, (.iconst (1) : Instr), [], [(1, 0)], 377),
  (377, (.iadd : Instr), [], [], 378),
  (378, (.iaload : Instr), [], [], 379),
  (379, (.aload_n 0 : Instr), [], [], 380),
  (380, (.iload_n 3 : Instr), [], [], 381),
  (381, (.iconst (2) : Instr), [], [(2, 0)], 382),
  (382, (.iadd : Instr), [], [], 383),
  (383, (.iaload : Instr), [], [], 384),
  (384, (.invokevirtual 36 : Instr), [1, 6, 3, 0], [], 387),
  (387, (.aload_n 2 : Instr), [], [], 388),
  (388, (.aload_n 0 : Instr), [], [], 389),
  (389, (.iload_n 3 : Instr), [], [], 390),
  (390, (.iconst (1) : Instr), [], [(1, 0)], 391),
  (391, (.iadd : Instr), [], [], 392),
  (392, (.iaload : Instr), [], [], 393),
  (393, (.aload_n 0 : Instr), [], [], 394),
  (394, (.iload_n 3 : Instr), [], [], 395),
  (395, (.iconst (2) : Instr), [], [(2, 0)], 396),
  (396, (.iadd : Instr), [], [], 397),
  (397, (.iaload : Instr), [], [], 398),
  (398, (.invokevirtual 39 : Instr), [1, 88, 3, 10], [], 401),
  (401, (.if_icmp .eq (1177) : Instr), [1578], [], 404),
  (404, (.iconst (0) : Instr), [], [(0, 0)], 405),
  (405, (.ireturn : Instr), [1], [], 406),
  (406, (.aload_n 1 : Instr), [], [], 407),
  (407, (.aload_n 0 : Instr), [], [], 408),
  (408, (.iload_n 3 : Instr), [], [], 409),
  (409, (.iconst (1) : Instr), [], [(1, 0)], 410),
  (410, (.iadd : Instr), [], [], 411),
  (411, (.iaload : Instr), [], [], 412),
  (412, (.aload_n 0 : Instr), [], [], 413),
  (413, (.iload_n 3 : Instr), [], [], 414),
  (414, (.iconst (2) : Instr), [], [(2, 0)], 415),
  (415, (.iadd : Instr), [], [], 416),
  (416, (.iaload : Instr), [], [], 417),
  (417, (.aload_n 0 : Instr), [], [], 418),
  (418, (.iload_n 3 : Instr), [], [], 419),
  (419, (.iconst (3) : Instr), [], [(3, 0)], 420),
  (420, (.iadd : Instr), [], [], 421),
  (421, (.iaload : Instr), [], [], 422)]
def zc_242_5 : List (Nat × zE) := [(422, (.invokevirtual 40 : Instr), [1, 7, 4, 0], [], 425),
  (425, (.aload_n 2 : Instr), [], [], 426),
  (426, (.aload_n 0 : Instr), [], [], 427),
  (427, (.iload_n 3 : Instr), [], [], 428),
  (428, (.iconst (1) : Instr), [], [(1, 0)], 429),
  (429, (.iadd : Instr), [], [], 430),
  (430, (.iaload : Instr), [], [], 431),
  (431, (.aload_n 0 : Instr), [], [], 432),
  (432, (.iload_n 3 : Instr), [], [], 433),
  (433, (.iconst (2) : Instr), [], [(2, 0)], 434),
  (434, (.iadd : Instr), [], [], 435),
  (435, (.iaload : Instr), [], [], 436),
  (436, (.aload_n 0 : Instr), [], [], 437),
  (437, (.iload_n 3 : Instr), [], [], 438),
  (438, (.iconst (3) : Instr), [], [(3, 0)], 439),
  (439, (.iadd : Instr), [], [], 440),
  (440, (.iaload : Instr), [], [], 441),
  (441, (.invokevirtual 43 : Instr), [1, 90, 4, 10], [], 444),
  (444, (.if_icmp .eq (1134) : Instr), [1578], [], 447),
  (447, (.iconst (0) : Instr), [], [(0, 0)], 448),
  (448, (.ireturn : Instr), [1], [], 449),
  (449, (.aload_n 1 : Instr), [], [], 450),
  (450, (.aload_n 0 : Instr), [], [], 451),
  (451, (.iload_n 3 : Instr), [], [], 452),
  (452, (.iconst (1) : Instr), [], [(1, 0)], 453),
  (453, (.iadd : Instr), [], [], 454),
  (454, (.iaload : Instr), [], [], 455),
  (455, (.invokevirtual 44 : Instr), [1, 8, 2, 0], [], 458),
  (458, (.aload_n 2 : Instr), [], [], 459),
  (459, (.aload_n 0 : Instr), [], [], 460),
  (460, (.iload_n 3 : Instr), [], [], 461),
  (461, (.iconst (1) : Instr), [], [(1, 0)], 462),
  (462, (.iadd : Instr), [], [], 463),
  (463, (.iaload : Instr), [], [], 464),
  (464, (.invokevirtual 47 : Instr), [1, 91, 2, 10], [], 467),
  (467, (.if_icmp .eq (1111) : Instr), [1578], [], 470),
  (470, (.iconst (0) : Instr), [], [(0, 0)], 471),
  (471, (.ireturn : Instr), [1], [], 472),
  (472, (.aload_n 1 : Instr), [], [], 473),
  (473, (.aload_n 0 : Instr), [], [], 474)]
def zc_242_6 : List (Nat × zE) := [(474, (.iload_n 3 : Instr), [], [], 475),
  (475, (.iconst (1) : Instr), [], [(1, 0)], 476),
  (476, (.iadd : Instr), [], [], 477),
  (477, (.iaload : Instr), [], [], 478),
  (478, (.aload_n 0 : Instr), [], [], 479),
  (479, (.iload_n 3 : Instr), [], [], 480),
  (480, (.iconst (2) : Instr), [], [(2, 0)], 481),
  (481, (.iadd : Instr), [], [], 482),
  (482, (.iaload : Instr), [], [], 483),
  (483, (.invokevirtual 48 : Instr), [1, 9, 3, 0], [], 486),
  (486, (.aload_n 2 : Instr), [], [], 487),
  (487, (.aload_n 0 : Instr), [], [], 488),
  (488, (.iload_n 3 : Instr), [], [], 489),
  (489, (.iconst (1) : Instr), [], [(1, 0)], 490),
  (490, (.iadd : Instr), [], [], 491),
  (491, (.iaload : Instr), [], [], 492),
  (492, (.aload_n 0 : Instr), [], [], 493),
  (493, (.iload_n 3 : Instr), [], [], 494),
  (494, (.iconst (2) : Instr), [], [(2, 0)], 495),
  (495, (.iadd : Instr), [], [], 496),
  (496, (.iaload : Instr), [], [], 497),
  (497, (.invokevirtual 51 : Instr), [1, 92, 3, 10], [], 500),
  (500, (.if_icmp .eq (1078) : Instr), [1578], [], 503),
  (503, (.iconst (0) : Instr), [], [(0, 0)], 504),
  (504, (.ireturn : Instr), [1], [], 505),
  (505, (.aload_n 1 : Instr), [], [], 506),
  (506, (.aload_n 0 : Instr), [], [], 507),
  (507, (.iload_n 3 : Instr), [], [], 508),
  (508, (.iconst (1) : Instr), [], [(1, 0)], 509),
  (509, (.iadd : Instr), [], [], 510),
  (510, (.iaload : Instr), [], [], 511),
  (511, (.aload_n 0 : Instr), [], [], 512),
  (512, (.iload_n 3 : Instr), [], [], 513),
  (513, (.iconst (2) : Instr), [], [(2, 0)], 514),
  (514, (.iadd : Instr), [], [], 515),
  (515, (.iaload : Instr), [], [], 516),
  (516, (.invokevirtual 52 : Instr), [1, 10, 3, 0], [], 519),
  (519, (.aload_n 2 : Instr), [], [], 520),
  (520, (.aload_n 0 : Instr), [], [], 521),
  (521, (.iload_n 3 : Instr), [], [], 522)]
def zc_242_7 : List (Nat × zE) := [(522, (.iconst (1) : Instr), [], [(1, 0)], 523),
  (523, (.iadd : Instr), [], [], 524),
  (524, (.iaload : Instr), [], [], 525),
  (525, (.aload_n 0 : Instr), [], [], 526),
  (526, (.iload_n 3 : Instr), [], [], 527),
  (527, (.iconst (2) : Instr), [], [(2, 0)], 528),
  (528, (.iadd : Instr), [], [], 529),
  (529, (.iaload : Instr), [], [], 530),
  (530, (.invokevirtual 55 : Instr), [1, 69, 3, 10], [], 533),
  (533, (.if_icmp .eq (1045) : Instr), [1578], [], 536),
  (536, (.iconst (0) : Instr), [], [(0, 0)], 537),
  (537, (.ireturn : Instr), [1], [], 538),
  (538, (.aload_n 1 : Instr), [], [], 539),
  (539, (.aload_n 0 : Instr), [], [], 540),
  (540, (.iload_n 3 : Instr), [], [], 541),
  (541, (.iconst (1) : Instr), [], [(1, 0)], 542),
  (542, (.iadd : Instr), [], [], 543),
  (543, (.iaload : Instr), [], [], 544),
  (544, (.aload_n 0 : Instr), [], [], 545),
  (545, (.iload_n 3 : Instr), [], [], 546),
  (546, (.iconst (2) : Instr), [], [(2, 0)], 547),
  (547, (.iadd : Instr), [], [], 548),
  (548, (.iaload : Instr), [], [], 549),
  (549, (.aload_n 0 : Instr), [], [], 550),
  (550, (.iload_n 3 : Instr), [], [], 551),
  (551, (.iconst (3) : Instr), [], [(3, 0)], 552),
  (552, (.iadd : Instr), [], [], 553),
  (553, (.iaload : Instr), [], [], 554),
  (554, (.invokevirtual 56 : Instr), [1, 11, 4, 0], [], 557),
  (557, (.aload_n 2 : Instr), [], [], 558),
  (558, (.aload_n 0 : Instr), [], [], 559),
  (559, (.iload_n 3 : Instr), [], [], 560),
  (560, (.iconst (1) : Instr), [], [(1, 0)], 561),
  (561, (.iadd : Instr), [], [], 562),
  (562, (.iaload : Instr), [], [], 563),
  (563, (.aload_n 0 : Instr), [], [], 564),
  (564, (.iload_n 3 : Instr), [], [], 565),
  (565, (.iconst (2) : Instr), [], [(2, 0)], 566),
  (566, (.iadd : Instr), [], [], 567),
  (567, (.iaload : Instr), [], [], 568)]
def zc_242_8 : List (Nat × zE) := [(568, (.aload_n 0 : Instr), [], [], 569),
  (569, (.iload_n 3 : Instr), [], [], 570),
  (570, (.iconst (3) : Instr), [], [(3, 0)], 571),
  (571, (.iadd : Instr), [], [], 572),
  (572, (.iaload : Instr), [], [], 573),
  (573, (.invokevirtual 59 : Instr), [1, 71, 4, 10], [], 576),
  (576, (.if_icmp .eq (1002) : Instr), [1578], [], 579),
  (579, (.iconst (0) : Instr), [], [(0, 0)], 580),
  (580, (.ireturn : Instr), [1], [], 581),
  (581, (.aload_n 1 : Instr), [], [], 582),
  (582, (.aload_n 0 : Instr), [], [], 583),
  (583, (.iload_n 3 : Instr), [], [], 584),
  (584, (.iconst (1) : Instr), [], [(1, 0)], 585),
  (585, (.iadd : Instr), [], [], 586),
  (586, (.iaload : Instr), [], [], 587),
  (587, (.aload_n 0 : Instr), [], [], 588),
  (588, (.iload_n 3 : Instr), [], [], 589),
  (589, (.iconst (2) : Instr), [], [(2, 0)], 590),
  (590, (.iadd : Instr), [], [], 591),
  (591, (.iaload : Instr), [], [], 592),
  (592, (.invokevirtual 60 : Instr), [1, 12, 3, 0], [], 595),
  (595, (.aload_n 2 : Instr), [], [], 596),
  (596, (.aload_n 0 : Instr), [], [], 597),
  (597, (.iload_n 3 : Instr), [], [], 598),
  (598, (.iconst (1) : Instr), [], [(1, 0)], 599),
  (599, (.iadd : Instr), [], [], 600),
  (600, (.iaload : Instr), [], [], 601),
  (601, (.aload_n 0 : Instr), [], [], 602),
  (602, (.iload_n 3 : Instr), [], [], 603),
  (603, (.iconst (2) : Instr), [], [(2, 0)], 604),
  (604, (.iadd : Instr), [], [], 605),
  (605, (.iaload : Instr), [], [], 606),
  (606, (.invokevirtual 63 : Instr), [1, 74, 3, 10], [], 609),
  (609, (.if_icmp .eq (969) : Instr), [1578], [], 612),
  (612, (.iconst (0) : Instr), [], [(0, 0)], 613),
  (613, (.ireturn : Instr), [1], [], 614),
  (614, (.aload_n 1 : Instr), [], [], 615),
  (615, (.aload_n 0 : Instr), [], [], 616),
  (616, (.iload_n 3 : Instr), [], [], 617),
  (617, (.iconst (1) : Instr), [], [(1, 0)], 618)]
def zc_242_9 : List (Nat × zE) := [(618, (.iadd : Instr), [], [], 619),
  (619, (.iaload : Instr), [], [], 620),
  (620, (.aload_n 0 : Instr), [], [], 621),
  (621, (.iload_n 3 : Instr), [], [], 622),
  (622, (.iconst (2) : Instr), [], [(2, 0)], 623),
  (623, (.iadd : Instr), [], [], 624),
  (624, (.iaload : Instr), [], [], 625),
  (625, (.invokevirtual 64 : Instr), [1, 13, 3, 0], [], 628),
  (628, (.aload_n 2 : Instr), [], [], 629),
  (629, (.aload_n 0 : Instr), [], [], 630),
  (630, (.iload_n 3 : Instr), [], [], 631),
  (631, (.iconst (1) : Instr), [], [(1, 0)], 632),
  (632, (.iadd : Instr), [], [], 633),
  (633, (.iaload : Instr), [], [], 634),
  (634, (.aload_n 0 : Instr), [], [], 635),
  (635, (.iload_n 3 : Instr), [], [], 636),
  (636, (.iconst (2) : Instr), [], [(2, 0)], 637),
  (637, (.iadd : Instr), [], [], 638),
  (638, (.iaload : Instr), [], [], 639),
  (639, (.invokevirtual 67 : Instr), [1, 75, 3, 10], [], 642),
  (642, (.if_icmp .eq (936) : Instr), [1578], [], 645),
  (645, (.iconst (0) : Instr), [], [(0, 0)], 646),
  (646, (.ireturn : Instr), [1], [], 647),
  (647, (.aload_n 1 : Instr), [], [], 648),
  (648, (.aload_n 0 : Instr), [], [], 649),
  (649, (.iload_n 3 : Instr), [], [], 650),
  (650, (.iconst (1) : Instr), [], [(1, 0)], 651),
  (651, (.iadd : Instr), [], [], 652),
  (652, (.iaload : Instr), [], [], 653),
  (653, (.aload_n 0 : Instr), [], [], 654),
  (654, (.iload_n 3 : Instr), [], [], 655),
  (655, (.iconst (2) : Instr), [], [(2, 0)], 656),
  (656, (.iadd : Instr), [], [], 657),
  (657, (.iaload : Instr), [], [], 658),
  (658, (.invokevirtual 68 : Instr), [1, 14, 3, 0], [], 661),
  (661, (.aload_n 2 : Instr), [], [], 662),
  (662, (.aload_n 0 : Instr), [], [], 663),
  (663, (.iload_n 3 : Instr), [], [], 664),
  (664, (.iconst (1) : Instr), [], [(1, 0)], 665),
  (665, (.iadd : Instr), [], [], 666)]
def zc_242_10 : List (Nat × zE) := [(666, (.iaload : Instr), [], [], 667),
  (667, (.aload_n 0 : Instr), [], [], 668),
  (668, (.iload_n 3 : Instr), [], [], 669),
  (669, (.iconst (2) : Instr), [], [(2, 0)], 670),
  (670, (.iadd : Instr), [], [], 671),
  (671, (.iaload : Instr), [], [], 672),
  (672, (.invokevirtual 71 : Instr), [1, 93, 3, 10], [], 675),
  (675, (.if_icmp .eq (903) : Instr), [1578], [], 678),
  (678, (.iconst (0) : Instr), [], [(0, 0)], 679),
  (679, (.ireturn : Instr), [1], [], 680),
  (680, (.aload_n 1 : Instr), [], [], 681),
  (681, (.aload_n 0 : Instr), [], [], 682),
  (682, (.iload_n 3 : Instr), [], [], 683),
  (683, (.iconst (1) : Instr), [], [(1, 0)], 684),
  (684, (.iadd : Instr), [], [], 685),
  (685, (.iaload : Instr), [], [], 686),
  (686, (.aload_n 0 : Instr), [], [], 687),
  (687, (.iload_n 3 : Instr), [], [], 688),
  (688, (.iconst (2) : Instr), [], [(2, 0)], 689),
  (689, (.iadd : Instr), [], [], 690),
  (690, (.iaload : Instr), [], [], 691),
  (691, (.invokevirtual 72 : Instr), [1, 15, 3, 0], [], 694),
  (694, (.aload_n 2 : Instr), [], [], 695),
  (695, (.aload_n 0 : Instr), [], [], 696),
  (696, (.iload_n 3 : Instr), [], [], 697),
  (697, (.iconst (1) : Instr), [], [(1, 0)], 698),
  (698, (.iadd : Instr), [], [], 699),
  (699, (.iaload : Instr), [], [], 700),
  (700, (.aload_n 0 : Instr), [], [], 701),
  (701, (.iload_n 3 : Instr), [], [], 702),
  (702, (.iconst (2) : Instr), [], [(2, 0)], 703),
  (703, (.iadd : Instr), [], [], 704),
  (704, (.iaload : Instr), [], [], 705),
  (705, (.invokevirtual 75 : Instr), [1, 94, 3, 10], [], 708),
  (708, (.if_icmp .eq (870) : Instr), [1578], [], 711),
  (711, (.iconst (0) : Instr), [], [(0, 0)], 712),
  (712, (.ireturn : Instr), [1], [], 713),
  (713, (.aload_n 1 : Instr), [], [], 714),
  (714, (.aload_n 0 : Instr), [], [], 715),
  (715, (.iload_n 3 : Instr), [], [], 716)]
def zc_242_11 : List (Nat × zE) := [(716, (.iconst (1) : Instr), [], [(1, 0)], 717),
  (717, (.iadd : Instr), [], [], 718),
  (718, (.iaload : Instr), [], [], 719),
  (719, (.aload_n 0 : Instr), [], [], 720),
  (720, (.iload_n 3 : Instr), [], [], 721),
  (721, (.iconst (2) : Instr), [], [(2, 0)], 722),
  (722, (.iadd : Instr), [], [], 723),
  (723, (.iaload : Instr), [], [], 724),
  (724, (.aload_n 0 : Instr), [], [], 725),
  (725, (.iload_n 3 : Instr), [], [], 726),
  (726, (.iconst (3) : Instr), [], [(3, 0)], 727),
  (727, (.iadd : Instr), [], [], 728),
  (728, (.iaload : Instr), [], [], 729),
  (729, (.invokevirtual 76 : Instr), [1, 16, 4, 0], [], 732),
  (732, (.aload_n 2 : Instr), [], [], 733),
  (733, (.aload_n 0 : Instr), [], [], 734),
  (734, (.iload_n 3 : Instr), [], [], 735),
  (735, (.iconst (1) : Instr), [], [(1, 0)], 736),
  (736, (.iadd : Instr), [], [], 737),
  (737, (.iaload : Instr), [], [], 738),
  (738, (.aload_n 0 : Instr), [], [], 739),
  (739, (.iload_n 3 : Instr), [], [], 740),
  (740, (.iconst (2) : Instr), [], [(2, 0)], 741),
  (741, (.iadd : Instr), [], [], 742),
  (742, (.iaload : Instr), [], [], 743),
  (743, (.aload_n 0 : Instr), [], [], 744),
  (744, (.iload_n 3 : Instr), [], [], 745),
  (745, (.iconst (3) : Instr), [], [(3, 0)], 746),
  (746, (.iadd : Instr), [], [], 747),
  (747, (.iaload : Instr), [], [], 748),
  (748, (.invokevirtual 79 : Instr), [1, 57, 4, 10], [], 751),
  (751, (.if_icmp .eq (827) : Instr), [1578], [], 754),
  (754, (.iconst (0) : Instr), [], [(0, 0)], 755),
  (755, (.ireturn : Instr), [1], [], 756),
  (756, (.aload_n 1 : Instr), [], [], 757),
  (757, (.aload_n 0 : Instr), [], [], 758),
  (758, (.iload_n 3 : Instr), [], [], 759),
  (759, (.iconst (1) : Instr), [], [(1, 0)], 760),
  (760, (.iadd : Instr), [], [], 761),
  (761, (.iaload : Instr), [], [], 762)]
def zc_242_12 : List (Nat × zE) := [(762, (.invokevirtual 80 : Instr), [1, 17, 2, 0], [], 765),
  (765, (.aload_n 2 : Instr), [], [], 766),
  (766, (.aload_n 0 : Instr), [], [], 767),
  (767, (.iload_n 3 : Instr), [], [], 768),
  (768, (.iconst (1) : Instr), [], [(1, 0)], 769),
  (769, (.iadd : Instr), [], [], 770),
  (770, (.iaload : Instr), [], [], 771),
  (771, (.invokevirtual 83 : Instr), [1, 95, 2, 10], [], 774),
  (774, (.if_icmp .eq (804) : Instr), [1578], [], 777),
  (777, (.iconst (0) : Instr), [], [(0, 0)], 778),
  (778, (.ireturn : Instr), [1], [], 779),
  (779, (.aload_n 1 : Instr), [], [], 780),
  (780, (.aload_n 0 : Instr), [], [], 781),
  (781, (.iload_n 3 : Instr), [], [], 782),
  (782, (.iconst (1) : Instr), [], [(1, 0)], 783),
  (783, (.iadd : Instr), [], [], 784),
  (784, (.iaload : Instr), [], [], 785),
  (785, (.invokevirtual 84 : Instr), [1, 18, 2, 0], [], 788),
  (788, (.aload_n 2 : Instr), [], [], 789),
  (789, (.aload_n 0 : Instr), [], [], 790),
  (790, (.iload_n 3 : Instr), [], [], 791),
  (791, (.iconst (1) : Instr), [], [(1, 0)], 792),
  (792, (.iadd : Instr), [], [], 793),
  (793, (.iaload : Instr), [], [], 794),
  (794, (.invokevirtual 87 : Instr), [1, 96, 2, 10], [], 797),
  (797, (.if_icmp .eq (781) : Instr), [1578], [], 800),
  (800, (.iconst (0) : Instr), [], [(0, 0)], 801),
  (801, (.ireturn : Instr), [1], [], 802),
  (802, (.aload_n 1 : Instr), [], [], 803),
  (803, (.aload_n 0 : Instr), [], [], 804),
  (804, (.iload_n 3 : Instr), [], [], 805),
  (805, (.iconst (1) : Instr), [], [(1, 0)], 806),
  (806, (.iadd : Instr), [], [], 807),
  (807, (.iaload : Instr), [], [], 808),
  (808, (.invokevirtual 88 : Instr), [1, 19, 2, 0], [], 811),
  (811, (.aload_n 2 : Instr), [], [], 812),
  (812, (.aload_n 0 : Instr), [], [], 813),
  (813, (.iload_n 3 : Instr), [], [], 814),
  (814, (.iconst (1) : Instr), [], [(1, 0)], 815),
  (815, (.iadd : Instr), [], [], 816)]
def zc_242_13 : List (Nat × zE) := [(816, (.iaload : Instr), [], [], 817),
  (817, (.invokevirtual 91 : Instr), [1, 97, 2, 10], [], 820),
  (820, (.if_icmp .eq (758) : Instr), [1578], [], 823),
  (823, (.iconst (0) : Instr), [], [(0, 0)], 824),
  (824, (.ireturn : Instr), [1], [], 825),
  (825, (.aload_n 1 : Instr), [], [], 826),
  (826, (.aload_n 0 : Instr), [], [], 827),
  (827, (.iload_n 3 : Instr), [], [], 828),
  (828, (.iconst (1) : Instr), [], [(1, 0)], 829),
  (829, (.iadd : Instr), [], [], 830),
  (830, (.iaload : Instr), [], [], 831),
  (831, (.i2l : Instr), [], [], 832),
  (832, (.bipush (32) : Instr), [], [(32, 0)], 834),
  (834, (.lshl : Instr), [], [], 835),
  (835, (.aload_n 0 : Instr), [], [], 836),
  (836, (.iload_n 3 : Instr), [], [], 837),
  (837, (.iconst (2) : Instr), [], [(2, 0)], 838),
  (838, (.iadd : Instr), [], [], 839),
  (839, (.iaload : Instr), [], [], 840),
  (840, (.i2l : Instr), [], [], 841),
  (841, (.ldc2_w 92 : Instr), [], [(4294967295, 0)], 844),
  (844, (.land : Instr), [], [], 845),
  (845, (.lor : Instr), [], [], 846),
  (846, (.aload_n 0 : Instr), [], [], 847),
  (847, (.iload_n 3 : Instr), [], [], 848),
  (848, (.iconst (3) : Instr), [], [(3, 0)], 849),
  (849, (.iadd : Instr), [], [], 850),
  (850, (.iaload : Instr), [], [], 851),
  (851, (.invokevirtual 94 : Instr), [1, 20, 3, 0], [], 854),
  (854, (.aload_n 2 : Instr), [], [], 855),
  (855, (.aload_n 0 : Instr), [], [], 856),
  (856, (.iload_n 3 : Instr), [], [], 857),
  (857, (.iconst (1) : Instr), [], [(1, 0)], 858),
  (858, (.iadd : Instr), [], [], 859),
  (859, (.iaload : Instr), [], [], 860),
  (860, (.i2l : Instr), [], [], 861),
  (861, (.bipush (32) : Instr), [], [(32, 0)], 863),
  (863, (.lshl : Instr), [], [], 864),
  (864, (.aload_n 0 : Instr), [], [], 865),
  (865, (.iload_n 3 : Instr), [], [], 866)]
def zc_242_14 : List (Nat × zE) := [(866, (.iconst (2) : Instr), [], [(2, 0)], 867),
  (867, (.iadd : Instr), [], [], 868),
  (868, (.iaload : Instr), [], [], 869),
  (869, (.i2l : Instr), [], [], 870),
  (870, (.ldc2_w 92 : Instr), [], [(4294967295, 0)], 873),
  (873, (.land : Instr), [], [], 874),
  (874, (.lor : Instr), [], [], 875),
  (875, (.aload_n 0 : Instr), [], [], 876),
  (876, (.iload_n 3 : Instr), [], [], 877),
  (877, (.iconst (3) : Instr), [], [(3, 0)], 878),
  (878, (.iadd : Instr), [], [], 879),
  (879, (.iaload : Instr), [], [], 880),
  (880, (.invokevirtual 98 : Instr), [1, 98, 3, 10], [], 883),
  (883, (.if_icmp .eq (695) : Instr), [1578], [], 886),
  (886, (.iconst (0) : Instr), [], [(0, 0)], 887),
  (887, (.ireturn : Instr), [1], [], 888),
  (888, (.aload_n 1 : Instr), [], [], 889),
  (889, (.invokevirtual 99 : Instr), [1, 21, 1, 0], [], 892),
  (892, (.aload_n 2 : Instr), [], [], 893),
  (893, (.invokevirtual 103 : Instr), [1, 102, 1, 10], [], 896),
  (896, (.if_icmp .eq (682) : Instr), [1578], [], 899),
  (899, (.iconst (0) : Instr), [], [(0, 0)], 900),
  (900, (.ireturn : Instr), [1], [], 901),
  (901, (.aload_n 1 : Instr), [], [], 902),
  (902, (.aload_n 0 : Instr), [], [], 903),
  (903, (.iload_n 3 : Instr), [], [], 904),
  (904, (.iconst (1) : Instr), [], [(1, 0)], 905),
  (905, (.iadd : Instr), [], [], 906),
  (906, (.iaload : Instr), [], [], 907),
  (907, (.aload_n 0 : Instr), [], [], 908),
  (908, (.iload_n 3 : Instr), [], [], 909),
  (909, (.iconst (2) : Instr), [], [(2, 0)], 910),
  (910, (.iadd : Instr), [], [], 911),
  (911, (.iaload : Instr), [], [], 912),
  (912, (.aload_n 0 : Instr), [], [], 913),
  (913, (.iload_n 3 : Instr), [], [], 914),
  (914, (.iconst (3) : Instr), [], [(3, 0)], 915),
  (915, (.iadd : Instr), [], [], 916),
  (916, (.iaload : Instr), [], [], 917),
  (917, (.invokevirtual 104 : Instr), [1, 22, 4, 0], [], 920)]
def zc_242_15 : List (Nat × zE) := [(920, (.aload_n 2 : Instr), [], [], 921),
  (921, (.aload_n 0 : Instr), [], [], 922),
  (922, (.iload_n 3 : Instr), [], [], 923),
  (923, (.iconst (1) : Instr), [], [(1, 0)], 924),
  (924, (.iadd : Instr), [], [], 925),
  (925, (.iaload : Instr), [], [], 926),
  (926, (.aload_n 0 : Instr), [], [], 927),
  (927, (.iload_n 3 : Instr), [], [], 928),
  (928, (.iconst (2) : Instr), [], [(2, 0)], 929),
  (929, (.iadd : Instr), [], [], 930),
  (930, (.iaload : Instr), [], [], 931),
  (931, (.aload_n 0 : Instr), [], [], 932),
  (932, (.iload_n 3 : Instr), [], [], 933),
  (933, (.iconst (3) : Instr), [], [(3, 0)], 934),
  (934, (.iadd : Instr), [], [], 935),
  (935, (.iaload : Instr), [], [], 936),
  (936, (.invokevirtual 107 : Instr), [1, 104, 4, 10], [], 939),
  (939, (.if_icmp .eq (639) : Instr), [1578], [], 942),
  (942, (.iconst (0) : Instr), [], [(0, 0)], 943),
  (943, (.ireturn : Instr), [1], [], 944),
  (944, (.aload_n 1 : Instr), [], [], 945),
  (945, (.aload_n 0 : Instr), [], [], 946),
  (946, (.iload_n 3 : Instr), [], [], 947),
  (947, (.iconst (1) : Instr), [], [(1, 0)], 948),
  (948, (.iadd : Instr), [], [], 949),
  (949, (.iaload : Instr), [], [], 950),
  (950, (.aload_n 0 : Instr), [], [], 951),
  (951, (.iload_n 3 : Instr), [], [], 952),
  (952, (.iconst (2) : Instr), [], [(2, 0)], 953),
  (953, (.iadd : Instr), [], [], 954),
  (954, (.iaload : Instr), [], [], 955),
  (955, (.aload_n 0 : Instr), [], [], 956),
  (956, (.iload_n 3 : Instr), [], [], 957),
  (957, (.iconst (3) : Instr), [], [(3, 0)], 958),
  (958, (.iadd : Instr), [], [], 959),
  (959, (.iaload : Instr), [], [], 960),
  (960, (.invokevirtual 108 : Instr), [1, 23, 4, 0], [], 963),
  (963, (.aload_n 2 : Instr), [], [], 964),
  (964, (.aload_n 0 : Instr), [], [], 965),
  (965, (.iload_n 3 : Instr), [], [], 966)]
def zc_242_16 : List (Nat × zE) := [(966, (.iconst (1) : Instr), [], [(1, 0)], 967),
  (967, (.iadd : Instr), [], [], 968),
  (968, (.iaload : Instr), [], [], 969),
  (969, (.aload_n 0 : Instr), [], [], 970),
  (970, (.iload_n 3 : Instr), [], [], 971),
  (971, (.iconst (2) : Instr), [], [(2, 0)], 972),
  (972, (.iadd : Instr), [], [], 973),
  (973, (.iaload : Instr), [], [], 974),
  (974, (.aload_n 0 : Instr), [], [], 975),
  (975, (.iload_n 3 : Instr), [], [], 976),
  (976, (.iconst (3) : Instr), [], [(3, 0)], 977),
  (977, (.iadd : Instr), [], [], 978),
  (978, (.iaload : Instr), [], [], 979),
  (979, (.invokevirtual 111 : Instr), [1, 108, 4, 10], [], 982),
  (982, (.if_icmp .eq (596) : Instr), [1578], [], 985),
  (985, (.iconst (0) : Instr), [], [(0, 0)], 986),
  (986, (.ireturn : Instr), [1], [], 987),
  (987, (.aload_n 1 : Instr), [], [], 988),
  (988, (.aload_n 0 : Instr), [], [], 989),
  (989, (.iload_n 3 : Instr), [], [], 990),
  (990, (.iconst (1) : Instr), [], [(1, 0)], 991),
  (991, (.iadd : Instr), [], [], 992),
  (992, (.iaload : Instr), [], [], 993),
  (993, (.aload_n 0 : Instr), [], [], 994),
  (994, (.iload_n 3 : Instr), [], [], 995),
  (995, (.iconst (2) : Instr), [], [(2, 0)], 996),
  (996, (.iadd : Instr), [], [], 997),
  (997, (.iaload : Instr), [], [], 998),
  (998, (.invokevirtual 112 : Instr), [1, 24, 3, 0], [], 1001),
  (1001, (.aload_n 2 : Instr), [], [], 1002),
  (1002, (.aload_n 0 : Instr), [], [], 1003),
  (1003, (.iload_n 3 : Instr), [], [], 1004),
  (1004, (.iconst (1) : Instr), [], [(1, 0)], 1005),
  (1005, (.iadd : Instr), [], [], 1006),
  (1006, (.iaload : Instr), [], [], 1007),
  (1007, (.aload_n 0 : Instr), [], [], 1008),
  (1008, (.iload_n 3 : Instr), [], [], 1009),
  (1009, (.iconst (2) : Instr), [], [(2, 0)], 1010),
  (1010, (.iadd : Instr), [], [], 1011),
  (1011, (.iaload : Instr), [], [], 1012)]
def zc_242_17 : List (Nat × zE) := [(1012, (.invokevirtual 115 : Instr), [1, 109, 3, 10], [], 1015),
  (1015, (.if_icmp .eq (563) : Instr), [1578], [], 1018),
  (1018, (.iconst (0) : Instr), [], [(0, 0)], 1019),
  (1019, (.ireturn : Instr), [1], [], 1020),
  (1020, (.aload_n 1 : Instr), [], [], 1021),
  (1021, (.aload_n 0 : Instr), [], [], 1022),
  (1022, (.iload_n 3 : Instr), [], [], 1023),
  (1023, (.iconst (1) : Instr), [], [(1, 0)], 1024),
  (1024, (.iadd : Instr), [], [], 1025),
  (1025, (.iaload : Instr), [], [], 1026),
  (1026, (.aload_n 0 : Instr), [], [], 1027),
  (1027, (.iload_n 3 : Instr), [], [], 1028),
  (1028, (.iconst (2) : Instr), [], [(2, 0)], 1029),
  (1029, (.iadd : Instr), [], [], 1030),
  (1030, (.iaload : Instr), [], [], 1031),
  (1031, (.invokevirtual 116 : Instr), [1, 25, 3, 0], [], 1034),
  (1034, (.aload_n 2 : Instr), [], [], 1035),
  (1035, (.aload_n 0 : Instr), [], [], 1036),
  (1036, (.iload_n 3 : Instr), [], [], 1037),
  (1037, (.iconst (1) : Instr), [], [(1, 0)], 1038),
  (1038, (.iadd : Instr), [], [], 1039),
  (1039, (.iaload : Instr), [], [], 1040),
  (1040, (.aload_n 0 : Instr), [], [], 1041),
  (1041, (.iload_n 3 : Instr), [], [], 1042),
  (1042, (.iconst (2) : Instr), [], [(2, 0)], 1043),
  (1043, (.iadd : Instr), [], [], 1044),
  (1044, (.iaload : Instr), [], [], 1045),
  (1045, (.invokevirtual 119 : Instr), [1, 110, 3, 10], [], 1048),
  (1048, (.if_icmp .eq (530) : Instr), [1578], [], 1051),
  (1051, (.iconst (0) : Instr), [], [(0, 0)], 1052),
  (1052, (.ireturn : Instr), [1], [], 1053),
  (1053, (.aload_n 1 : Instr), [], [], 1054),
  (1054, (.aload_n 0 : Instr), [], [], 1055),
  (1055, (.iload_n 3 : Instr), [], [], 1056),
  (1056, (.iconst (1) : Instr), [], [(1, 0)], 1057),
  (1057, (.iadd : Instr), [], [], 1058),
  (1058, (.iaload : Instr), [], [], 1059),
  (1059, (.invokevirtual 120 : Instr), [1, 26, 2, 0], [], 1062),
  (1062, (.aload_n 2 : Instr), [], [], 1063),
  (1063, (.aload_n 0 : Instr), [], [], 1064)]
def zc_242_18 : List (Nat × zE) := [(1064, (.iload_n 3 : Instr), [], [], 1065),
  (1065, (.iconst (1) : Instr), [], [(1, 0)], 1066),
  (1066, (.iadd : Instr), [], [], 1067),
  (1067, (.iaload : Instr), [], [], 1068),
  (1068, (.invokevirtual 123 : Instr), [1, 113, 2, 10], [], 1071),
  (1071, (.if_icmp .eq (507) : Instr), [1578], [], 1074),
  (1074, (.iconst (0) : Instr), [], [(0, 0)], 1075),
  (1075, (.ireturn : Instr), [1], [], 1076),
  (1076, (.aload_n 1 : Instr), [], [], 1077),
  (1077, (.aload_n 0 : Instr), [], [], 1078),
  (1078, (.iload_n 3 : Instr), [], [], 1079),
  (1079, (.iconst (1) : Instr), [], [(1, 0)], 1080),
  (1080, (.iadd : Instr), [], [], 1081),
  (1081, (.iaload : Instr), [], [], 1082),
  (1082, (.invokevirtual 124 : Instr), [1, 27, 2, 0], [], 1085),
  (1085, (.aload_n 2 : Instr), [], [], 1086),
  (1086, (.aload_n 0 : Instr), [], [], 1087),
  (1087, (.iload_n 3 : Instr), [], [], 1088),
  (1088, (.iconst (1) : Instr), [], [(1, 0)], 1089),
  (1089, (.iadd : Instr), [], [], 1090),
  (1090, (.iaload : Instr), [], [], 1091),
  (1091, (.invokevirtual 127 : Instr), [1, 114, 2, 10], [], 1094),
  (1094, (.if_icmp .eq (484) : Instr), [1578], [], 1097),
  (1097, (.iconst (0) : Instr), [], [(0, 0)], 1098),
  (1098, (.ireturn : Instr), [1], [], 1099),
  (1099, (.aload_n 1 : Instr), [], [], 1100),
  (1100, (.aload_n 0 : Instr), [], [], 1101),
  (1101, (.iload_n 3 : Instr), [], [], 1102),
  (1102, (.iconst (1) : Instr), [], [(1, 0)], 1103),
  (1103, (.iadd : Instr), [], [], 1104),
  (1104, (.iaload : Instr), [], [], 1105),
  (1105, (.aload_n 0 : Instr), [], [], 1106),
  (1106, (.iload_n 3 : Instr), [], [], 1107),
  (1107, (.iconst (2) : Instr), [], [(2, 0)], 1108),
  (1108, (.iadd : Instr), [], [], 1109),
  (1109, (.iaload : Instr), [], [], 1110),
  (1110, (.aload_n 0 : Instr), [], [], 1111),
  (1111, (.iload_n 3 : Instr), [], [], 1112),
  (1112, (.iconst (3) : Instr), [], [(3, 0)], 1113),
  (1113, (.iadd : Instr), [], [], 1114)]
def zc_242_19 : List (Nat × zE) := [(1114, (.iaload : Instr), [], [], 1115),
  (1115, (.aload_n 0 : Instr), [], [], 1116),
  (1116, (.iload_n 3 : Instr), [], [], 1117),
  (1117, (.iconst (4) : Instr), [], [(4, 0)], 1118),
  (1118, (.iadd : Instr), [], [], 1119),
  (1119, (.iaload : Instr), [], [], 1120),
  (1120, (.aload_n 0 : Instr), [], [], 1121),
  (1121, (.iload_n 3 : Instr), [], [], 1122),
  (1122, (.iconst (5) : Instr), [], [(5, 0)], 1123),
  (1123, (.iadd : Instr), [], [], 1124),
  (1124, (.iaload : Instr), [], [], 1125),
  (1125, (.invokevirtual 128 : Instr), [1, 28, 6, 0], [], 1128),
  (1128, (.aload_n 2 : Instr), [], [], 1129),
  (1129, (.aload_n 0 : Instr), [], [], 1130),
  (1130, (.iload_n 3 : Instr), [], [], 1131),
  (1131, (.iconst (1) : Instr), [], [(1, 0)], 1132),
  (1132, (.iadd : Instr), [], [], 1133),
  (1133, (.iaload : Instr), [], [], 1134),
  (1134, (.aload_n 0 : Instr), [], [], 1135),
  (1135, (.iload_n 3 : Instr), [], [], 1136),
  (1136, (.iconst (2) : Instr), [], [(2, 0)], 1137),
  (1137, (.iadd : Instr), [], [], 1138),
  (1138, (.iaload : Instr), [], [], 1139),
  (1139, (.aload_n 0 : Instr), [], [], 1140),
  (1140, (.iload_n 3 : Instr), [], [], 1141),
  (1141, (.iconst (3) : Instr), [], [(3, 0)], 1142),
  (1142, (.iadd : Instr), [], [], 1143),
  (1143, (.iaload : Instr), [], [], 1144),
  (1144, (.aload_n 0 : Instr), [], [], 1145),
  (1145, (.iload_n 3 : Instr), [], [], 1146),
  (1146, (.iconst (4) : Instr), [], [(4, 0)], 1147),
  (1147, (.iadd : Instr), [], [], 1148),
  (1148, (.iaload : Instr), [], [], 1149),
  (1149, (.aload_n 0 : Instr), [], [], 1150),
  (1150, (.iload_n 3 : Instr), [], [], 1151),
  (1151, (.iconst (5) : Instr), [], [(5, 0)], 1152),
  (1152, (.iadd : Instr), [], [], 1153),
  (1153, (.iaload : Instr), [], [], 1154),
  (1154, (.invokevirtual 132 : Instr), [1, 123, 6, 10], [], 1157),
  (1157, (.if_icmp .eq (421) : Instr), [1578], [], 1160)]
def zc_242_20 : List (Nat × zE) := [(1160, (.iconst (0) : Instr), [], [(0, 0)], 1161),
  (1161, (.ireturn : Instr), [1], [], 1162),
  (1162, (.aload_n 1 : Instr), [], [], 1163),
  (1163, (.aload_n 0 : Instr), [], [], 1164),
  (1164, (.iload_n 3 : Instr), [], [], 1165),
  (1165, (.iconst (1) : Instr), [], [(1, 0)], 1166),
  (1166, (.iadd : Instr), [], [], 1167),
  (1167, (.iaload : Instr), [], [], 1168),
  (1168, (.aload_n 0 : Instr), [], [], 1169),
  (1169, (.iload_n 3 : Instr), [], [], 1170),
  (1170, (.iconst (2) : Instr), [], [(2, 0)], 1171),
  (1171, (.iadd : Instr), [], [], 1172),
  (1172, (.iaload : Instr), [], [], 1173),
  (1173, (.invokevirtual 133 : Instr), [1, 29, 3, 0], [], 1176),
  (1176, (.aload_n 2 : Instr), [], [], 1177),
  (1177, (.aload_n 0 : Instr), [], [], 1178),
  (1178, (.iload_n 3 : Instr), [], [], 1179),
  (1179, (.iconst (1) : Instr), [], [(1, 0)], 1180),
  (1180, (.iadd : Instr), [], [], 1181),
  (1181, (.iaload : Instr), [], [], 1182),
  (1182, (.aload_n 0 : Instr), [], [], 1183),
  (1183, (.iload_n 3 : Instr), [], [], 1184),
  (1184, (.iconst (2) : Instr), [], [(2, 0)], 1185),
  (1185, (.iadd : Instr), [], [], 1186),
  (1186, (.iaload : Instr), [], [], 1187),
  (1187, (.invokevirtual 136 : Instr), [1, 124, 3, 10], [], 1190),
  (1190, (.if_icmp .eq (388) : Instr), [1578], [], 1193),
  (1193, (.iconst (0) : Instr), [], [(0, 0)], 1194),
  (1194, (.ireturn : Instr), [1], [], 1195),
  (1195, (.aload_n 1 : Instr), [], [], 1196),
  (1196, (.aload_n 0 : Instr), [], [], 1197),
  (1197, (.iload_n 3 : Instr), [], [], 1198),
  (1198, (.iconst (1) : Instr), [], [(1, 0)], 1199),
  (1199, (.iadd : Instr), [], [], 1200),
  (1200, (.iaload : Instr), [], [], 1201),
  (1201, (.invokevirtual 137 : Instr), [1, 30, 2, 0], [], 1204),
  (1204, (.aload_n 2 : Instr), [], [], 1205),
  (1205, (.aload_n 0 : Instr), [], [], 1206),
  (1206, (.iload_n 3 : Instr), [], [], 1207),
  (1207, (.iconst (1) : Instr), [], [(1, 0)], 1208)]
def zc_242_21 : List (Nat × zE) := [(1208, (.iadd : Instr), [], [], 1209),
  (1209, (.iaload : Instr), [], [], 1210),
  (1210, (.invokevirtual 140 : Instr), [1, 125, 2, 10], [], 1213),
  (1213, (.if_icmp .eq (365) : Instr), [1578], [], 1216),
  (1216, (.iconst (0) : Instr), [], [(0, 0)], 1217),
  (1217, (.ireturn : Instr), [1], [], 1218),
  (1218, (.aload_n 1 : Instr), [], [], 1219),
  (1219, (.aload_n 0 : Instr), [], [], 1220),
  (1220, (.iload_n 3 : Instr), [], [], 1221),
  (1221, (.iconst (1) : Instr), [], [(1, 0)], 1222),
  (1222, (.iadd : Instr), [], [], 1223),
  (1223, (.iaload : Instr), [], [], 1224),
  (1224, (.aload_n 0 : Instr), [], [], 1225),
  (1225, (.iload_n 3 : Instr), [], [], 1226),
  (1226, (.iconst (2) : Instr), [], [(2, 0)], 1227),
  (1227, (.iadd : Instr), [], [], 1228),
  (1228, (.iaload : Instr), [], [], 1229),
  (1229, (.aload_n 0 : Instr), [], [], 1230),
  (1230, (.iload_n 3 : Instr), [], [], 1231),
  (1231, (.iconst (3) : Instr), [], [(3, 0)], 1232),
  (1232, (.iadd : Instr), [], [], 1233),
  (1233, (.iaload : Instr), [], [], 1234),
  (1234, (.invokevirtual 141 : Instr), [1, 31, 4, 0], [], 1237),
  (1237, (.aload_n 2 : Instr), [], [], 1238),
  (1238, (.aload_n 0 : Instr), [], [], 1239),
  (1239, (.iload_n 3 : Instr), [], [], 1240),
  (1240, (.iconst (1) : Instr), [], [(1, 0)], 1241),
  (1241, (.iadd : Instr), [], [], 1242),
  (1242, (.iaload : Instr), [], [], 1243),
  (1243, (.aload_n 0 : Instr), [], [], 1244),
  (1244, (.iload_n 3 : Instr), [], [], 1245),
  (1245, (.iconst (2) : Instr), [], [(2, 0)], 1246),
  (1246, (.iadd : Instr), [], [], 1247),
  (1247, (.iaload : Instr), [], [], 1248),
  (1248, (.aload_n 0 : Instr), [], [], 1249),
  (1249, (.iload_n 3 : Instr), [], [], 1250),
  (1250, (.iconst (3) : Instr), [], [(3, 0)], 1251),
  (1251, (.iadd : Instr), [], [], 1252),
  (1252, (.iaload : Instr), [], [], 1253),
  (1253, (.invokevirtual 144 : Instr), [1, 126, 4, 10], [], 1256)]
def zc_242_22 : List (Nat × zE) := [(1256, (.if_icmp .eq (322) : Instr), [1578], [], 1259),
  (1259, (.iconst (0) : Instr), [], [(0, 0)], 1260),
  (1260, (.ireturn : Instr), [1], [], 1261),
  (1261, (.aload_n 1 : Instr), [], [], 1262),
  (1262, (.invokevirtual 145 : Instr), [1, 32, 1, 0], [], 1265),
  (1265, (.aload_n 2 : Instr), [], [], 1266),
  (1266, (.invokevirtual 148 : Instr), [1, 127, 1, 10], [], 1269),
  (1269, (.if_icmp .eq (309) : Instr), [1578], [], 1272),
  (1272, (.iconst (0) : Instr), [], [(0, 0)], 1273),
  (1273, (.ireturn : Instr), [1], [], 1274),
  (1274, (.aload_n 1 : Instr), [], [], 1275),
  (1275, (.aload_n 0 : Instr), [], [], 1276),
  (1276, (.iload_n 3 : Instr), [], [], 1277),
  (1277, (.iconst (1) : Instr), [], [(1, 0)], 1278),
  (1278, (.iadd : Instr), [], [], 1279),
  (1279, (.iaload : Instr), [], [], 1280),
  (1280, (.aload_n 0 : Instr), [], [], 1281),
  (1281, (.iload_n 3 : Instr), [], [], 1282),
  (1282, (.iconst (2) : Instr), [], [(2, 0)], 1283),
  (1283, (.iadd : Instr), [], [], 1284),
  (1284, (.iaload : Instr), [], [], 1285),
  (1285, (.aload_n 0 : Instr), [], [], 1286),
  (1286, (.iload_n 3 : Instr), [], [], 1287),
  (1287, (.iconst (3) : Instr), [], [(3, 0)], 1288),
  (1288, (.iadd : Instr), [], [], 1289),
  (1289, (.iaload : Instr), [], [], 1290),
  (1290, (.invokevirtual 149 : Instr), [1, 33, 4, 0], [], 1293),
  (1293, (.aload_n 2 : Instr), [], [], 1294),
  (1294, (.aload_n 0 : Instr), [], [], 1295),
  (1295, (.iload_n 3 : Instr), [], [], 1296),
  (1296, (.iconst (1) : Instr), [], [(1, 0)], 1297),
  (1297, (.iadd : Instr), [], [], 1298),
  (1298, (.iaload : Instr), [], [], 1299),
  (1299, (.aload_n 0 : Instr), [], [], 1300),
  (1300, (.iload_n 3 : Instr), [], [], 1301),
  (1301, (.iconst (2) : Instr), [], [(2, 0)], 1302),
  (1302, (.iadd : Instr), [], [], 1303),
  (1303, (.iaload : Instr), [], [], 1304),
  (1304, (.aload_n 0 : Instr), [], [], 1305),
  (1305, (.iload_n 3 : Instr), [], [], 1306)]
def zc_242_23 : List (Nat × zE) := [(1306, (.iconst (3) : Instr), [], [(3, 0)], 1307),
  (1307, (.iadd : Instr), [], [], 1308),
  (1308, (.iaload : Instr), [], [], 1309),
  (1309, (.invokevirtual 152 : Instr), [1, 128, 4, 10], [], 1312),
  (1312, (.if_icmp .eq (266) : Instr), [1578], [], 1315),
  (1315, (.iconst (0) : Instr), [], [(0, 0)], 1316),
  (1316, (.ireturn : Instr), [1], [], 1317),
  (1317, (.aload_n 1 : Instr), [], [], 1318),
  (1318, (.invokevirtual 153 : Instr), [1, 34, 1, 0], [], 1321),
  (1321, (.aload_n 2 : Instr), [], [], 1322),
  (1322, (.invokevirtual 156 : Instr), [1, 129, 1, 10], [], 1325),
  (1325, (.if_icmp .eq (253) : Instr), [1578], [], 1328),
  (1328, (.iconst (0) : Instr), [], [(0, 0)], 1329),
  (1329, (.ireturn : Instr), [1], [], 1330),
  (1330, (.aload_n 1 : Instr), [], [], 1331),
  (1331, (.invokevirtual 157 : Instr), [1, 35, 1, 0], [], 1334),
  (1334, (.aload_n 2 : Instr), [], [], 1335),
  (1335, (.invokevirtual 160 : Instr), [1, 130, 1, 10], [], 1338),
  (1338, (.if_icmp .eq (240) : Instr), [1578], [], 1341),
  (1341, (.iconst (0) : Instr), [], [(0, 0)], 1342),
  (1342, (.ireturn : Instr), [1], [], 1343),
  (1343, (.aload_n 1 : Instr), [], [], 1344),
  (1344, (.aload_n 0 : Instr), [], [], 1345),
  (1345, (.iload_n 3 : Instr), [], [], 1346),
  (1346, (.iconst (1) : Instr), [], [(1, 0)], 1347),
  (1347, (.iadd : Instr), [], [], 1348),
  (1348, (.iaload : Instr), [], [], 1349),
  (1349, (.aload_n 0 : Instr), [], [], 1350),
  (1350, (.iload_n 3 : Instr), [], [], 1351),
  (1351, (.iconst (2) : Instr), [], [(2, 0)], 1352),
  (1352, (.iadd : Instr), [], [], 1353),
  (1353, (.iaload : Instr), [], [], 1354),
  (1354, (.aload_n 0 : Instr), [], [], 1355),
  (1355, (.iload_n 3 : Instr), [], [], 1356),
  (1356, (.iconst (3) : Instr), [], [(3, 0)], 1357),
  (1357, (.iadd : Instr), [], [], 1358),
  (1358, (.iaload : Instr), [], [], 1359),
  (1359, (.invokevirtual 161 : Instr), [1, 36, 4, 0], [], 1362),
  (1362, (.aload_n 2 : Instr), [], [], 1363),
  (1363, (.aload_n 0 : Instr), [], [], 1364)]
def zc_242_24 : List (Nat × zE) := [(1364, (.iload_n 3 : Instr), [], [], 1365),
  (1365, (.iconst (1) : Instr), [], [(1, 0)], 1366),
  (1366, (.iadd : Instr), [], [], 1367),
  (1367, (.iaload : Instr), [], [], 1368),
  (1368, (.aload_n 0 : Instr), [], [], 1369),
  (1369, (.iload_n 3 : Instr), [], [], 1370),
  (1370, (.iconst (2) : Instr), [], [(2, 0)], 1371),
  (1371, (.iadd : Instr), [], [], 1372),
  (1372, (.iaload : Instr), [], [], 1373),
  (1373, (.aload_n 0 : Instr), [], [], 1374),
  (1374, (.iload_n 3 : Instr), [], [], 1375),
  (1375, (.iconst (3) : Instr), [], [(3, 0)], 1376),
  (1376, (.iadd : Instr), [], [], 1377),
  (1377, (.iaload : Instr), [], [], 1378),
  (1378, (.invokevirtual 164 : Instr), [1, 131, 4, 10], [], 1381),
  (1381, (.if_icmp .eq (197) : Instr), [1578], [], 1384),
  (1384, (.iconst (0) : Instr), [], [(0, 0)], 1385),
  (1385, (.ireturn : Instr), [1], [], 1386),
  (1386, (.aload_n 1 : Instr), [], [], 1387),
  (1387, (.aload_n 0 : Instr), [], [], 1388),
  (1388, (.iload_n 3 : Instr), [], [], 1389),
  (1389, (.iconst (1) : Instr), [], [(1, 0)], 1390),
  (1390, (.iadd : Instr), [], [], 1391),
  (1391, (.iaload : Instr), [], [], 1392),
  (1392, (.aload_n 0 : Instr), [], [], 1393),
  (1393, (.iload_n 3 : Instr), [], [], 1394),
  (1394, (.iconst (2) : Instr), [], [(2, 0)], 1395),
  (1395, (.iadd : Instr), [], [], 1396),
  (1396, (.iaload : Instr), [], [], 1397),
  (1397, (.aload_n 0 : Instr), [], [], 1398),
  (1398, (.iload_n 3 : Instr), [], [], 1399),
  (1399, (.iconst (3) : Instr), [], [(3, 0)], 1400),
  (1400, (.iadd : Instr), [], [], 1401),
  (1401, (.iaload : Instr), [], [], 1402),
  (1402, (.invokevirtual 165 : Instr), [1, 37, 4, 0], [], 1405),
  (1405, (.aload_n 2 : Instr), [], [], 1406),
  (1406, (.aload_n 0 : Instr), [], [], 1407),
  (1407, (.iload_n 3 : Instr), [], [], 1408),
  (1408, (.iconst (1) : Instr), [], [(1, 0)], 1409),
  (1409, (.iadd : Instr), [], [], 1410)]
def zc_242_25 : List (Nat × zE) := [(1410, (.iaload : Instr), [], [], 1411),
  (1411, (.aload_n 0 : Instr), [], [], 1412),
  (1412, (.iload_n 3 : Instr), [], [], 1413),
  (1413, (.iconst (2) : Instr), [], [(2, 0)], 1414),
  (1414, (.iadd : Instr), [], [], 1415),
  (1415, (.iaload : Instr), [], [], 1416),
  (1416, (.aload_n 0 : Instr), [], [], 1417),
  (1417, (.iload_n 3 : Instr), [], [], 1418),
  (1418, (.iconst (3) : Instr), [], [(3, 0)], 1419),
  (1419, (.iadd : Instr), [], [], 1420),
  (1420, (.iaload : Instr), [], [], 1421),
  (1421, (.invokevirtual 168 : Instr), [1, 132, 4, 10], [], 1424),
  (1424, (.if_icmp .eq (154) : Instr), [1578], [], 1427),
  (1427, (.iconst (0) : Instr), [], [(0, 0)], 1428),
  (1428, (.ireturn : Instr), [1], [], 1429),
  (1429, (.aload_n 1 : Instr), [], [], 1430),
  (1430, (.aload_n 0 : Instr), [], [], 1431),
  (1431, (.iload_n 3 : Instr), [], [], 1432),
  (1432, (.iconst (1) : Instr), [], [(1, 0)], 1433),
  (1433, (.iadd : Instr), [], [], 1434),
  (1434, (.iaload : Instr), [], [], 1435),
  (1435, (.aload_n 0 : Instr), [], [], 1436),
  (1436, (.iload_n 3 : Instr), [], [], 1437),
  (1437, (.iconst (2) : Instr), [], [(2, 0)], 1438),
  (1438, (.iadd : Instr), [], [], 1439),
  (1439, (.iaload : Instr), [], [], 1440),
  (1440, (.aload_n 0 : Instr), [], [], 1441),
  (1441, (.iload_n 3 : Instr), [], [], 1442),
  (1442, (.iconst (3) : Instr), [], [(3, 0)], 1443),
  (1443, (.iadd : Instr), [], [], 1444),
  (1444, (.iaload : Instr), [], [], 1445),
  (1445, (.aload_n 0 : Instr), [], [], 1446),
  (1446, (.iload_n 3 : Instr), [], [], 1447),
  (1447, (.iconst (4) : Instr), [], [(4, 0)], 1448),
  (1448, (.iadd : Instr), [], [], 1449),
  (1449, (.iaload : Instr), [], [], 1450),
  (1450, (.aload_n 0 : Instr), [], [], 1451),
  (1451, (.iload_n 3 : Instr), [], [], 1452),
  (1452, (.iconst (5) : Instr), [], [(5, 0)], 1453),
  (1453, (.iadd : Instr), [], [], 1454)]
def zc_242_26 : List (Nat × zE) := [(1454, (.iaload : Instr), [], [], 1455),
  (1455, (.invokevirtual 169 : Instr), [1, 38, 6, 0], [], 1458),
  (1458, (.aload_n 2 : Instr), [], [], 1459),
  (1459, (.aload_n 0 : Instr), [], [], 1460),
  (1460, (.iload_n 3 : Instr), [], [], 1461),
  (1461, (.iconst (1) : Instr), [], [(1, 0)], 1462),
  (1462, (.iadd : Instr), [], [], 1463),
  (1463, (.iaload : Instr), [], [], 1464),
  (1464, (.aload_n 0 : Instr), [], [], 1465),
  (1465, (.iload_n 3 : Instr), [], [], 1466),
  (1466, (.iconst (2) : Instr), [], [(2, 0)], 1467),
  (1467, (.iadd : Instr), [], [], 1468),
  (1468, (.iaload : Instr), [], [], 1469),
  (1469, (.aload_n 0 : Instr), [], [], 1470),
  (1470, (.iload_n 3 : Instr), [], [], 1471),
  (1471, (.iconst (3) : Instr), [], [(3, 0)], 1472),
  (1472, (.iadd : Instr), [], [], 1473),
  (1473, (.iaload : Instr), [], [], 1474),
  (1474, (.aload_n 0 : Instr), [], [], 1475),
  (1475, (.iload_n 3 : Instr), [], [], 1476),
  (1476, (.iconst (4) : Instr), [], [(4, 0)], 1477),
  (1477, (.iadd : Instr), [], [], 1478),
  (1478, (.iaload : Instr), [], [], 1479),
  (1479, (.aload_n 0 : Instr), [], [], 1480),
  (1480, (.iload_n 3 : Instr), [], [], 1481),
  (1481, (.iconst (5) : Instr), [], [(5, 0)], 1482),
  (1482, (.iadd : Instr), [], [], 1483),
  (1483, (.iaload : Instr), [], [], 1484),
  (1484, (.invokevirtual 172 : Instr), [1, 133, 6, 10], [], 1487),
  (1487, (.if_icmp .eq (91) : Instr), [1578], [], 1490),
  (1490, (.iconst (0) : Instr), [], [(0, 0)], 1491),
  (1491, (.ireturn : Instr), [1], [], 1492),
  (1492, (.aload_n 1 : Instr), [], [], 1493),
  (1493, (.aload_n 0 : Instr), [], [], 1494),
  (1494, (.iload_n 3 : Instr), [], [], 1495),
  (1495, (.iconst (1) : Instr), [], [(1, 0)], 1496),
  (1496, (.iadd : Instr), [], [], 1497),
  (1497, (.iaload : Instr), [], [], 1498),
  (1498, (.aload_n 0 : Instr), [], [], 1499),
  (1499, (.iload_n 3 : Instr), [], [], 1500)]
def zc_242_27 : List (Nat × zE) := [(1500, (.iconst (2) : Instr), [], [(2, 0)], 1501),
  (1501, (.iadd : Instr), [], [], 1502),
  (1502, (.iaload : Instr), [], [], 1503),
  (1503, (.aload_n 0 : Instr), [], [], 1504),
  (1504, (.iload_n 3 : Instr), [], [], 1505),
  (1505, (.iconst (3) : Instr), [], [(3, 0)], 1506),
  (1506, (.iadd : Instr), [], [], 1507),
  (1507, (.iaload : Instr), [], [], 1508),
  (1508, (.aload_n 0 : Instr), [], [], 1509),
  (1509, (.iload_n 3 : Instr), [], [], 1510),
  (1510, (.iconst (4) : Instr), [], [(4, 0)], 1511),
  (1511, (.iadd : Instr), [], [], 1512),
  (1512, (.iaload : Instr), [], [], 1513),
  (1513, (.invokevirtual 173 : Instr), [1, 39, 5, 0], [], 1516),
  (1516, (.aload_n 2 : Instr), [], [], 1517),
  (1517, (.aload_n 0 : Instr), [], [], 1518),
  (1518, (.iload_n 3 : Instr), [], [], 1519),
  (1519, (.iconst (1) : Instr), [], [(1, 0)], 1520),
  (1520, (.iadd : Instr), [], [], 1521),
  (1521, (.iaload : Instr), [], [], 1522),
  (1522, (.aload_n 0 : Instr), [], [], 1523),
  (1523, (.iload_n 3 : Instr), [], [], 1524),
  (1524, (.iconst (2) : Instr), [], [(2, 0)], 1525),
  (1525, (.iadd : Instr), [], [], 1526),
  (1526, (.iaload : Instr), [], [], 1527),
  (1527, (.aload_n 0 : Instr), [], [], 1528),
  (1528, (.iload_n 3 : Instr), [], [], 1529),
  (1529, (.iconst (3) : Instr), [], [(3, 0)], 1530),
  (1530, (.iadd : Instr), [], [], 1531),
  (1531, (.iaload : Instr), [], [], 1532),
  (1532, (.aload_n 0 : Instr), [], [], 1533),
  (1533, (.iload_n 3 : Instr), [], [], 1534),
  (1534, (.iconst (4) : Instr), [], [(4, 0)], 1535),
  (1535, (.iadd : Instr), [], [], 1536),
  (1536, (.iaload : Instr), [], [], 1537),
  (1537, (.invokevirtual 177 : Instr), [1, 134, 5, 10], [], 1540),
  (1540, (.if_icmp .eq (38) : Instr), [1578], [], 1543),
  (1543, (.iconst (0) : Instr), [], [(0, 0)], 1544),
  (1544, (.ireturn : Instr), [1], [], 1545),
  (1545, (.aload_n 1 : Instr), [], [], 1546)]
def zc_242_28 : List (Nat × zE) := [(1546, (.aload_n 0 : Instr), [], [], 1547),
  (1547, (.iload_n 3 : Instr), [], [], 1548),
  (1548, (.iconst (1) : Instr), [], [(1, 0)], 1549),
  (1549, (.iadd : Instr), [], [], 1550),
  (1550, (.iaload : Instr), [], [], 1551),
  (1551, (.aload_n 0 : Instr), [], [], 1552),
  (1552, (.iload_n 3 : Instr), [], [], 1553),
  (1553, (.iconst (2) : Instr), [], [(2, 0)], 1554),
  (1554, (.iadd : Instr), [], [], 1555),
  (1555, (.iaload : Instr), [], [], 1556),
  (1556, (.invokevirtual 178 : Instr), [1, 40, 3, 0], [], 1559),
  (1559, (.aload_n 2 : Instr), [], [], 1560),
  (1560, (.aload_n 0 : Instr), [], [], 1561),
  (1561, (.iload_n 3 : Instr), [], [], 1562),
  (1562, (.iconst (1) : Instr), [], [(1, 0)], 1563),
  (1563, (.iadd : Instr), [], [], 1564),
  (1564, (.iaload : Instr), [], [], 1565),
  (1565, (.aload_n 0 : Instr), [], [], 1566),
  (1566, (.iload_n 3 : Instr), [], [], 1567),
  (1567, (.iconst (2) : Instr), [], [(2, 0)], 1568),
  (1568, (.iadd : Instr), [], [], 1569),
  (1569, (.iaload : Instr), [], [], 1570),
  (1570, (.invokevirtual 181 : Instr), [1, 136, 3, 10], [], 1573),
  (1573, (.if_icmp .eq (5) : Instr), [1578], [], 1576),
  (1576, (.iconst (0) : Instr), [], [(0, 0)], 1577),
  (1577, (.ireturn : Instr), [1], [], 1578),
  (1578, (.iinc 3 (6) : Instr), [], [], 1581),
  (1581, (.goto (-1563) : Instr), [18], [], 1584),
  (1584, (.iconst (1) : Instr), [], [(1, 0)], 1585),
  (1585, (.ireturn : Instr), [1], [], 0)]
def zc_242 : List (Nat × zE) := zc_242_0 ++ (zc_242_1 ++ (zc_242_2 ++ (zc_242_3 ++ (zc_242_4 ++ (zc_242_5 ++ (zc_242_6 ++ (zc_242_7 ++ (zc_242_8 ++ (zc_242_9 ++ (zc_242_10 ++ (zc_242_11 ++ (zc_242_12 ++ (zc_242_13 ++ (zc_242_14 ++ (zc_242_15 ++ (zc_242_16 ++ (zc_242_17 ++ (zc_242_18 ++ (zc_242_19 ++ (zc_242_20 ++ (zc_242_21 ++ (zc_242_22 ++ (zc_242_23 ++ (zc_242_24 ++ (zc_242_25 ++ (zc_242_26 ++ (zc_242_27 ++ (zc_242_28))))))))))))))))))))))))))))
/-! java/lang/Long.bitCount(J)I -/
def zc_243 : List (Nat × zE) := [(0, (.lload_n 0 : Instr), [], [], 1),
  (1, (.lload_n 0 : Instr), [], [], 2),
  (2, (.iconst (1) : Instr), [], [(1, 0)], 3),
  (3, (.lushr : Instr), [], [], 4),
  (4, (.ldc2_w 314 : Instr), [], [(6148914691236517205, 0)], 7),
  (7, (.land : Instr), [], [], 8),
  (8, (.lsub : Instr), [], [], 9),
  (9, (.lstore_n 0 : Instr), [], [], 10),
  (10, (.lload_n 0 : Instr), [], [], 11),
  (11, (.ldc2_w 316 : Instr), [], [(3689348814741910323, 0)], 14),
  (14, (.land : Instr), [], [], 15),
  (15, (.lload_n 0 : Instr), [], [], 16),
  (16, (.iconst (2) : Instr), [], [(2, 0)], 17),
  (17, (.lushr : Instr), [], [], 18),
  (18, (.ldc2_w 316 : Instr), [], [(3689348814741910323, 0)], 21),
  (21, (.land : Instr), [], [], 22),
  (22, (.ladd : Instr), [], [], 23),
  (23, (.lstore_n 0 : Instr), [], [], 24),
  (24, (.lload_n 0 : Instr), [], [], 25),
  (25, (.lload_n 0 : Instr), [], [], 26),
  (26, (.iconst (4) : Instr), [], [(4, 0)], 27),
  (27, (.lushr : Instr), [], [], 28),
  (28, (.ladd : Instr), [], [], 29),
  (29, (.ldc2_w 318 : Instr), [], [(1085102592571150095, 0)], 32),
  (32, (.land : Instr), [], [], 33),
  (33, (.lstore_n 0 : Instr), [], [], 34),
  (34, (.lload_n 0 : Instr), [], [], 35),
  (35, (.lload_n 0 : Instr), [], [], 36),
  (36, (.bipush (8) : Instr), [], [(8, 0)], 38),
  (38, (.lushr : Instr), [], [], 39),
  (39, (.ladd : Instr), [], [], 40),
  (40, (.lstore_n 0 : Instr), [], [], 41),
  (41, (.lload_n 0 : Instr), [], [], 42),
  (42, (.lload_n 0 : Instr), [], [], 43),
  (43, (.bipush (16) : Instr), [], [(16, 0)], 45),
  (45, (.lushr : Instr), [], [], 46),
  (46, (.ladd : Instr), [], [], 47),
  (47, (.lstore_n 0 : Instr), [], [], 48),
  (48, (.lload_n 0 : Instr), [], [], 49),
  (49, (.lload_n 0 : Instr), [], [], 50),
  (50, (.bipush (32) : Instr), [], [(32, 0)], 52),
  (52, (.lushr : Instr), [], [], 53),
  (53, (.ladd : Instr), [], [], 54),
  (54, (.lstore_n 0 : Instr), [], [], 55),
  (55, (.lload_n 0 : Instr), [], [], 56),
  (56, (.l2i : Instr), [], [], 57),
  (57, (.bipush (127) : Instr), [], [(127, 0)], 59),
  (59, (.iand : Instr), [], [], 60),
  (60, (.ireturn : Instr), [0], [], 0)]
/-! java/lang/Math.max(II)I -/
def zc_244 : List (Nat × zE) := [(0, (.iload_n 0 : Instr), [], [], 1),
  (1, (.iload_n 1 : Instr), [], [], 2),
  (2, (.if_icmp .lt (7) : Instr), [9], [], 5),
  (5, (.iload_n 0 : Instr), [], [], 6),
  (6, (.goto (4) : Instr), [10], [], 9),
  (9, (.iload_n 1 : Instr), [], [], 10),
  (10, (.ireturn : Instr), [0], [], 0)]
def zcode (y : Nat) : List (Nat × zE) := bif Nat.ble y 244 then (bif Nat.ble y 122 then (bif Nat.ble y 61 then (bif Nat.ble y 30 then (bif Nat.ble y 15 then (bif Nat.ble y 7 then (bif Nat.ble y 3 then (bif Nat.ble y 1 then (bif Nat.ble y 0 then zc_0 else zc_1) else (bif Nat.ble y 2 then zc_2 else zc_3)) else (bif Nat.ble y 5 then (bif Nat.ble y 4 then zc_4 else zc_5) else (bif Nat.ble y 6 then zc_6 else zc_7))) else (bif Nat.ble y 11 then (bif Nat.ble y 9 then (bif Nat.ble y 8 then zc_8 else zc_9) else (bif Nat.ble y 10 then zc_10 else zc_11)) else (bif Nat.ble y 13 then (bif Nat.ble y 12 then zc_12 else zc_13) else (bif Nat.ble y 14 then zc_14 else zc_15)))) else (bif Nat.ble y 23 then (bif Nat.ble y 19 then (bif Nat.ble y 17 then (bif Nat.ble y 16 then zc_16 else zc_17) else (bif Nat.ble y 18 then zc_18 else zc_19)) else (bif Nat.ble y 21 then (bif Nat.ble y 20 then zc_20 else zc_21) else (bif Nat.ble y 22 then zc_22 else zc_23))) else (bif Nat.ble y 27 then (bif Nat.ble y 25 then (bif Nat.ble y 24 then zc_24 else zc_25) else (bif Nat.ble y 26 then zc_26 else zc_27)) else (bif Nat.ble y 29 then (bif Nat.ble y 28 then zc_28 else zc_29) else zc_30)))) else (bif Nat.ble y 46 then (bif Nat.ble y 38 then (bif Nat.ble y 34 then (bif Nat.ble y 32 then (bif Nat.ble y 31 then zc_31 else zc_32) else (bif Nat.ble y 33 then zc_33 else zc_34)) else (bif Nat.ble y 36 then (bif Nat.ble y 35 then zc_35 else zc_36) else (bif Nat.ble y 37 then zc_37 else zc_38))) else (bif Nat.ble y 42 then (bif Nat.ble y 40 then (bif Nat.ble y 39 then zc_39 else zc_40) else (bif Nat.ble y 41 then zc_41 else zc_42)) else (bif Nat.ble y 44 then (bif Nat.ble y 43 then zc_43 else zc_44) else (bif Nat.ble y 45 then zc_45 else zc_46)))) else (bif Nat.ble y 54 then (bif Nat.ble y 50 then (bif Nat.ble y 48 then (bif Nat.ble y 47 then zc_47 else zc_48) else (bif Nat.ble y 49 then zc_49 else zc_50)) else (bif Nat.ble y 52 then (bif Nat.ble y 51 then zc_51 else zc_52) else (bif Nat.ble y 53 then zc_53 else zc_54))) else (bif Nat.ble y 58 then (bif Nat.ble y 56 then (bif Nat.ble y 55 then zc_55 else zc_56) else (bif Nat.ble y 57 then zc_57 else zc_58)) else (bif Nat.ble y 60 then (bif Nat.ble y 59 then zc_59 else zc_60) else zc_61))))) else (bif Nat.ble y 92 then (bif Nat.ble y 77 then (bif Nat.ble y 69 then (bif Nat.ble y 65 then (bif Nat.ble y 63 then (bif Nat.ble y 62 then zc_62 else zc_63) else (bif Nat.ble y 64 then zc_64 else zc_65)) else (bif Nat.ble y 67 then (bif Nat.ble y 66 then zc_66 else zc_67) else (bif Nat.ble y 68 then zc_68 else zc_69))) else (bif Nat.ble y 73 then (bif Nat.ble y 71 then (bif Nat.ble y 70 then zc_70 else zc_71) else (bif Nat.ble y 72 then zc_72 else zc_73)) else (bif Nat.ble y 75 then (bif Nat.ble y 74 then zc_74 else zc_75) else (bif Nat.ble y 76 then zc_76 else zc_77)))) else (bif Nat.ble y 85 then (bif Nat.ble y 81 then (bif Nat.ble y 79 then (bif Nat.ble y 78 then zc_78 else zc_79) else (bif Nat.ble y 80 then zc_80 else zc_81)) else (bif Nat.ble y 83 then (bif Nat.ble y 82 then zc_82 else zc_83) else (bif Nat.ble y 84 then zc_84 else zc_85))) else (bif Nat.ble y 89 then (bif Nat.ble y 87 then (bif Nat.ble y 86 then zc_86 else zc_87) else (bif Nat.ble y 88 then zc_88 else zc_89)) else (bif Nat.ble y 91 then (bif Nat.ble y 90 then zc_90 else zc_91) else zc_92)))) else (bif Nat.ble y 107 then (bif Nat.ble y 100 then (bif Nat.ble y 96 then (bif Nat.ble y 94 then (bif Nat.ble y 93 then zc_93 else zc_94) else (bif Nat.ble y 95 then zc_95 else zc_96)) else (bif Nat.ble y 98 then (bif Nat.ble y 97 then zc_97 else zc_98) else (bif Nat.ble y 99 then zc_99 else zc_100))) else (bif Nat.ble y 104 then (bif Nat.ble y 102 then (bif Nat.ble y 101 then zc_101 else zc_102) else (bif Nat.ble y 103 then zc_103 else zc_104)) else (bif Nat.ble y 106 then (bif Nat.ble y 105 then zc_105 else zc_106) else zc_107))) else (bif Nat.ble y 115 then (bif Nat.ble y 111 then (bif Nat.ble y 109 then (bif Nat.ble y 108 then zc_108 else zc_109) else (bif Nat.ble y 110 then zc_110 else zc_111)) else (bif Nat.ble y 113 then (bif Nat.ble y 112 then zc_112 else zc_113) else (bif Nat.ble y 114 then zc_114 else zc_115))) else (bif Nat.ble y 119 then (bif Nat.ble y 117 then (bif Nat.ble y 116 then zc_116 else zc_117) else (bif Nat.ble y 118 then zc_118 else zc_119)) else (bif Nat.ble y 121 then (bif Nat.ble y 120 then zc_120 else zc_121) else zc_122)))))) else (bif Nat.ble y 183 then (bif Nat.ble y 153 then (bif Nat.ble y 138 then (bif Nat.ble y 130 then (bif Nat.ble y 126 then (bif Nat.ble y 124 then (bif Nat.ble y 123 then zc_123 else zc_124) else (bif Nat.ble y 125 then zc_125 else zc_126)) else (bif Nat.ble y 128 then (bif Nat.ble y 127 then zc_127 else zc_128) else (bif Nat.ble y 129 then zc_129 else zc_130))) else (bif Nat.ble y 134 then (bif Nat.ble y 132 then (bif Nat.ble y 131 then zc_131 else zc_132) else (bif Nat.ble y 133 then zc_133 else zc_134)) else (bif Nat.ble y 136 then (bif Nat.ble y 135 then zc_135 else zc_136) else (bif Nat.ble y 137 then zc_137 else zc_138)))) else (bif Nat.ble y 146 then (bif Nat.ble y 142 then (bif Nat.ble y 140 then (bif Nat.ble y 139 then zc_139 else zc_140) else (bif Nat.ble y 141 then zc_141 else zc_142)) else (bif Nat.ble y 144 then (bif Nat.ble y 143 then zc_143 else zc_144) else (bif Nat.ble y 145 then zc_145 else zc_146))) else (bif Nat.ble y 150 then (bif Nat.ble y 148 then (bif Nat.ble y 147 then zc_147 else zc_148) else (bif Nat.ble y 149 then zc_149 else zc_150)) else (bif Nat.ble y 152 then (bif Nat.ble y 151 then zc_151 else zc_152) else zc_153)))) else (bif Nat.ble y 168 then (bif Nat.ble y 161 then (bif Nat.ble y 157 then (bif Nat.ble y 155 then (bif Nat.ble y 154 then zc_154 else zc_155) else (bif Nat.ble y 156 then zc_156 else zc_157)) else (bif Nat.ble y 159 then (bif Nat.ble y 158 then zc_158 else zc_159) else (bif Nat.ble y 160 then zc_160 else zc_161))) else (bif Nat.ble y 165 then (bif Nat.ble y 163 then (bif Nat.ble y 162 then zc_162 else zc_163) else (bif Nat.ble y 164 then zc_164 else zc_165)) else (bif Nat.ble y 167 then (bif Nat.ble y 166 then zc_166 else zc_167) else zc_168))) else (bif Nat.ble y 176 then (bif Nat.ble y 172 then (bif Nat.ble y 170 then (bif Nat.ble y 169 then zc_169 else zc_170) else (bif Nat.ble y 171 then zc_171 else zc_172)) else (bif Nat.ble y 174 then (bif Nat.ble y 173 then zc_173 else zc_174) else (bif Nat.ble y 175 then zc_175 else zc_176))) else (bif Nat.ble y 180 then (bif Nat.ble y 178 then (bif Nat.ble y 177 then zc_177 else zc_178) else (bif Nat.ble y 179 then zc_179 else zc_180)) else (bif Nat.ble y 182 then (bif Nat.ble y 181 then zc_181 else zc_182) else zc_183))))) else (bif Nat.ble y 214 then (bif Nat.ble y 199 then (bif Nat.ble y 191 then (bif Nat.ble y 187 then (bif Nat.ble y 185 then (bif Nat.ble y 184 then zc_184 else zc_185) else (bif Nat.ble y 186 then zc_186 else zc_187)) else (bif Nat.ble y 189 then (bif Nat.ble y 188 then zc_188 else zc_189) else (bif Nat.ble y 190 then zc_190 else zc_191))) else (bif Nat.ble y 195 then (bif Nat.ble y 193 then (bif Nat.ble y 192 then zc_192 else zc_193) else (bif Nat.ble y 194 then zc_194 else zc_195)) else (bif Nat.ble y 197 then (bif Nat.ble y 196 then zc_196 else zc_197) else (bif Nat.ble y 198 then zc_198 else zc_199)))) else (bif Nat.ble y 207 then (bif Nat.ble y 203 then (bif Nat.ble y 201 then (bif Nat.ble y 200 then zc_200 else zc_201) else (bif Nat.ble y 202 then zc_202 else zc_203)) else (bif Nat.ble y 205 then (bif Nat.ble y 204 then zc_204 else zc_205) else (bif Nat.ble y 206 then zc_206 else zc_207))) else (bif Nat.ble y 211 then (bif Nat.ble y 209 then (bif Nat.ble y 208 then zc_208 else zc_209) else (bif Nat.ble y 210 then zc_210 else zc_211)) else (bif Nat.ble y 213 then (bif Nat.ble y 212 then zc_212 else zc_213) else zc_214)))) else (bif Nat.ble y 229 then (bif Nat.ble y 222 then (bif Nat.ble y 218 then (bif Nat.ble y 216 then (bif Nat.ble y 215 then zc_215 else zc_216) else (bif Nat.ble y 217 then zc_217 else zc_218)) else (bif Nat.ble y 220 then (bif Nat.ble y 219 then zc_219 else zc_220) else (bif Nat.ble y 221 then zc_221 else zc_222))) else (bif Nat.ble y 226 then (bif Nat.ble y 224 then (bif Nat.ble y 223 then zc_223 else zc_224) else (bif Nat.ble y 225 then zc_225 else zc_226)) else (bif Nat.ble y 228 then (bif Nat.ble y 227 then zc_227 else zc_228) else zc_229))) else (bif Nat.ble y 237 then (bif Nat.ble y 233 then (bif Nat.ble y 231 then (bif Nat.ble y 230 then zc_230 else zc_231) else (bif Nat.ble y 232 then zc_232 else zc_233)) else (bif Nat.ble y 235 then (bif Nat.ble y 234 then zc_234 else zc_235) else (bif Nat.ble y 236 then zc_236 else zc_237))) else (bif Nat.ble y 241 then (bif Nat.ble y 239 then (bif Nat.ble y 238 then zc_238 else zc_239) else (bif Nat.ble y 240 then zc_240 else zc_241)) else (bif Nat.ble y 243 then (bif Nat.ble y 242 then zc_242 else zc_243) else zc_244))))))) else []
def zown : List String := ["HandsAndWays", "HandsAndWays$Room", "HandsAndWays$Scene", "HandsAndWays$Ways", "HandsAndWays$Tape", "HandsAndWays$Acts", "HandsAndWays$Rules", "HandsAndWays$Planne\x72", "HandsAndWays$Chances", "HandsAndWays$Sheets", "HandsAndWaysModel", "HandsAndWays$Cells", "HandsAndWays$Kinds", "HandsAndWaysLaw", "java/lang/Long", "java/lang/Math"]
def zfs_0 : List (String × String × String × Bool) := [("HandsAndWays", "room", "LHandsAndWays$Room;", true), ("HandsAndWays", "now", "LHandsAndWays$Scene;", true), ("HandsAndWays", "trial", "LHandsAndWays$Scene;", true), ("HandsAndWays", "kept", "LHandsAndWays$Scene;", true), ("HandsAndWays", "hasImage", "Z", false), ("HandsAndWays", "ways", "LHandsAndWays$Ways;", true), ("HandsAndWays", "tape", "LHandsAndWays$Tape;", true), ("HandsAndWays", "acts", "LHandsAndWays$Acts;", true), ("HandsAndWays", "rules", "LHandsAndWays$Rules;", true), ("HandsAndWays", "planne\x72", "LHandsAndWays$Planner;", true), ("HandsAndWays", "chances", "LHandsAndWays$Chances;", true), ("HandsAndWays", "sheets", "LHandsAndWays$Sheets;", true)]
def zfs_1 : List (String × String × String × Bool) := [("HandsAndWays$Room", "walled", "J", false), ("HandsAndWays$Room", "strength", "I", false), ("HandsAndWays$Room", "things", "I", false), ("HandsAndWays$Room", "kind", "[I", true), ("HandsAndWays$Room", "wide", "[I", true), ("HandsAndWays$Room", "doors", "I", false), ("HandsAndWays$Room", "doorCell", "[I", true), ("HandsAndWays$Room", "doorKey", "[I", true)]
def zfs_2 : List (String × String × String × Bool) := [("HandsAndWays$Scene", "tick", "I", false), ("HandsAndWays$Scene", "opened", "I", false), ("HandsAndWays$Scene", "at", "[I", true), ("HandsAndWays$Scene", "holde\x72", "[I", true), ("HandsAndWays$Scene", "heldSide", "[I", true), ("HandsAndWays$Scene", "cell", "[I", true), ("HandsAndWays$Scene", "held", "[I", true), ("HandsAndWays$Scene", "steps", "[I", true), ("HandsAndWays$Scene", "running", "[I", true), ("HandsAndWays$Scene", "next", "[I", true), ("HandsAndWays$Scene", "waited", "[I", true), ("HandsAndWays$Scene", "blocked", "[I", true)]
def zfs_3 : List (String × String × String × Bool) := [("HandsAndWays$Ways", "room", "LHandsAndWays$Room;", true), ("HandsAndWays$Ways", "layers", "[J", true), ("HandsAndWays$Ways", "depth", "I", false), ("HandsAndWays$Ways", "standable", "J", false), ("HandsAndWays$Ways", "turns", "Z", false), ("HandsAndWays$Ways", "come", "J", false)]
def zfs_4 : List (String × String × String × Bool) := [("HandsAndWays$Tape", "bytes", "[I", true), ("HandsAndWays$Tape", "size", "I", false), ("HandsAndWays$Tape", "programs", "I", false), ("HandsAndWays$Tape", "length", "[I", true), ("HandsAndWays$Tape", "act", "[I", true), ("HandsAndWays$Tape", "numbe\x72", "[I", true), ("HandsAndWays$Tape", "side", "[I", true), ("HandsAndWays$Tape", "place", "I", false), ("HandsAndWays$Tape", "numberRead", "I", false)]
def zfs_5 : List (String × String × String × Bool) := [("HandsAndWays$Acts", "room", "LHandsAndWays$Room;", true), ("HandsAndWays$Acts", "ways", "LHandsAndWays$Ways;", true), ("HandsAndWays$Acts", "tape", "LHandsAndWays$Tape;", true), ("HandsAndWays$Acts", "failed", "I", false)]
def zfs_6 : List (String × String × String × Bool) := [("HandsAndWays$Rules", "numbe\x72", "I", false), ("HandsAndWays$Rules", "uses", "I", false), ("HandsAndWays$Rules", "thing", "[I", true), ("HandsAndWays$Rules", "to", "[I", true), ("HandsAndWays$Rules", "at", "[I", true), ("HandsAndWays$Rules", "hand", "[I", true), ("HandsAndWays$Rules", "strength", "[I", true), ("HandsAndWays$Rules", "takenCells", "[J", true)]
def zfs_7 : List (String × String × String × Bool) := [("HandsAndWays$Planne\x72", "room", "LHandsAndWays$Room;", true), ("HandsAndWays$Planne\x72", "ways", "LHandsAndWays$Ways;", true), ("HandsAndWays$Planne\x72", "rules", "LHandsAndWays$Rules;", true), ("HandsAndWays$Planne\x72", "scene", "LHandsAndWays$Scene;", true), ("HandsAndWays$Planne\x72", "places", "[I", true), ("HandsAndWays$Planne\x72", "placeCount", "I", false), ("HandsAndWays$Planne\x72", "hand", "I", false), ("HandsAndWays$Planne\x72", "aim", "I", false), ("HandsAndWays$Planne\x72", "goal", "I", false), ("HandsAndWays$Planne\x72", "movables", "I", false), ("HandsAndWays$Planne\x72", "asked", "I", false), ("HandsAndWays$Planne\x72", "found", "I", false), ("HandsAndWays$Planne\x72", "fa\x72", "I", false), ("HandsAndWays$Planne\x72", "best", "[I", true), ("HandsAndWays$Planne\x72", "row", "[I", true)]
def zfs_8 : List (String × String × String × Bool) := [("HandsAndWays$Chances", "room", "LHandsAndWays$Room;", true), ("HandsAndWays$Chances", "ways", "LHandsAndWays$Ways;", true), ("HandsAndWays$Chances", "acts", "LHandsAndWays$Acts;", true), ("HandsAndWays$Chances", "trial", "LHandsAndWays$Scene;", true), ("HandsAndWays$Chances", "numbe\x72", "I", false), ("HandsAndWays$Chances", "thing", "I", false), ("HandsAndWays$Chances", "place", "[I", true), ("HandsAndWays$Chances", "share", "[I", true), ("HandsAndWays$Chances", "goodCases", "I", false), ("HandsAndWays$Chances", "mostSteps", "I", false), ("HandsAndWays$Chances", "goodShares", "I", false), ("HandsAndWays$Chances", "allShares", "I", false)]
def zfs_9 : List (String × String × String × Bool) := [("HandsAndWays$Sheets", "sort", "[I", true), ("HandsAndWays$Sheets", "size", "[I", true), ("HandsAndWays$Sheets", "numbers", "[I", true)]
def zfs_10 : List (String × String × String × Bool) := [("HandsAndWaysModel", "p", "[I", true), ("HandsAndWaysModel", "kept", "[I", true), ("HandsAndWaysModel", "imaged", "[I", true), ("HandsAndWaysModel", "hasImage", "Z", false), ("HandsAndWaysModel", "isWall", "[Z", true), ("HandsAndWaysModel", "doors", "I", false), ("HandsAndWaysModel", "doorCell", "[I", true), ("HandsAndWaysModel", "doorKey", "[I", true), ("HandsAndWaysModel", "things", "I", false), ("HandsAndWaysModel", "kind", "[I", true), ("HandsAndWaysModel", "wide", "[I", true), ("HandsAndWaysModel", "strong", "I", false), ("HandsAndWaysModel", "programs", "I", false), ("HandsAndWaysModel", "many", "[I", true), ("HandsAndWaysModel", "acts", "[I", true), ("HandsAndWaysModel", "numbers", "[I", true), ("HandsAndWaysModel", "sides", "[I", true), ("HandsAndWaysModel", "tape", "[I", true), ("HandsAndWaysModel", "taped", "I", false), ("HandsAndWaysModel", "moves", "I", false), ("HandsAndWaysModel", "moveThing", "[I", true), ("HandsAndWaysModel", "moveSide", "[I", true), ("HandsAndWaysModel", "moveCell", "[I", true), ("HandsAndWaysModel", "planFa\x72", "I", false), ("HandsAndWaysModel", "rules", "I", false), ("HandsAndWaysModel", "ruleThing", "[I", true), ("HandsAndWaysModel", "ruleTo", "[I", true), ("HandsAndWaysModel", "ruleFrom", "[I", true), ("HandsAndWaysModel", "ruleHand", "[I", true), ("HandsAndWaysModel", "ruleStrong", "[I", true), ("HandsAndWaysModel", "ruleTaken", "[J", true), ("HandsAndWaysModel", "uses", "I", false), ("HandsAndWaysModel", "asked", "I", false), ("HandsAndWaysModel", "cases", "I", false), ("HandsAndWaysModel", "caseThing", "I", false), ("HandsAndWaysModel", "caseCell", "[I", true), ("HandsAndWaysModel", "caseShare", "[I", true), ("HandsAndWaysModel", "sheetSort", "[I", true), ("HandsAndWaysModel", "sheetSize", "[I", true), ("HandsAndWaysModel", "cells", "[I", true), ("HandsAndWaysModel", "fa\x72", "[I", true), ("HandsAndWaysModel", "queue", "[I", true), ("HandsAndWaysModel", "at", "I", false), ("HandsAndWaysModel", "why", "I", false), ("HandsAndWaysModel", "aheadThing", "I", false), ("HandsAndWaysModel", "aheadSide", "I", false), ("HandsAndWaysModel", "aheadCell", "I", false), ("HandsAndWaysModel", "aheadFa\x72", "I", false)]
def zfs : List (List (String × String × String × Bool)) := [zfs_0, zfs_1, zfs_2, zfs_3, zfs_4, zfs_5, zfs_6, zfs_7, zfs_8, zfs_9, zfs_10]
def zts : List (List Nat) := [[3, 3, 3, 3, 1, 3, 3, 3, 3, 3, 3, 3], [2, 0, 0, 3, 3, 0, 3, 3], [0, 0, 3, 3, 3, 3, 3, 3, 3, 3, 3, 3], [3, 3, 0, 2, 1, 2], [3, 0, 0, 3, 3, 3, 3, 0, 0], [3, 3, 3, 0], [0, 0, 3, 3, 3, 3, 3, 3], [3, 3, 3, 3, 3, 0, 0, 0, 0, 0, 0, 0, 0, 3, 3], [3, 3, 3, 3, 0, 0, 3, 3, 0, 0, 0, 0], [3, 3, 3], [3, 3, 3, 1, 3, 0, 3, 3, 0, 3, 3, 0, 0, 3, 3, 3, 3, 3, 0, 0, 3, 3, 3, 0, 0, 3, 3, 3, 3, 3, 3, 0, 0, 0, 0, 3, 3, 3, 3, 3, 3, 3, 0, 0, 0, 0, 0, 0]]
def zTf (ci : Nat) : u_T := fun k => (zfs.getD ci []).getD k ("", "", "", false)
def ztag (ci k : Nat) : Nat := (zts.getD ci []).getD k 9
def zcl : List vw_C := [("HandsAndWays", zTf 0, 12), ("HandsAndWays$Room", zTf 1, 8), ("HandsAndWays$Scene", zTf 2, 12), ("HandsAndWays$Ways", zTf 3, 6), ("HandsAndWays$Tape", zTf 4, 9), ("HandsAndWays$Acts", zTf 5, 4), ("HandsAndWays$Rules", zTf 6, 8), ("HandsAndWays$Planne\x72", zTf 7, 15), ("HandsAndWays$Chances", zTf 8, 12), ("HandsAndWays$Sheets", zTf 9, 3), ("HandsAndWaysModel", zTf 10, 48)]
/-- methods: name, bytes, how many locals, what it returns, its class -/
def zm_0 : MethodName × ByteArray × Nat × Option FieldType × Nat := (⟨"HandsAndWays", "<init>", "()V"⟩, prog_1_method_1_code, 1, (Option.none : Option Jvm.ClassFile.FieldType), 0)
def zm_1 : MethodName × ByteArray × Nat × Option FieldType × Nat := (⟨"HandsAndWays", "wall", "(II)I"⟩, prog_1_method_2_code, 4, (Option.some Jvm.ClassFile.FieldType.int), 0)
def zm_2 : MethodName × ByteArray × Nat × Option FieldType × Nat := (⟨"HandsAndWays", "doo\x72", "(II)I"⟩, prog_1_method_3_code, 3, (Option.some Jvm.ClassFile.FieldType.int), 0)
def zm_3 : MethodName × ByteArray × Nat × Option FieldType × Nat := (⟨"HandsAndWays", "thing", "(III)I"⟩, prog_1_method_4_code, 5, (Option.some Jvm.ClassFile.FieldType.int), 0)
def zm_4 : MethodName × ByteArray × Nat × Option FieldType × Nat := (⟨"HandsAndWays", "hand", "(II)I"⟩, prog_1_method_5_code, 4, (Option.some Jvm.ClassFile.FieldType.int), 0)
def zm_5 : MethodName × ByteArray × Nat × Option FieldType × Nat := (⟨"HandsAndWays", "strong", "(I)I"⟩, prog_1_method_6_code, 3, (Option.some Jvm.ClassFile.FieldType.int), 0)
def zm_6 : MethodName × ByteArray × Nat × Option FieldType × Nat := (⟨"HandsAndWays", "go", "(II)I"⟩, prog_1_method_7_code, 5, (Option.some Jvm.ClassFile.FieldType.int), 0)
def zm_7 : MethodName × ByteArray × Nat × Option FieldType × Nat := (⟨"HandsAndWays", "take", "(III)I"⟩, prog_1_method_8_code, 4, (Option.some Jvm.ClassFile.FieldType.int), 0)
def zm_8 : MethodName × ByteArray × Nat × Option FieldType × Nat := (⟨"HandsAndWays", "put", "(I)I"⟩, prog_1_method_9_code, 2, (Option.some Jvm.ClassFile.FieldType.int), 0)
def zm_9 : MethodName × ByteArray × Nat × Option FieldType × Nat := (⟨"HandsAndWays", "open", "(II)I"⟩, prog_1_method_10_code, 3, (Option.some Jvm.ClassFile.FieldType.int), 0)
def zm_10 : MethodName × ByteArray × Nat × Option FieldType × Nat := (⟨"HandsAndWays", "way", "(II)I"⟩, prog_1_method_11_code, 4, (Option.some Jvm.ClassFile.FieldType.int), 0)
def zm_11 : MethodName × ByteArray × Nat × Option FieldType × Nat := (⟨"HandsAndWays", "step", "(III)I"⟩, prog_1_method_12_code, 5, (Option.some Jvm.ClassFile.FieldType.int), 0)
def zm_12 : MethodName × ByteArray × Nat × Option FieldType × Nat := (⟨"HandsAndWays", "reached", "(II)I"⟩, prog_1_method_13_code, 3, (Option.some Jvm.ClassFile.FieldType.int), 0)
def zm_13 : MethodName × ByteArray × Nat × Option FieldType × Nat := (⟨"HandsAndWays", "barred", "(II)I"⟩, prog_1_method_14_code, 5, (Option.some Jvm.ClassFile.FieldType.int), 0)
def zm_14 : MethodName × ByteArray × Nat × Option FieldType × Nat := (⟨"HandsAndWays", "thingTold", "(II)I"⟩, prog_1_method_15_code, 3, (Option.some Jvm.ClassFile.FieldType.int), 0)
def zm_15 : MethodName × ByteArray × Nat × Option FieldType × Nat := (⟨"HandsAndWays", "handTold", "(II)I"⟩, prog_1_method_16_code, 3, (Option.some Jvm.ClassFile.FieldType.int), 0)
def zm_16 : MethodName × ByteArray × Nat × Option FieldType × Nat := (⟨"HandsAndWays", "kindTold", "(III)I"⟩, prog_1_method_17_code, 4, (Option.some Jvm.ClassFile.FieldType.int), 0)
def zm_17 : MethodName × ByteArray × Nat × Option FieldType × Nat := (⟨"HandsAndWays", "cellTold", "(I)I"⟩, prog_1_method_18_code, 2, (Option.some Jvm.ClassFile.FieldType.int), 0)
def zm_18 : MethodName × ByteArray × Nat × Option FieldType × Nat := (⟨"HandsAndWays", "isOpen", "(I)I"⟩, prog_1_method_19_code, 2, (Option.some Jvm.ClassFile.FieldType.int), 0)
def zm_19 : MethodName × ByteArray × Nat × Option FieldType × Nat := (⟨"HandsAndWays", "count", "(I)I"⟩, prog_1_method_20_code, 2, (Option.some Jvm.ClassFile.FieldType.int), 0)
def zm_20 : MethodName × ByteArray × Nat × Option FieldType × Nat := (⟨"HandsAndWays", "feed", "(JI)I"⟩, prog_1_method_21_code, 4, (Option.some Jvm.ClassFile.FieldType.int), 0)
def zm_21 : MethodName × ByteArray × Nat × Option FieldType × Nat := (⟨"HandsAndWays", "program", "()I"⟩, prog_1_method_22_code, 2, (Option.some Jvm.ClassFile.FieldType.int), 0)
def zm_22 : MethodName × ByteArray × Nat × Option FieldType × Nat := (⟨"HandsAndWays", "actTold", "(III)I"⟩, prog_1_method_23_code, 4, (Option.some Jvm.ClassFile.FieldType.int), 0)
def zm_23 : MethodName × ByteArray × Nat × Option FieldType × Nat := (⟨"HandsAndWays", "judge", "(III)I"⟩, prog_1_method_24_code, 5, (Option.some Jvm.ClassFile.FieldType.int), 0)
def zm_24 : MethodName × ByteArray × Nat × Option FieldType × Nat := (⟨"HandsAndWays", "play", "(II)I"⟩, prog_1_method_25_code, 4, (Option.some Jvm.ClassFile.FieldType.int), 0)
def zm_25 : MethodName × ByteArray × Nat × Option FieldType × Nat := (⟨"HandsAndWays", "start", "(II)I"⟩, prog_1_method_26_code, 3, (Option.some Jvm.ClassFile.FieldType.int), 0)
def zm_26 : MethodName × ByteArray × Nat × Option FieldType × Nat := (⟨"HandsAndWays", "run", "(I)I"⟩, prog_1_method_27_code, 3, (Option.some Jvm.ClassFile.FieldType.int), 0)
def zm_27 : MethodName × ByteArray × Nat × Option FieldType × Nat := (⟨"HandsAndWays", "hangs", "(I)I"⟩, prog_1_method_28_code, 2, (Option.some Jvm.ClassFile.FieldType.int), 0)
def zm_28 : MethodName × ByteArray × Nat × Option FieldType × Nat := (⟨"HandsAndWays", "plan", "(IIIII)I"⟩, prog_1_method_29_code, 7, (Option.some Jvm.ClassFile.FieldType.int), 0)
def zm_29 : MethodName × ByteArray × Nat × Option FieldType × Nat := (⟨"HandsAndWays", "planned", "(II)I"⟩, prog_1_method_30_code, 3, (Option.some Jvm.ClassFile.FieldType.int), 0)
def zm_30 : MethodName × ByteArray × Nat × Option FieldType × Nat := (⟨"HandsAndWays", "learnt", "(I)I"⟩, prog_1_method_31_code, 2, (Option.some Jvm.ClassFile.FieldType.int), 0)
def zm_31 : MethodName × ByteArray × Nat × Option FieldType × Nat := (⟨"HandsAndWays", "maybe", "(III)I"⟩, prog_1_method_32_code, 4, (Option.some Jvm.ClassFile.FieldType.int), 0)
def zm_32 : MethodName × ByteArray × Nat × Option FieldType × Nat := (⟨"HandsAndWays", "sure", "()I"⟩, prog_1_method_33_code, 2, (Option.some Jvm.ClassFile.FieldType.int), 0)
def zm_33 : MethodName × ByteArray × Nat × Option FieldType × Nat := (⟨"HandsAndWays", "cases", "(III)I"⟩, prog_1_method_34_code, 4, (Option.some Jvm.ClassFile.FieldType.int), 0)
def zm_34 : MethodName × ByteArray × Nat × Option FieldType × Nat := (⟨"HandsAndWays", "image", "()I"⟩, prog_1_method_35_code, 1, (Option.some Jvm.ClassFile.FieldType.int), 0)
def zm_35 : MethodName × ByteArray × Nat × Option FieldType × Nat := (⟨"HandsAndWays", "back", "()I"⟩, prog_1_method_36_code, 1, (Option.some Jvm.ClassFile.FieldType.int), 0)
def zm_36 : MethodName × ByteArray × Nat × Option FieldType × Nat := (⟨"HandsAndWays", "sheet", "(III)I"⟩, prog_1_method_37_code, 4, (Option.some Jvm.ClassFile.FieldType.int), 0)
def zm_37 : MethodName × ByteArray × Nat × Option FieldType × Nat := (⟨"HandsAndWays", "cell", "(III)I"⟩, prog_1_method_38_code, 4, (Option.some Jvm.ClassFile.FieldType.int), 0)
def zm_38 : MethodName × ByteArray × Nat × Option FieldType × Nat := (⟨"HandsAndWays", "copy", "(IIIII)I"⟩, prog_1_method_39_code, 6, (Option.some Jvm.ClassFile.FieldType.int), 0)
def zm_39 : MethodName × ByteArray × Nat × Option FieldType × Nat := (⟨"HandsAndWays", "walls", "(IIII)I"⟩, prog_1_method_40_code, 8, (Option.some Jvm.ClassFile.FieldType.int), 0)
def zm_40 : MethodName × ByteArray × Nat × Option FieldType × Nat := (⟨"HandsAndWays", "taken", "(II)I"⟩, prog_1_method_41_code, 4, (Option.some Jvm.ClassFile.FieldType.int), 0)
def zm_41 : MethodName × ByteArray × Nat × Option FieldType × Nat := (⟨"HandsAndWays", "isHand", "(I)Z"⟩, prog_1_method_42_code, 1, (Option.some Jvm.ClassFile.FieldType.boolean), 0)
def zm_42 : MethodName × ByteArray × Nat × Option FieldType × Nat := (⟨"HandsAndWays", "isPresent", "(I)Z"⟩, prog_1_method_43_code, 2, (Option.some Jvm.ClassFile.FieldType.boolean), 0)
def zm_43 : MethodName × ByteArray × Nat × Option FieldType × Nat := (⟨"HandsAndWays", "isThing", "(I)Z"⟩, prog_1_method_44_code, 2, (Option.some Jvm.ClassFile.FieldType.boolean), 0)
def zm_44 : MethodName × ByteArray × Nat × Option FieldType × Nat := (⟨"HandsAndWays", "isDoo\x72", "(I)Z"⟩, prog_1_method_45_code, 2, (Option.some Jvm.ClassFile.FieldType.boolean), 0)
def zm_45 : MethodName × ByteArray × Nat × Option FieldType × Nat := (⟨"HandsAndWays", "isProgram", "(I)Z"⟩, prog_1_method_46_code, 2, (Option.some Jvm.ClassFile.FieldType.boolean), 0)
def zm_46 : MethodName × ByteArray × Nat × Option FieldType × Nat := (⟨"HandsAndWays", "isThingOrHandIn", "(I)Z"⟩, prog_1_method_47_code, 2, (Option.some Jvm.ClassFile.FieldType.boolean), 0)
def zm_47 : MethodName × ByteArray × Nat × Option FieldType × Nat := (⟨"HandsAndWays", "answerOf", "(I)I"⟩, prog_1_method_48_code, 1, (Option.some Jvm.ClassFile.FieldType.int), 0)
def zm_48 : MethodName × ByteArray × Nat × Option FieldType × Nat := (⟨"HandsAndWaysModel", "<init>", "()V"⟩, prog_14_method_1_code, 2, (Option.none : Option Jvm.ClassFile.FieldType), 10)
def zm_49 : MethodName × ByteArray × Nat × Option FieldType × Nat := (⟨"HandsAndWaysModel", "in", "(III)Z"⟩, prog_14_method_3_code, 3, (Option.some Jvm.ClassFile.FieldType.boolean), 10)
def zm_50 : MethodName × ByteArray × Nat × Option FieldType × Nat := (⟨"HandsAndWaysModel", "isCell", "(I)Z"⟩, prog_14_method_4_code, 1, (Option.some Jvm.ClassFile.FieldType.boolean), 10)
def zm_51 : MethodName × ByteArray × Nat × Option FieldType × Nat := (⟨"HandsAndWaysModel", "isThing", "(I)Z"⟩, prog_14_method_5_code, 2, (Option.some Jvm.ClassFile.FieldType.boolean), 10)
def zm_52 : MethodName × ByteArray × Nat × Option FieldType × Nat := (⟨"HandsAndWaysModel", "isHand", "(I)Z"⟩, prog_14_method_6_code, 1, (Option.some Jvm.ClassFile.FieldType.boolean), 10)
def zm_53 : MethodName × ByteArray × Nat × Option FieldType × Nat := (⟨"HandsAndWaysModel", "beside", "(II)I"⟩, prog_14_method_7_code, 2, (Option.some Jvm.ClassFile.FieldType.int), 10)
def zm_54 : MethodName × ByteArray × Nat × Option FieldType × Nat := (⟨"HandsAndWaysModel", "sidesOf", "(I)I"⟩, prog_14_method_8_code, 1, (Option.some Jvm.ClassFile.FieldType.int), 10)
def zm_55 : MethodName × ByteArray × Nat × Option FieldType × Nat := (⟨"HandsAndWaysModel", "weightOf", "(II)I"⟩, prog_14_method_9_code, 2, (Option.some Jvm.ClassFile.FieldType.int), 10)
def zm_56 : MethodName × ByteArray × Nat × Option FieldType × Nat := (⟨"HandsAndWaysModel", "turnsUp", "(I)Z"⟩, prog_14_method_10_code, 1, (Option.some Jvm.ClassFile.FieldType.boolean), 10)
def zm_57 : MethodName × ByteArray × Nat × Option FieldType × Nat := (⟨"HandsAndWaysModel", "kindTold", "(III)I"⟩, prog_14_method_11_code, 4, (Option.some Jvm.ClassFile.FieldType.int), 10)
def zm_58 : MethodName × ByteArray × Nat × Option FieldType × Nat := (⟨"HandsAndWaysModel", "isShut", "(I)Z"⟩, prog_14_method_12_code, 3, (Option.some Jvm.ClassFile.FieldType.boolean), 10)
def zm_59 : MethodName × ByteArray × Nat × Option FieldType × Nat := (⟨"HandsAndWaysModel", "thingIn", "(II)I"⟩, prog_14_method_13_code, 5, (Option.some Jvm.ClassFile.FieldType.int), 10)
def zm_60 : MethodName × ByteArray × Nat × Option FieldType × Nat := (⟨"HandsAndWaysModel", "isFree", "(III)Z"⟩, prog_14_method_14_code, 4, (Option.some Jvm.ClassFile.FieldType.boolean), 10)
def zm_61 : MethodName × ByteArray × Nat × Option FieldType × Nat := (⟨"HandsAndWaysModel", "firstX", "(III)I"⟩, prog_14_method_15_code, 3, (Option.some Jvm.ClassFile.FieldType.int), 10)
def zm_62 : MethodName × ByteArray × Nat × Option FieldType × Nat := (⟨"HandsAndWaysModel", "rowY", "(II)I"⟩, prog_14_method_16_code, 2, (Option.some Jvm.ClassFile.FieldType.int), 10)
def zm_63 : MethodName × ByteArray × Nat × Option FieldType × Nat := (⟨"HandsAndWaysModel", "heldAt", "(III)I"⟩, prog_14_method_17_code, 5, (Option.some Jvm.ClassFile.FieldType.int), 10)
def zm_64 : MethodName × ByteArray × Nat × Option FieldType × Nat := (⟨"HandsAndWaysModel", "stands", "(IIII)Z"⟩, prog_14_method_18_code, 7, (Option.some Jvm.ClassFile.FieldType.boolean), 10)
def zm_65 : MethodName × ByteArray × Nat × Option FieldType × Nat := (⟨"HandsAndWaysModel", "maySide", "(II)Z"⟩, prog_14_method_19_code, 3, (Option.some Jvm.ClassFile.FieldType.boolean), 10)
def zm_66 : MethodName × ByteArray × Nat × Option FieldType × Nat := (⟨"HandsAndWaysModel", "spreads", "(IIII)V"⟩, prog_14_method_20_code, 9, (Option.none : Option Jvm.ClassFile.FieldType), 10)
def zm_67 : MethodName × ByteArray × Nat × Option FieldType × Nat := (⟨"HandsAndWaysModel", "spreadsNow", "(I)V"⟩, prog_14_method_21_code, 3, (Option.none : Option Jvm.ClassFile.FieldType), 10)
def zm_68 : MethodName × ByteArray × Nat × Option FieldType × Nat := (⟨"HandsAndWaysModel", "isThere", "(I)Z"⟩, prog_14_method_22_code, 2, (Option.some Jvm.ClassFile.FieldType.boolean), 10)
def zm_69 : MethodName × ByteArray × Nat × Option FieldType × Nat := (⟨"HandsAndWaysModel", "way", "(II)I"⟩, prog_14_method_23_code, 3, (Option.some Jvm.ClassFile.FieldType.int), 10)
def zm_70 : MethodName × ByteArray × Nat × Option FieldType × Nat := (⟨"HandsAndWaysModel", "cellOn", "(III)I"⟩, prog_14_method_24_code, 7, (Option.some Jvm.ClassFile.FieldType.int), 10)
def zm_71 : MethodName × ByteArray × Nat × Option FieldType × Nat := (⟨"HandsAndWaysModel", "step", "(III)I"⟩, prog_14_method_25_code, 4, (Option.some Jvm.ClassFile.FieldType.int), 10)
def zm_72 : MethodName × ByteArray × Nat × Option FieldType × Nat := (⟨"HandsAndWaysModel", "barIn", "(III)I"⟩, prog_14_method_26_code, 6, (Option.some Jvm.ClassFile.FieldType.int), 10)
def zm_73 : MethodName × ByteArray × Nat × Option FieldType × Nat := (⟨"HandsAndWaysModel", "barsAt", "(III)I"⟩, prog_14_method_27_code, 8, (Option.some Jvm.ClassFile.FieldType.int), 10)
def zm_74 : MethodName × ByteArray × Nat × Option FieldType × Nat := (⟨"HandsAndWaysModel", "reached", "(II)I"⟩, prog_14_method_28_code, 9, (Option.some Jvm.ClassFile.FieldType.int), 10)
def zm_75 : MethodName × ByteArray × Nat × Option FieldType × Nat := (⟨"HandsAndWaysModel", "barred", "(II)I"⟩, prog_14_method_29_code, 7, (Option.some Jvm.ClassFile.FieldType.int), 10)
def zm_76 : MethodName × ByteArray × Nat × Option FieldType × Nat := (⟨"HandsAndWaysModel", "isHandIn", "(I)Z"⟩, prog_14_method_30_code, 2, (Option.some Jvm.ClassFile.FieldType.boolean), 10)
def zm_77 : MethodName × ByteArray × Nat × Option FieldType × Nat := (⟨"HandsAndWaysModel", "wall", "(II)I"⟩, prog_14_method_31_code, 4, (Option.some Jvm.ClassFile.FieldType.int), 10)
def zm_78 : MethodName × ByteArray × Nat × Option FieldType × Nat := (⟨"HandsAndWaysModel", "doo\x72", "(II)I"⟩, prog_14_method_32_code, 3, (Option.some Jvm.ClassFile.FieldType.int), 10)
def zm_79 : MethodName × ByteArray × Nat × Option FieldType × Nat := (⟨"HandsAndWaysModel", "canLie", "(III)Z"⟩, prog_14_method_33_code, 5, (Option.some Jvm.ClassFile.FieldType.boolean), 10)
def zm_80 : MethodName × ByteArray × Nat × Option FieldType × Nat := (⟨"HandsAndWaysModel", "thing", "(III)I"⟩, prog_14_method_34_code, 4, (Option.some Jvm.ClassFile.FieldType.int), 10)
def zm_81 : MethodName × ByteArray × Nat × Option FieldType × Nat := (⟨"HandsAndWaysModel", "hand", "(II)I"⟩, prog_14_method_35_code, 4, (Option.some Jvm.ClassFile.FieldType.int), 10)
def zm_82 : MethodName × ByteArray × Nat × Option FieldType × Nat := (⟨"HandsAndWaysModel", "strong", "(I)I"⟩, prog_14_method_36_code, 3, (Option.some Jvm.ClassFile.FieldType.int), 10)
def zm_83 : MethodName × ByteArray × Nat × Option FieldType × Nat := (⟨"HandsAndWaysModel", "comesTo", "(II)V"⟩, prog_14_method_37_code, 4, (Option.none : Option Jvm.ClassFile.FieldType), 10)
def zm_84 : MethodName × ByteArray × Nat × Option FieldType × Nat := (⟨"HandsAndWaysModel", "goes", "(II)I"⟩, prog_14_method_38_code, 3, (Option.some Jvm.ClassFile.FieldType.int), 10)
def zm_85 : MethodName × ByteArray × Nat × Option FieldType × Nat := (⟨"HandsAndWaysModel", "takes", "(III)I"⟩, prog_14_method_39_code, 4, (Option.some Jvm.ClassFile.FieldType.int), 10)
def zm_86 : MethodName × ByteArray × Nat × Option FieldType × Nat := (⟨"HandsAndWaysModel", "puts", "(I)I"⟩, prog_14_method_40_code, 3, (Option.some Jvm.ClassFile.FieldType.int), 10)
def zm_87 : MethodName × ByteArray × Nat × Option FieldType × Nat := (⟨"HandsAndWaysModel", "opens", "(II)I"⟩, prog_14_method_41_code, 5, (Option.some Jvm.ClassFile.FieldType.int), 10)
def zm_88 : MethodName × ByteArray × Nat × Option FieldType × Nat := (⟨"HandsAndWaysModel", "go", "(II)I"⟩, prog_14_method_42_code, 5, (Option.some Jvm.ClassFile.FieldType.int), 10)
def zm_89 : MethodName × ByteArray × Nat × Option FieldType × Nat := (⟨"HandsAndWaysModel", "told", "(I)I"⟩, prog_14_method_43_code, 1, (Option.some Jvm.ClassFile.FieldType.int), 10)
def zm_90 : MethodName × ByteArray × Nat × Option FieldType × Nat := (⟨"HandsAndWaysModel", "take", "(III)I"⟩, prog_14_method_44_code, 4, (Option.some Jvm.ClassFile.FieldType.int), 10)
def zm_91 : MethodName × ByteArray × Nat × Option FieldType × Nat := (⟨"HandsAndWaysModel", "put", "(I)I"⟩, prog_14_method_45_code, 2, (Option.some Jvm.ClassFile.FieldType.int), 10)
def zm_92 : MethodName × ByteArray × Nat × Option FieldType × Nat := (⟨"HandsAndWaysModel", "open", "(II)I"⟩, prog_14_method_46_code, 3, (Option.some Jvm.ClassFile.FieldType.int), 10)
def zm_93 : MethodName × ByteArray × Nat × Option FieldType × Nat := (⟨"HandsAndWaysModel", "thingTold", "(II)I"⟩, prog_14_method_47_code, 3, (Option.some Jvm.ClassFile.FieldType.int), 10)
def zm_94 : MethodName × ByteArray × Nat × Option FieldType × Nat := (⟨"HandsAndWaysModel", "handTold", "(II)I"⟩, prog_14_method_48_code, 3, (Option.some Jvm.ClassFile.FieldType.int), 10)
def zm_95 : MethodName × ByteArray × Nat × Option FieldType × Nat := (⟨"HandsAndWaysModel", "cellTold", "(I)I"⟩, prog_14_method_49_code, 2, (Option.some Jvm.ClassFile.FieldType.int), 10)
def zm_96 : MethodName × ByteArray × Nat × Option FieldType × Nat := (⟨"HandsAndWaysModel", "isOpen", "(I)I"⟩, prog_14_method_50_code, 2, (Option.some Jvm.ClassFile.FieldType.int), 10)
def zm_97 : MethodName × ByteArray × Nat × Option FieldType × Nat := (⟨"HandsAndWaysModel", "count", "(I)I"⟩, prog_14_method_51_code, 2, (Option.some Jvm.ClassFile.FieldType.int), 10)
def zm_98 : MethodName × ByteArray × Nat × Option FieldType × Nat := (⟨"HandsAndWaysModel", "feed", "(JI)I"⟩, prog_14_method_52_code, 5, (Option.some Jvm.ClassFile.FieldType.int), 10)
def zm_99 : MethodName × ByteArray × Nat × Option FieldType × Nat := (⟨"HandsAndWaysModel", "here", "()I"⟩, prog_14_method_53_code, 1, (Option.some Jvm.ClassFile.FieldType.int), 10)
def zm_100 : MethodName × ByteArray × Nat × Option FieldType × Nat := (⟨"HandsAndWaysModel", "numbe\x72", "(I)I"⟩, prog_14_method_54_code, 4, (Option.some Jvm.ClassFile.FieldType.int), 10)
def zm_101 : MethodName × ByteArray × Nat × Option FieldType × Nat := (⟨"HandsAndWaysModel", "reads", "(I)Z"⟩, prog_14_method_55_code, 5, (Option.some Jvm.ClassFile.FieldType.boolean), 10)
def zm_102 : MethodName × ByteArray × Nat × Option FieldType × Nat := (⟨"HandsAndWaysModel", "program", "()I"⟩, prog_14_method_56_code, 3, (Option.some Jvm.ClassFile.FieldType.int), 10)
def zm_103 : MethodName × ByteArray × Nat × Option FieldType × Nat := (⟨"HandsAndWaysModel", "isProgram", "(I)Z"⟩, prog_14_method_57_code, 2, (Option.some Jvm.ClassFile.FieldType.boolean), 10)
def zm_104 : MethodName × ByteArray × Nat × Option FieldType × Nat := (⟨"HandsAndWaysModel", "actTold", "(III)I"⟩, prog_14_method_58_code, 5, (Option.some Jvm.ClassFile.FieldType.int), 10)
def zm_105 : MethodName × ByteArray × Nat × Option FieldType × Nat := (⟨"HandsAndWaysModel", "does", "(II)I"⟩, prog_14_method_59_code, 3, (Option.some Jvm.ClassFile.FieldType.int), 10)
def zm_106 : MethodName × ByteArray × Nat × Option FieldType × Nat := (⟨"HandsAndWaysModel", "plays", "(II)I"⟩, prog_14_method_60_code, 4, (Option.some Jvm.ClassFile.FieldType.int), 10)
def zm_107 : MethodName × ByteArray × Nat × Option FieldType × Nat := (⟨"HandsAndWaysModel", "lays", "(Z)V"⟩, prog_14_method_61_code, 3, (Option.none : Option Jvm.ClassFile.FieldType), 10)
def zm_108 : MethodName × ByteArray × Nat × Option FieldType × Nat := (⟨"HandsAndWaysModel", "judge", "(III)I"⟩, prog_14_method_62_code, 7, (Option.some Jvm.ClassFile.FieldType.int), 10)
def zm_109 : MethodName × ByteArray × Nat × Option FieldType × Nat := (⟨"HandsAndWaysModel", "play", "(II)I"⟩, prog_14_method_63_code, 3, (Option.some Jvm.ClassFile.FieldType.int), 10)
def zm_110 : MethodName × ByteArray × Nat × Option FieldType × Nat := (⟨"HandsAndWaysModel", "start", "(II)I"⟩, prog_14_method_64_code, 3, (Option.some Jvm.ClassFile.FieldType.int), 10)
def zm_111 : MethodName × ByteArray × Nat × Option FieldType × Nat := (⟨"HandsAndWaysModel", "steps", "(II)Z"⟩, prog_14_method_65_code, 3, (Option.some Jvm.ClassFile.FieldType.boolean), 10)
def zm_112 : MethodName × ByteArray × Nat × Option FieldType × Nat := (⟨"HandsAndWaysModel", "ticks", "(I)V"⟩, prog_14_method_66_code, 6, (Option.none : Option Jvm.ClassFile.FieldType), 10)
def zm_113 : MethodName × ByteArray × Nat × Option FieldType × Nat := (⟨"HandsAndWaysModel", "run", "(I)I"⟩, prog_14_method_67_code, 4, (Option.some Jvm.ClassFile.FieldType.int), 10)
def zm_114 : MethodName × ByteArray × Nat × Option FieldType × Nat := (⟨"HandsAndWaysModel", "hangs", "(I)I"⟩, prog_14_method_68_code, 2, (Option.some Jvm.ClassFile.FieldType.int), 10)
def zm_115 : MethodName × ByteArray × Nat × Option FieldType × Nat := (⟨"HandsAndWaysModel", "handFo\x72", "(III)I"⟩, prog_14_method_69_code, 5, (Option.some Jvm.ClassFile.FieldType.int), 10)
def zm_116 : MethodName × ByteArray × Nat × Option FieldType × Nat := (⟨"HandsAndWaysModel", "moveFa\x72", "(IIII)I"⟩, prog_14_method_70_code, 8, (Option.some Jvm.ClassFile.FieldType.int), 10)
def zm_117 : MethodName × ByteArray × Nat × Option FieldType × Nat := (⟨"HandsAndWaysModel", "takenBut", "(II)J"⟩, prog_14_method_71_code, 6, (Option.some Jvm.ClassFile.FieldType.long), 10)
def zm_118 : MethodName × ByteArray × Nat × Option FieldType × Nat := (⟨"HandsAndWaysModel", "isRuled", "(III)Z"⟩, prog_14_method_72_code, 6, (Option.some Jvm.ClassFile.FieldType.boolean), 10)
def zm_119 : MethodName × ByteArray × Nat × Option FieldType × Nat := (⟨"HandsAndWaysModel", "learns", "(III)V"⟩, prog_14_method_73_code, 4, (Option.none : Option Jvm.ClassFile.FieldType), 10)
def zm_120 : MethodName × ByteArray × Nat × Option FieldType × Nat := (⟨"HandsAndWaysModel", "asksAim", "(III)V"⟩, prog_14_method_74_code, 7, (Option.none : Option Jvm.ClassFile.FieldType), 10)
def zm_121 : MethodName × ByteArray × Nat × Option FieldType × Nat := (⟨"HandsAndWaysModel", "asksOthe\x72", "(IIIII)V"⟩, prog_14_method_75_code, 11, (Option.none : Option Jvm.ClassFile.FieldType), 10)
def zm_122 : MethodName × ByteArray × Nat × Option FieldType × Nat := (⟨"HandsAndWaysModel", "seeks", "(IIIIIZ)V"⟩, prog_14_method_76_code, 10, (Option.none : Option Jvm.ClassFile.FieldType), 10)
def zm_123 : MethodName × ByteArray × Nat × Option FieldType × Nat := (⟨"HandsAndWaysModel", "plan", "(IIIII)I"⟩, prog_14_method_77_code, 8, (Option.some Jvm.ClassFile.FieldType.int), 10)
def zm_124 : MethodName × ByteArray × Nat × Option FieldType × Nat := (⟨"HandsAndWaysModel", "planned", "(II)I"⟩, prog_14_method_78_code, 3, (Option.some Jvm.ClassFile.FieldType.int), 10)
def zm_125 : MethodName × ByteArray × Nat × Option FieldType × Nat := (⟨"HandsAndWaysModel", "learnt", "(I)I"⟩, prog_14_method_79_code, 2, (Option.some Jvm.ClassFile.FieldType.int), 10)
def zm_126 : MethodName × ByteArray × Nat × Option FieldType × Nat := (⟨"HandsAndWaysModel", "maybe", "(III)I"⟩, prog_14_method_80_code, 4, (Option.some Jvm.ClassFile.FieldType.int), 10)
def zm_127 : MethodName × ByteArray × Nat × Option FieldType × Nat := (⟨"HandsAndWaysModel", "sure", "()I"⟩, prog_14_method_81_code, 2, (Option.some Jvm.ClassFile.FieldType.int), 10)
def zm_128 : MethodName × ByteArray × Nat × Option FieldType × Nat := (⟨"HandsAndWaysModel", "cases", "(III)I"⟩, prog_14_method_82_code, 11, (Option.some Jvm.ClassFile.FieldType.int), 10)
def zm_129 : MethodName × ByteArray × Nat × Option FieldType × Nat := (⟨"HandsAndWaysModel", "image", "()I"⟩, prog_14_method_83_code, 2, (Option.some Jvm.ClassFile.FieldType.int), 10)
def zm_130 : MethodName × ByteArray × Nat × Option FieldType × Nat := (⟨"HandsAndWaysModel", "back", "()I"⟩, prog_14_method_84_code, 2, (Option.some Jvm.ClassFile.FieldType.int), 10)
def zm_131 : MethodName × ByteArray × Nat × Option FieldType × Nat := (⟨"HandsAndWaysModel", "sheet", "(III)I"⟩, prog_14_method_85_code, 5, (Option.some Jvm.ClassFile.FieldType.int), 10)
def zm_132 : MethodName × ByteArray × Nat × Option FieldType × Nat := (⟨"HandsAndWaysModel", "cell", "(III)I"⟩, prog_14_method_86_code, 4, (Option.some Jvm.ClassFile.FieldType.int), 10)
def zm_133 : MethodName × ByteArray × Nat × Option FieldType × Nat := (⟨"HandsAndWaysModel", "copy", "(IIIII)I"⟩, prog_14_method_87_code, 10, (Option.some Jvm.ClassFile.FieldType.int), 10)
def zm_134 : MethodName × ByteArray × Nat × Option FieldType × Nat := (⟨"HandsAndWaysModel", "walls", "(IIII)I"⟩, prog_14_method_88_code, 9, (Option.some Jvm.ClassFile.FieldType.int), 10)
def zm_135 : MethodName × ByteArray × Nat × Option FieldType × Nat := (⟨"HandsAndWaysModel", "isUnde\x72", "(II)Z"⟩, prog_14_method_89_code, 2, (Option.some Jvm.ClassFile.FieldType.boolean), 10)
def zm_136 : MethodName × ByteArray × Nat × Option FieldType × Nat := (⟨"HandsAndWaysModel", "taken", "(II)I"⟩, prog_14_method_90_code, 4, (Option.some Jvm.ClassFile.FieldType.int), 10)
def zm_137 : MethodName × ByteArray × Nat × Option FieldType × Nat := (⟨"HandsAndWays$Acts", "<init>", "(LHandsAndWays$Room;LHandsAndWays$Ways;LHandsAndWays$Tape;)V"⟩, prog_2_method_1_code, 4, (Option.none : Option Jvm.ClassFile.FieldType), 5)
def zm_138 : MethodName × ByteArray × Nat × Option FieldType × Nat := (⟨"HandsAndWays$Acts", "attempt", "(LHandsAndWays$Scene;IIII)I"⟩, prog_2_method_2_code, 6, (Option.some Jvm.ClassFile.FieldType.int), 5)
def zm_139 : MethodName × ByteArray × Nat × Option FieldType × Nat := (⟨"HandsAndWays$Acts", "attemptGo", "(LHandsAndWays$Scene;II)I"⟩, prog_2_method_3_code, 5, (Option.some Jvm.ClassFile.FieldType.int), 5)
def zm_140 : MethodName × ByteArray × Nat × Option FieldType × Nat := (⟨"HandsAndWays$Acts", "attemptTake", "(LHandsAndWays$Scene;III)I"⟩, prog_2_method_4_code, 5, (Option.some Jvm.ClassFile.FieldType.int), 5)
def zm_141 : MethodName × ByteArray × Nat × Option FieldType × Nat := (⟨"HandsAndWays$Acts", "attemptPut", "(LHandsAndWays$Scene;I)I"⟩, prog_2_method_5_code, 2, (Option.some Jvm.ClassFile.FieldType.int), 5)
def zm_142 : MethodName × ByteArray × Nat × Option FieldType × Nat := (⟨"HandsAndWays$Acts", "attemptOpen", "(LHandsAndWays$Scene;II)I"⟩, prog_2_method_6_code, 5, (Option.some Jvm.ClassFile.FieldType.int), 5)
def zm_143 : MethodName × ByteArray × Nat × Option FieldType × Nat := (⟨"HandsAndWays$Acts", "playAll", "(LHandsAndWays$Scene;II)I"⟩, prog_2_method_7_code, 7, (Option.some Jvm.ClassFile.FieldType.int), 5)
def zm_144 : MethodName × ByteArray × Nat × Option FieldType × Nat := (⟨"HandsAndWays$Acts", "tickHand", "(LHandsAndWays$Scene;I)V"⟩, prog_2_method_8_code, 8, (Option.none : Option Jvm.ClassFile.FieldType), 5)
def zm_145 : MethodName × ByteArray × Nat × Option FieldType × Nat := (⟨"HandsAndWays$Acts", "tickWait", "(LHandsAndWays$Scene;II)V"⟩, prog_2_method_9_code, 3, (Option.none : Option Jvm.ClassFile.FieldType), 5)
def zm_146 : MethodName × ByteArray × Nat × Option FieldType × Nat := (⟨"HandsAndWays$Acts", "tickGo", "(LHandsAndWays$Scene;II)V"⟩, prog_2_method_10_code, 5, (Option.none : Option Jvm.ClassFile.FieldType), 5)
def zm_147 : MethodName × ByteArray × Nat × Option FieldType × Nat := (⟨"HandsAndWays$Acts", "firstStep", "(LHandsAndWays$Scene;II)I"⟩, prog_2_method_11_code, 4, (Option.some Jvm.ClassFile.FieldType.int), 5)
def zm_148 : MethodName × ByteArray × Nat × Option FieldType × Nat := (⟨"HandsAndWays$Acts", "tickOthe\x72", "(LHandsAndWays$Scene;II)V"⟩, prog_2_method_12_code, 3, (Option.none : Option Jvm.ClassFile.FieldType), 5)
def zm_149 : MethodName × ByteArray × Nat × Option FieldType × Nat := (⟨"HandsAndWays$Cells", "isCell", "(I)Z"⟩, prog_3_method_2_code, 1, (Option.some Jvm.ClassFile.FieldType.boolean), 11)
def zm_150 : MethodName × ByteArray × Nat × Option FieldType × Nat := (⟨"HandsAndWays$Cells", "isSide", "(I)Z"⟩, prog_3_method_3_code, 1, (Option.some Jvm.ClassFile.FieldType.boolean), 11)
def zm_151 : MethodName × ByteArray × Nat × Option FieldType × Nat := (⟨"HandsAndWays$Cells", "bit", "(I)J"⟩, prog_3_method_4_code, 1, (Option.some Jvm.ClassFile.FieldType.long), 11)
def zm_152 : MethodName × ByteArray × Nat × Option FieldType × Nat := (⟨"HandsAndWays$Cells", "has", "(JI)Z"⟩, prog_3_method_5_code, 3, (Option.some Jvm.ClassFile.FieldType.boolean), 11)
def zm_153 : MethodName × ByteArray × Nat × Option FieldType × Nat := (⟨"HandsAndWays$Cells", "at", "(II)I"⟩, prog_3_method_6_code, 2, (Option.some Jvm.ClassFile.FieldType.int), 11)
def zm_154 : MethodName × ByteArray × Nat × Option FieldType × Nat := (⟨"HandsAndWays$Cells", "beside", "(II)I"⟩, prog_3_method_7_code, 4, (Option.some Jvm.ClassFile.FieldType.int), 11)
def zm_155 : MethodName × ByteArray × Nat × Option FieldType × Nat := (⟨"HandsAndWays$Cells", "areBeside", "(II)Z"⟩, prog_3_method_8_code, 3, (Option.some Jvm.ClassFile.FieldType.boolean), 11)
def zm_156 : MethodName × ByteArray × Nat × Option FieldType × Nat := (⟨"HandsAndWays$Cells", "allBeside", "(JZ)J"⟩, prog_3_method_9_code, 5, (Option.some Jvm.ClassFile.FieldType.long), 11)
def zm_157 : MethodName × ByteArray × Nat × Option FieldType × Nat := (⟨"HandsAndWays$Cells", "shifted", "(JII)J"⟩, prog_3_method_10_code, 7, (Option.some Jvm.ClassFile.FieldType.long), 11)
def zm_158 : MethodName × ByteArray × Nat × Option FieldType × Nat := (⟨"HandsAndWays$Cells", "isInRow", "(II)Z"⟩, prog_3_method_11_code, 2, (Option.some Jvm.ClassFile.FieldType.boolean), 11)
def zm_159 : MethodName × ByteArray × Nat × Option FieldType × Nat := (⟨"HandsAndWays$Cells", "row", "(II)J"⟩, prog_3_method_12_code, 2, (Option.some Jvm.ClassFile.FieldType.long), 11)
def zm_160 : MethodName × ByteArray × Nat × Option FieldType × Nat := (⟨"HandsAndWays$Cells", "eastOfHand", "(II)I"⟩, prog_3_method_13_code, 2, (Option.some Jvm.ClassFile.FieldType.int), 11)
def zm_161 : MethodName × ByteArray × Nat × Option FieldType × Nat := (⟨"HandsAndWays$Cells", "southOfHand", "(I)I"⟩, prog_3_method_14_code, 1, (Option.some Jvm.ClassFile.FieldType.int), 11)
def zm_162 : MethodName × ByteArray × Nat × Option FieldType × Nat := (⟨"HandsAndWays$Cells", "handCell", "(III)I"⟩, prog_3_method_15_code, 3, (Option.some Jvm.ClassFile.FieldType.int), 11)
def zm_163 : MethodName × ByteArray × Nat × Option FieldType × Nat := (⟨"HandsAndWays$Chances", "<init>", "(LHandsAndWays$Room;LHandsAndWays$Ways;LHandsAndWays$Acts;LHandsAndWays$Scene;)V"⟩, prog_4_method_1_code, 5, (Option.none : Option Jvm.ClassFile.FieldType), 8)
def zm_164 : MethodName × ByteArray × Nat × Option FieldType × Nat := (⟨"HandsAndWays$Chances", "add", "(III)I"⟩, prog_4_method_2_code, 4, (Option.some Jvm.ClassFile.FieldType.int), 8)
def zm_165 : MethodName × ByteArray × Nat × Option FieldType × Nat := (⟨"HandsAndWays$Chances", "weigh", "(LHandsAndWays$Scene;II)V"⟩, prog_4_method_3_code, 5, (Option.none : Option Jvm.ClassFile.FieldType), 8)
def zm_166 : MethodName × ByteArray × Nat × Option FieldType × Nat := (⟨"HandsAndWays$Chances", "canLay", "(LHandsAndWays$Scene;I)Z"⟩, prog_4_method_4_code, 3, (Option.some Jvm.ClassFile.FieldType.boolean), 8)
def zm_167 : MethodName × ByteArray × Nat × Option FieldType × Nat := (⟨"HandsAndWays$Chances", "above", "()I"⟩, prog_4_method_5_code, 1, (Option.some Jvm.ClassFile.FieldType.int), 8)
def zm_168 : MethodName × ByteArray × Nat × Option FieldType × Nat := (⟨"HandsAndWays$Chances", "below", "()I"⟩, prog_4_method_6_code, 1, (Option.some Jvm.ClassFile.FieldType.int), 8)
def zm_169 : MethodName × ByteArray × Nat × Option FieldType × Nat := (⟨"HandsAndWays$Chances", "commonPart", "()I"⟩, prog_4_method_7_code, 5, (Option.some Jvm.ClassFile.FieldType.int), 8)
def zm_170 : MethodName × ByteArray × Nat × Option FieldType × Nat := (⟨"HandsAndWays$Kinds", "isKind", "(I)Z"⟩, prog_5_method_2_code, 1, (Option.some Jvm.ClassFile.FieldType.boolean), 12)
def zm_171 : MethodName × ByteArray × Nat × Option FieldType × Nat := (⟨"HandsAndWays$Kinds", "isWide", "(I)Z"⟩, prog_5_method_3_code, 1, (Option.some Jvm.ClassFile.FieldType.boolean), 12)
def zm_172 : MethodName × ByteArray × Nat × Option FieldType × Nat := (⟨"HandsAndWays$Kinds", "sidesOf", "(I)I"⟩, prog_5_method_4_code, 1, (Option.some Jvm.ClassFile.FieldType.int), 12)
def zm_173 : MethodName × ByteArray × Nat × Option FieldType × Nat := (⟨"HandsAndWays$Kinds", "isHeldFrom", "(II)Z"⟩, prog_5_method_5_code, 2, (Option.some Jvm.ClassFile.FieldType.boolean), 12)
def zm_174 : MethodName × ByteArray × Nat × Option FieldType × Nat := (⟨"HandsAndWays$Kinds", "weightOf", "(II)I"⟩, prog_5_method_6_code, 4, (Option.some Jvm.ClassFile.FieldType.int), 12)
def zm_175 : MethodName × ByteArray × Nat × Option FieldType × Nat := (⟨"HandsAndWays$Kinds", "isKey", "(I)Z"⟩, prog_5_method_7_code, 1, (Option.some Jvm.ClassFile.FieldType.boolean), 12)
def zm_176 : MethodName × ByteArray × Nat × Option FieldType × Nat := (⟨"HandsAndWays$Kinds", "turnsUp", "(I)Z"⟩, prog_5_method_8_code, 1, (Option.some Jvm.ClassFile.FieldType.boolean), 12)
def zm_177 : MethodName × ByteArray × Nat × Option FieldType × Nat := (⟨"HandsAndWays$Kinds", "isOf", "(II)Z"⟩, prog_5_method_9_code, 4, (Option.some Jvm.ClassFile.FieldType.boolean), 12)
def zm_178 : MethodName × ByteArray × Nat × Option FieldType × Nat := (⟨"HandsAndWays$Planne\x72", "<init>", "(LHandsAndWays$Room;LHandsAndWays$Ways;LHandsAndWays$Rules;LHandsAndWays$Scene;)V"⟩, prog_6_method_1_code, 5, (Option.none : Option Jvm.ClassFile.FieldType), 7)
def zm_179 : MethodName × ByteArray × Nat × Option FieldType × Nat := (⟨"HandsAndWays$Planne\x72", "forget", "()V"⟩, prog_6_method_2_code, 1, (Option.none : Option Jvm.ClassFile.FieldType), 7)
def zm_180 : MethodName × ByteArray × Nat × Option FieldType × Nat := (⟨"HandsAndWays$Planne\x72", "findNothingToDo", "()I"⟩, prog_6_method_3_code, 1, (Option.some Jvm.ClassFile.FieldType.int), 7)
def zm_181 : MethodName × ByteArray × Nat × Option FieldType × Nat := (⟨"HandsAndWays$Planne\x72", "clearPlaces", "()V"⟩, prog_6_method_4_code, 1, (Option.none : Option Jvm.ClassFile.FieldType), 7)
def zm_182 : MethodName × ByteArray × Nat × Option FieldType × Nat := (⟨"HandsAndWays$Planne\x72", "addPlace", "(I)V"⟩, prog_6_method_5_code, 2, (Option.none : Option Jvm.ClassFile.FieldType), 7)
def zm_183 : MethodName × ByteArray × Nat × Option FieldType × Nat := (⟨"HandsAndWays$Planne\x72", "bestTold", "(II)I"⟩, prog_6_method_6_code, 3, (Option.some Jvm.ClassFile.FieldType.int), 7)
def zm_184 : MethodName × ByteArray × Nat × Option FieldType × Nat := (⟨"HandsAndWays$Planne\x72", "find", "(IIII)I"⟩, prog_6_method_7_code, 6, (Option.some Jvm.ClassFile.FieldType.int), 7)
def zm_185 : MethodName × ByteArray × Nat × Option FieldType × Nat := (⟨"HandsAndWays$Planne\x72", "seek", "(III)V"⟩, prog_6_method_8_code, 5, (Option.none : Option Jvm.ClassFile.FieldType), 7)
def zm_186 : MethodName × ByteArray × Nat × Option FieldType × Nat := (⟨"HandsAndWays$Planne\x72", "askPlaces", "(IIII)V"⟩, prog_6_method_9_code, 6, (Option.none : Option Jvm.ClassFile.FieldType), 7)
def zm_187 : MethodName × ByteArray × Nat × Option FieldType × Nat := (⟨"HandsAndWays$Planne\x72", "askThing", "(IIIII)V"⟩, prog_6_method_10_code, 13, (Option.none : Option Jvm.ClassFile.FieldType), 7)
def zm_188 : MethodName × ByteArray × Nat × Option FieldType × Nat := (⟨"HandsAndWays$Planne\x72", "farOfMove", "(IIIJ)I"⟩, prog_6_method_11_code, 12, (Option.some Jvm.ClassFile.FieldType.int), 7)
def zm_189 : MethodName × ByteArray × Nat × Option FieldType × Nat := (⟨"HandsAndWays$Planne\x72", "noteMove", "(IIII)V"⟩, prog_6_method_12_code, 5, (Option.none : Option Jvm.ClassFile.FieldType), 7)
def zm_190 : MethodName × ByteArray × Nat × Option FieldType × Nat := (⟨"HandsAndWays$Planne\x72", "keepRow", "(II)V"⟩, prog_6_method_13_code, 3, (Option.none : Option Jvm.ClassFile.FieldType), 7)
def zm_191 : MethodName × ByteArray × Nat × Option FieldType × Nat := (⟨"HandsAndWays$Room", "<init>", "()V"⟩, prog_7_method_1_code, 1, (Option.none : Option Jvm.ClassFile.FieldType), 1)
def zm_192 : MethodName × ByteArray × Nat × Option FieldType × Nat := (⟨"HandsAndWays$Room", "weightOf", "(I)I"⟩, prog_7_method_2_code, 2, (Option.some Jvm.ClassFile.FieldType.int), 1)
def zm_193 : MethodName × ByteArray × Nat × Option FieldType × Nat := (⟨"HandsAndWays$Room", "canBeHeld", "(II)Z"⟩, prog_7_method_3_code, 3, (Option.some Jvm.ClassFile.FieldType.boolean), 1)
def zm_194 : MethodName × ByteArray × Nat × Option FieldType × Nat := (⟨"HandsAndWays$Rules", "<init>", "()V"⟩, prog_8_method_1_code, 1, (Option.none : Option Jvm.ClassFile.FieldType), 6)
def zm_195 : MethodName × ByteArray × Nat × Option FieldType × Nat := (⟨"HandsAndWays$Rules", "isSo", "(IIIIIJ)Z"⟩, prog_8_method_2_code, 9, (Option.some Jvm.ClassFile.FieldType.boolean), 6)
def zm_196 : MethodName × ByteArray × Nat × Option FieldType × Nat := (⟨"HandsAndWays$Rules", "learn", "(IIIIIJ)V"⟩, prog_8_method_3_code, 8, (Option.none : Option Jvm.ClassFile.FieldType), 6)
def zm_197 : MethodName × ByteArray × Nat × Option FieldType × Nat := (⟨"HandsAndWays$Scene", "<init>", "()V"⟩, prog_9_method_1_code, 2, (Option.none : Option Jvm.ClassFile.FieldType), 2)
def zm_198 : MethodName × ByteArray × Nat × Option FieldType × Nat := (⟨"HandsAndWays$Scene", "become", "(LHandsAndWays$Scene;)V"⟩, prog_9_method_2_code, 2, (Option.none : Option Jvm.ClassFile.FieldType), 2)
def zm_199 : MethodName × ByteArray × Nat × Option FieldType × Nat := (⟨"HandsAndWays$Scene", "isOpened", "(I)Z"⟩, prog_9_method_3_code, 2, (Option.some Jvm.ClassFile.FieldType.boolean), 2)
def zm_200 : MethodName × ByteArray × Nat × Option FieldType × Nat := (⟨"HandsAndWays$Scene", "isLoose", "(I)Z"⟩, prog_9_method_4_code, 2, (Option.some Jvm.ClassFile.FieldType.boolean), 2)
def zm_201 : MethodName × ByteArray × Nat × Option FieldType × Nat := (⟨"HandsAndWays$Scene", "isStuck", "(II)Z"⟩, prog_9_method_5_code, 3, (Option.some Jvm.ClassFile.FieldType.boolean), 2)
def zm_202 : MethodName × ByteArray × Nat × Option FieldType × Nat := (⟨"HandsAndWays$Scene", "moveHand", "(III)V"⟩, prog_9_method_6_code, 5, (Option.none : Option Jvm.ClassFile.FieldType), 2)
def zm_203 : MethodName × ByteArray × Nat × Option FieldType × Nat := (⟨"HandsAndWays$Scene", "hold", "(III)V"⟩, prog_9_method_7_code, 4, (Option.none : Option Jvm.ClassFile.FieldType), 2)
def zm_204 : MethodName × ByteArray × Nat × Option FieldType × Nat := (⟨"HandsAndWays$Scene", "letGo", "(I)V"⟩, prog_9_method_8_code, 3, (Option.none : Option Jvm.ClassFile.FieldType), 2)
def zm_205 : MethodName × ByteArray × Nat × Option FieldType × Nat := (⟨"HandsAndWays$Scene", "begin", "(II)V"⟩, prog_9_method_9_code, 3, (Option.none : Option Jvm.ClassFile.FieldType), 2)
def zm_206 : MethodName × ByteArray × Nat × Option FieldType × Nat := (⟨"HandsAndWays$Scene", "endAct", "(I)V"⟩, prog_9_method_10_code, 2, (Option.none : Option Jvm.ClassFile.FieldType), 2)
def zm_207 : MethodName × ByteArray × Nat × Option FieldType × Nat := (⟨"HandsAndWays$Sheets", "<init>", "()V"⟩, prog_10_method_1_code, 1, (Option.none : Option Jvm.ClassFile.FieldType), 9)
def zm_208 : MethodName × ByteArray × Nat × Option FieldType × Nat := (⟨"HandsAndWays$Sheets", "isSheet", "(I)Z"⟩, prog_10_method_2_code, 1, (Option.some Jvm.ClassFile.FieldType.boolean), 9)
def zm_209 : MethodName × ByteArray × Nat × Option FieldType × Nat := (⟨"HandsAndWays$Sheets", "isThere", "(I)Z"⟩, prog_10_method_3_code, 2, (Option.some Jvm.ClassFile.FieldType.boolean), 9)
def zm_210 : MethodName × ByteArray × Nat × Option FieldType × Nat := (⟨"HandsAndWays$Sheets", "make", "(III)I"⟩, prog_10_method_4_code, 5, (Option.some Jvm.ClassFile.FieldType.int), 9)
def zm_211 : MethodName × ByteArray × Nat × Option FieldType × Nat := (⟨"HandsAndWays$Sheets", "numberAt", "(II)I"⟩, prog_10_method_5_code, 3, (Option.some Jvm.ClassFile.FieldType.int), 9)
def zm_212 : MethodName × ByteArray × Nat × Option FieldType × Nat := (⟨"HandsAndWays$Sheets", "write", "(III)V"⟩, prog_10_method_6_code, 5, (Option.none : Option Jvm.ClassFile.FieldType), 9)
def zm_213 : MethodName × ByteArray × Nat × Option FieldType × Nat := (⟨"HandsAndWays$Sheets", "isPart", "(III)Z"⟩, prog_10_method_7_code, 4, (Option.some Jvm.ClassFile.FieldType.boolean), 9)
def zm_214 : MethodName × ByteArray × Nat × Option FieldType × Nat := (⟨"HandsAndWays$Sheets", "copyPart", "(IIIII)V"⟩, prog_10_method_8_code, 6, (Option.none : Option Jvm.ClassFile.FieldType), 9)
def zm_215 : MethodName × ByteArray × Nat × Option FieldType × Nat := (⟨"HandsAndWays$Tape", "<init>", "()V"⟩, prog_11_method_1_code, 1, (Option.none : Option Jvm.ClassFile.FieldType), 4)
def zm_216 : MethodName × ByteArray × Nat × Option FieldType × Nat := (⟨"HandsAndWays$Tape", "placeOf", "(II)I"⟩, prog_11_method_2_code, 2, (Option.some Jvm.ClassFile.FieldType.int), 4)
def zm_217 : MethodName × ByteArray × Nat × Option FieldType × Nat := (⟨"HandsAndWays$Tape", "append", "(JI)V"⟩, prog_11_method_3_code, 5, (Option.none : Option Jvm.ClassFile.FieldType), 4)
def zm_218 : MethodName × ByteArray × Nat × Option FieldType × Nat := (⟨"HandsAndWays$Tape", "readProgram", "()I"⟩, prog_11_method_4_code, 3, (Option.some Jvm.ClassFile.FieldType.int), 4)
def zm_219 : MethodName × ByteArray × Nat × Option FieldType × Nat := (⟨"HandsAndWays$Tape", "readAct", "(I)Z"⟩, prog_11_method_5_code, 4, (Option.some Jvm.ClassFile.FieldType.boolean), 4)
def zm_220 : MethodName × ByteArray × Nat × Option FieldType × Nat := (⟨"HandsAndWays$Tape", "readNumbe\x72", "(I)Z"⟩, prog_11_method_6_code, 3, (Option.some Jvm.ClassFile.FieldType.boolean), 4)
def zm_221 : MethodName × ByteArray × Nat × Option FieldType × Nat := (⟨"HandsAndWays$Tape", "here", "()I"⟩, prog_11_method_7_code, 1, (Option.some Jvm.ClassFile.FieldType.int), 4)
def zm_222 : MethodName × ByteArray × Nat × Option FieldType × Nat := (⟨"HandsAndWays$Tape", "digitOf", "(I)I"⟩, prog_11_method_8_code, 1, (Option.some Jvm.ClassFile.FieldType.int), 4)
def zm_223 : MethodName × ByteArray × Nat × Option FieldType × Nat := (⟨"HandsAndWays$Tape", "actOf", "(I)I"⟩, prog_11_method_9_code, 1, (Option.some Jvm.ClassFile.FieldType.int), 4)
def zm_224 : MethodName × ByteArray × Nat × Option FieldType × Nat := (⟨"HandsAndWays$Tape", "sideOf", "(I)I"⟩, prog_11_method_10_code, 1, (Option.some Jvm.ClassFile.FieldType.int), 4)
def zm_225 : MethodName × ByteArray × Nat × Option FieldType × Nat := (⟨"HandsAndWays$Tape", "mostOf", "(I)I"⟩, prog_11_method_11_code, 1, (Option.some Jvm.ClassFile.FieldType.int), 4)
def zm_226 : MethodName × ByteArray × Nat × Option FieldType × Nat := (⟨"HandsAndWays$Ways", "<init>", "(LHandsAndWays$Room;)V"⟩, prog_12_method_1_code, 2, (Option.none : Option Jvm.ClassFile.FieldType), 3)
def zm_227 : MethodName × ByteArray × Nat × Option FieldType × Nat := (⟨"HandsAndWays$Ways", "cellsOf", "(LHandsAndWays$Scene;I)J"⟩, prog_12_method_2_code, 3, (Option.some Jvm.ClassFile.FieldType.long), 3)
def zm_228 : MethodName × ByteArray × Nat × Option FieldType × Nat := (⟨"HandsAndWays$Ways", "shutDoors", "(LHandsAndWays$Scene;)J"⟩, prog_12_method_3_code, 5, (Option.some Jvm.ClassFile.FieldType.long), 3)
def zm_229 : MethodName × ByteArray × Nat × Option FieldType × Nat := (⟨"HandsAndWays$Ways", "leastThingIn", "(LHandsAndWays$Scene;I)I"⟩, prog_12_method_4_code, 4, (Option.some Jvm.ClassFile.FieldType.int), 3)
def zm_230 : MethodName × ByteArray × Nat × Option FieldType × Nat := (⟨"HandsAndWays$Ways", "takenFo\x72", "(LHandsAndWays$Scene;II)J"⟩, prog_12_method_5_code, 7, (Option.some Jvm.ClassFile.FieldType.long), 3)
def zm_231 : MethodName × ByteArray × Nat × Option FieldType × Nat := (⟨"HandsAndWays$Ways", "canLie", "(LHandsAndWays$Scene;III)Z"⟩, prog_12_method_6_code, 7, (Option.some Jvm.ClassFile.FieldType.boolean), 3)
def zm_232 : MethodName × ByteArray × Nat × Option FieldType × Nat := (⟨"HandsAndWays$Ways", "bitOf", "(I)I"⟩, prog_12_method_7_code, 1, (Option.some Jvm.ClassFile.FieldType.int), 3)
def zm_233 : MethodName × ByteArray × Nat × Option FieldType × Nat := (⟨"HandsAndWays$Ways", "floodFromHand", "(LHandsAndWays$Scene;II)V"⟩, prog_12_method_8_code, 6, (Option.none : Option Jvm.ClassFile.FieldType), 3)
def zm_234 : MethodName × ByteArray × Nat × Option FieldType × Nat := (⟨"HandsAndWays$Ways", "flood", "(IJII)V"⟩, prog_12_method_9_code, 10, (Option.none : Option Jvm.ClassFile.FieldType), 3)
def zm_235 : MethodName × ByteArray × Nat × Option FieldType × Nat := (⟨"HandsAndWays$Ways", "farTo", "(I)I"⟩, prog_12_method_10_code, 3, (Option.some Jvm.ClassFile.FieldType.int), 3)
def zm_236 : MethodName × ByteArray × Nat × Option FieldType × Nat := (⟨"HandsAndWays$Ways", "cellOnWay", "(II)I"⟩, prog_12_method_11_code, 5, (Option.some Jvm.ClassFile.FieldType.int), 3)
def zm_237 : MethodName × ByteArray × Nat × Option FieldType × Nat := (⟨"HandsAndWays$Ways", "cellAhead", "(II)I"⟩, prog_12_method_12_code, 5, (Option.some Jvm.ClassFile.FieldType.int), 3)
def zm_238 : MethodName × ByteArray × Nat × Option FieldType × Nat := (⟨"HandsAndWays$Ways", "bars", "(LHandsAndWays$Scene;I)I"⟩, prog_12_method_13_code, 13, (Option.some Jvm.ClassFile.FieldType.int), 3)
def zm_239 : MethodName × ByteArray × Nat × Option FieldType × Nat := (⟨"HandsAndWays$Ways", "thingsIn", "(LHandsAndWays$Scene;JI)I"⟩, prog_12_method_14_code, 7, (Option.some Jvm.ClassFile.FieldType.int), 3)
def zm_240 : MethodName × ByteArray × Nat × Option FieldType × Nat := (⟨"HandsAndWays$Ways", "shutDoorsIn", "(LHandsAndWays$Scene;J)I"⟩, prog_12_method_15_code, 6, (Option.some Jvm.ClassFile.FieldType.int), 3)
def zm_241 : MethodName × ByteArray × Nat × Option FieldType × Nat := (⟨"HandsAndWays$Ways", "otherHandIn", "(LHandsAndWays$Scene;JI)I"⟩, prog_12_method_16_code, 5, (Option.some Jvm.ClassFile.FieldType.int), 3)
def zm_242 : MethodName × ByteArray × Nat × Option FieldType × Nat := (⟨"HandsAndWaysLaw", "law", "([I)Z"⟩, code, 4, (Option.some Jvm.ClassFile.FieldType.boolean : Option Jvm.ClassFile.FieldType), 13)
def zm_243 : MethodName × ByteArray × Nat × Option FieldType × Nat := (⟨"java/lang/Long", "bitCount", "(J)I"⟩, prog_15_method_50_code, 2, (Option.some Jvm.ClassFile.FieldType.int), 14)
def zm_244 : MethodName × ByteArray × Nat × Option FieldType × Nat := (⟨"java/lang/Math", "max", "(II)I"⟩, prog_16_method_65_code, 2, (Option.some Jvm.ClassFile.FieldType.int), 15)
def zmt : List (MethodName × ByteArray × Nat × Option FieldType × Nat) := [zm_0, zm_1, zm_2, zm_3, zm_4, zm_5, zm_6, zm_7, zm_8, zm_9, zm_10, zm_11, zm_12, zm_13, zm_14, zm_15, zm_16, zm_17, zm_18, zm_19, zm_20, zm_21, zm_22, zm_23, zm_24, zm_25, zm_26, zm_27, zm_28, zm_29, zm_30, zm_31, zm_32, zm_33, zm_34, zm_35, zm_36, zm_37, zm_38, zm_39, zm_40, zm_41, zm_42, zm_43, zm_44, zm_45, zm_46, zm_47, zm_48, zm_49, zm_50, zm_51, zm_52, zm_53, zm_54, zm_55, zm_56, zm_57, zm_58, zm_59, zm_60, zm_61, zm_62, zm_63, zm_64, zm_65, zm_66, zm_67, zm_68, zm_69, zm_70, zm_71, zm_72, zm_73, zm_74, zm_75, zm_76, zm_77, zm_78, zm_79, zm_80, zm_81, zm_82, zm_83, zm_84, zm_85, zm_86, zm_87, zm_88, zm_89, zm_90, zm_91, zm_92, zm_93, zm_94, zm_95, zm_96, zm_97, zm_98, zm_99, zm_100, zm_101, zm_102, zm_103, zm_104, zm_105, zm_106, zm_107, zm_108, zm_109, zm_110, zm_111, zm_112, zm_113, zm_114, zm_115, zm_116, zm_117, zm_118, zm_119, zm_120, zm_121, zm_122, zm_123, zm_124, zm_125, zm_126, zm_127, zm_128, zm_129, zm_130, zm_131, zm_132, zm_133, zm_134, zm_135, zm_136, zm_137, zm_138, zm_139, zm_140, zm_141, zm_142, zm_143, zm_144, zm_145, zm_146, zm_147, zm_148, zm_149, zm_150, zm_151, zm_152, zm_153, zm_154, zm_155, zm_156, zm_157, zm_158, zm_159, zm_160, zm_161, zm_162, zm_163, zm_164, zm_165, zm_166, zm_167, zm_168, zm_169, zm_170, zm_171, zm_172, zm_173, zm_174, zm_175, zm_176, zm_177, zm_178, zm_179, zm_180, zm_181, zm_182, zm_183, zm_184, zm_185, zm_186, zm_187, zm_188, zm_189, zm_190, zm_191, zm_192, zm_193, zm_194, zm_195, zm_196, zm_197, zm_198, zm_199, zm_200, zm_201, zm_202, zm_203, zm_204, zm_205, zm_206, zm_207, zm_208, zm_209, zm_210, zm_211, zm_212, zm_213, zm_214, zm_215, zm_216, zm_217, zm_218, zm_219, zm_220, zm_221, zm_222, zm_223, zm_224, zm_225, zm_226, zm_227, zm_228, zm_229, zm_230, zm_231, zm_232, zm_233, zm_234, zm_235, zm_236, zm_237, zm_238, zm_239, zm_240, zm_241, zm_242, zm_243, zm_244]
def zpl : List Nat := [1, 4, 3, 5, 4, 3, 5, 4, 2, 3, 4, 5, 3, 5, 3, 3, 4, 2, 2, 2, 4, 2, 4, 5, 4, 3, 3, 2, 7, 3, 2, 4, 2, 4, 1, 1, 4, 4, 6, 8, 4, 1, 2, 2, 2, 2, 2, 1, 2, 3, 1, 2, 1, 2, 1, 2, 1, 4, 3, 5, 4, 3, 2, 5, 7, 3, 9, 3, 2, 3, 7, 4, 6, 8, 9, 7, 2, 4, 3, 5, 4, 4, 3, 4, 3, 4, 3, 5, 5, 1, 4, 2, 3, 3, 3, 2, 2, 2, 5, 1, 4, 5, 3, 2, 5, 3, 4, 3, 7, 3, 3, 3, 6, 4, 2, 5, 8, 6, 6, 4, 7, 11, 10, 8, 3, 2, 4, 2, 11, 2, 2, 5, 4, 10, 9, 2, 4, 4, 6, 5, 5, 2, 5, 7, 8, 3, 5, 4, 3, 1, 1, 1, 3, 2, 4, 3, 5, 7, 2, 2, 2, 1, 3, 5, 4, 5, 3, 1, 1, 5, 1, 1, 1, 2, 4, 1, 1, 4, 5, 1, 1, 1, 2, 3, 6, 5, 6, 13, 12, 5, 3, 1, 2, 3, 1, 9, 8, 2, 2, 2, 2, 3, 5, 4, 3, 3, 2, 1, 1, 2, 5, 3, 5, 4, 6, 1, 2, 5, 3, 4, 3, 1, 1, 1, 1, 1, 2, 3, 5, 4, 7, 7, 1, 6, 10, 3, 5, 5, 13, 7, 6, 5, 4, 2, 2]
def zpos : List Nat := [21, 438, 468, 479, 508, 516, 520, 625, 635, 639, 647, 653, 667, 693, 698, 706, 710, 716, 721, 726, 730, 738, 773, 782, 799, 803, 811, 838, 846, 925, 933, 937, 945, 949, 979, 983, 987, 995, 1003, 1016, 1021, 511, 524, 472, 643, 777, 445, 631, 1031, 1185, 1208, 1288, 1205, 1223, 1188, 1191, 1194, 1182, 1235, 1239, 1231, 1245, 1248, 1242, 1227, 1220, 1216, 1212, 1202, 1198, 1256, 1252, 1268, 1264, 1260, 1272, 1280, 1276, 1284, 1296, 1292, 1300, 1304, 1316, 1312, 1324, 1335, 1343, 1308, 1327, 1320, 1331, 1339, 1347, 1351, 1355, 1359, 1363, 1367, 1380, 1384, 1376, 1372, 1392, 1388, 1408, 1404, 1400, 1396, 1412, 1416, 1428, 1424, 1420, 1432, 1459, 1456, 1452, 1448, 1463, 1444, 1467, 1440, 1436, 1471, 1475, 1479, 1483, 1487, 1491, 1495, 1499, 1503, 1507, 1511, 1519, 1516, 228, 528, 532, 572, 603, 611, 793, 815, 818, 826, 830, 834, 441, 628, 463, 459, 596, 621, 618, 560, 555, 492, 456, 549, 552, 591, 337, 941, 953, 957, 967, 975, 971, 482, 485, 701, 579, 588, 475, 543, 1024, 282, 861, 865, 869, 873, 929, 877, 881, 921, 885, 894, 907, 911, 29, 585, 898, 248, 890, 916, 86, 786, 615, 576, 842, 568, 600, 607, 807, 822, 384, 849, 853, 991, 857, 999, 1007, 1011, 184, 745, 734, 742, 749, 763, 753, 766, 756, 769, 759, 157, 453, 503, 449, 499, 489, 495, 536, 540, 564, 657, 662, 677, 681, 685, 689, 0, 670, 963]
/-- links of fields: whose, entry, class, place; position of the word -/
def zFT : List (Nat × Nat × Nat × Nat × Nat) := [(0, 10, 0, 0, 398), (0, 19, 0, 1, 399), (0, 23, 0, 2, 400), (0, 26, 0, 3, 401), (0, 29, 0, 4, 402), (0, 38, 0, 5, 403), (0, 45, 0, 6, 404), (0, 54, 0, 7, 405), (0, 61, 0, 8, 406), (0, 70, 0, 9, 407), (0, 79, 0, 10, 408), (0, 86, 0, 11, 409), (0, 99, 1, 0, 32), (0, 116, 1, 3, 44), (0, 125, 1, 5, 55), (0, 129, 1, 6, 59), (0, 132, 1, 7, 62), (0, 145, 1, 2, 41), (0, 148, 1, 4, 51), (0, 151, 2, 2, 97), (0, 157, 2, 6, 112), (0, 164, 2, 5, 107), (0, 167, 1, 1, 36), (0, 173, 2, 7, 116), (0, 201, 3, 5, 165), (0, 217, 2, 3, 101), (0, 220, 2, 4, 104), (0, 229, 2, 8, 119), (0, 232, 2, 9, 122), (0, 235, 2, 11, 127), (0, 253, 2, 0, 89), (0, 256, 4, 2, 190), (0, 259, 4, 1, 188), (0, 262, 8, 4, 344), (0, 265, 6, 0, 251), (0, 277, 4, 3, 193), (0, 280, 4, 4, 196), (0, 286, 4, 5, 199), (0, 288, 4, 6, 202), (0, 299, 5, 3, 234), (0, 320, 9, 1, 389), (0, 342, 7, 11, 297), (0, 345, 7, 12, 299), (0, 351, 6, 1, 254), (0, 354, 7, 10, 295), (0, 357, 8, 5, 346), (0, 367, 8, 8, 350), (0, 376, 8, 9, 352), (0, 386, 9, 0, 387), (1, 7, 1, 0, 31), (1, 13, 1, 1, 34), (1, 17, 1, 2, 38), (1, 20, 1, 3, 43), (1, 24, 1, 4, 47), (1, 27, 1, 5, 53), (1, 30, 1, 6, 57), (1, 33, 1, 7, 61), (2, 9, 2, 0, 88), (2, 15, 2, 1, 90), (2, 20, 2, 2, 93), (2, 24, 2, 3, 99), (2, 27, 2, 4, 102), (2, 30, 2, 5, 105), (2, 33, 2, 6, 110), (2, 36, 2, 7, 114), (2, 39, 2, 8, 117), (2, 42, 2, 9, 120), (2, 45, 2, 10, 123), (2, 48, 2, 11, 125), (3, 11, 3, 1, 160), (3, 15, 3, 2, 161), (3, 19, 3, 3, 162), (3, 23, 3, 4, 163), (3, 27, 3, 5, 164), (3, 30, 3, 0, 159), (3, 34, 2, 2, 94), (3, 40, 1, 4, 48), (3, 51, 1, 5, 54), (3, 54, 2, 1, 91), (3, 57, 1, 6, 58), (3, 60, 1, 2, 39), (3, 71, 1, 0, 33), (3, 78, 2, 5, 108), (3, 97, 2, 6, 113), (3, 100, 2, 4, 103), (3, 107, 1, 3, 46), (4, 11, 4, 0, 186), (4, 15, 4, 1, 187), (4, 19, 4, 2, 189), (4, 22, 4, 3, 191), (4, 25, 4, 4, 194), (4, 28, 4, 5, 197), (4, 31, 4, 6, 200), (4, 34, 4, 7, 203), (4, 37, 4, 8, 204), (5, 9, 5, 3, 233), (5, 15, 5, 0, 230), (5, 19, 5, 1, 231), (5, 23, 5, 2, 232), (5, 27, 2, 5, 106), (5, 62, 2, 6, 111), (5, 65, 1, 2, 40), (5, 74, 1, 3, 45), (5, 86, 1, 1, 35), (5, 89, 2, 2, 96), (5, 92, 1, 4, 50), (5, 108, 1, 5, 56), (5, 114, 1, 6, 60), (5, 120, 1, 7, 63), (5, 123, 2, 1, 92), (5, 126, 4, 3, 192), (5, 135, 4, 4, 195), (5, 138, 4, 5, 198), (5, 141, 4, 6, 201), (5, 148, 2, 8, 118), (5, 151, 2, 9, 121), (5, 163, 2, 10, 124), (5, 172, 2, 11, 126), (6, 7, 6, 0, 250), (6, 13, 6, 1, 252), (6, 16, 6, 2, 255), (6, 20, 6, 3, 256), (6, 23, 6, 4, 257), (6, 26, 6, 5, 258), (6, 29, 6, 6, 259), (6, 32, 6, 7, 260), (7, 11, 7, 4, 288), (7, 15, 7, 5, 289), (7, 19, 7, 6, 290), (7, 22, 7, 7, 291), (7, 25, 7, 8, 292), (7, 28, 7, 9, 293), (7, 31, 7, 10, 294), (7, 34, 7, 11, 296), (7, 37, 7, 12, 298), (7, 40, 7, 13, 300), (7, 43, 7, 14, 301), (7, 46, 7, 0, 284), (7, 50, 7, 1, 285), (7, 54, 7, 2, 286), (7, 58, 7, 3, 287), (7, 66, 1, 2, 42), (7, 85, 2, 2, 98), (7, 88, 2, 5, 109), (7, 97, 1, 1, 37), (7, 106, 6, 1, 253), (7, 122, 1, 4, 52), (8, 9, 8, 4, 343), (8, 15, 8, 5, 345), (8, 18, 8, 6, 347), (8, 22, 8, 7, 348), (8, 25, 8, 8, 349), (8, 28, 8, 9, 351), (8, 31, 8, 10, 353), (8, 34, 8, 11, 354), (8, 37, 8, 0, 339), (8, 41, 8, 1, 340), (8, 45, 8, 2, 341), (8, 49, 8, 3, 342), (8, 63, 2, 2, 95), (8, 72, 2, 7, 115), (8, 81, 2, 3, 100), (8, 84, 1, 4, 49), (9, 9, 9, 0, 386), (9, 13, 9, 1, 388), (9, 16, 9, 2, 390), (10, 7, 10, 0, 1033), (10, 13, 10, 1, 1034), (10, 16, 10, 2, 1035), (10, 19, 10, 4, 1037), (10, 23, 10, 6, 1039), (10, 26, 10, 7, 1040), (10, 29, 10, 9, 1042), (10, 32, 10, 10, 1043), (10, 35, 10, 11, 1044), (10, 39, 10, 13, 1046), (10, 42, 10, 14, 1047), (10, 45, 10, 15, 1048), (10, 48, 10, 16, 1049), (10, 51, 10, 17, 1050), (10, 54, 10, 20, 1053), (10, 57, 10, 21, 1054), (10, 60, 10, 22, 1055), (10, 63, 10, 25, 1058), (10, 66, 10, 26, 1059), (10, 69, 10, 27, 1060), (10, 72, 10, 28, 1061), (10, 75, 10, 29, 1062), (10, 78, 10, 30, 1063), (10, 82, 10, 35, 1068), (10, 85, 10, 36, 1069), (10, 88, 10, 37, 1070), (10, 91, 10, 38, 1071), (10, 94, 10, 39, 1072), (10, 97, 10, 40, 1073), (10, 100, 10, 41, 1074), (10, 107, 10, 8, 1041), (10, 122, 10, 5, 1038), (10, 209, 10, 12, 1045), (10, 212, 10, 18, 1051), (10, 215, 10, 33, 1066), (10, 218, 10, 24, 1057), (10, 223, 10, 42, 1075), (10, 242, 10, 43, 1076), (10, 258, 10, 32, 1065), (10, 268, 10, 31, 1064), (10, 278, 10, 23, 1056), (10, 281, 10, 47, 1080), (10, 284, 10, 19, 1052), (10, 287, 10, 44, 1077), (10, 290, 10, 45, 1078), (10, 293, 10, 46, 1079), (10, 311, 10, 34, 1067), (10, 314, 10, 3, 1036)]
/-- links of methods: whose, entry, which, kind (0 static, 1 virtual, 2 special, 3 special of a nest mate); positions of the words in lw_tbl: link, static or instance, selects, initialized -/
def zMT : List (Nat × Nat × Nat × Nat × Nat × Nat × Nat × Nat) := [(0, 9, 191, 3, 86, 87, 0, 61), (0, 18, 197, 2, 143, 144, 0, 62), (0, 35, 226, 2, 214, 215, 0, 63), (0, 44, 215, 3, 241, 242, 0, 64), (0, 51, 137, 2, 285, 286, 0, 65), (0, 60, 194, 3, 305, 306, 0, 66), (0, 67, 178, 2, 339, 340, 0, 67), (0, 76, 163, 2, 394, 395, 0, 68), (0, 85, 207, 3, 441, 442, 0, 69), (0, 90, 149, 0, 498, 499, 0, 71), (0, 96, 46, 1, 501, 503, 0, 60), (0, 103, 152, 0, 519, 517, 0, 71), (0, 107, 151, 0, 520, 521, 0, 71), (0, 113, 43, 1, 528, 530, 1, 60), (0, 120, 175, 0, 532, 533, 0, 72), (0, 135, 170, 0, 539, 540, 0, 72), (0, 138, 171, 0, 542, 543, 0, 72), (0, 141, 231, 1, 545, 546, 547, 63), (0, 154, 41, 0, 568, 569, 0, 60), (0, 160, 230, 1, 571, 556, 557, 63), (0, 170, 42, 1, 580, 582, 2, 60), (0, 176, 138, 1, 584, 585, 586, 65), (0, 180, 150, 0, 685, 686, 0, 71), (0, 183, 47, 0, 688, 689, 0, 60), (0, 187, 44, 1, 699, 701, 6, 60), (0, 190, 233, 1, 707, 593, 594, 63), (0, 194, 235, 1, 708, 621, 622, 63), (0, 197, 236, 1, 713, 714, 715, 63), (0, 204, 243, 0, 727, 728, 0, 73), (0, 210, 238, 1, 733, 734, 735, 63), (0, 214, 200, 1, 753, 633, 634, 62), (0, 223, 172, 0, 758, 759, 0, 72), (0, 226, 192, 1, 761, 642, 643, 61), (0, 238, 174, 0, 770, 646, 0, 72), (0, 240, 176, 0, 771, 601, 0, 72), (0, 243, 228, 1, 776, 560, 561, 63), (0, 247, 229, 1, 505, 506, 507, 63), (0, 250, 199, 1, 781, 672, 673, 62), (0, 266, 217, 1, 790, 791, 792, 64), (0, 270, 218, 1, 798, 799, 800, 64), (0, 274, 45, 1, 833, 835, 13, 60), (0, 283, 216, 0, 837, 803, 0, 64), (0, 291, 198, 1, 842, 843, 844, 62), (0, 295, 143, 1, 849, 850, 851, 65), (0, 302, 205, 1, 863, 864, 865, 62), (0, 306, 144, 1, 871, 872, 873, 65), (0, 310, 201, 1, 898, 899, 900, 62), (0, 314, 208, 0, 906, 907, 0, 69), (0, 317, 209, 1, 909, 910, 911, 69), (0, 322, 211, 1, 913, 914, 915, 69), (0, 325, 179, 1, 917, 918, 919, 67), (0, 328, 180, 1, 921, 922, 923, 67), (0, 331, 181, 1, 925, 926, 927, 67), (0, 334, 182, 1, 929, 930, 931, 67), (0, 338, 184, 1, 933, 934, 935, 67), (0, 348, 183, 1, 985, 986, 987, 67), (0, 360, 164, 1, 997, 998, 999, 68), (0, 364, 165, 1, 1009, 1010, 1011, 68), (0, 370, 167, 1, 1023, 1024, 1025, 68), (0, 373, 168, 1, 1031, 1032, 1033, 68), (0, 379, 210, 1, 1047, 1048, 1049, 69), (0, 382, 212, 1, 1055, 1056, 1057, 69), (0, 389, 213, 1, 1063, 1064, 1065, 69), (0, 393, 214, 1, 1067, 1068, 1069, 69), (0, 397, 1, 1, 1076, 495, 496, 60), (0, 400, 177, 0, 1081, 1082, 0, 72), (1, 36, 174, 0, 645, 646, 0, 72), (1, 42, 173, 0, 958, 637, 0, 72), (3, 45, 159, 0, 513, 514, 0, 71), (3, 63, 227, 1, 509, 510, 511, 63), (3, 67, 152, 0, 516, 517, 0, 71), (3, 74, 228, 1, 559, 560, 561, 63), (3, 81, 151, 0, 563, 521, 0, 71), (3, 85, 158, 0, 549, 550, 0, 71), (3, 89, 232, 0, 552, 553, 0, 63), (3, 93, 230, 1, 555, 556, 557, 63), (3, 103, 234, 1, 596, 597, 598, 63), (3, 110, 176, 0, 600, 601, 0, 72), (3, 118, 160, 0, 606, 607, 0, 71), (3, 122, 161, 0, 609, 610, 0, 71), (3, 125, 157, 0, 612, 613, 0, 71), (3, 129, 156, 0, 617, 618, 0, 71), (3, 133, 235, 1, 717, 621, 622, 63), (3, 136, 237, 1, 718, 720, 7, 63), (3, 139, 154, 0, 722, 679, 0, 71), (3, 142, 239, 1, 737, 739, 8, 63), (3, 146, 240, 1, 741, 743, 9, 63), (3, 150, 241, 0, 746, 747, 0, 63), (3, 153, 199, 1, 745, 672, 673, 62), (4, 40, 216, 0, 802, 803, 0, 64), (4, 44, 219, 1, 805, 807, 10, 64), (4, 48, 221, 1, 809, 811, 11, 64), (4, 52, 223, 0, 813, 814, 0, 64), (4, 58, 225, 0, 816, 817, 0, 64), (4, 61, 220, 1, 819, 821, 12, 64), (4, 64, 224, 0, 826, 827, 0, 64), (4, 67, 222, 0, 823, 824, 0, 64), (5, 33, 139, 1, 588, 590, 3, 65), (5, 37, 140, 1, 628, 630, 4, 65), (5, 41, 141, 0, 660, 661, 0, 65), (5, 45, 142, 1, 667, 669, 5, 65), (5, 48, 233, 1, 592, 593, 594, 63), (5, 54, 235, 1, 620, 621, 622, 63), (5, 58, 202, 1, 624, 625, 626, 62), (5, 70, 200, 1, 632, 633, 634, 62), (5, 77, 173, 0, 636, 637, 0, 72), (5, 83, 192, 1, 641, 642, 643, 61), (5, 95, 162, 0, 648, 649, 0, 71), (5, 101, 203, 1, 656, 657, 658, 62), (5, 104, 204, 1, 663, 664, 665, 62), (5, 111, 199, 1, 671, 672, 673, 62), (5, 117, 155, 0, 675, 676, 0, 71), (5, 131, 216, 0, 853, 803, 0, 64), (5, 144, 138, 1, 854, 585, 586, 65), (5, 154, 145, 0, 875, 876, 0, 65), (5, 157, 146, 1, 882, 884, 14, 65), (5, 160, 148, 0, 891, 892, 0, 65), (5, 166, 206, 1, 878, 879, 880, 62), (5, 169, 147, 1, 886, 888, 15, 65), (5, 175, 236, 1, 890, 714, 715, 63), (7, 62, 185, 1, 937, 939, 16, 67), (7, 71, 187, 1, 941, 943, 17, 67), (7, 75, 200, 1, 976, 633, 634, 62), (7, 81, 186, 1, 977, 979, 21, 67), (7, 91, 230, 1, 945, 556, 557, 63), (7, 100, 195, 1, 946, 947, 948, 66), (7, 111, 188, 1, 950, 952, 18, 67), (7, 115, 189, 1, 963, 965, 19, 67), (7, 118, 190, 1, 967, 969, 20, 67), (7, 125, 162, 0, 959, 649, 0, 71), (7, 129, 196, 1, 972, 973, 974, 66), (7, 133, 193, 1, 954, 955, 956, 61), (7, 137, 159, 0, 960, 514, 0, 71), (7, 140, 234, 1, 961, 597, 598, 63), (7, 144, 235, 1, 962, 621, 622, 63), (8, 53, 166, 1, 1013, 1015, 22, 68), (8, 57, 198, 1, 1018, 843, 844, 62), (8, 66, 143, 1, 1019, 850, 851, 65), (8, 75, 244, 0, 1020, 1021, 0, 75), (8, 89, 231, 1, 1017, 546, 547, 63), (8, 95, 169, 1, 1027, 1029, 23, 68), (10, 103, 49, 0, 1242, 1243, 0, 70), (10, 110, 54, 0, 1245, 1246, 0, 70), (10, 114, 55, 0, 1248, 1249, 0, 70), (10, 118, 56, 0, 1251, 1252, 0, 70), (10, 125, 58, 1, 1291, 1293, 30, 70), (10, 128, 59, 1, 1295, 1297, 31, 70), (10, 131, 61, 0, 1302, 1303, 0, 70), (10, 135, 62, 0, 1305, 1306, 0, 70), (10, 138, 60, 1, 1287, 1289, 29, 70), (10, 141, 63, 0, 1299, 1300, 0, 70), (10, 144, 65, 1, 1276, 1278, 27, 70), (10, 148, 53, 0, 1280, 1281, 0, 70), (10, 151, 64, 1, 1283, 1285, 28, 70), (10, 155, 66, 1, 1272, 1274, 26, 70), (10, 159, 52, 0, 1262, 1263, 0, 70), (10, 162, 68, 1, 1258, 1260, 24, 70), (10, 165, 50, 0, 1265, 1266, 0, 70), (10, 168, 67, 1, 1268, 1270, 25, 70), (10, 172, 70, 1, 1312, 1314, 32, 70), (10, 175, 72, 1, 1324, 1326, 34, 70), (10, 178, 73, 1, 1320, 1322, 33, 70), (10, 181, 76, 1, 1336, 1338, 35, 70), (10, 184, 51, 1, 1344, 1346, 36, 70), (10, 187, 79, 1, 1352, 1354, 37, 70), (10, 190, 83, 1, 1372, 1374, 39, 70), (10, 194, 84, 1, 1368, 1370, 38, 70), (10, 197, 85, 1, 1380, 1382, 40, 70), (10, 200, 89, 0, 1384, 1385, 0, 70), (10, 203, 86, 1, 1391, 1393, 41, 70), (10, 206, 87, 1, 1399, 1401, 42, 70), (10, 226, 99, 1, 1436, 1438, 44, 70), (10, 230, 100, 1, 1440, 1442, 45, 70), (10, 233, 101, 1, 1432, 1434, 43, 70), (10, 236, 103, 1, 1448, 1450, 46, 70), (10, 239, 105, 1, 1464, 1466, 49, 70), (10, 245, 107, 1, 1456, 1458, 47, 70), (10, 249, 106, 1, 1460, 1462, 48, 70), (10, 252, 111, 1, 1484, 1486, 51, 70), (10, 255, 112, 1, 1480, 1482, 50, 70), (10, 261, 115, 0, 1516, 1517, 0, 70), (10, 264, 117, 1, 1508, 1510, 55, 70), (10, 271, 118, 1, 1504, 1506, 54, 70), (10, 274, 116, 1, 1512, 1514, 56, 70), (10, 296, 119, 1, 1519, 1521, 57, 70), (10, 300, 120, 1, 1500, 1502, 53, 70), (10, 303, 121, 1, 1523, 1525, 58, 70), (10, 307, 122, 1, 1496, 1498, 52, 70), (10, 318, 77, 1, 1571, 1333, 1334, 70), (10, 321, 135, 0, 1576, 1577, 0, 70), (11, 11, 153, 0, 653, 654, 0, 71), (11, 15, 154, 0, 678, 679, 0, 71), (11, 22, 160, 0, 651, 607, 0, 71), (11, 25, 161, 0, 652, 610, 0, 71), (13, 9, 0, 2, 78, 79, 0, 60), (13, 12, 48, 2, 1088, 1089, 0, 70), (13, 13, 1, 1, 494, 495, 496, 60), (13, 17, 77, 1, 1332, 1333, 1334, 70), (13, 18, 2, 1, 524, 525, 526, 60), (13, 21, 78, 1, 1340, 1341, 1342, 70), (13, 22, 3, 1, 535, 536, 537, 60), (13, 26, 80, 1, 1348, 1349, 1350, 70), (13, 27, 4, 1, 564, 565, 566, 60), (13, 30, 81, 1, 1356, 1357, 1358, 70), (13, 31, 5, 1, 572, 573, 574, 60), (13, 35, 82, 1, 1360, 1361, 1362, 70), (13, 36, 6, 1, 576, 577, 578, 60), (13, 39, 88, 1, 1364, 1365, 1366, 70), (13, 40, 7, 1, 681, 682, 683, 60), (13, 43, 90, 1, 1376, 1377, 1378, 70), (13, 44, 8, 1, 691, 692, 693, 60), (13, 47, 91, 1, 1387, 1388, 1389, 70), (13, 48, 9, 1, 695, 696, 697, 60), (13, 51, 92, 1, 1395, 1396, 1397, 70), (13, 52, 10, 1, 703, 704, 705, 60), (13, 55, 69, 1, 1254, 1255, 1256, 70), (13, 56, 11, 1, 709, 710, 711, 60), (13, 59, 71, 1, 1308, 1309, 1310, 70), (13, 60, 12, 1, 723, 724, 725, 60), (13, 63, 74, 1, 1316, 1317, 1318, 70), (13, 64, 13, 1, 749, 750, 751, 60), (13, 67, 75, 1, 1328, 1329, 1330, 70), (13, 68, 14, 1, 754, 755, 756, 60), (13, 71, 93, 1, 1403, 1404, 1405, 70), (13, 72, 15, 1, 762, 763, 764, 60), (13, 75, 94, 1, 1407, 1408, 1409, 70), (13, 76, 16, 1, 766, 767, 768, 60), (13, 79, 57, 1, 1238, 1239, 1240, 70), (13, 80, 17, 1, 772, 773, 774, 60), (13, 83, 95, 1, 1411, 1412, 1413, 70), (13, 84, 18, 1, 777, 778, 779, 60), (13, 87, 96, 1, 1415, 1416, 1417, 70), (13, 88, 19, 1, 782, 783, 784, 60), (13, 91, 97, 1, 1419, 1420, 1421, 70), (13, 94, 20, 1, 786, 787, 788, 60), (13, 98, 98, 1, 1423, 1424, 1425, 70), (13, 99, 21, 1, 794, 795, 796, 60), (13, 103, 102, 1, 1428, 1429, 1430, 70), (13, 104, 22, 1, 829, 830, 831, 60), (13, 107, 104, 1, 1444, 1445, 1446, 70), (13, 108, 23, 1, 838, 839, 840, 60), (13, 111, 108, 1, 1452, 1453, 1454, 70), (13, 112, 24, 1, 855, 856, 857, 60), (13, 115, 109, 1, 1468, 1469, 1470, 70), (13, 116, 25, 1, 859, 860, 861, 60), (13, 119, 110, 1, 1472, 1473, 1474, 70), (13, 120, 26, 1, 867, 868, 869, 60), (13, 123, 113, 1, 1476, 1477, 1478, 70), (13, 124, 27, 1, 894, 895, 896, 60), (13, 127, 114, 1, 1488, 1489, 1490, 70), (13, 128, 28, 1, 902, 903, 904, 60), (13, 132, 123, 1, 1492, 1493, 1494, 70), (13, 133, 29, 1, 981, 982, 983, 60), (13, 136, 124, 1, 1527, 1528, 1529, 70), (13, 137, 30, 1, 989, 990, 991, 60), (13, 140, 125, 1, 1531, 1532, 1533, 70), (13, 141, 31, 1, 993, 994, 995, 60), (13, 144, 126, 1, 1535, 1536, 1537, 70), (13, 145, 32, 1, 1001, 1002, 1003, 60), (13, 148, 127, 1, 1539, 1540, 1541, 70), (13, 149, 33, 1, 1005, 1006, 1007, 60), (13, 152, 128, 1, 1543, 1544, 1545, 70), (13, 153, 34, 1, 1035, 1036, 1037, 60), (13, 156, 129, 1, 1547, 1548, 1549, 70), (13, 157, 35, 1, 1039, 1040, 1041, 60), (13, 160, 130, 1, 1551, 1552, 1553, 70), (13, 161, 36, 1, 1043, 1044, 1045, 60), (13, 164, 131, 1, 1555, 1556, 1557, 70), (13, 165, 37, 1, 1051, 1052, 1053, 60), (13, 168, 132, 1, 1559, 1560, 1561, 70), (13, 169, 38, 1, 1059, 1060, 1061, 60), (13, 172, 133, 1, 1563, 1564, 1565, 70), (13, 173, 39, 1, 1072, 1073, 1074, 60), (13, 177, 134, 1, 1567, 1568, 1569, 70), (13, 178, 40, 1, 1077, 1078, 1079, 60), (13, 181, 136, 1, 1572, 1573, 1574, 70)]
def zNT : List (Nat × Nat × Nat × Nat × Nat × Nat) := [(0, 7, 1, 25, 26, 2), (0, 16, 2, 82, 83, 3), (0, 33, 3, 153, 154, 4), (0, 42, 4, 180, 181, 5), (0, 49, 5, 224, 225, 6), (0, 58, 6, 244, 245, 7), (0, 65, 7, 278, 279, 8), (0, 74, 8, 333, 334, 9), (0, 83, 9, 380, 381, 10), (13, 7, 0, 17, 18, 1), (13, 10, 10, 1027, 1028, 11)]
def zOT : List (Nat × Nat × Nat) := [(0, 1, 22), (1, 1, 30), (2, 3, 87), (3, 3, 158), (4, 3, 185), (5, 3, 229), (6, 1, 249), (7, 3, 283), (8, 3, 338), (9, 1, 385), (10, 1, 1032)]
def zAT : List (Nat × Nat × Nat) := [(2, 51, 787), (7, 148, 912), (9, 19, 1012)]
def zGT : List (Nat × Nat × Nat × Nat) := [(12, 9, 2, 580), (12, 13, 4, 544), (12, 16, 3, 1025)]
def zKT : List (Nat × Nat × Int × Nat) := [(0, 111, -1, 464), (3, 116, -1, 546), (10, 221, 255, 1368), (11, 18, 9187201950435737471, 556), (11, 20, -72340172838076674, 557), (13, 92, 4294967295, 1520), (14, 314, 6148914691236517205, 671), (14, 316, 3689348814741910323, 672), (14, 318, 1085102592571150095, 673)]
end
section
/-! running: a step, many steps, a method at a depth of calls; what it comes to is the limit over the number of steps -/
def zlst6 (l : List Int) : Nat × (Nat → Int) := (l.length, fun j => l.getD j 0)
/-- what can be read but isn't made by the system: the script (1; where the first number at 0 is 1), SIDES (2), ABOVE (3), TURNS_UP (4) -/
def zX (f L : Nat) (xs : Nat → Int) : Nat → Nat × (Nat → Int) := fun a =>
  if a = 0 then (f, fun _ => 0) else if a = 1 then (L, xs) else if a = 2 then zlst6 [15, 10, 13, 15, 10, 5] else if a = 3 then zlst6 [-1, 0, 0, 0, 1, 2] else if a = 4 then zlst6 [1, 1, 0, 1, 1, 0] else (0, fun _ => 0)
def zX0 : Nat → Nat × (Nat → Int) := zX 0 0 (fun _ => 0)
def zstc (X : Nat → Nat × (Nat → Int)) (cal : zcal) (y pc : Nat) (ls st : List zV) (h : zH) : zT := match zlook pc (zcode y) with
  | some (i, w, ps, n) => zop i X cal w ps y n ls st h
  | none => none
def zstp (X : Nat → Nat × (Nat → Int)) (cal : zcal) (c : zC) : zT := zstc X cal c.1 c.2.1 c.2.2.1 c.2.2.2.1 c.2.2.2.2
def zrun (X : Nat → Nat × (Nat → Int)) (cal : zcal) : Nat → zC → Option zQ
  | 0, _ => none
  | n + 1, c => match zstp X cal c with
    | some (.inl c') => zrun X cal n c'
    | some (.inr r) => some r
    | none => none
def zmany (X : Nat → Nat × (Nat → Int)) (cal : zcal) : Nat → Nat → Nat → List zV → List zV → zH → Option zC
  | 0, y, pc, ls, st, h => some (y, pc, ls, st, h)
  | n + 1, y, pc, ls, st, h => match zstc X cal y pc ls st h with
    | some (.inl (y, pc, ls, st, h)) => zmany X cal n y pc ls st h
    | some (.inr _) => none
    | none => none
theorem zrun_mono {X : Nat → Nat × (Nat → Int)} {cal : zcal} (n : Nat) : ∀ (c : zC) (k : Nat) (r : zQ), zrun X cal n c = some r → zrun X cal (n + k) c = some r := by
  induction n with
  | zero => intro c k r h; cases h
  | succ n ih =>
    intro c k r h
    rw [show n + 1 + k = (n + k) + 1 by omega]
    simp only [zrun] at h ⊢
    split at h
    · exact ih _ _ _ h
    · exact h
    · cases h
noncomputable def zlim (f : Nat → Option zQ) : Option zQ := @dite _ (∃ n r, f n = some r) (Classical.propDecidable _) (fun h => some h.choose_spec.choose) (fun _ => none)
theorem zlim_some {f : Nat → Option zQ} {r : zQ} (h : zlim f = some r) : ∃ n, f n = some r := by
  unfold zlim at h
  split at h
  · rename_i hh
    have := hh.choose_spec.choose_spec
    cases h
    exact ⟨_, this⟩
  · cases h
theorem zlim_of {f : Nat → Option zQ} (hm : ∀ n k r, f n = some r → f (n + k) = some r) {n : Nat} {r : zQ} (h : f n = some r) : zlim f = some r := by
  have hex : ∃ n r, f n = some r := ⟨n, r, h⟩
  have h1 : zlim f = some hex.choose_spec.choose := by
    unfold zlim
    rw [dif_pos hex]
  have h2 := hex.choose_spec.choose_spec
  have h3 := hm _ hex.choose _ h
  have h4 := hm _ n _ h2
  rw [Nat.add_comm] at h3
  rw [h3] at h4
  rw [h1, Option.some.inj h4]
def zexp : List zV → List zV
  | [] => []
  | .inr (.inl x) :: l => .inr (.inl x) :: zR 0 :: zexp l
  | v :: l => v :: zexp l
def zent (y : Nat) (a : List zV) (h : zH) : zC := (y, 0, zexp a ++ List.replicate (zpl.getD y 0 - (zexp a).length) (zR 0), [], h)
noncomputable def zex : Nat → zcal
  | 0 => fun _ _ _ => none
  | d + 1 => fun y a h => zlim (fun n => zrun zX0 (zex d) n (zent y a h))
noncomputable def zev (X : Nat → Nat × (Nat → Int)) (d : Nat) (c : zC) : Option zQ := zlim (fun n => zrun X (zex d) n c)
theorem zev_some {X : Nat → Nat × (Nat → Int)} {d : Nat} {c : zC} {r : zQ} : zev X d c = some r ↔ ∃ n, zrun X (zex d) n c = some r :=
  ⟨zlim_some, fun ⟨_, h⟩ => zlim_of (fun n k r h => zrun_mono n c k r h) h⟩
def zle (a b : Option zQ) : Prop := ∀ r, a = some r → b = some r
section
variable {X : Nat → Nat × (Nat → Int)} {d : Nat}
theorem zev_step {c c' : zC} (h : zstp X (zex d) c = some (.inl c')) : zev X d c = zev X d c' := by
  apply Option.ext
  intro r
  rw [zev_some, zev_some]
  constructor
  · rintro ⟨n, hn⟩
    cases n with
    | zero => cases hn
    | succ n => exact ⟨n, by simpa only [zrun, h] using hn⟩
  · rintro ⟨n, hn⟩
    exact ⟨n + 1, by simpa only [zrun, h] using hn⟩
theorem zev_ret {c : zC} {r : zQ} (h : zstp X (zex d) c = some (.inr r)) : zev X d c = some r := zev_some.mpr ⟨1, by simp only [zrun, h]⟩
theorem zev_many (k : Nat) : ∀ {y pc : Nat} {ls st : List zV} {h : zH} {c' : zC}, zmany X (zex d) k y pc ls st h = some c' → zev X d (y, pc, ls, st, h) = zev X d c' := by
  induction k with
  | zero => intro y pc ls st h c' e; cases e; rfl
  | succ k ih =>
    intro y pc ls st h c' e
    simp only [zmany] at e
    split at e
    · rename_i y1 pc1 ls1 st1 h1 e1
      rw [zev_step (c := (y, pc, ls, st, h)) (c' := (y1, pc1, ls1, st1, h1)) e1]
      exact ih e
    · cases e
    · cases e
theorem zle_rfl {a : Option zQ} : zle a a := fun _ h => h
theorem zle_none {b : Option zQ} : zle none b := fun _ h => by cases h
theorem zle_many {T : Option zQ} {y pc : Nat} {ls st : List zV} {h : zH} (k : Nat) (c' : zC) (e : zmany X (zex d) k y pc ls st h = some c') (g : zle T (zev X d c')) : zle T (zev X d (y, pc, ls, st, h)) := by
  rw [zev_many k e]; exact g
theorem zle_ret {y pc : Nat} {ls st : List zV} {h : zH} {r : zQ} (e : zstc X (zex d) y pc ls st h = some (.inr r)) : zle (some r) (zev X d (y, pc, ls, st, h)) := by
  rw [zev_ret (c := (y, pc, ls, st, h)) e]; exact zle_rfl
theorem zle_if {P : Prop} [Decidable P] {A B T : Option zQ} (h1 : P → zle A T) (h2 : ¬ P → zle B T) : zle (if P then A else B) T := by
  by_cases h : P
  · rw [if_pos h]; exact h1 h
  · rw [if_neg h]; exact h2 h
end
section
variable {X : Nat → Nat × (Nat → Int)} {d : Nat} {A B : Option zQ} {m t e : Nat} {x y : Int} {ls st : List zV} {h : zH}
theorem zle_eq (h1 : x = y → zle A (zev X d (m, t, ls, st, h))) (h2 : ¬ x = y → zle B (zev X d (m, e, ls, st, h))) : zle (if x = y then A else B) (zev X d (m, (bif zcmp .eq x y then t else e), ls, st, h)) :=
  zle_if (fun g => by simpa [zcmp, g] using h1 g) (fun g => by simpa [zcmp, g] using h2 g)
theorem zle_ne (h1 : x = y → zle A (zev X d (m, e, ls, st, h))) (h2 : ¬ x = y → zle B (zev X d (m, t, ls, st, h))) : zle (if x = y then A else B) (zev X d (m, (bif zcmp .ne x y then t else e), ls, st, h)) :=
  zle_if (fun g => by simpa [zcmp, g] using h1 g) (fun g => by simpa [zcmp, g] using h2 g)
theorem zle_lt (h1 : x < y → zle A (zev X d (m, t, ls, st, h))) (h2 : ¬ x < y → zle B (zev X d (m, e, ls, st, h))) : zle (if x < y then A else B) (zev X d (m, (bif zcmp .lt x y then t else e), ls, st, h)) :=
  zle_if (fun g => by simpa [zcmp, g] using h1 g) (fun g => by simpa [zcmp, g] using h2 g)
theorem zle_ge (h1 : x < y → zle A (zev X d (m, e, ls, st, h))) (h2 : ¬ x < y → zle B (zev X d (m, t, ls, st, h))) : zle (if x < y then A else B) (zev X d (m, (bif zcmp .ge x y then t else e), ls, st, h)) :=
  zle_if (fun g => by simpa [zcmp, Int.not_le.mpr g] using h1 g) (fun g => by simpa [zcmp, Int.not_lt.mp g] using h2 g)
theorem zle_gt (h1 : y < x → zle A (zev X d (m, t, ls, st, h))) (h2 : ¬ y < x → zle B (zev X d (m, e, ls, st, h))) : zle (if y < x then A else B) (zev X d (m, (bif zcmp .gt x y then t else e), ls, st, h)) :=
  zle_if (fun g => by simpa [zcmp, g] using h1 g) (fun g => by simpa [zcmp, g] using h2 g)
theorem zle_le (h1 : y < x → zle A (zev X d (m, e, ls, st, h))) (h2 : ¬ y < x → zle B (zev X d (m, t, ls, st, h))) : zle (if y < x then A else B) (zev X d (m, (bif zcmp .le x y then t else e), ls, st, h)) :=
  zle_if (fun g => by simpa [zcmp, Int.not_le.mpr g] using h1 g) (fun g => by simpa [zcmp, Int.not_lt.mp g] using h2 g)
theorem zle_sw {ps : List (Int × Nat)} (h1 : x = y → zle A (zev X d (m, t, ls, st, h))) (h2 : ¬ x = y → zle B (zev X d (m, zsw x ps e, ls, st, h))) : zle (if x = y then A else B) (zev X d (m, zsw x ((y, t) :: ps) e, ls, st, h)) :=
  zle_if (fun g => by simpa [zsw, g] using h1 g) (fun g => by simpa [zsw, g] using h2 g)
end
/-! guarded steps: array reads and stores at an index that isn't a number, a divisor, calls -/
section
variable {X : Nat → Nat × (Nat → Int)} {d : Nat} {A : Option zQ} {m pc a n t e : Nat} {i x k : Int} {ls st : List zV} {F : zM} {G : zG} {S : zS}
theorem zle_ald (hi : zlook pc (zcode m) = some (.iaload, [], [], e)) (ha : zarr (F, G, S) a 0 = some n) (hk : k = (n : Int)) (g : 0 ≤ i ∧ i < k → zle A (zev X d (m, e, ls, zI (F a i.toNat) :: st, F, G, S))) : zle (if 0 ≤ i ∧ i < k then A else none) (zev X d (m, pc, ls, zI i :: zR a :: st, F, G, S)) := by
  subst hk
  refine zle_if (fun g1 => ?_) (fun _ => zle_none)
  have h5 : ¬ a < 5 := fun h => by simp [zarr, h] at ha
  rw [zev_step (c' := (m, e, ls, zI (F a i.toNat) :: st, F, G, S)) (by simp only [zstp, zstc, hi, zop, zo_ald, if_neg h5, ha, if_pos g1])]
  exact g g1
theorem zle_bld (hi : zlook pc (zcode m) = some (.baload, [], [], e)) (ha : zarr (F, G, S) a 1 = some n) (hk : k = (n : Int)) (g : 0 ≤ i ∧ i < k → zle A (zev X d (m, e, ls, zI (F a i.toNat) :: st, F, G, S))) : zle (if 0 ≤ i ∧ i < k then A else none) (zev X d (m, pc, ls, zI i :: zR a :: st, F, G, S)) := by
  subst hk
  refine zle_if (fun g1 => ?_) (fun _ => zle_none)
  have h5 : ¬ a < 5 := fun h => by simp [zarr, h] at ha
  rw [zev_step (c' := (m, e, ls, zI (F a i.toNat) :: st, F, G, S)) (by simp only [zstp, zstc, hi, zop, zo_ald, if_neg h5, ha, if_pos g1])]
  exact g g1
/-- a read of what isn't made by the system -/
theorem zle_xld (hi : zlook pc (zcode m) = some (.iaload, [], [], e)) (ha : 1 ≤ a ∧ a < 5) (hn : (X a).1 = n) (hk : k = (n : Int)) (g : 0 ≤ i ∧ i < k → zle A (zev X d (m, e, ls, zI ((X a).2 i.toNat) :: st, F, G, S))) : zle (if 0 ≤ i ∧ i < k then A else none) (zev X d (m, pc, ls, zI i :: zR a :: st, F, G, S)) := by
  subst hk
  subst hn
  refine zle_if (fun g1 => ?_) (fun _ => zle_none)
  rw [zev_step (c' := (m, e, ls, zI ((X a).2 i.toNat) :: st, F, G, S)) (by simp [zstp, zstc, hi, zop, zo_ald, ha.1, ha.2, g1.1, g1.2])]
  exact g g1
theorem zle_lld (hi : zlook pc (zcode m) = some (.laload, [], [], e)) (ha : zarr (F, G, S) a 2 = some n) (hk : k = (n : Int)) (g : 0 ≤ i ∧ i < k → zle A (zev X d (m, e, ls, zL (G a i.toNat) :: st, F, G, S))) : zle (if 0 ≤ i ∧ i < k then A else none) (zev X d (m, pc, ls, zI i :: zR a :: st, F, G, S)) := by
  subst hk
  refine zle_if (fun g1 => ?_) (fun _ => zle_none)
  rw [zev_step (c' := (m, e, ls, zL (G a i.toNat) :: st, F, G, S)) (by simp only [zstp, zstc, hi, zop, zo_lld, ha, if_pos g1])]
  exact g g1
theorem zle_ast (hi : zlook pc (zcode m) = some (.iastore, [], [], e)) (ha : zarr (F, G, S) a 0 = some n) (hk : k = (n : Int)) (g : 0 ≤ i ∧ i < k → zle A (zev X d (m, e, ls, st, zup F a i.toNat x, G, S))) : zle (if 0 ≤ i ∧ i < k then A else none) (zev X d (m, pc, ls, zI x :: zI i :: zR a :: st, F, G, S)) := by
  subst hk
  refine zle_if (fun g1 => ?_) (fun _ => zle_none)
  rw [zev_step (c' := (m, e, ls, st, zup F a i.toNat x, G, S)) (by simp [zstp, zstc, hi, zop, zo_ast, ha, g1.1, g1.2])]
  exact g g1
theorem zle_bst (hi : zlook pc (zcode m) = some (.bastore, [], [], e)) (ha : zarr (F, G, S) a 1 = some n) (hk : k = (n : Int)) (hx : x = 0 ∨ x = 1) (g : 0 ≤ i ∧ i < k → zle A (zev X d (m, e, ls, st, zup F a i.toNat x, G, S))) : zle (if 0 ≤ i ∧ i < k then A else none) (zev X d (m, pc, ls, zI x :: zI i :: zR a :: st, F, G, S)) := by
  subst hk
  refine zle_if (fun g1 => ?_) (fun _ => zle_none)
  rw [zev_step (c' := (m, e, ls, st, zup F a i.toNat x, G, S)) (by simp [zstp, zstc, hi, zop, zo_ast, ha, g1.1, g1.2, hx])]
  exact g g1
theorem zle_lst {b : BitVec 64} (hi : zlook pc (zcode m) = some (.lastore, [], [], e)) (ha : zarr (F, G, S) a 2 = some n) (hk : k = (n : Int)) (g : 0 ≤ i ∧ i < k → zle A (zev X d (m, e, ls, st, F, zug G a i.toNat b, S))) : zle (if 0 ≤ i ∧ i < k then A else none) (zev X d (m, pc, ls, zL b :: zI i :: zR a :: st, F, G, S)) := by
  subst hk
  refine zle_if (fun g1 => ?_) (fun _ => zle_none)
  rw [zev_step (c' := (m, e, ls, st, F, zug G a i.toNat b, S)) (by simp [zstp, zstc, hi, zop, zo_lst, ha, g1.1, g1.2])]
  exact g g1
theorem zle_div {y : Int} (hi : zlook pc (zcode m) = some (.idiv, [], [], e)) (g : ¬ y = 0 → zle A (zev X d (m, e, ls, zI (zdiv x y) :: st, F, G, S))) : zle (if y = 0 then none else A) (zev X d (m, pc, ls, zI y :: zI x :: st, F, G, S)) := by
  refine zle_if (fun _ => zle_none) (fun g1 => ?_)
  rw [zev_step (c' := (m, e, ls, zI (zdiv x y) :: st, F, G, S)) (by simp [zstp, zstc, hi, zop, zo_binD, g1])]
  exact g g1
theorem zle_rem {y : Int} (hi : zlook pc (zcode m) = some (.irem, [], [], e)) (g : ¬ y = 0 → zle A (zev X d (m, e, ls, zI (zrem x y) :: st, F, G, S))) : zle (if y = 0 then none else A) (zev X d (m, pc, ls, zI y :: zI x :: st, F, G, S)) := by
  refine zle_if (fun _ => zle_none) (fun g1 => ?_)
  rw [zev_step (c' := (m, e, ls, zI (zrem x y) :: st, F, G, S)) (by simp [zstp, zstc, hi, zop, zo_binD, g1])]
  exact g g1
theorem zle_retg (hi : zlook pc (zcode m) = some (.ireturn, [1], [], e)) : zle (if x = 0 ∨ x = 1 then some (some (zI x), F, G, S) else none) (zev X d (m, pc, ls, [zI x], F, G, S)) := by
  refine zle_if (fun g1 => ?_) (fun _ => zle_none)
  refine zle_ret ?_
  rcases g1 with g1 | g1 <;> simp [zstc, hi, zop, zo_iret, g1]
theorem zle_cpy {a0 n0 n1 : Nat} {sp dp k : Int} (hi : zlook pc (zcode m) = some (.invokestatic t, [5], [], e)) (ha0 : zarr (F, G, S) a0 0 = some n0) (ha1 : zarr (F, G, S) a 0 = some n1) (hz : zcat st ≤ 8) (hS : S.length = 96) (g : zle A (zev X d (m, e, ls, st, zcpy F a0 sp.toNat a dp.toNat k.toNat, G, S))) :
    zle (if 0 ≤ sp ∧ 0 ≤ dp ∧ 0 ≤ k ∧ sp.toNat + k.toNat ≤ n0 ∧ dp.toNat + k.toNat ≤ n1 then A else none) (zev X d (m, pc, ls, zI k :: zI dp :: zR a :: zI sp :: zR a0 :: st, F, G, S)) := by
  refine zle_if (fun g1 => ?_) (fun _ => zle_none)
  obtain ⟨g1, g2, g3, g4, g5⟩ := g1
  rw [zev_step (c' := (m, e, ls, st, zcpy F a0 sp.toNat a dp.toNat k.toNat, G, S)) (by simp [zstp, zstc, hi, zop, zo_call, ha0, ha1, hz, hS, g1, g2, g3, g4, g5])]
  exact g
end
end
section
/-! the cells as both constructors leave them (printed by wip/gen/gen_sg.py); calls, and what follows them -/
def zsg : zS := [(3, 12, [6, 11, 22, 33, 0, 44, 46, 52, 53, 60, 64, 67]), (4, 8, [0, 0, 0, 7, 8, 0, 9, 10]), (0, 8, []), (0, 8, []), (0, 4, []), (0, 4, []), (5, 12, [0, 0, 12, 13, 14, 15, 16, 17, 18, 19, 20, 21]), (0, 8, []), (0, 8, []), (0, 8, []), (0, 2, []), (0, 2, []), (0, 2, []), (0, 2, []), (0, 2, []), (0, 2, []), (0, 2, []), (5, 12, [0, 0, 23, 24, 25, 26, 27, 28, 29, 30, 31, 32]), (0, 8, []), (0, 8, []), (0, 8, []), (0, 2, []), (0, 2, []), (0, 2, []), (0, 2, []), (0, 2, []), (0, 2, []), (0, 2, []), (5, 12, [0, 0, 34, 35, 36, 37, 38, 39, 40, 41, 42, 43]), (0, 8, []), (0, 8, []), (0, 8, []), (0, 2, []), (0, 2, []), (0, 2, []), (0, 2, []), (0, 2, []), (0, 2, []), (0, 2, []), (6, 6, [6, 45, 0, 0, 0, 0]), (2, 64, []), (7, 9, [47, 0, 0, 48, 49, 50, 51, 0, 0]), (0, 120, []), (0, 6, []), (0, 72, []), (0, 72, []), (0, 72, []), (8, 4, [6, 44, 46, 0]), (9, 8, [0, 0, 54, 55, 56, 57, 58, 59]), (0, 12, []), (0, 12, []), (0, 12, []), (0, 12, []), (0, 12, []), (2, 12, []), (10, 15, [6, 44, 53, 22, 61, 0, 0, 0, 0, 0, 0, 0, 0, 62, 63]), (0, 5, []), (0, 6, []), (0, 6, []), (11, 12, [6, 44, 52, 22, 0, 0, 65, 66, 0, 0, 0, 0]), (0, 6, []), (0, 6, []), (12, 3, [68, 69, 70]), (0, 4, []), (0, 4, []), (0, 160, []), (13, 48, [72, 73, 74, 0, 75, 0, 76, 77, 0, 78, 79, 0, 0, 80, 81, 82, 83, 84, 0, 0, 85, 86, 87, 0, 0, 88, 89, 90, 91, 92, 93, 0, 0, 0, 0, 94, 95, 96, 97, 98, 99, 100, 0, 0, 0, 0, 0, 0]), (0, 43, []), (0, 43, []), (0, 43, []), (1, 64, []), (0, 4, []), (0, 4, []), (0, 8, []), (0, 8, []), (0, 6, []), (0, 72, []), (0, 72, []), (0, 72, []), (0, 120, []), (0, 2, []), (0, 2, []), (0, 2, []), (0, 12, []), (0, 12, []), (0, 12, []), (0, 12, []), (0, 12, []), (2, 12, []), (0, 6, []), (0, 6, []), (0, 4, []), (0, 4, []), (0, 160, []), (0, 64, []), (0, 64, [])]
def zbI (q : Option zQ) (k : Int → zM → zG → Option zQ) : Option zQ := match q with
  | some (some (.inl v), F, G, s) => if s = zsg then k v F G else none
  | _ => none
def zbL (q : Option zQ) (k : BitVec 64 → zM → zG → Option zQ) : Option zQ := match q with
  | some (some (.inr (.inl v)), F, G, s) => if s = zsg then k v F G else none
  | _ => none
def zbV (q : Option zQ) (k : zM → zG → Option zQ) : Option zQ := match q with
  | some (none, F, G, s) => if s = zsg then k F G else none
  | _ => none
theorem zbI_some {v : Int} {F : zM} {G : zG} {k : Int → zM → zG → Option zQ} : zbI (some (some (zI v), F, G, zsg)) k = k v F G := by simp [zbI]
theorem zbL_some {v : BitVec 64} {F : zM} {G : zG} {k : BitVec 64 → zM → zG → Option zQ} : zbL (some (some (zL v), F, G, zsg)) k = k v F G := by simp [zbL]
theorem zbV_some {F : zM} {G : zG} {k : zM → zG → Option zQ} : zbV (some (none, F, G, zsg)) k = k F G := by simp [zbV]
def zargs (w : List Nat) (st : List zV) (h : zH) : Option (Nat × List zV × List zV) := match w with
  | [k, c, n, ci] => bif Nat.ble n st.length && (Nat.ble (zcat (st.drop n)) 8 && zrcv h k ci (st.take n).reverse) then some (c, (st.take n).reverse, st.drop n) else none
  | _ => none
def zarg (m pc : Nat) (st : List zV) (h : zH) : Option (Nat × Nat × List zV × List zV) := match zlook pc (zcode m) with
  | some (.invokestatic _, w, _, n) => (zargs w st h).map fun q => (n, q)
  | some (.invokevirtual _, w, _, n) => (zargs w st h).map fun q => (n, q)
  | some (.invokespecial _, w, _, n) => (zargs w st h).map fun q => (n, q)
  | _ => none
theorem zargs_call {X : Nat → Nat × (Nat → Int)} {cal : zcal} {w : List Nat} {ps : List (Int × Nat)} {st r as : List zV} {h : zH} {c y pc : Nat} {ls : List zV} (e : zargs w st h = some (c, as, r)) : zo_call X cal w ps y pc ls st h = zback y pc ls r (cal c as h) := by
  unfold zargs at e
  split at e
  · rename_i k c' n ci
    cases hb : Nat.ble n st.length && (Nat.ble (zcat (st.drop n)) 8 && zrcv h k ci (st.take n).reverse) with
    | false => rw [hb] at e; cases e
    | true =>
      rw [hb] at e
      simp only [Bool.and_eq_true, Nat.ble_eq] at hb
      simp only [cond_true, Option.some.injEq, Prod.mk.injEq] at e
      obtain ⟨rfl, rfl, rfl⟩ := e
      simp only [zo_call, hb, and_self, if_true]
  · cases e
theorem zarg_stp {X : Nat → Nat × (Nat → Int)} {cal : zcal} {m pc : Nat} {ls st r as : List zV} {h : zH} {c n : Nat} (e : zarg m pc st h = some (n, c, as, r)) : zstp X cal (m, pc, ls, st, h) = zback m n ls r (cal c as h) := by
  have key : ∀ {w : List Nat} {ps : List (Int × Nat)} {n' : Nat}, (zargs w st h).map (fun q => (n', q)) = some (n, c, as, r) → zo_call X cal w ps m n' ls st h = zback m n ls r (cal c as h) := by
    intro w ps n' e
    cases hz : zargs w st h with
    | none => rw [hz] at e; cases e
    | some q =>
      rw [hz] at e
      cases e
      exact zargs_call hz
  unfold zarg at e
  split at e
  · rename_i hl
    simp only [zstp, zstc, hl, zop]
    exact key e
  · rename_i hl
    simp only [zstp, zstc, hl, zop]
    exact key e
  · rename_i hl
    simp only [zstp, zstc, hl, zop]
    exact key e
  · cases e
section
variable {X : Nat → Nat × (Nat → Int)} {d m pc c n : Nat} {ls st r as : List zV} {F : zM} {G : zG}
theorem zle_I {k : Int → zM → zG → Option zQ} (e : zarg m pc st (F, G, zsg) = some (n, c, as, r)) (g : ∀ (v : Int) (F1 : zM) (G1 : zG), zle (k v F1 G1) (zev X d (m, n, ls, zI v :: r, F1, G1, zsg))) : zle (zbI (zex d c as (F, G, zsg)) k) (zev X d (m, pc, ls, st, F, G, zsg)) := by
  intro q hq
  unfold zbI at hq
  split at hq
  · rename_i v F1 G1 s hz
    by_cases hs : s = zsg
    · rw [if_pos hs] at hq
      subst hs
      rw [zev_step (c' := (m, n, ls, zI v :: r, F1, G1, zsg)) (by rw [zarg_stp e, hz]; rfl)]
      exact g v F1 G1 q hq
    · rw [if_neg hs] at hq; cases hq
  · cases hq
theorem zle_L {k : BitVec 64 → zM → zG → Option zQ} (e : zarg m pc st (F, G, zsg) = some (n, c, as, r)) (g : ∀ (v : BitVec 64) (F1 : zM) (G1 : zG), zle (k v F1 G1) (zev X d (m, n, ls, zL v :: r, F1, G1, zsg))) : zle (zbL (zex d c as (F, G, zsg)) k) (zev X d (m, pc, ls, st, F, G, zsg)) := by
  intro q hq
  unfold zbL at hq
  split at hq
  · rename_i v F1 G1 s hz
    by_cases hs : s = zsg
    · rw [if_pos hs] at hq
      subst hs
      rw [zev_step (c' := (m, n, ls, zL v :: r, F1, G1, zsg)) (by rw [zarg_stp e, hz]; rfl)]
      exact g v F1 G1 q hq
    · rw [if_neg hs] at hq; cases hq
  · cases hq
theorem zle_V {k : zM → zG → Option zQ} (e : zarg m pc st (F, G, zsg) = some (n, c, as, r)) (g : ∀ (F1 : zM) (G1 : zG), zle (k F1 G1) (zev X d (m, n, ls, r, F1, G1, zsg))) : zle (zbV (zex d c as (F, G, zsg)) k) (zev X d (m, pc, ls, st, F, G, zsg)) := by
  intro q hq
  unfold zbV at hq
  split at hq
  · rename_i F1 G1 s hz
    by_cases hs : s = zsg
    · rw [if_pos hs] at hq
      subst hs
      rw [zev_step (c' := (m, n, ls, r, F1, G1, zsg)) (by rw [zarg_stp e, hz]; rfl)]
      exact g F1 G1 q hq
    · rw [if_neg hs] at hq; cases hq
  · cases hq
end
theorem zle_ent {T : Option zQ} {d y : Nat} {as ls : List zV} {h : zH} (g : zle T (zev zX0 d (y, 0, ls, [], h))) (e : zent y as h = (y, 0, ls, [], h) := by rfl) : zle T (zex (d + 1) y as h) := by
  show zle T (zev zX0 d (zent y as h))
  rw [e]; exact g
end
section
/-! the code tables against the bytes and the tables' words: by program, method by method -/
def zlen (i : Instr) (w : List Nat) : Nat := match i with
  | .tableswitch _ _ _ _ => w.headD 0
  | .lookupswitch _ _ => w.headD 0
  | .bipush _ => 2
  | .iload _ => 2
  | .lload _ => 2
  | .aload _ => 2
  | .istore _ => 2
  | .lstore _ => 2
  | .astore _ => 2
  | .newarray _ => 2
  | .sipush _ => 3
  | .ldc2_w _ => 3
  | .iinc _ _ => 3
  | .ifCond _ _ => 3
  | .if_icmp _ _ => 3
  | .goto _ => 3
  | .getfield _ => 3
  | .putfield _ => 3
  | .getstatic _ => 3
  | .new _ => 3
  | .invokestatic _ => 3
  | .invokevirtual _ => 3
  | .invokespecial _ => 3
  | _ => 1
def zterm (i : Instr) : Bool := match i with
  | .tableswitch _ _ _ _ => true
  | .lookupswitch _ _ => true
  | .goto _ => true
  | .ireturn => true
  | .lreturn => true
  | .return_ => true
  | _ => false
def ztb (pc : Nat) : Int → List Int → List (Int × Nat)
  | _, [] => []
  | lo, o :: os => (lo, ((pc : Int) + o).toNat) :: ztb pc (lo + 1) os
def znf (ci : Nat) : Nat := (zfs.getD ci []).length
def zpar (d : String) : Nat := match parseMethodDescriptor d with
  | some q => q.parameters.length
  | none => 1000
/-- what an instruction links to is what the tables say -/
def zlnk (y pc : Nat) (q : MethodName × ByteArray × Nat × Option FieldType × Nat) (i : Instr) (w : List Nat) (ps : List (Int × Nat)) : Bool := match i with
  | .iconst k => decide (ps = [((Int32.ofInt k).toInt, 0)])
  | .bipush k => decide (ps = [((Int8.ofInt k).toInt32.toInt, 0)])
  | .sipush k => decide (ps = [((Int16.ofInt k).toInt32.toInt, 0)])
  | .ldc2_w k => match ps with
    | [v] => zKT.any (fun r => Nat.beq r.1 q.2.2.2.2 && Nat.beq r.2.1 k && decide (r.2.2.1 = v.1))
    | _ => false
  | .iinc _ k => decide (-128 ≤ k ∧ k ≤ 127)
  | .ifCond _ o => match w with
    | [t] => decide ((pc : Int) + o = t)
    | _ => false
  | .if_icmp _ o => match w with
    | [t] => decide ((pc : Int) + o = t)
    | _ => false
  | .goto o => match w with
    | [t] => decide ((pc : Int) + o = t)
    | _ => false
  | .tableswitch d lo hi os => match w with
    | [_, t] => decide ((pc : Int) + d = t) && decide (ps = ztb pc lo os.toList) && decide ((os.size : Int) = hi - lo + 1) && os.toList.all (fun o => decide (0 ≤ (pc : Int) + o))
    | _ => false
  | .lookupswitch d os => match w with
    | [_, t] => decide ((pc : Int) + d = t) && decide (ps = os.toList.map (fun o => (o.1, ((pc : Int) + o.2).toNat))) && os.toList.all (fun o => decide (0 ≤ (pc : Int) + o.2)) && (os.toList.zip (os.toList.drop 1)).all (fun (a, next) => a.1 < next.1)
    | _ => false
  | .getfield k => match w with
    | [ci, j, t] => zFT.any (fun r => Nat.beq r.1 q.2.2.2.2 && Nat.beq r.2.1 k && Nat.beq r.2.2.1 ci && Nat.beq r.2.2.2.1 j) && Nat.beq t (ztag ci j) && Nat.blt j (znf ci) && Nat.blt ci 11
    | _ => false
  | .putfield k => match w with
    | [ci, j, t] => zFT.any (fun r => Nat.beq r.1 q.2.2.2.2 && Nat.beq r.2.1 k && Nat.beq r.2.2.1 ci && Nat.beq r.2.2.2.1 j) && Nat.beq t (ztag ci j) && Nat.blt j (znf ci) && Nat.blt ci 11
      && (!(zTf ci j).2.2.2 || (decide (q.1.name = "<init>") && Nat.beq ci q.2.2.2.2))
    | _ => false
  | .getstatic k => match w with
    | [z] => zGT.any (fun r => Nat.beq r.1 q.2.2.2.2 && Nat.beq r.2.1 k && Nat.beq r.2.2.1 z)
    | _ => false
  | .newarray a => match a with
    | .int => decide (w = [0])
    | .boolean => decide (w = [1])
    | .long => decide (w = [2])
    | _ => false
  | .new k => match w with
    | [ci, l] => zNT.any (fun r => Nat.beq r.1 q.2.2.2.2 && Nat.beq r.2.1 k && Nat.beq r.2.2.1 ci) && Nat.beq l (znf ci)
    | _ => false
  | .invokestatic k => match w with
    | [z, c, n, _] => Nat.beq z 0 && zMT.any (fun r => Nat.beq r.1 q.2.2.2.2 && Nat.beq r.2.1 k && Nat.beq r.2.2.1 c && Nat.beq r.2.2.2.1 z) && Nat.beq n (zpar ((zmt.getD c q).1.desc))
    | [5] => zAT.any (fun r => Nat.beq r.1 q.2.2.2.2 && Nat.beq r.2.1 k)
    | _ => false
  | .invokevirtual k => match w with
    | [z, c, n, ci] => Nat.beq z 1 && zMT.any (fun r => Nat.beq r.1 q.2.2.2.2 && Nat.beq r.2.1 k && Nat.beq r.2.2.1 c && Nat.beq r.2.2.2.1 z) && Nat.beq n (zpar ((zmt.getD c q).1.desc) + 1) && Nat.beq ci (zmt.getD c q).2.2.2.2 && Nat.blt ci 11
    | _ => false
  | .invokespecial k => match w with
    | [z, c, n, ci] => (Nat.beq z 2 || Nat.beq z 3) && zMT.any (fun r => Nat.beq r.1 q.2.2.2.2 && Nat.beq r.2.1 k && Nat.beq r.2.2.1 c && Nat.beq r.2.2.2.1 z) && Nat.beq n (zpar ((zmt.getD c q).1.desc) + 1) && decide ((zmt.getD c q).1.name = "<init>") && decide ((zmt.getD c q).2.2.2.1 = none)
    | [4] => zOT.any (fun r => Nat.beq r.1 q.2.2.2.2 && Nat.beq r.2.1 k)
    | _ => false
  | .ireturn => match w with
    | [t] => (Nat.beq t 0 && decide (q.2.2.2.1 = some .int)) || (Nat.beq t 1 && decide (q.2.2.2.1 = some .boolean))
    | _ => false
  | .lreturn => decide (q.2.2.2.1 = some .long)
  | .return_ => decide (q.2.2.2.1 = none)
  | _ => true
def zchk (y : Nat) (q : MethodName × ByteArray × Nat × Option FieldType × Nat) (r : Nat × zE) : Bool :=
  decide (decode q.2.1 r.1 = .ok (r.2.1, zlen r.2.1 r.2.2.1)) && (zterm r.2.1 || Nat.beq r.2.2.2.2 (r.1 + zlen r.2.1 r.2.2.1)) && zlnk y r.1 q r.2.1 r.2.2.1 r.2.2.2.1
end
section
/-! printed by wip/gen/gen_chk.py: every method but the law is checked -/
set_option maxRecDepth 100000 in
theorem zk_0 : zc_0.all (zchk 0 zm_0) = true := by decide +kernel
set_option maxRecDepth 100000 in
theorem zk_1 : zc_1.all (zchk 1 zm_1) = true := by decide +kernel
set_option maxRecDepth 100000 in
theorem zk_2 : zc_2.all (zchk 2 zm_2) = true := by decide +kernel
set_option maxRecDepth 100000 in
theorem zk_3 : zc_3.all (zchk 3 zm_3) = true := by decide +kernel
set_option maxRecDepth 100000 in
theorem zk_4 : zc_4.all (zchk 4 zm_4) = true := by decide +kernel
set_option maxRecDepth 100000 in
theorem zk_5 : zc_5.all (zchk 5 zm_5) = true := by decide +kernel
set_option maxRecDepth 100000 in
theorem zk_6 : zc_6.all (zchk 6 zm_6) = true := by decide +kernel
set_option maxRecDepth 100000 in
theorem zk_7 : zc_7.all (zchk 7 zm_7) = true := by decide +kernel
set_option maxRecDepth 100000 in
theorem zk_8 : zc_8.all (zchk 8 zm_8) = true := by decide +kernel
set_option maxRecDepth 100000 in
theorem zk_9 : zc_9.all (zchk 9 zm_9) = true := by decide +kernel
set_option maxRecDepth 100000 in
theorem zk_10 : zc_10.all (zchk 10 zm_10) = true := by decide +kernel
set_option maxRecDepth 100000 in
theorem zk_11 : zc_11.all (zchk 11 zm_11) = true := by decide +kernel
set_option maxRecDepth 100000 in
theorem zk_12 : zc_12.all (zchk 12 zm_12) = true := by decide +kernel
set_option maxRecDepth 100000 in
theorem zk_13 : zc_13.all (zchk 13 zm_13) = true := by decide +kernel
set_option maxRecDepth 100000 in
theorem zk_14 : zc_14.all (zchk 14 zm_14) = true := by decide +kernel
set_option maxRecDepth 100000 in
theorem zk_15 : zc_15.all (zchk 15 zm_15) = true := by decide +kernel
set_option maxRecDepth 100000 in
theorem zk_16 : zc_16.all (zchk 16 zm_16) = true := by decide +kernel
set_option maxRecDepth 100000 in
theorem zk_17 : zc_17.all (zchk 17 zm_17) = true := by decide +kernel
set_option maxRecDepth 100000 in
theorem zk_18 : zc_18.all (zchk 18 zm_18) = true := by decide +kernel
set_option maxRecDepth 100000 in
theorem zk_19 : zc_19.all (zchk 19 zm_19) = true := by decide +kernel
set_option maxRecDepth 100000 in
theorem zk_20 : zc_20.all (zchk 20 zm_20) = true := by decide +kernel
set_option maxRecDepth 100000 in
theorem zk_21 : zc_21.all (zchk 21 zm_21) = true := by decide +kernel
set_option maxRecDepth 100000 in
theorem zk_22 : zc_22.all (zchk 22 zm_22) = true := by decide +kernel
set_option maxRecDepth 100000 in
theorem zk_23 : zc_23.all (zchk 23 zm_23) = true := by decide +kernel
set_option maxRecDepth 100000 in
theorem zk_24 : zc_24.all (zchk 24 zm_24) = true := by decide +kernel
set_option maxRecDepth 100000 in
theorem zk_25 : zc_25.all (zchk 25 zm_25) = true := by decide +kernel
set_option maxRecDepth 100000 in
theorem zk_26 : zc_26.all (zchk 26 zm_26) = true := by decide +kernel
set_option maxRecDepth 100000 in
theorem zk_27 : zc_27.all (zchk 27 zm_27) = true := by decide +kernel
set_option maxRecDepth 100000 in
theorem zk_28 : zc_28.all (zchk 28 zm_28) = true := by decide +kernel
set_option maxRecDepth 100000 in
theorem zk_29 : zc_29.all (zchk 29 zm_29) = true := by decide +kernel
set_option maxRecDepth 100000 in
theorem zk_30 : zc_30.all (zchk 30 zm_30) = true := by decide +kernel
set_option maxRecDepth 100000 in
theorem zk_31 : zc_31.all (zchk 31 zm_31) = true := by decide +kernel
set_option maxRecDepth 100000 in
theorem zk_32 : zc_32.all (zchk 32 zm_32) = true := by decide +kernel
set_option maxRecDepth 100000 in
theorem zk_33 : zc_33.all (zchk 33 zm_33) = true := by decide +kernel
set_option maxRecDepth 100000 in
theorem zk_34 : zc_34.all (zchk 34 zm_34) = true := by decide +kernel
set_option maxRecDepth 100000 in
theorem zk_35 : zc_35.all (zchk 35 zm_35) = true := by decide +kernel
set_option maxRecDepth 100000 in
theorem zk_36 : zc_36.all (zchk 36 zm_36) = true := by decide +kernel
set_option maxRecDepth 100000 in
theorem zk_37 : zc_37.all (zchk 37 zm_37) = true := by decide +kernel
set_option maxRecDepth 100000 in
theorem zk_38 : zc_38.all (zchk 38 zm_38) = true := by decide +kernel
set_option maxRecDepth 100000 in
theorem zk_39 : zc_39.all (zchk 39 zm_39) = true := by decide +kernel
set_option maxRecDepth 100000 in
theorem zk_40 : zc_40.all (zchk 40 zm_40) = true := by decide +kernel
set_option maxRecDepth 100000 in
theorem zk_41 : zc_41.all (zchk 41 zm_41) = true := by decide +kernel
set_option maxRecDepth 100000 in
theorem zk_42 : zc_42.all (zchk 42 zm_42) = true := by decide +kernel
set_option maxRecDepth 100000 in
theorem zk_43 : zc_43.all (zchk 43 zm_43) = true := by decide +kernel
set_option maxRecDepth 100000 in
theorem zk_44 : zc_44.all (zchk 44 zm_44) = true := by decide +kernel
set_option maxRecDepth 100000 in
theorem zk_45 : zc_45.all (zchk 45 zm_45) = true := by decide +kernel
set_option maxRecDepth 100000 in
theorem zk_46 : zc_46.all (zchk 46 zm_46) = true := by decide +kernel
set_option maxRecDepth 100000 in
theorem zk_47 : zc_47.all (zchk 47 zm_47) = true := by decide +kernel
set_option maxRecDepth 100000 in
theorem zk_48 : zc_48.all (zchk 48 zm_48) = true := by decide +kernel
set_option maxRecDepth 100000 in
theorem zk_49 : zc_49.all (zchk 49 zm_49) = true := by decide +kernel
set_option maxRecDepth 100000 in
theorem zk_50 : zc_50.all (zchk 50 zm_50) = true := by decide +kernel
set_option maxRecDepth 100000 in
theorem zk_51 : zc_51.all (zchk 51 zm_51) = true := by decide +kernel
set_option maxRecDepth 100000 in
theorem zk_52 : zc_52.all (zchk 52 zm_52) = true := by decide +kernel
set_option maxRecDepth 100000 in
theorem zk_53 : zc_53.all (zchk 53 zm_53) = true := by decide +kernel
set_option maxRecDepth 100000 in
theorem zk_54 : zc_54.all (zchk 54 zm_54) = true := by decide +kernel
set_option maxRecDepth 100000 in
theorem zk_55 : zc_55.all (zchk 55 zm_55) = true := by decide +kernel
set_option maxRecDepth 100000 in
theorem zk_56 : zc_56.all (zchk 56 zm_56) = true := by decide +kernel
set_option maxRecDepth 100000 in
theorem zk_57 : zc_57.all (zchk 57 zm_57) = true := by decide +kernel
set_option maxRecDepth 100000 in
theorem zk_58 : zc_58.all (zchk 58 zm_58) = true := by decide +kernel
set_option maxRecDepth 100000 in
theorem zk_59 : zc_59.all (zchk 59 zm_59) = true := by decide +kernel
set_option maxRecDepth 100000 in
theorem zk_60 : zc_60.all (zchk 60 zm_60) = true := by decide +kernel
set_option maxRecDepth 100000 in
theorem zk_61 : zc_61.all (zchk 61 zm_61) = true := by decide +kernel
set_option maxRecDepth 100000 in
theorem zk_62 : zc_62.all (zchk 62 zm_62) = true := by decide +kernel
set_option maxRecDepth 100000 in
theorem zk_63 : zc_63.all (zchk 63 zm_63) = true := by decide +kernel
set_option maxRecDepth 100000 in
theorem zk_64 : zc_64.all (zchk 64 zm_64) = true := by decide +kernel
set_option maxRecDepth 100000 in
theorem zk_65 : zc_65.all (zchk 65 zm_65) = true := by decide +kernel
set_option maxRecDepth 100000 in
theorem zk_66 : zc_66.all (zchk 66 zm_66) = true := by decide +kernel
set_option maxRecDepth 100000 in
theorem zk_67 : zc_67.all (zchk 67 zm_67) = true := by decide +kernel
set_option maxRecDepth 100000 in
theorem zk_68 : zc_68.all (zchk 68 zm_68) = true := by decide +kernel
set_option maxRecDepth 100000 in
theorem zk_69 : zc_69.all (zchk 69 zm_69) = true := by decide +kernel
set_option maxRecDepth 100000 in
theorem zk_70 : zc_70.all (zchk 70 zm_70) = true := by decide +kernel
set_option maxRecDepth 100000 in
theorem zk_71 : zc_71.all (zchk 71 zm_71) = true := by decide +kernel
set_option maxRecDepth 100000 in
theorem zk_72 : zc_72.all (zchk 72 zm_72) = true := by decide +kernel
set_option maxRecDepth 100000 in
theorem zk_73 : zc_73.all (zchk 73 zm_73) = true := by decide +kernel
set_option maxRecDepth 100000 in
theorem zk_74 : zc_74.all (zchk 74 zm_74) = true := by decide +kernel
set_option maxRecDepth 100000 in
theorem zk_75 : zc_75.all (zchk 75 zm_75) = true := by decide +kernel
set_option maxRecDepth 100000 in
theorem zk_76 : zc_76.all (zchk 76 zm_76) = true := by decide +kernel
set_option maxRecDepth 100000 in
theorem zk_77 : zc_77.all (zchk 77 zm_77) = true := by decide +kernel
set_option maxRecDepth 100000 in
theorem zk_78 : zc_78.all (zchk 78 zm_78) = true := by decide +kernel
set_option maxRecDepth 100000 in
theorem zk_79 : zc_79.all (zchk 79 zm_79) = true := by decide +kernel
set_option maxRecDepth 100000 in
theorem zk_80 : zc_80.all (zchk 80 zm_80) = true := by decide +kernel
set_option maxRecDepth 100000 in
theorem zk_81 : zc_81.all (zchk 81 zm_81) = true := by decide +kernel
set_option maxRecDepth 100000 in
theorem zk_82 : zc_82.all (zchk 82 zm_82) = true := by decide +kernel
set_option maxRecDepth 100000 in
theorem zk_83 : zc_83.all (zchk 83 zm_83) = true := by decide +kernel
set_option maxRecDepth 100000 in
theorem zk_84 : zc_84.all (zchk 84 zm_84) = true := by decide +kernel
set_option maxRecDepth 100000 in
theorem zk_85 : zc_85.all (zchk 85 zm_85) = true := by decide +kernel
set_option maxRecDepth 100000 in
theorem zk_86 : zc_86.all (zchk 86 zm_86) = true := by decide +kernel
set_option maxRecDepth 100000 in
theorem zk_87 : zc_87.all (zchk 87 zm_87) = true := by decide +kernel
set_option maxRecDepth 100000 in
theorem zk_88 : zc_88.all (zchk 88 zm_88) = true := by decide +kernel
set_option maxRecDepth 100000 in
theorem zk_89 : zc_89.all (zchk 89 zm_89) = true := by decide +kernel
set_option maxRecDepth 100000 in
theorem zk_90 : zc_90.all (zchk 90 zm_90) = true := by decide +kernel
set_option maxRecDepth 100000 in
theorem zk_91 : zc_91.all (zchk 91 zm_91) = true := by decide +kernel
set_option maxRecDepth 100000 in
theorem zk_92 : zc_92.all (zchk 92 zm_92) = true := by decide +kernel
set_option maxRecDepth 100000 in
theorem zk_93 : zc_93.all (zchk 93 zm_93) = true := by decide +kernel
set_option maxRecDepth 100000 in
theorem zk_94 : zc_94.all (zchk 94 zm_94) = true := by decide +kernel
set_option maxRecDepth 100000 in
theorem zk_95 : zc_95.all (zchk 95 zm_95) = true := by decide +kernel
set_option maxRecDepth 100000 in
theorem zk_96 : zc_96.all (zchk 96 zm_96) = true := by decide +kernel
set_option maxRecDepth 100000 in
theorem zk_97 : zc_97.all (zchk 97 zm_97) = true := by decide +kernel
set_option maxRecDepth 100000 in
theorem zk_98 : zc_98.all (zchk 98 zm_98) = true := by decide +kernel
set_option maxRecDepth 100000 in
theorem zk_99 : zc_99.all (zchk 99 zm_99) = true := by decide +kernel
set_option maxRecDepth 100000 in
theorem zk_100 : zc_100.all (zchk 100 zm_100) = true := by decide +kernel
set_option maxRecDepth 100000 in
theorem zk_101 : zc_101.all (zchk 101 zm_101) = true := by decide +kernel
set_option maxRecDepth 100000 in
theorem zk_102 : zc_102.all (zchk 102 zm_102) = true := by decide +kernel
set_option maxRecDepth 100000 in
theorem zk_103 : zc_103.all (zchk 103 zm_103) = true := by decide +kernel
set_option maxRecDepth 100000 in
theorem zk_104 : zc_104.all (zchk 104 zm_104) = true := by decide +kernel
set_option maxRecDepth 100000 in
theorem zk_105 : zc_105.all (zchk 105 zm_105) = true := by decide +kernel
set_option maxRecDepth 100000 in
theorem zk_106 : zc_106.all (zchk 106 zm_106) = true := by decide +kernel
set_option maxRecDepth 100000 in
theorem zk_107 : zc_107.all (zchk 107 zm_107) = true := by decide +kernel
set_option maxRecDepth 100000 in
theorem zk_108 : zc_108.all (zchk 108 zm_108) = true := by decide +kernel
set_option maxRecDepth 100000 in
theorem zk_109 : zc_109.all (zchk 109 zm_109) = true := by decide +kernel
set_option maxRecDepth 100000 in
theorem zk_110 : zc_110.all (zchk 110 zm_110) = true := by decide +kernel
set_option maxRecDepth 100000 in
theorem zk_111 : zc_111.all (zchk 111 zm_111) = true := by decide +kernel
set_option maxRecDepth 100000 in
theorem zk_112 : zc_112.all (zchk 112 zm_112) = true := by decide +kernel
set_option maxRecDepth 100000 in
theorem zk_113 : zc_113.all (zchk 113 zm_113) = true := by decide +kernel
set_option maxRecDepth 100000 in
theorem zk_114 : zc_114.all (zchk 114 zm_114) = true := by decide +kernel
set_option maxRecDepth 100000 in
theorem zk_115 : zc_115.all (zchk 115 zm_115) = true := by decide +kernel
set_option maxRecDepth 100000 in
theorem zk_116 : zc_116.all (zchk 116 zm_116) = true := by decide +kernel
set_option maxRecDepth 100000 in
theorem zk_117 : zc_117.all (zchk 117 zm_117) = true := by decide +kernel
set_option maxRecDepth 100000 in
theorem zk_118 : zc_118.all (zchk 118 zm_118) = true := by decide +kernel
set_option maxRecDepth 100000 in
theorem zk_119 : zc_119.all (zchk 119 zm_119) = true := by decide +kernel
set_option maxRecDepth 100000 in
theorem zk_120 : zc_120.all (zchk 120 zm_120) = true := by decide +kernel
set_option maxRecDepth 100000 in
theorem zk_121 : zc_121.all (zchk 121 zm_121) = true := by decide +kernel
set_option maxRecDepth 100000 in
theorem zk_122 : zc_122.all (zchk 122 zm_122) = true := by decide +kernel
set_option maxRecDepth 100000 in
theorem zk_123 : zc_123.all (zchk 123 zm_123) = true := by decide +kernel
set_option maxRecDepth 100000 in
theorem zk_124 : zc_124.all (zchk 124 zm_124) = true := by decide +kernel
set_option maxRecDepth 100000 in
theorem zk_125 : zc_125.all (zchk 125 zm_125) = true := by decide +kernel
set_option maxRecDepth 100000 in
theorem zk_126 : zc_126.all (zchk 126 zm_126) = true := by decide +kernel
set_option maxRecDepth 100000 in
theorem zk_127 : zc_127.all (zchk 127 zm_127) = true := by decide +kernel
set_option maxRecDepth 100000 in
theorem zk_128 : zc_128.all (zchk 128 zm_128) = true := by decide +kernel
set_option maxRecDepth 100000 in
theorem zk_129 : zc_129.all (zchk 129 zm_129) = true := by decide +kernel
set_option maxRecDepth 100000 in
theorem zk_130 : zc_130.all (zchk 130 zm_130) = true := by decide +kernel
set_option maxRecDepth 100000 in
theorem zk_131 : zc_131.all (zchk 131 zm_131) = true := by decide +kernel
set_option maxRecDepth 100000 in
theorem zk_132 : zc_132.all (zchk 132 zm_132) = true := by decide +kernel
set_option maxRecDepth 100000 in
theorem zk_133 : zc_133.all (zchk 133 zm_133) = true := by decide +kernel
set_option maxRecDepth 100000 in
theorem zk_134 : zc_134.all (zchk 134 zm_134) = true := by decide +kernel
set_option maxRecDepth 100000 in
theorem zk_135 : zc_135.all (zchk 135 zm_135) = true := by decide +kernel
set_option maxRecDepth 100000 in
theorem zk_136 : zc_136.all (zchk 136 zm_136) = true := by decide +kernel
set_option maxRecDepth 100000 in
theorem zk_137 : zc_137.all (zchk 137 zm_137) = true := by decide +kernel
set_option maxRecDepth 100000 in
theorem zk_138 : zc_138.all (zchk 138 zm_138) = true := by decide +kernel
set_option maxRecDepth 100000 in
theorem zk_139 : zc_139.all (zchk 139 zm_139) = true := by decide +kernel
set_option maxRecDepth 100000 in
theorem zk_140 : zc_140.all (zchk 140 zm_140) = true := by decide +kernel
set_option maxRecDepth 100000 in
theorem zk_141 : zc_141.all (zchk 141 zm_141) = true := by decide +kernel
set_option maxRecDepth 100000 in
theorem zk_142 : zc_142.all (zchk 142 zm_142) = true := by decide +kernel
set_option maxRecDepth 100000 in
theorem zk_143 : zc_143.all (zchk 143 zm_143) = true := by decide +kernel
set_option maxRecDepth 100000 in
theorem zk_144 : zc_144.all (zchk 144 zm_144) = true := by decide +kernel
set_option maxRecDepth 100000 in
theorem zk_145 : zc_145.all (zchk 145 zm_145) = true := by decide +kernel
set_option maxRecDepth 100000 in
theorem zk_146 : zc_146.all (zchk 146 zm_146) = true := by decide +kernel
set_option maxRecDepth 100000 in
theorem zk_147 : zc_147.all (zchk 147 zm_147) = true := by decide +kernel
set_option maxRecDepth 100000 in
theorem zk_148 : zc_148.all (zchk 148 zm_148) = true := by decide +kernel
set_option maxRecDepth 100000 in
theorem zk_149 : zc_149.all (zchk 149 zm_149) = true := by decide +kernel
set_option maxRecDepth 100000 in
theorem zk_150 : zc_150.all (zchk 150 zm_150) = true := by decide +kernel
set_option maxRecDepth 100000 in
theorem zk_151 : zc_151.all (zchk 151 zm_151) = true := by decide +kernel
set_option maxRecDepth 100000 in
theorem zk_152 : zc_152.all (zchk 152 zm_152) = true := by decide +kernel
set_option maxRecDepth 100000 in
theorem zk_153 : zc_153.all (zchk 153 zm_153) = true := by decide +kernel
set_option maxRecDepth 100000 in
theorem zk_154 : zc_154.all (zchk 154 zm_154) = true := by decide +kernel
set_option maxRecDepth 100000 in
theorem zk_155 : zc_155.all (zchk 155 zm_155) = true := by decide +kernel
set_option maxRecDepth 100000 in
theorem zk_156 : zc_156.all (zchk 156 zm_156) = true := by decide +kernel
set_option maxRecDepth 100000 in
theorem zk_157 : zc_157.all (zchk 157 zm_157) = true := by decide +kernel
set_option maxRecDepth 100000 in
theorem zk_158 : zc_158.all (zchk 158 zm_158) = true := by decide +kernel
set_option maxRecDepth 100000 in
theorem zk_159 : zc_159.all (zchk 159 zm_159) = true := by decide +kernel
set_option maxRecDepth 100000 in
theorem zk_160 : zc_160.all (zchk 160 zm_160) = true := by decide +kernel
set_option maxRecDepth 100000 in
theorem zk_161 : zc_161.all (zchk 161 zm_161) = true := by decide +kernel
set_option maxRecDepth 100000 in
theorem zk_162 : zc_162.all (zchk 162 zm_162) = true := by decide +kernel
set_option maxRecDepth 100000 in
theorem zk_163 : zc_163.all (zchk 163 zm_163) = true := by decide +kernel
set_option maxRecDepth 100000 in
theorem zk_164 : zc_164.all (zchk 164 zm_164) = true := by decide +kernel
set_option maxRecDepth 100000 in
theorem zk_165 : zc_165.all (zchk 165 zm_165) = true := by decide +kernel
set_option maxRecDepth 100000 in
theorem zk_166 : zc_166.all (zchk 166 zm_166) = true := by decide +kernel
set_option maxRecDepth 100000 in
theorem zk_167 : zc_167.all (zchk 167 zm_167) = true := by decide +kernel
set_option maxRecDepth 100000 in
theorem zk_168 : zc_168.all (zchk 168 zm_168) = true := by decide +kernel
set_option maxRecDepth 100000 in
theorem zk_169 : zc_169.all (zchk 169 zm_169) = true := by decide +kernel
set_option maxRecDepth 100000 in
theorem zk_170 : zc_170.all (zchk 170 zm_170) = true := by decide +kernel
set_option maxRecDepth 100000 in
theorem zk_171 : zc_171.all (zchk 171 zm_171) = true := by decide +kernel
set_option maxRecDepth 100000 in
theorem zk_172 : zc_172.all (zchk 172 zm_172) = true := by decide +kernel
set_option maxRecDepth 100000 in
theorem zk_173 : zc_173.all (zchk 173 zm_173) = true := by decide +kernel
set_option maxRecDepth 100000 in
theorem zk_174 : zc_174.all (zchk 174 zm_174) = true := by decide +kernel
set_option maxRecDepth 100000 in
theorem zk_175 : zc_175.all (zchk 175 zm_175) = true := by decide +kernel
set_option maxRecDepth 100000 in
theorem zk_176 : zc_176.all (zchk 176 zm_176) = true := by decide +kernel
set_option maxRecDepth 100000 in
theorem zk_177 : zc_177.all (zchk 177 zm_177) = true := by decide +kernel
set_option maxRecDepth 100000 in
theorem zk_178 : zc_178.all (zchk 178 zm_178) = true := by decide +kernel
set_option maxRecDepth 100000 in
theorem zk_179 : zc_179.all (zchk 179 zm_179) = true := by decide +kernel
set_option maxRecDepth 100000 in
theorem zk_180 : zc_180.all (zchk 180 zm_180) = true := by decide +kernel
set_option maxRecDepth 100000 in
theorem zk_181 : zc_181.all (zchk 181 zm_181) = true := by decide +kernel
set_option maxRecDepth 100000 in
theorem zk_182 : zc_182.all (zchk 182 zm_182) = true := by decide +kernel
set_option maxRecDepth 100000 in
theorem zk_183 : zc_183.all (zchk 183 zm_183) = true := by decide +kernel
set_option maxRecDepth 100000 in
theorem zk_184 : zc_184.all (zchk 184 zm_184) = true := by decide +kernel
set_option maxRecDepth 100000 in
theorem zk_185 : zc_185.all (zchk 185 zm_185) = true := by decide +kernel
set_option maxRecDepth 100000 in
theorem zk_186 : zc_186.all (zchk 186 zm_186) = true := by decide +kernel
set_option maxRecDepth 100000 in
theorem zk_187 : zc_187.all (zchk 187 zm_187) = true := by decide +kernel
set_option maxRecDepth 100000 in
theorem zk_188 : zc_188.all (zchk 188 zm_188) = true := by decide +kernel
set_option maxRecDepth 100000 in
theorem zk_189 : zc_189.all (zchk 189 zm_189) = true := by decide +kernel
set_option maxRecDepth 100000 in
theorem zk_190 : zc_190.all (zchk 190 zm_190) = true := by decide +kernel
set_option maxRecDepth 100000 in
theorem zk_191 : zc_191.all (zchk 191 zm_191) = true := by decide +kernel
set_option maxRecDepth 100000 in
theorem zk_192 : zc_192.all (zchk 192 zm_192) = true := by decide +kernel
set_option maxRecDepth 100000 in
theorem zk_193 : zc_193.all (zchk 193 zm_193) = true := by decide +kernel
set_option maxRecDepth 100000 in
theorem zk_194 : zc_194.all (zchk 194 zm_194) = true := by decide +kernel
set_option maxRecDepth 100000 in
theorem zk_195 : zc_195.all (zchk 195 zm_195) = true := by decide +kernel
set_option maxRecDepth 100000 in
theorem zk_196 : zc_196.all (zchk 196 zm_196) = true := by decide +kernel
set_option maxRecDepth 100000 in
theorem zk_197 : zc_197.all (zchk 197 zm_197) = true := by decide +kernel
set_option maxRecDepth 100000 in
theorem zk_198 : zc_198.all (zchk 198 zm_198) = true := by decide +kernel
set_option maxRecDepth 100000 in
theorem zk_199 : zc_199.all (zchk 199 zm_199) = true := by decide +kernel
set_option maxRecDepth 100000 in
theorem zk_200 : zc_200.all (zchk 200 zm_200) = true := by decide +kernel
set_option maxRecDepth 100000 in
theorem zk_201 : zc_201.all (zchk 201 zm_201) = true := by decide +kernel
set_option maxRecDepth 100000 in
theorem zk_202 : zc_202.all (zchk 202 zm_202) = true := by decide +kernel
set_option maxRecDepth 100000 in
theorem zk_203 : zc_203.all (zchk 203 zm_203) = true := by decide +kernel
set_option maxRecDepth 100000 in
theorem zk_204 : zc_204.all (zchk 204 zm_204) = true := by decide +kernel
set_option maxRecDepth 100000 in
theorem zk_205 : zc_205.all (zchk 205 zm_205) = true := by decide +kernel
set_option maxRecDepth 100000 in
theorem zk_206 : zc_206.all (zchk 206 zm_206) = true := by decide +kernel
set_option maxRecDepth 100000 in
theorem zk_207 : zc_207.all (zchk 207 zm_207) = true := by decide +kernel
set_option maxRecDepth 100000 in
theorem zk_208 : zc_208.all (zchk 208 zm_208) = true := by decide +kernel
set_option maxRecDepth 100000 in
theorem zk_209 : zc_209.all (zchk 209 zm_209) = true := by decide +kernel
set_option maxRecDepth 100000 in
theorem zk_210 : zc_210.all (zchk 210 zm_210) = true := by decide +kernel
set_option maxRecDepth 100000 in
theorem zk_211 : zc_211.all (zchk 211 zm_211) = true := by decide +kernel
set_option maxRecDepth 100000 in
theorem zk_212 : zc_212.all (zchk 212 zm_212) = true := by decide +kernel
set_option maxRecDepth 100000 in
theorem zk_213 : zc_213.all (zchk 213 zm_213) = true := by decide +kernel
set_option maxRecDepth 100000 in
theorem zk_214 : zc_214.all (zchk 214 zm_214) = true := by decide +kernel
set_option maxRecDepth 100000 in
theorem zk_215 : zc_215.all (zchk 215 zm_215) = true := by decide +kernel
set_option maxRecDepth 100000 in
theorem zk_216 : zc_216.all (zchk 216 zm_216) = true := by decide +kernel
set_option maxRecDepth 100000 in
theorem zk_217 : zc_217.all (zchk 217 zm_217) = true := by decide +kernel
set_option maxRecDepth 100000 in
theorem zk_218 : zc_218.all (zchk 218 zm_218) = true := by decide +kernel
set_option maxRecDepth 100000 in
theorem zk_219 : zc_219.all (zchk 219 zm_219) = true := by decide +kernel
set_option maxRecDepth 100000 in
theorem zk_220 : zc_220.all (zchk 220 zm_220) = true := by decide +kernel
set_option maxRecDepth 100000 in
theorem zk_221 : zc_221.all (zchk 221 zm_221) = true := by decide +kernel
set_option maxRecDepth 100000 in
theorem zk_222 : zc_222.all (zchk 222 zm_222) = true := by decide +kernel
set_option maxRecDepth 100000 in
theorem zk_223 : zc_223.all (zchk 223 zm_223) = true := by decide +kernel
set_option maxRecDepth 100000 in
theorem zk_224 : zc_224.all (zchk 224 zm_224) = true := by decide +kernel
set_option maxRecDepth 100000 in
theorem zk_225 : zc_225.all (zchk 225 zm_225) = true := by decide +kernel
set_option maxRecDepth 100000 in
theorem zk_226 : zc_226.all (zchk 226 zm_226) = true := by decide +kernel
set_option maxRecDepth 100000 in
theorem zk_227 : zc_227.all (zchk 227 zm_227) = true := by decide +kernel
set_option maxRecDepth 100000 in
theorem zk_228 : zc_228.all (zchk 228 zm_228) = true := by decide +kernel
set_option maxRecDepth 100000 in
theorem zk_229 : zc_229.all (zchk 229 zm_229) = true := by decide +kernel
set_option maxRecDepth 100000 in
theorem zk_230 : zc_230.all (zchk 230 zm_230) = true := by decide +kernel
set_option maxRecDepth 100000 in
theorem zk_231 : zc_231.all (zchk 231 zm_231) = true := by decide +kernel
set_option maxRecDepth 100000 in
theorem zk_232 : zc_232.all (zchk 232 zm_232) = true := by decide +kernel
set_option maxRecDepth 100000 in
theorem zk_233 : zc_233.all (zchk 233 zm_233) = true := by decide +kernel
set_option maxRecDepth 100000 in
theorem zk_234 : zc_234.all (zchk 234 zm_234) = true := by decide +kernel
set_option maxRecDepth 100000 in
theorem zk_235 : zc_235.all (zchk 235 zm_235) = true := by decide +kernel
set_option maxRecDepth 100000 in
theorem zk_236 : zc_236.all (zchk 236 zm_236) = true := by decide +kernel
set_option maxRecDepth 100000 in
theorem zk_237 : zc_237.all (zchk 237 zm_237) = true := by decide +kernel
set_option maxRecDepth 100000 in
theorem zk_238 : zc_238.all (zchk 238 zm_238) = true := by decide +kernel
set_option maxRecDepth 100000 in
theorem zk_239 : zc_239.all (zchk 239 zm_239) = true := by decide +kernel
set_option maxRecDepth 100000 in
theorem zk_240 : zc_240.all (zchk 240 zm_240) = true := by decide +kernel
set_option maxRecDepth 100000 in
theorem zk_241 : zc_241.all (zchk 241 zm_241) = true := by decide +kernel
set_option maxRecDepth 100000 in
theorem zk_243 : zc_243.all (zchk 243 zm_243) = true := by decide +kernel
set_option maxRecDepth 100000 in
theorem zk_244 : zc_244.all (zchk 244 zm_244) = true := by decide +kernel
end
section
/-! printed by wip/gen/gen_chk.py: the law is checked, chunk by chunk -/
set_option maxRecDepth 100000 in
theorem zk_242_0 : zc_242_0.all (zchk 242 zm_242) = true := by decide +kernel
set_option maxRecDepth 100000 in
theorem zk_242_1 : zc_242_1.all (zchk 242 zm_242) = true := by decide +kernel
set_option maxRecDepth 100000 in
theorem zk_242_2 : zc_242_2.all (zchk 242 zm_242) = true := by decide +kernel
set_option maxRecDepth 100000 in
theorem zk_242_3 : zc_242_3.all (zchk 242 zm_242) = true := by decide +kernel
set_option maxRecDepth 100000 in
theorem zk_242_4 : zc_242_4.all (zchk 242 zm_242) = true := by decide +kernel
set_option maxRecDepth 100000 in
theorem zk_242_5 : zc_242_5.all (zchk 242 zm_242) = true := by decide +kernel
set_option maxRecDepth 100000 in
theorem zk_242_6 : zc_242_6.all (zchk 242 zm_242) = true := by decide +kernel
set_option maxRecDepth 100000 in
theorem zk_242_7 : zc_242_7.all (zchk 242 zm_242) = true := by decide +kernel
set_option maxRecDepth 100000 in
theorem zk_242_8 : zc_242_8.all (zchk 242 zm_242) = true := by decide +kernel
set_option maxRecDepth 100000 in
theorem zk_242_9 : zc_242_9.all (zchk 242 zm_242) = true := by decide +kernel
set_option maxRecDepth 100000 in
theorem zk_242_10 : zc_242_10.all (zchk 242 zm_242) = true := by decide +kernel
set_option maxRecDepth 100000 in
theorem zk_242_11 : zc_242_11.all (zchk 242 zm_242) = true := by decide +kernel
set_option maxRecDepth 100000 in
theorem zk_242_12 : zc_242_12.all (zchk 242 zm_242) = true := by decide +kernel
set_option maxRecDepth 100000 in
theorem zk_242_13 : zc_242_13.all (zchk 242 zm_242) = true := by decide +kernel
set_option maxRecDepth 100000 in
theorem zk_242_14 : zc_242_14.all (zchk 242 zm_242) = true := by decide +kernel
set_option maxRecDepth 100000 in
theorem zk_242_15 : zc_242_15.all (zchk 242 zm_242) = true := by decide +kernel
set_option maxRecDepth 100000 in
theorem zk_242_16 : zc_242_16.all (zchk 242 zm_242) = true := by decide +kernel
set_option maxRecDepth 100000 in
theorem zk_242_17 : zc_242_17.all (zchk 242 zm_242) = true := by decide +kernel
set_option maxRecDepth 100000 in
theorem zk_242_18 : zc_242_18.all (zchk 242 zm_242) = true := by decide +kernel
set_option maxRecDepth 100000 in
theorem zk_242_19 : zc_242_19.all (zchk 242 zm_242) = true := by decide +kernel
set_option maxRecDepth 100000 in
theorem zk_242_20 : zc_242_20.all (zchk 242 zm_242) = true := by decide +kernel
set_option maxRecDepth 100000 in
theorem zk_242_21 : zc_242_21.all (zchk 242 zm_242) = true := by decide +kernel
set_option maxRecDepth 100000 in
theorem zk_242_22 : zc_242_22.all (zchk 242 zm_242) = true := by decide +kernel
set_option maxRecDepth 100000 in
theorem zk_242_23 : zc_242_23.all (zchk 242 zm_242) = true := by decide +kernel
set_option maxRecDepth 100000 in
theorem zk_242_24 : zc_242_24.all (zchk 242 zm_242) = true := by decide +kernel
set_option maxRecDepth 100000 in
theorem zk_242_25 : zc_242_25.all (zchk 242 zm_242) = true := by decide +kernel
set_option maxRecDepth 100000 in
theorem zk_242_26 : zc_242_26.all (zchk 242 zm_242) = true := by decide +kernel
set_option maxRecDepth 100000 in
theorem zk_242_27 : zc_242_27.all (zchk 242 zm_242) = true := by decide +kernel
set_option maxRecDepth 100000 in
theorem zk_242_28 : zc_242_28.all (zchk 242 zm_242) = true := by decide +kernel
theorem zk_242 : zc_242.all (zchk 242 zm_242) = true := by
  simp only [zc_242, List.all_append, zk_242_0, zk_242_1, zk_242_2, zk_242_3, zk_242_4, zk_242_5, zk_242_6, zk_242_7, zk_242_8, zk_242_9, zk_242_10, zk_242_11, zk_242_12, zk_242_13, zk_242_14, zk_242_15, zk_242_16, zk_242_17, zk_242_18, zk_242_19, zk_242_20, zk_242_21, zk_242_22, zk_242_23, zk_242_24, zk_242_25, zk_242_26, zk_242_27, zk_242_28, Bool.and_self]
end
section
/-! printed by wip/gen/gen_links.py: the links are words of the tables; all checks in one -/
theorem zdrop_all {α : Type} (l : List α) (k n : Nat) (f : α → Bool) : (l.drop k).all f = (((l.drop k).take n).all f && (l.drop (k + n)).all f) := by
  rw [← List.drop_drop, ← List.all_append, List.take_append_drop]
def zon (k : Nat) : String := zown.getD k ""
abbrev zq : Type := MethodName × ByteArray × Nat × Option FieldType × Nat
def zft (r : Nat × Nat × Nat × Nat × Nat) : Bool := decide (tables_1[r.2.2.2.2]? = some (Jvm.Cond.fieldLink (zon r.1) r.2.1 (zTf r.2.2.1 r.2.2.2.1).1 (zTf r.2.2.1 r.2.2.2.1).2.1 (zTf r.2.2.1 r.2.2.2.1).2.2.1))
set_option maxRecDepth 100000 in
theorem zl_FT : zFT.all zft = true := by decide +kernel
def zmd : zq := zm_0
def zmn (c : Nat) : MethodName := (zmt.getD c zmd).1
def zmw (r : Nat × Nat × Nat × Nat × Nat × Nat × Nat × Nat) : Bool := decide (lw_tbl[r.2.2.2.2.1]? = some (match r.2.2.2.1 with
    | 3 => Jvm.Cond.methodLinkNest (zon r.1) r.2.1 (zmn r.2.2.1) "HandsAndWays"
    | _ => Jvm.Cond.methodLink (zon r.1) r.2.1 (zmn r.2.2.1)))
  && decide (lw_tbl[r.2.2.2.2.2.1]? = some (match r.2.2.2.1 with
    | 0 => Jvm.Cond.static (zmn r.2.2.1)
    | _ => Jvm.Cond.instanceMethod (zmn r.2.2.1)))
  && (match r.2.2.2.1 with
    | 1 => decide (lw_tbl[r.2.2.2.2.2.2.1]? = some (Jvm.Cond.selects (zmn r.2.2.1).cls (zmn r.2.2.1) (zmn r.2.2.1)))
    | _ => true)
  && decide (lw_tbl[r.2.2.2.2.2.2.2]? = some (Jvm.Cond.initialized (zmn r.2.2.1).cls))
  && (Nat.blt r.2.2.1 242 || Nat.blt 242 r.2.2.1 && Nat.blt r.2.2.1 245)
set_option maxRecDepth 100000 in
theorem zl_MT_0 : ((zMT.drop 0).take 15).all zmw = true := by decide +kernel
set_option maxRecDepth 100000 in
theorem zl_MT_15 : ((zMT.drop 15).take 15).all zmw = true := by decide +kernel
set_option maxRecDepth 100000 in
theorem zl_MT_30 : ((zMT.drop 30).take 15).all zmw = true := by decide +kernel
set_option maxRecDepth 100000 in
theorem zl_MT_45 : ((zMT.drop 45).take 15).all zmw = true := by decide +kernel
set_option maxRecDepth 100000 in
theorem zl_MT_60 : ((zMT.drop 60).take 15).all zmw = true := by decide +kernel
set_option maxRecDepth 100000 in
theorem zl_MT_75 : ((zMT.drop 75).take 15).all zmw = true := by decide +kernel
set_option maxRecDepth 100000 in
theorem zl_MT_90 : ((zMT.drop 90).take 15).all zmw = true := by decide +kernel
set_option maxRecDepth 100000 in
theorem zl_MT_105 : ((zMT.drop 105).take 15).all zmw = true := by decide +kernel
set_option maxRecDepth 100000 in
theorem zl_MT_120 : ((zMT.drop 120).take 15).all zmw = true := by decide +kernel
set_option maxRecDepth 100000 in
theorem zl_MT_135 : ((zMT.drop 135).take 15).all zmw = true := by decide +kernel
set_option maxRecDepth 100000 in
theorem zl_MT_150 : ((zMT.drop 150).take 15).all zmw = true := by decide +kernel
set_option maxRecDepth 100000 in
theorem zl_MT_165 : ((zMT.drop 165).take 15).all zmw = true := by decide +kernel
set_option maxRecDepth 100000 in
theorem zl_MT_180 : ((zMT.drop 180).take 15).all zmw = true := by decide +kernel
set_option maxRecDepth 100000 in
theorem zl_MT_195 : ((zMT.drop 195).take 15).all zmw = true := by decide +kernel
set_option maxRecDepth 100000 in
theorem zl_MT_210 : ((zMT.drop 210).take 15).all zmw = true := by decide +kernel
set_option maxRecDepth 100000 in
theorem zl_MT_225 : ((zMT.drop 225).take 15).all zmw = true := by decide +kernel
set_option maxRecDepth 100000 in
theorem zl_MT_240 : ((zMT.drop 240).take 15).all zmw = true := by decide +kernel
set_option maxRecDepth 100000 in
theorem zl_MT_255 : ((zMT.drop 255).take 15).all zmw = true := by decide +kernel
set_option maxRecDepth 100000 in
theorem zl_MT_270 : ((zMT.drop 270).take 15).all zmw = true := by decide +kernel
theorem zl_MT_e285 : (zMT.drop 285).all zmw = true := by rw [show zMT.drop 285 = [] from List.drop_eq_nil_of_le (by decide +kernel)]; rfl
theorem zl_MT_e270 : (zMT.drop 270).all zmw = true := by rw [zdrop_all zMT 270 15 zmw, zl_MT_270, zl_MT_e285]; rfl
theorem zl_MT_e255 : (zMT.drop 255).all zmw = true := by rw [zdrop_all zMT 255 15 zmw, zl_MT_255, zl_MT_e270]; rfl
theorem zl_MT_e240 : (zMT.drop 240).all zmw = true := by rw [zdrop_all zMT 240 15 zmw, zl_MT_240, zl_MT_e255]; rfl
theorem zl_MT_e225 : (zMT.drop 225).all zmw = true := by rw [zdrop_all zMT 225 15 zmw, zl_MT_225, zl_MT_e240]; rfl
theorem zl_MT_e210 : (zMT.drop 210).all zmw = true := by rw [zdrop_all zMT 210 15 zmw, zl_MT_210, zl_MT_e225]; rfl
theorem zl_MT_e195 : (zMT.drop 195).all zmw = true := by rw [zdrop_all zMT 195 15 zmw, zl_MT_195, zl_MT_e210]; rfl
theorem zl_MT_e180 : (zMT.drop 180).all zmw = true := by rw [zdrop_all zMT 180 15 zmw, zl_MT_180, zl_MT_e195]; rfl
theorem zl_MT_e165 : (zMT.drop 165).all zmw = true := by rw [zdrop_all zMT 165 15 zmw, zl_MT_165, zl_MT_e180]; rfl
theorem zl_MT_e150 : (zMT.drop 150).all zmw = true := by rw [zdrop_all zMT 150 15 zmw, zl_MT_150, zl_MT_e165]; rfl
theorem zl_MT_e135 : (zMT.drop 135).all zmw = true := by rw [zdrop_all zMT 135 15 zmw, zl_MT_135, zl_MT_e150]; rfl
theorem zl_MT_e120 : (zMT.drop 120).all zmw = true := by rw [zdrop_all zMT 120 15 zmw, zl_MT_120, zl_MT_e135]; rfl
theorem zl_MT_e105 : (zMT.drop 105).all zmw = true := by rw [zdrop_all zMT 105 15 zmw, zl_MT_105, zl_MT_e120]; rfl
theorem zl_MT_e90 : (zMT.drop 90).all zmw = true := by rw [zdrop_all zMT 90 15 zmw, zl_MT_90, zl_MT_e105]; rfl
theorem zl_MT_e75 : (zMT.drop 75).all zmw = true := by rw [zdrop_all zMT 75 15 zmw, zl_MT_75, zl_MT_e90]; rfl
theorem zl_MT_e60 : (zMT.drop 60).all zmw = true := by rw [zdrop_all zMT 60 15 zmw, zl_MT_60, zl_MT_e75]; rfl
theorem zl_MT_e45 : (zMT.drop 45).all zmw = true := by rw [zdrop_all zMT 45 15 zmw, zl_MT_45, zl_MT_e60]; rfl
theorem zl_MT_e30 : (zMT.drop 30).all zmw = true := by rw [zdrop_all zMT 30 15 zmw, zl_MT_30, zl_MT_e45]; rfl
theorem zl_MT_e15 : (zMT.drop 15).all zmw = true := by rw [zdrop_all zMT 15 15 zmw, zl_MT_15, zl_MT_e30]; rfl
theorem zl_MT_e0 : (zMT.drop 0).all zmw = true := by rw [zdrop_all zMT 0 15 zmw, zl_MT_0, zl_MT_e15]; rfl
theorem zl_MT : zMT.all zmw = true := zl_MT_e0
def znt (r : Nat × Nat × Nat × Nat × Nat × Nat) : Bool := decide (tables_1[r.2.2.2.1]? = some (Jvm.Cond.classLink (zon r.1) r.2.1 (zon r.2.2.1))) && decide (tables_1[r.2.2.2.2.1]? = some (Jvm.Cond.instantiable (zon r.2.2.1) (znf r.2.2.1))) && decide (tables_1[r.2.2.2.2.2]? = some (Jvm.Cond.initialized (zon r.2.2.1))) && Nat.blt r.2.2.1 11
set_option maxRecDepth 100000 in
theorem zl_NT : zNT.all znt = true := by decide +kernel
def zot (r : Nat × Nat × Nat) : Bool := decide (tables_1[r.2.2]? = some (Jvm.Cond.methodLink (zon r.1) r.2.1 Lib.objectInit))
set_option maxRecDepth 100000 in
theorem zl_OT : zOT.all zot = true := by decide +kernel
set_option maxRecDepth 100000 in
theorem zl_OI : Jvm.Cond.instanceMethod Lib.objectInit ∈ tables_1 ∧ Jvm.Cond.code Lib.objectInit ⟨#[0xb1]⟩ 1 none ∈ tables_1 := ⟨List.mem_of_getElem? (i := 23) (by decide +kernel), List.mem_of_getElem? (i := 24) (by decide +kernel)⟩
def zat (r : Nat × Nat × Nat) : Bool := decide (tables_1[r.2.2]? = some (Jvm.Cond.methodLink (zon r.1) r.2.1 arraycopyName))
set_option maxRecDepth 100000 in
theorem zl_AT : zAT.all zat = true := by decide +kernel
set_option maxRecDepth 100000 in
theorem zl_AC : Jvm.Cond.native arraycopyName ∈ tables_1 ∧ Jvm.Cond.static arraycopyName ∈ tables_1 ∧ Jvm.Cond.initialized "java/lang/System" ∈ tables_1 := ⟨by decide +kernel, by decide +kernel, by decide +kernel⟩
def zsn (k : Nat) : String := if k = 2 then "SIDES" else if k = 3 then "ABOVE" else "TURNS_UP"
def zgt (r : Nat × Nat × Nat × Nat) : Bool := decide (tables_1[r.2.2.2]? = some (Jvm.Cond.fieldLink (zon r.1) r.2.1 "HandsAndWays$Kinds" (zsn r.2.2.1) "[I")) && Nat.ble 2 r.2.2.1 && Nat.blt r.2.2.1 5
set_option maxRecDepth 100000 in
theorem zl_GT : zGT.all zgt = true := by decide +kernel
def zkt (r : Nat × Nat × Int × Nat) : Bool := decide (tables_1[r.2.2.2]? = some (Jvm.Cond.constantLong (zon r.1) r.2.1 (Int64.ofInt r.2.2.1)))
set_option maxRecDepth 100000 in
theorem zl_KT : zKT.all zkt = true := by decide +kernel
set_option maxRecDepth 100000 in
theorem zl_AR : Jvm.Cond.arrayClass .int ∈ tables_1 ∧ Jvm.Cond.arrayClass .boolean ∈ tables_1 ∧ Jvm.Cond.arrayClass .long ∈ tables_1 := ⟨List.mem_of_getElem? (i := 81) (by decide +kernel), List.mem_of_getElem? (i := 1178) (by decide +kernel), List.mem_of_getElem? (i := 179) (by decide +kernel)⟩
set_option maxRecDepth 100000 in
theorem zl_LS : Jvm.Cond.laysStatic "HandsAndWays$Kinds" "SIDES" "[I" ∈ tables_1 ∧ Jvm.Cond.laysStatic "HandsAndWays$Kinds" "ABOVE" "[I" ∈ tables_1 ∧ Jvm.Cond.laysStatic "HandsAndWays$Kinds" "TURNS_UP" "[I" ∈ tables_1 ∧ Jvm.Cond.initialized "HandsAndWays$Kinds" ∈ tables_1 := ⟨List.mem_of_getElem? (i := 581) (by decide +kernel), List.mem_of_getElem? (i := 1026) (by decide +kernel), List.mem_of_getElem? (i := 545) (by decide +kernel), by decide +kernel⟩
/-- a method's code is a word of the tables (but the law's) -/
def zcw (r : zq × Nat) : Bool := Nat.beq r.1.2.2.2.2 13 || (decide (tables_1[r.2]? = some (Jvm.Cond.code r.1.1 r.1.2.1 r.1.2.2.1 r.1.2.2.2.1)) && decide (plainFor r.1.1 = true) && decide (r.1.1.cls ≠ "java/lang/invoke/MethodHandle") && decide (r.1.1.cls ≠ "java/lang/invoke/VarHandle") && Nat.ble r.1.2.2.1 40 && decide (zon r.1.2.2.2.2 = r.1.1.cls))
set_option maxRecDepth 100000 in
theorem zl_CW_0 : (((zmt.zip zpos).drop 0).take 15).all zcw = true := by decide +kernel
set_option maxRecDepth 100000 in
theorem zl_CW_15 : (((zmt.zip zpos).drop 15).take 15).all zcw = true := by decide +kernel
set_option maxRecDepth 100000 in
theorem zl_CW_30 : (((zmt.zip zpos).drop 30).take 15).all zcw = true := by decide +kernel
set_option maxRecDepth 100000 in
theorem zl_CW_45 : (((zmt.zip zpos).drop 45).take 15).all zcw = true := by decide +kernel
set_option maxRecDepth 100000 in
theorem zl_CW_60 : (((zmt.zip zpos).drop 60).take 15).all zcw = true := by decide +kernel
set_option maxRecDepth 100000 in
theorem zl_CW_75 : (((zmt.zip zpos).drop 75).take 15).all zcw = true := by decide +kernel
set_option maxRecDepth 100000 in
theorem zl_CW_90 : (((zmt.zip zpos).drop 90).take 15).all zcw = true := by decide +kernel
set_option maxRecDepth 100000 in
theorem zl_CW_105 : (((zmt.zip zpos).drop 105).take 15).all zcw = true := by decide +kernel
set_option maxRecDepth 100000 in
theorem zl_CW_120 : (((zmt.zip zpos).drop 120).take 15).all zcw = true := by decide +kernel
set_option maxRecDepth 100000 in
theorem zl_CW_135 : (((zmt.zip zpos).drop 135).take 15).all zcw = true := by decide +kernel
set_option maxRecDepth 100000 in
theorem zl_CW_150 : (((zmt.zip zpos).drop 150).take 15).all zcw = true := by decide +kernel
set_option maxRecDepth 100000 in
theorem zl_CW_165 : (((zmt.zip zpos).drop 165).take 15).all zcw = true := by decide +kernel
set_option maxRecDepth 100000 in
theorem zl_CW_180 : (((zmt.zip zpos).drop 180).take 15).all zcw = true := by decide +kernel
set_option maxRecDepth 100000 in
theorem zl_CW_195 : (((zmt.zip zpos).drop 195).take 15).all zcw = true := by decide +kernel
set_option maxRecDepth 100000 in
theorem zl_CW_210 : (((zmt.zip zpos).drop 210).take 15).all zcw = true := by decide +kernel
set_option maxRecDepth 100000 in
theorem zl_CW_225 : (((zmt.zip zpos).drop 225).take 15).all zcw = true := by decide +kernel
set_option maxRecDepth 100000 in
theorem zl_CW_240 : (((zmt.zip zpos).drop 240).take 15).all zcw = true := by decide +kernel
theorem zl_CW_e255 : ((zmt.zip zpos).drop 255).all zcw = true := by rw [show (zmt.zip zpos).drop 255 = [] from List.drop_eq_nil_of_le (by decide +kernel)]; rfl
theorem zl_CW_e240 : ((zmt.zip zpos).drop 240).all zcw = true := by rw [zdrop_all (zmt.zip zpos) 240 15 zcw, zl_CW_240, zl_CW_e255]; rfl
theorem zl_CW_e225 : ((zmt.zip zpos).drop 225).all zcw = true := by rw [zdrop_all (zmt.zip zpos) 225 15 zcw, zl_CW_225, zl_CW_e240]; rfl
theorem zl_CW_e210 : ((zmt.zip zpos).drop 210).all zcw = true := by rw [zdrop_all (zmt.zip zpos) 210 15 zcw, zl_CW_210, zl_CW_e225]; rfl
theorem zl_CW_e195 : ((zmt.zip zpos).drop 195).all zcw = true := by rw [zdrop_all (zmt.zip zpos) 195 15 zcw, zl_CW_195, zl_CW_e210]; rfl
theorem zl_CW_e180 : ((zmt.zip zpos).drop 180).all zcw = true := by rw [zdrop_all (zmt.zip zpos) 180 15 zcw, zl_CW_180, zl_CW_e195]; rfl
theorem zl_CW_e165 : ((zmt.zip zpos).drop 165).all zcw = true := by rw [zdrop_all (zmt.zip zpos) 165 15 zcw, zl_CW_165, zl_CW_e180]; rfl
theorem zl_CW_e150 : ((zmt.zip zpos).drop 150).all zcw = true := by rw [zdrop_all (zmt.zip zpos) 150 15 zcw, zl_CW_150, zl_CW_e165]; rfl
theorem zl_CW_e135 : ((zmt.zip zpos).drop 135).all zcw = true := by rw [zdrop_all (zmt.zip zpos) 135 15 zcw, zl_CW_135, zl_CW_e150]; rfl
theorem zl_CW_e120 : ((zmt.zip zpos).drop 120).all zcw = true := by rw [zdrop_all (zmt.zip zpos) 120 15 zcw, zl_CW_120, zl_CW_e135]; rfl
theorem zl_CW_e105 : ((zmt.zip zpos).drop 105).all zcw = true := by rw [zdrop_all (zmt.zip zpos) 105 15 zcw, zl_CW_105, zl_CW_e120]; rfl
theorem zl_CW_e90 : ((zmt.zip zpos).drop 90).all zcw = true := by rw [zdrop_all (zmt.zip zpos) 90 15 zcw, zl_CW_90, zl_CW_e105]; rfl
theorem zl_CW_e75 : ((zmt.zip zpos).drop 75).all zcw = true := by rw [zdrop_all (zmt.zip zpos) 75 15 zcw, zl_CW_75, zl_CW_e90]; rfl
theorem zl_CW_e60 : ((zmt.zip zpos).drop 60).all zcw = true := by rw [zdrop_all (zmt.zip zpos) 60 15 zcw, zl_CW_60, zl_CW_e75]; rfl
theorem zl_CW_e45 : ((zmt.zip zpos).drop 45).all zcw = true := by rw [zdrop_all (zmt.zip zpos) 45 15 zcw, zl_CW_45, zl_CW_e60]; rfl
theorem zl_CW_e30 : ((zmt.zip zpos).drop 30).all zcw = true := by rw [zdrop_all (zmt.zip zpos) 30 15 zcw, zl_CW_30, zl_CW_e45]; rfl
theorem zl_CW_e15 : ((zmt.zip zpos).drop 15).all zcw = true := by rw [zdrop_all (zmt.zip zpos) 15 15 zcw, zl_CW_15, zl_CW_e30]; rfl
theorem zl_CW_e0 : ((zmt.zip zpos).drop 0).all zcw = true := by rw [zdrop_all (zmt.zip zpos) 0 15 zcw, zl_CW_0, zl_CW_e15]; rfl
theorem zl_CW : (zmt.zip zpos).all zcw = true := zl_CW_e0
set_option maxRecDepth 100000 in
theorem zl_len : zmt.length = 245 ∧ zpos.length = 245 ∧ zpl = zmt.map (fun q => q.2.2.1) := by decide +kernel
/-- every word of the tables is one that calls keep -/
def zgd (w : Jvm.Cond) : Bool := (w.onTables && w.keeps) || (match w with
  | .arrayClass _ => true
  | _ => false)
/-- the words that a call hands on -/
def zws0 : List Jvm.Cond := lw_tbl.filter zgd
theorem zws0_in {w : Jvm.Cond} (h : w ∈ zws0) : w ∈ lw_tbl ∧ ((w.onTables && w.keeps) = true ∨ ∃ ty, w = .arrayClass ty) := by
  obtain ⟨h1, h2⟩ := List.mem_filter.mp h
  refine ⟨h1, ?_⟩
  unfold zgd at h2
  rcases Bool.or_eq_true_iff.mp h2 with h3 | h3
  · exact Or.inl h3
  · split at h3
    · exact Or.inr ⟨_, rfl⟩
    · cases h3
theorem zws0_of {w : Jvm.Cond} (h : w ∈ lw_tbl) (hg : zgd w = true) : w ∈ zws0 := List.mem_filter.mpr ⟨h, hg⟩
theorem zws0_t {w : Jvm.Cond} (h : w ∈ tables_1) (hg : zgd w = true) : w ∈ zws0 := zws0_of (List.mem_append_right _ h) hg
/-- the classes -/
def zty (ci k : Nat) : FieldType := (parseFieldDescriptor (zTf ci k).2.2.1).getD .int
def ztk (ty : FieldType) : Nat := match ty with
  | .int => 0
  | .boolean => 1
  | .long => 2
  | .object _ => 3
  | .array _ => 3
  | _ => 9
def zcd (ci : Nat) : Bool := (List.range (znf ci)).all (fun k => decide (parseFieldDescriptor (zTf ci k).2.2.1 = some (zty ci k)) && Nat.beq (ztk (zty ci k)) (ztag ci k) && decide ((zTf ci k).1 = zon ci)
  && (List.range (znf ci)).all (fun j => Nat.beq k j || decide ((zTf ci k).2.1 ≠ (zTf ci j).2.1)))
set_option maxRecDepth 100000 in
theorem zl_CD : (List.range 11).all zcd = true := by decide +kernel
set_option maxRecDepth 100000 in
theorem zl_in_0 : ∀ w ∈ u_ws (zon 0) (zTf 0) (znf 0), w ∈ tables_1 := by decide +kernel
set_option maxRecDepth 100000 in
theorem zl_in_1 : ∀ w ∈ u_ws (zon 1) (zTf 1) (znf 1), w ∈ tables_1 := by decide +kernel
set_option maxRecDepth 100000 in
theorem zl_in_2 : ∀ w ∈ u_ws (zon 2) (zTf 2) (znf 2), w ∈ tables_1 := by decide +kernel
set_option maxRecDepth 100000 in
theorem zl_in_3 : ∀ w ∈ u_ws (zon 3) (zTf 3) (znf 3), w ∈ tables_1 := by decide +kernel
set_option maxRecDepth 100000 in
theorem zl_in_4 : ∀ w ∈ u_ws (zon 4) (zTf 4) (znf 4), w ∈ tables_1 := by decide +kernel
set_option maxRecDepth 100000 in
theorem zl_in_5 : ∀ w ∈ u_ws (zon 5) (zTf 5) (znf 5), w ∈ tables_1 := by decide +kernel
set_option maxRecDepth 100000 in
theorem zl_in_6 : ∀ w ∈ u_ws (zon 6) (zTf 6) (znf 6), w ∈ tables_1 := by decide +kernel
set_option maxRecDepth 100000 in
theorem zl_in_7 : ∀ w ∈ u_ws (zon 7) (zTf 7) (znf 7), w ∈ tables_1 := by decide +kernel
set_option maxRecDepth 100000 in
theorem zl_in_8 : ∀ w ∈ u_ws (zon 8) (zTf 8) (znf 8), w ∈ tables_1 := by decide +kernel
set_option maxRecDepth 100000 in
theorem zl_in_9 : ∀ w ∈ u_ws (zon 9) (zTf 9) (znf 9), w ∈ tables_1 := by decide +kernel
set_option maxRecDepth 100000 in
theorem zl_in_10 : ∀ w ∈ u_ws (zon 10) (zTf 10) (znf 10), w ∈ tables_1 := by decide +kernel
theorem zl_in (ci : Nat) (h : ci < 11) : ∀ w ∈ u_ws (zon ci) (zTf ci) (znf ci), w ∈ tables_1 := by
  match ci, h with
  | 0, _ => exact zl_in_0
  | 1, _ => exact zl_in_1
  | 2, _ => exact zl_in_2
  | 3, _ => exact zl_in_3
  | 4, _ => exact zl_in_4
  | 5, _ => exact zl_in_5
  | 6, _ => exact zl_in_6
  | 7, _ => exact zl_in_7
  | 8, _ => exact zl_in_8
  | 9, _ => exact zl_in_9
  | 10, _ => exact zl_in_10
theorem zl_cl (ci : Nat) (h : ci < 11) : zcl[ci]? = some (zon ci, zTf ci, znf ci) := by
  match ci, h with
  | 0, _ => rfl
  | 1, _ => rfl
  | 2, _ => rfl
  | 3, _ => rfl
  | 4, _ => rfl
  | 5, _ => rfl
  | 6, _ => rfl
  | 7, _ => rfl
  | 8, _ => rfl
  | 9, _ => rfl
  | 10, _ => rfl
def zallp : Nat → List zq → Prop
  | _, [] => True
  | k, q :: l => (zcode k).all (zchk k q) = true ∧ zallp (k + 1) l
theorem zallp_at : ∀ (l : List zq) (k j : Nat) (q : zq), zallp k l → l[j]? = some q → (zcode (k + j)).all (zchk (k + j) q) = true
  | [], _, _, _, _, h => by simp at h
  | a :: l, k, 0, q, hp, h => by
    simp only [List.getElem?_cons_zero, Option.some.injEq] at h
    subst h
    exact hp.1
  | a :: l, k, j + 1, q, hp, h => by
    have := zallp_at l (k + 1) j q hp.2 (by simpa using h)
    rwa [Nat.add_assoc, Nat.add_comm 1 j] at this
set_option maxRecDepth 100000 in
theorem zka_210 : zallp 210 (zmt.drop 210) := ⟨zk_210, zk_211, zk_212, zk_213, zk_214, zk_215, zk_216, zk_217, zk_218, zk_219, zk_220, zk_221, zk_222, zk_223, zk_224, zk_225, zk_226, zk_227, zk_228, zk_229, zk_230, zk_231, zk_232, zk_233, zk_234, zk_235, zk_236, zk_237, zk_238, zk_239, zk_240, zk_241, zk_242, zk_243, zk_244, trivial⟩
set_option maxRecDepth 100000 in
theorem zka_175 : zallp 175 (zmt.drop 175) := ⟨zk_175, zk_176, zk_177, zk_178, zk_179, zk_180, zk_181, zk_182, zk_183, zk_184, zk_185, zk_186, zk_187, zk_188, zk_189, zk_190, zk_191, zk_192, zk_193, zk_194, zk_195, zk_196, zk_197, zk_198, zk_199, zk_200, zk_201, zk_202, zk_203, zk_204, zk_205, zk_206, zk_207, zk_208, zk_209, zka_210⟩
set_option maxRecDepth 100000 in
theorem zka_140 : zallp 140 (zmt.drop 140) := ⟨zk_140, zk_141, zk_142, zk_143, zk_144, zk_145, zk_146, zk_147, zk_148, zk_149, zk_150, zk_151, zk_152, zk_153, zk_154, zk_155, zk_156, zk_157, zk_158, zk_159, zk_160, zk_161, zk_162, zk_163, zk_164, zk_165, zk_166, zk_167, zk_168, zk_169, zk_170, zk_171, zk_172, zk_173, zk_174, zka_175⟩
set_option maxRecDepth 100000 in
theorem zka_105 : zallp 105 (zmt.drop 105) := ⟨zk_105, zk_106, zk_107, zk_108, zk_109, zk_110, zk_111, zk_112, zk_113, zk_114, zk_115, zk_116, zk_117, zk_118, zk_119, zk_120, zk_121, zk_122, zk_123, zk_124, zk_125, zk_126, zk_127, zk_128, zk_129, zk_130, zk_131, zk_132, zk_133, zk_134, zk_135, zk_136, zk_137, zk_138, zk_139, zka_140⟩
set_option maxRecDepth 100000 in
theorem zka_70 : zallp 70 (zmt.drop 70) := ⟨zk_70, zk_71, zk_72, zk_73, zk_74, zk_75, zk_76, zk_77, zk_78, zk_79, zk_80, zk_81, zk_82, zk_83, zk_84, zk_85, zk_86, zk_87, zk_88, zk_89, zk_90, zk_91, zk_92, zk_93, zk_94, zk_95, zk_96, zk_97, zk_98, zk_99, zk_100, zk_101, zk_102, zk_103, zk_104, zka_105⟩
set_option maxRecDepth 100000 in
theorem zka_35 : zallp 35 (zmt.drop 35) := ⟨zk_35, zk_36, zk_37, zk_38, zk_39, zk_40, zk_41, zk_42, zk_43, zk_44, zk_45, zk_46, zk_47, zk_48, zk_49, zk_50, zk_51, zk_52, zk_53, zk_54, zk_55, zk_56, zk_57, zk_58, zk_59, zk_60, zk_61, zk_62, zk_63, zk_64, zk_65, zk_66, zk_67, zk_68, zk_69, zka_70⟩
set_option maxRecDepth 100000 in
theorem zka_0 : zallp 0 (zmt.drop 0) := ⟨zk_0, zk_1, zk_2, zk_3, zk_4, zk_5, zk_6, zk_7, zk_8, zk_9, zk_10, zk_11, zk_12, zk_13, zk_14, zk_15, zk_16, zk_17, zk_18, zk_19, zk_20, zk_21, zk_22, zk_23, zk_24, zk_25, zk_26, zk_27, zk_28, zk_29, zk_30, zk_31, zk_32, zk_33, zk_34, zka_35⟩
theorem zk_at (y : Nat) (q : zq) (h : zmt[y]? = some q) : (zcode y).all (zchk y q) = true := by
  have := zallp_at zmt 0 y q zka_0 h
  rwa [Nat.zero_add] at this
end
section
/-! the abstract heap as a world of the kit's -/
def zin (x : Int) : Prop := -2147483648 ≤ x ∧ x ≤ 2147483647
def zok : zV → Prop
  | .inl x => zin x
  | _ => True
def zhok (h : zH) : Prop := ∀ k j, zin (h.1 k j)
theorem zin_toInt (v : Int32) : zin v.toInt := by
  have h1 : -2 ^ 31 ≤ v.toInt := Int32.le_toInt v
  have h2 : v.toInt < 2 ^ 31 := Int32.toInt_lt v
  constructor <;> omega
theorem zin_eq {x : Int} (h : zin x) : (Int32.ofInt x).toInt = x := by
  obtain ⟨h1, h2⟩ := h
  rw [Int32.toInt_ofInt]
  show x.bmod 4294967296 = x
  exact Int.bmod_eq_of_le (by omega) (by omega)
theorem z_ofInt_inj {x y : Int} (hx : zin x) (hy : zin y) : Int32.ofInt x = Int32.ofInt y ↔ x = y := by
  constructor
  · intro h
    rw [← zin_eq hx, ← zin_eq hy, h]
  · rintro rfl; rfl
theorem z_ofInt_lt {x y : Int} (hx : zin x) (hy : zin y) : Int32.ofInt x < Int32.ofInt y ↔ x < y := by
  rw [Int32.lt_iff_toInt_lt, zin_eq hx, zin_eq hy]
theorem z_ofInt_le {x y : Int} (hx : zin x) (hy : zin y) : Int32.ofInt x ≤ Int32.ofInt y ↔ x ≤ y := by
  rw [Int32.le_iff_toInt_le, zin_eq hx, zin_eq hy]
theorem z_nat {x : Int} (hx : zin x) : (Int32.ofInt x).toNatClampNeg = x.toNat := by
  show (Int32.ofInt x).toInt.toNat = x.toNat
  rw [zin_eq hx]
theorem z_vp_in {i : Int} {n : Nat} (hi : zin i) (h1 : 0 ≤ i) (h2 : i < n) : vp_in (Int32.ofInt i) n := by
  intro h
  rcases h with h | h
  · rw [show (0 : Int32) = Int32.ofInt 0 from rfl, z_ofInt_lt hi (by constructor <;> omega)] at h
    omega
  · rw [z_nat hi] at h
    omega
/-- where a cell is -/
def zadr (base : Nat) (Xa : Nat → Nat) (k : Nat) : Nat := if k < 5 then Xa k else base + (k - 5)
def zcv (base : Nat) (Xa : Nat → Nat) : zV → Value
  | .inl x => .int (Int32.ofInt x)
  | .inr (.inl b) => .long (Int64.ofBitVec b)
  | .inr (.inr 0) => .null
  | .inr (.inr (k + 1)) => .ref (zadr base Xa (k + 1))
def zfv (base : Nat) (Xa : Nat → Nat) (h : zH) (a ci : Nat) (rs : List Nat) (j : Nat) : Value :=
  if ztag ci j = 3 then zcv base Xa (zR (rs.getD j 0)) else if ztag ci j = 2 then .long (Int64.ofBitVec (h.2.1 a j)) else .int (Int32.ofInt (h.1 a j))
def zce (base : Nat) (Xa : Nat → Nat) (cA : Nat → ClassId) (h : zH) (q : Nat × Nat × List Nat) (a : Nat) : va_E := match q.1 with
  | 0 => .inl (cA 0, q.2.1, .inl (fun j => Int32.ofInt (h.1 a j)))
  | 1 => .inl (cA 1, q.2.1, .inl (fun j => Int32.ofInt (h.1 a j)))
  | 2 => .inl (cA 2, q.2.1, .inr (.inl (fun j => Int64.ofBitVec (h.2.1 a j))))
  | t + 3 => .inr (t, (List.range q.2.1).map (zfv base Xa h a t q.2.2))
def zws (base : Nat) (Xa : Nat → Nat) (cA : Nat → ClassId) (h : zH) : va_W := h.2.2.zipIdx.map (fun q => (base + q.2, zce base Xa cA h q.1 (q.2 + 5)))
theorem zws_at (base : Nat) (Xa : Nat → Nat) (cA : Nat → ClassId) (h : zH) (k : Nat) : (zws base Xa cA h)[k]? = (h.2.2[k]?).map fun q => (base + k, zce base Xa cA h q (k + 5)) := by
  unfold zws
  rw [List.getElem?_map, List.getElem?_zipIdx]
  cases h.2.2[k]? <;> simp
theorem zws_len (base : Nat) (Xa : Nat → Nat) (cA : Nat → ClassId) (h : zH) : (zws base Xa cA h).length = h.2.2.length := by simp [zws]
theorem zws_D (base : Nat) (Xa : Nat → Nat) (cA : Nat → ClassId) (h : zH) : va_D (fun q => base ≤ q) (zws base Xa cA h) := by
  refine ⟨fun i j p q hi hj e => ?_, fun k q hk => ?_⟩
  · rw [zws_at] at hi hj
    cases h1 : h.2.2[i]? <;> rw [h1] at hi <;> cases hi
    cases h2 : h.2.2[j]? <;> rw [h2] at hj <;> cases hj
    simp only at e
    omega
  · rw [zws_at] at hk
    cases h1 : h.2.2[k]? <;> rw [h1] at hk <;> cases hk
    show base ≤ base + k
    omega
/-- one cell changes -/
theorem zws_set {base : Nat} {Xa : Nat → Nat} {cA : Nat → ClassId} {h h' : zH} {k : Nat} {q q' : Nat × Nat × List Nat} {e : va_E} (hq : h.2.2[k]? = some q) (hs : h'.2.2 = h.2.2.set k q') (he : zce base Xa cA h' q' (k + 5) = e)
    (hr : ∀ j r, j ≠ k → h.2.2[j]? = some r → zce base Xa cA h' r (j + 5) = zce base Xa cA h r (j + 5)) : (zws base Xa cA h).set k (base + k, e) = zws base Xa cA h' := by
  have hl := (List.getElem?_eq_some_iff.mp hq).1
  apply List.ext_getElem?
  intro j
  rw [zws_at, hs]
  by_cases hj : j = k
  · subst hj
    rw [List.getElem?_set_self (by rw [zws_len]; exact hl), List.getElem?_set_self hl]
    simp [he]
  · rw [List.getElem?_set_ne (Ne.symm hj), List.getElem?_set_ne (Ne.symm hj), zws_at]
    cases h1 : h.2.2[j]? with
    | none => rfl
    | some r => simp [hr j r hj h1]
theorem zws_same {base : Nat} {Xa : Nat → Nat} {cA : Nat → ClassId} {h h' : zH} {k : Nat} {q : Nat × Nat × List Nat} {e : va_E} (hq : h.2.2[k]? = some q) (hs : h'.2.2 = h.2.2) (he : zce base Xa cA h' q (k + 5) = e)
    (hr : ∀ j r, j ≠ k → h.2.2[j]? = some r → zce base Xa cA h' r (j + 5) = zce base Xa cA h r (j + 5)) : (zws base Xa cA h).set k (base + k, e) = zws base Xa cA h' := by
  refine zws_set (q' := q) hq ?_ he hr
  rw [hs]
  apply List.ext_getElem?
  intro j
  by_cases hj : j = k
  · subst hj
    rw [List.getElem?_set_self (List.getElem?_eq_some_iff.mp hq).1, hq]
  · rw [List.getElem?_set_ne (Ne.symm hj)]
theorem zce_far {base : Nat} {Xa : Nat → Nat} {cA : Nat → ClassId} {h h' : zH} {r : Nat × Nat × List Nat} {a : Nat} (h1 : ∀ j, h'.1 a j = h.1 a j) (h2 : ∀ j, h'.2.1 a j = h.2.1 a j) : zce base Xa cA h' r a = zce base Xa cA h r a := by
  unfold zce
  have e1 : (fun j => Int32.ofInt (h'.1 a j)) = (fun j => Int32.ofInt (h.1 a j)) := by funext j; rw [h1]
  have e2 : (fun j => Int64.ofBitVec (h'.2.1 a j)) = (fun j => Int64.ofBitVec (h.2.1 a j)) := by funext j; rw [h2]
  split
  · rw [e1]
  · rw [e1]
  · rw [e2]
  · rename_i t _
    have e3 : zfv base Xa h' a t r.2.2 = zfv base Xa h a t r.2.2 := by
      funext j
      unfold zfv
      rw [h1, h2]
    rw [e3]
theorem zws_push {base : Nat} {Xa : Nat → Nat} {cA : Nat → ClassId} {h h' : zH} {q : Nat × Nat × List Nat} (hs : h'.2.2 = h.2.2 ++ [q])
    (hr : ∀ j r, h.2.2[j]? = some r → zce base Xa cA h' r (j + 5) = zce base Xa cA h r (j + 5)) : zws base Xa cA h' = zws base Xa cA h ++ [(base + h.2.2.length, zce base Xa cA h' q (h.2.2.length + 5))] := by
  apply List.ext_getElem?
  intro j
  rw [zws_at, hs]
  rcases Nat.lt_trichotomy j h.2.2.length with hj | hj | hj
  · rw [List.getElem?_append_left hj, List.getElem?_append_left (by rw [zws_len]; exact hj), zws_at]
    cases h1 : h.2.2[j]? with
    | none => rfl
    | some r => simp [hr j r h1]
  · subst hj
    rw [List.getElem?_append_right (Nat.le_refl _), List.getElem?_append_right (by rw [zws_len]; exact Nat.le_refl _)]
    simp [zws_len]
  · rw [List.getElem?_eq_none (by simp; omega), List.getElem?_eq_none (by simp [zws_len]; omega)]
    rfl
def zsl (h : zH) : Nat := (h.2.2.map (fun q => q.2.1)).sum
theorem zsl_same {h h' : zH} (e : h'.2.2 = h.2.2) : zsl h' = zsl h := by unfold zsl; rw [e]
theorem zsl_push {h h' : zH} {q : Nat × Nat × List Nat} (e : h'.2.2 = h.2.2 ++ [q]) : zsl h' = zsl h + q.2.1 := by
  unfold zsl; rw [e]; simp
/-- the types of the arrays -/
def ztys (cA : Nat → ClassId) : List (ClassId × FieldType) := [(cA 0, .int), (cA 1, .boolean), (cA 2, .long)]
/-- what is read from outside -/
def zxt (base : Nat) (Xa : Nat → Nat) (E : Nat → Nat × (Nat → Int)) (U : State) (H : Heap) : Prop :=
  (∀ k, 1 ≤ k → k < 5 → (k = 1 → (E 0).1 = 1) → va_X (Xa k) (E k).1 (fun j => Int32.ofInt ((E k).2 j)) U H) ∧ (∀ k, 1 ≤ k → k < 5 → Xa k < base) ∧
  (∀ k, 2 ≤ k → k < 5 → va_Z "HandsAndWays$Kinds" (zsn k) "[I" (.ref (Xa k)) (fun q => base ≤ q) U H)
def zEok (E : Nat → Nat × (Nat → Int)) : Prop := (∀ k j, zin ((E k).2 j)) ∧ ((E 0).1 = 1 → (E 1).1 < 2147483648) ∧ ((E 0).1 ≠ 1 → (E 1).1 = 0) ∧ (∀ k, 2 ≤ k → E k = zX0 k)
/-- nest mates' links -/
def znw (U : State) : Prop := ∀ o k y, Jvm.Cond.methodLinkNest o k y "HandsAndWays" ∈ lw_tbl → va_Nw (.methodLinkNest o k y "HandsAndWays") U
/-- a state holds the abstract heap -/
def zSt (D : va_G) (cA : Nat → ClassId) (base : Nat) (Xa : Nat → Nat) (E : Nat → Nat × (Nat → Int)) (h : zH) (U : State) : Prop :=
  va_P D zcl (zws base Xa cA h) U.heap ∧ va_K D zcl (ztys cA) U ∧ (h.2.2.length < 96 → U.heap.size = base + h.2.2.length) ∧ zxt base Xa E U U.heap ∧ znw U ∧ base ≤ U.heap.size
end
section
/-! printed by wip/gen/gen_sim.py: a step of the abstract machine, over the kit's rows -/
theorem z_cadd (a b : Int) : Int32.ofInt (zadd a b) = Int32.ofInt a + Int32.ofInt b := Int32.ofInt_toInt _
theorem z_csub (a b : Int) : Int32.ofInt (zsub a b) = Int32.ofInt a - Int32.ofInt b := Int32.ofInt_toInt _
theorem z_cmul (a b : Int) : Int32.ofInt (zmul a b) = Int32.ofInt a * Int32.ofInt b := Int32.ofInt_toInt _
theorem z_cdiv (a b : Int) : Int32.ofInt (zdiv a b) = Int32.ofInt a / Int32.ofInt b := Int32.ofInt_toInt _
theorem z_crem (a b : Int) : Int32.ofInt (zrem a b) = Int32.ofInt a - Int32.ofInt a / Int32.ofInt b * Int32.ofInt b := Int32.ofInt_toInt _
theorem z_cand (a b : Int) : Int32.ofInt (zand a b) = Int32.ofInt a &&& Int32.ofInt b := Int32.ofInt_toInt _
theorem z_cor (a b : Int) : Int32.ofInt (zor a b) = Int32.ofInt a ||| Int32.ofInt b := Int32.ofInt_toInt _
theorem z_cshl (a b : Int) : Int32.ofInt (zshl a b) = Int32.ofInt a <<< (Int32.ofInt b &&& 31) := Int32.ofInt_toInt _
theorem z_cshr (a b : Int) : Int32.ofInt (zshr a b) = Int32.ofInt a >>> (Int32.ofInt b &&& 31) := Int32.ofInt_toInt _
theorem z_cneg (a : Int) : Int32.ofInt (zneg a) = -(Int32.ofInt a) := Int32.ofInt_toInt _
theorem z_ci2b (a : Int) : Int32.ofInt (zi2b a) = (Int32.ofInt a).toInt8.toInt32 := Int32.ofInt_toInt _
theorem z_ci2s (a : Int) : Int32.ofInt (zi2s a) = (Int32.ofInt a).toInt16.toInt32 := Int32.ofInt_toInt _
theorem z_cl2i (a : BitVec 64) : Int32.ofInt (zl2i a) = (Int64.ofBitVec a).toInt32 := Int32.ofInt_toInt _
theorem z_clcmp (a b : BitVec 64) : Int32.ofInt (zlcmp a b) = lg_cmp (Int64.ofBitVec a) (Int64.ofBitVec b) := Int32.ofInt_toInt _
def zlp (base : Nat) (Xa : Nat → Nat) (ls : List zV) : List (Nat × Value) := ls.zipIdx.filterMap (fun q => if q.1 = zR 0 then none else some (q.2, zcv base Xa q.1))
theorem zlp_mem {base : Nat} {Xa : Nat → Nat} {ls : List zV} {q : Nat × Value} : q ∈ zlp base Xa ls ↔ ∃ v, ls[q.1]? = some v ∧ v ≠ zR 0 ∧ q.2 = zcv base Xa v := by
  unfold zlp
  rw [List.mem_filterMap]
  constructor
  · rintro ⟨⟨v, i⟩, hm, he⟩
    rw [List.mem_zipIdx_iff_getElem?] at hm
    by_cases hv : v = zR 0
    · simp [hv] at he
    · simp only [hv, if_false, Option.some.injEq] at he
      subst he
      exact ⟨v, hm, hv, rfl⟩
  · rintro ⟨v, h1, h2, h3⟩
    refine ⟨(v, q.1), List.mem_zipIdx_iff_getElem?.mpr h1, ?_⟩
    simp only [h2, if_false, ← h3]
theorem zcv_cat1 {base : Nat} {Xa : Nat → Nat} {v : zV} (h : ∀ x, v ≠ zL x) : (zcv base Xa v).category = 1 := by
  match v with
  | .inl _ => rfl
  | .inr (.inl x) => exact absurd rfl (h x)
  | .inr (.inr 0) => rfl
  | .inr (.inr (k + 1)) => rfl
theorem zone_cat {base : Nat} {Xa : Nat → Nat} {v : zV} (h : zone v = true) : (zcv base Xa v).category = 1 := zcv_cat1 (fun x e => by subst e; cases h)
theorem zcat_sum {base : Nat} {Xa : Nat → Nat} : ∀ (l : List zV), ((l.map (zcv base Xa)).map fun v => v.category).sum = zcat l
  | [] => rfl
  | .inl x :: l => by simp only [List.map_cons, List.sum_cons, zcat_sum l, zcat]; rfl
  | .inr (.inl x) :: l => by simp only [List.map_cons, List.sum_cons, zcat_sum l, zcat]; rfl
  | .inr (.inr 0) :: l => by simp only [List.map_cons, List.sum_cons, zcat_sum l, zcat]; rfl
  | .inr (.inr (k + 1)) :: l => by simp only [List.map_cons, List.sum_cons, zcat_sum l, zcat]; rfl
theorem zinv_at {i j : Nat} {ls : List zV} {u : zV} (h : (zinv i ls)[j]? = some u) (hu : u ≠ zR 0) : ls[j]? = some u ∧ ¬ (j + 1 = i ∧ ∃ x, u = zL x) := by
  cases i with
  | zero => exact ⟨h, fun q => by omega⟩
  | succ i =>
    simp only [zinv] at h
    split at h
    · rename_i x hx
      by_cases hj : j = i
      · subst hj
        rw [List.getElem?_set_self (List.getElem?_eq_some_iff.mp hx).1] at h
        cases h
        exact absurd rfl hu
      · rw [List.getElem?_set_ne (Ne.symm hj)] at h
        exact ⟨h, fun q => hj (by omega)⟩
    · rename_i hx
      refine ⟨h, fun q => ?_⟩
      obtain ⟨q1, x, q2⟩ := q
      have : j = i := by omega
      subst this
      subst q2
      exact hx x h
theorem zinv_len (i : Nat) (ls : List zV) : (zinv i ls).length = ls.length := by
  cases i with
  | zero => rfl
  | succ i =>
    simp only [zinv]
    split <;> simp
theorem zinv_ok {i : Nat} {ls : List zV} (h : ∀ v ∈ ls, zok v) : ∀ v ∈ zinv i ls, zok v := by
  cases i with
  | zero => exact h
  | succ i =>
    simp only [zinv]
    split
    · intro v hv
      rcases List.mem_or_eq_of_mem_set hv with h1 | h1
      · exact h v h1
      · subst h1; trivial
    · exact h
theorem zset_ok {i : Nat} {ls : List zV} {u : zV} (h : ∀ v ∈ ls, zok v) (hu : zok u) : ∀ v ∈ ls.set i u, zok v := by
  intro v hv
  rcases List.mem_or_eq_of_mem_set hv with h1 | h1
  · exact h v h1
  · subst h1; exact hu
theorem lv_less {ls : Array Slot} {n : Nat} {l l' : List (Nat × Value)} (h : lv_has ls n l) (hs : ∀ q ∈ l', q ∈ l) : lv_has ls n l' := ⟨h.1, h.2.1, fun q hq => h.2.2 q (hs q hq)⟩
/-- a store of one place -/
theorem zlp_set1 {base : Nat} {Xa : Nat → Nat} {ls : List zV} {i : Nat} {v : zV} : ∀ q ∈ zlp base Xa ((zinv i ls).set i v), q ∈ (i, zcv base Xa v) :: (zlp base Xa ls).filter (fun q => !(q.1 == i) && !(q.1 + 1 == i && q.2.category == 2)) := by
  intro q hq
  obtain ⟨u, h1, h2, h3⟩ := zlp_mem.mp hq
  by_cases hj : q.1 = i
  · have hl : i < (zinv i ls).length := by
      have h9 := (List.getElem?_eq_some_iff.mp h1).1
      rw [List.length_set] at h9
      omega
    rw [hj, List.getElem?_set_self hl] at h1
    cases h1
    rw [← hj, ← h3]
    exact List.mem_cons_self
  · rw [List.getElem?_set_ne (Ne.symm hj)] at h1
    obtain ⟨g1, g2⟩ := zinv_at h1 h2
    refine List.mem_cons_of_mem _ (List.mem_filter.mpr ⟨zlp_mem.mpr ⟨u, g1, h2, h3⟩, ?_⟩)
    have hb : ¬ (q.1 + 1 = i ∧ q.2.category = 2) := by
      rintro ⟨e1, e2⟩
      refine g2 ⟨e1, ?_⟩
      match u, h3 with
      | .inl _, h3 => rw [h3] at e2; cases e2
      | .inr (.inl x), _ => exact ⟨x, rfl⟩
      | .inr (.inr 0), h3 => rw [h3] at e2; cases e2
      | .inr (.inr (k + 1)), h3 => rw [h3] at e2; cases e2
    simp only [Bool.and_eq_true, Bool.not_eq_true', beq_eq_false_iff_ne, ne_eq, Bool.and_eq_false_iff]
    refine ⟨hj, ?_⟩
    by_cases e1 : q.1 + 1 = i
    · exact Or.inr (fun e2 => hb ⟨e1, e2⟩)
    · exact Or.inl e1
/-- a store of two places -/
theorem zlp_set2 {base : Nat} {Xa : Nat → Nat} {ls : List zV} {i : Nat} {x : BitVec 64} : ∀ q ∈ zlp base Xa (((zinv i ls).set i (zL x)).set (i + 1) (zR 0)), q ∈ (i, zcv base Xa (zL x)) :: (zlp base Xa ls).filter (fun q => !(q.1 == i) && (!(q.1 == i + 1) && !(q.1 + 1 == i && q.2.category == 2))) := by
  intro q hq
  obtain ⟨u, h1, h2, h3⟩ := zlp_mem.mp hq
  have hne : q.1 ≠ i + 1 := by
    intro e
    have hl := (List.getElem?_eq_some_iff.mp h1).1
    rw [List.length_set] at hl
    rw [e] at hl h1
    rw [List.getElem?_set_self hl] at h1
    cases h1
    exact h2 rfl
  rw [List.getElem?_set_ne (Ne.symm hne)] at h1
  have hm := zlp_set1 (base := base) (Xa := Xa) q (zlp_mem.mpr ⟨u, h1, h2, h3⟩)
  rcases List.mem_cons.mp hm with h | h
  · rw [h]; exact List.mem_cons_self
  · obtain ⟨g1, g2⟩ := List.mem_filter.mp h
    refine List.mem_cons_of_mem _ (List.mem_filter.mpr ⟨g1, ?_⟩)
    simp only [Bool.and_eq_true, Bool.not_eq_true', beq_eq_false_iff_ne, ne_eq] at g2 ⊢
    exact ⟨g2.1, hne, g2.2⟩
section
variable {p : Program} {l : Launch} {e : Env} {R : Room} {s : State} {m : MethodId} {args : Array Value} {below : List Frame} {meth : Method} {c : Code} {Q : State → Prop}
variable (p l e R s m args below meth c Q)
def zRel (D : va_G) (cA : Nat → ClassId) (base : Nat) (Xa : Nat → Nat) (h : zH) (H : Heap) (locs : List Loc) : Prop :=
  va_P D zcl (zws base Xa cA h) H ∧ (h.2.2.length < 96 → H.size = base + h.2.2.length) ∧ va_S (fun q => base ≤ q) s.heap H locs
def zokc (nL n0 s0 : Nat) (ls st : List zV) (h : zH) : Prop := (∀ v ∈ ls, zok v) ∧ (∀ v ∈ st, zok v) ∧ zhok h ∧ n0 ≤ h.2.2.length ∧ s0 ≤ zsl h ∧ ls.length = nL
/-- from here the machine comes to its end -/
def zW (D : va_G) (cA : Nat → ClassId) (base : Nat) (Xa : Nat → Nat) (nL n0 s0 : Nat) (k : zC) : Prop := zokc nL n0 s0 k.2.2.1 k.2.2.2.1 k.2.2.2.2 →
  ∀ (H : Heap) (locs : List Loc) (lsc : Array Slot), zRel s D cA base Xa k.2.2.2.2 H locs → lv_has lsc nL (zlp base Xa k.2.2.1) →
    W p l e R s m args below meth c H locs (k.2.2.2.2.2.2.length - n0) (zsl k.2.2.2.2 - s0) Q (F0 m k.2.1 lsc (k.2.2.2.1.map (zcv base Xa)))
/-- what stands fast while a method's body runs -/
def zCtx (D : va_G) (cA : Nat → ClassId) (base : Nat) (Xa : Nat → Nat) (E : Nat → Nat × (Nat → Int)) (y : Nat) (q : zq) (nL : Nat) : Prop :=
  p.tables.exec = Jvm.exec ∧ c.code = q.2.1 ∧ c.maxLocals = nL ∧ s.vm.findClass (zon q.2.2.2.2) = some m.cls ∧ (∀ w ∈ zws0, w.before args s = true) ∧ (zcode y).all (zchk y q) = true ∧ va_K D zcl (ztys cA) s ∧
  zxt base Xa E s s.heap ∧ znw s ∧ zEok E ∧ base ≤ s.heap.size ∧ meth.name = q.1.name
end
theorem zlook_mem {pc : Nat} : ∀ {l : List (Nat × zE)} {e : zE}, zlook pc l = some e → (pc, e) ∈ l
  | [], _, h => by cases h
  | r :: l, e, h => by
    unfold zlook at h
    cases hb : Nat.beq r.1 pc with
    | true =>
      rw [hb] at h
      cases h
      have : r.1 = pc := Nat.eq_of_beq_eq_true hb
      subst this
      exact List.mem_cons_self
    | false =>
      rw [hb] at h
      exact List.mem_cons_of_mem _ (zlook_mem h)
theorem zchk_of {y pc : Nat} {q : zq} (hall : (zcode y).all (zchk y q) = true) {i : Instr} {w : List Nat} {ps : List (Int × Nat)} {n : Nat} (h : zlook pc (zcode y) = some (i, w, ps, n)) :
    decode q.2.1 pc = .ok (i, zlen i w) ∧ (zterm i = true ∨ n = pc + zlen i w) ∧ zlnk y pc q i w ps = true := by
  have := List.all_eq_true.mp hall _ (zlook_mem h)
  unfold zchk at this
  simp only [Bool.and_eq_true, Bool.or_eq_true, decide_eq_true_eq] at this
  exact ⟨this.1.1, this.1.2.imp id (fun h => Nat.eq_of_beq_eq_true h), this.2⟩
end
section
/-! printed by wip/gen/gen_sim2.py: steps that touch neither the heap nor calls -/
section
variable {p : Program} {l : Launch} {e : Env} {R : Room} {s : State} {m : MethodId} {args : Array Value} {below : List Frame} {meth : Method} {c : Code} {Q : State → Prop}
variable {D : va_G} {cA : Nat → ClassId} {base : Nat} {Xa : Nat → Nat} {E : Nat → Nat × (Nat → Int)} {y : Nat} {q : zq} {nL n0 s0 : Nat} {cal : zcal} {pc n : Nat} {ls st : List zV} {h : zH} {w : List Nat} {ps : List (Int × Nat)} {k' : zC}
theorem zs_iadd  (C : zCtx p s m args meth c D cA base Xa E y q nL) (hd : decode q.2.1 pc = .ok (.iadd, zlen (.iadd) w)) (hn : zterm (.iadd) = true ∨ n = pc + zlen (.iadd) w) (hl : zlnk y pc q (.iadd) w ps = true) (he : zo_bin zadd E cal w ps y n ls st h = some (.inl k')) (hW : zW p l e R s m args below meth c Q D cA base Xa nL n0 s0 k') : zW p l e R s m args below meth c Q D cA base Xa nL n0 s0 (y, pc, ls, st, h) := by
  obtain ⟨hx, hb, hml, hown, hts, hall, hK, hxt, hnw, hE, hbs, hnm⟩ := C
  have hn' : n = pc + 1 := by
    rcases hn with hn | hn
    · cases hn
    · exact hn
  subst hn'
  simp only [zo_bin] at he
  split at he
  · rename_i b a r
    cases he
    intro ok H locs lsc hr hlv
    obtain ⟨o1, o2, o3⟩ := ok
    refine lv_iadd hx hb hd ?_
    have hh := hW ⟨o1, fun v hv => ?_, o3⟩ H locs lsc hr hlv
    · simp only [List.map_cons, zcv, z_cadd] at hh
      exact hh
    · rcases List.mem_cons.mp hv with h1 | h1
      · rw [h1]; exact zin_toInt _
      · exact o2 v (List.mem_cons_of_mem _ (List.mem_cons_of_mem _ h1))
  · cases he
theorem zs_isub  (C : zCtx p s m args meth c D cA base Xa E y q nL) (hd : decode q.2.1 pc = .ok (.isub, zlen (.isub) w)) (hn : zterm (.isub) = true ∨ n = pc + zlen (.isub) w) (hl : zlnk y pc q (.isub) w ps = true) (he : zo_bin zsub E cal w ps y n ls st h = some (.inl k')) (hW : zW p l e R s m args below meth c Q D cA base Xa nL n0 s0 k') : zW p l e R s m args below meth c Q D cA base Xa nL n0 s0 (y, pc, ls, st, h) := by
  obtain ⟨hx, hb, hml, hown, hts, hall, hK, hxt, hnw, hE, hbs, hnm⟩ := C
  have hn' : n = pc + 1 := by
    rcases hn with hn | hn
    · cases hn
    · exact hn
  subst hn'
  simp only [zo_bin] at he
  split at he
  · rename_i b a r
    cases he
    intro ok H locs lsc hr hlv
    obtain ⟨o1, o2, o3⟩ := ok
    refine lv_isub hx hb hd ?_
    have hh := hW ⟨o1, fun v hv => ?_, o3⟩ H locs lsc hr hlv
    · simp only [List.map_cons, zcv, z_csub] at hh
      exact hh
    · rcases List.mem_cons.mp hv with h1 | h1
      · rw [h1]; exact zin_toInt _
      · exact o2 v (List.mem_cons_of_mem _ (List.mem_cons_of_mem _ h1))
  · cases he
theorem zs_imul  (C : zCtx p s m args meth c D cA base Xa E y q nL) (hd : decode q.2.1 pc = .ok (.imul, zlen (.imul) w)) (hn : zterm (.imul) = true ∨ n = pc + zlen (.imul) w) (hl : zlnk y pc q (.imul) w ps = true) (he : zo_bin zmul E cal w ps y n ls st h = some (.inl k')) (hW : zW p l e R s m args below meth c Q D cA base Xa nL n0 s0 k') : zW p l e R s m args below meth c Q D cA base Xa nL n0 s0 (y, pc, ls, st, h) := by
  obtain ⟨hx, hb, hml, hown, hts, hall, hK, hxt, hnw, hE, hbs, hnm⟩ := C
  have hn' : n = pc + 1 := by
    rcases hn with hn | hn
    · cases hn
    · exact hn
  subst hn'
  simp only [zo_bin] at he
  split at he
  · rename_i b a r
    cases he
    intro ok H locs lsc hr hlv
    obtain ⟨o1, o2, o3⟩ := ok
    refine lv_imul hx hb hd ?_
    have hh := hW ⟨o1, fun v hv => ?_, o3⟩ H locs lsc hr hlv
    · simp only [List.map_cons, zcv, z_cmul] at hh
      exact hh
    · rcases List.mem_cons.mp hv with h1 | h1
      · rw [h1]; exact zin_toInt _
      · exact o2 v (List.mem_cons_of_mem _ (List.mem_cons_of_mem _ h1))
  · cases he
theorem zs_iand  (C : zCtx p s m args meth c D cA base Xa E y q nL) (hd : decode q.2.1 pc = .ok (.iand, zlen (.iand) w)) (hn : zterm (.iand) = true ∨ n = pc + zlen (.iand) w) (hl : zlnk y pc q (.iand) w ps = true) (he : zo_bin zand E cal w ps y n ls st h = some (.inl k')) (hW : zW p l e R s m args below meth c Q D cA base Xa nL n0 s0 k') : zW p l e R s m args below meth c Q D cA base Xa nL n0 s0 (y, pc, ls, st, h) := by
  obtain ⟨hx, hb, hml, hown, hts, hall, hK, hxt, hnw, hE, hbs, hnm⟩ := C
  have hn' : n = pc + 1 := by
    rcases hn with hn | hn
    · cases hn
    · exact hn
  subst hn'
  simp only [zo_bin] at he
  split at he
  · rename_i b a r
    cases he
    intro ok H locs lsc hr hlv
    obtain ⟨o1, o2, o3⟩ := ok
    refine lv_iand hx hb hd ?_
    have hh := hW ⟨o1, fun v hv => ?_, o3⟩ H locs lsc hr hlv
    · simp only [List.map_cons, zcv, z_cand] at hh
      exact hh
    · rcases List.mem_cons.mp hv with h1 | h1
      · rw [h1]; exact zin_toInt _
      · exact o2 v (List.mem_cons_of_mem _ (List.mem_cons_of_mem _ h1))
  · cases he
theorem zs_ior  (C : zCtx p s m args meth c D cA base Xa E y q nL) (hd : decode q.2.1 pc = .ok (.ior, zlen (.ior) w)) (hn : zterm (.ior) = true ∨ n = pc + zlen (.ior) w) (hl : zlnk y pc q (.ior) w ps = true) (he : zo_bin zor E cal w ps y n ls st h = some (.inl k')) (hW : zW p l e R s m args below meth c Q D cA base Xa nL n0 s0 k') : zW p l e R s m args below meth c Q D cA base Xa nL n0 s0 (y, pc, ls, st, h) := by
  obtain ⟨hx, hb, hml, hown, hts, hall, hK, hxt, hnw, hE, hbs, hnm⟩ := C
  have hn' : n = pc + 1 := by
    rcases hn with hn | hn
    · cases hn
    · exact hn
  subst hn'
  simp only [zo_bin] at he
  split at he
  · rename_i b a r
    cases he
    intro ok H locs lsc hr hlv
    obtain ⟨o1, o2, o3⟩ := ok
    refine lv_ior hx hb hd ?_
    have hh := hW ⟨o1, fun v hv => ?_, o3⟩ H locs lsc hr hlv
    · simp only [List.map_cons, zcv, z_cor] at hh
      exact hh
    · rcases List.mem_cons.mp hv with h1 | h1
      · rw [h1]; exact zin_toInt _
      · exact o2 v (List.mem_cons_of_mem _ (List.mem_cons_of_mem _ h1))
  · cases he
theorem zs_ishl  (C : zCtx p s m args meth c D cA base Xa E y q nL) (hd : decode q.2.1 pc = .ok (.ishl, zlen (.ishl) w)) (hn : zterm (.ishl) = true ∨ n = pc + zlen (.ishl) w) (hl : zlnk y pc q (.ishl) w ps = true) (he : zo_bin zshl E cal w ps y n ls st h = some (.inl k')) (hW : zW p l e R s m args below meth c Q D cA base Xa nL n0 s0 k') : zW p l e R s m args below meth c Q D cA base Xa nL n0 s0 (y, pc, ls, st, h) := by
  obtain ⟨hx, hb, hml, hown, hts, hall, hK, hxt, hnw, hE, hbs, hnm⟩ := C
  have hn' : n = pc + 1 := by
    rcases hn with hn | hn
    · cases hn
    · exact hn
  subst hn'
  simp only [zo_bin] at he
  split at he
  · rename_i b a r
    cases he
    intro ok H locs lsc hr hlv
    obtain ⟨o1, o2, o3⟩ := ok
    refine lv_ishl hx hb hd ?_
    have hh := hW ⟨o1, fun v hv => ?_, o3⟩ H locs lsc hr hlv
    · simp only [List.map_cons, zcv, z_cshl] at hh
      exact hh
    · rcases List.mem_cons.mp hv with h1 | h1
      · rw [h1]; exact zin_toInt _
      · exact o2 v (List.mem_cons_of_mem _ (List.mem_cons_of_mem _ h1))
  · cases he
theorem zs_ishr  (C : zCtx p s m args meth c D cA base Xa E y q nL) (hd : decode q.2.1 pc = .ok (.ishr, zlen (.ishr) w)) (hn : zterm (.ishr) = true ∨ n = pc + zlen (.ishr) w) (hl : zlnk y pc q (.ishr) w ps = true) (he : zo_bin zshr E cal w ps y n ls st h = some (.inl k')) (hW : zW p l e R s m args below meth c Q D cA base Xa nL n0 s0 k') : zW p l e R s m args below meth c Q D cA base Xa nL n0 s0 (y, pc, ls, st, h) := by
  obtain ⟨hx, hb, hml, hown, hts, hall, hK, hxt, hnw, hE, hbs, hnm⟩ := C
  have hn' : n = pc + 1 := by
    rcases hn with hn | hn
    · cases hn
    · exact hn
  subst hn'
  simp only [zo_bin] at he
  split at he
  · rename_i b a r
    cases he
    intro ok H locs lsc hr hlv
    obtain ⟨o1, o2, o3⟩ := ok
    refine lv_ishr hx hb hd ?_
    have hh := hW ⟨o1, fun v hv => ?_, o3⟩ H locs lsc hr hlv
    · simp only [List.map_cons, zcv, z_cshr] at hh
      exact hh
    · rcases List.mem_cons.mp hv with h1 | h1
      · rw [h1]; exact zin_toInt _
      · exact o2 v (List.mem_cons_of_mem _ (List.mem_cons_of_mem _ h1))
  · cases he
theorem zs_idiv  (C : zCtx p s m args meth c D cA base Xa E y q nL) (hd : decode q.2.1 pc = .ok (.idiv, zlen (.idiv) w)) (hn : zterm (.idiv) = true ∨ n = pc + zlen (.idiv) w) (hl : zlnk y pc q (.idiv) w ps = true) (he : zo_binD zdiv E cal w ps y n ls st h = some (.inl k')) (hW : zW p l e R s m args below meth c Q D cA base Xa nL n0 s0 k') : zW p l e R s m args below meth c Q D cA base Xa nL n0 s0 (y, pc, ls, st, h) := by
  obtain ⟨hx, hb, hml, hown, hts, hall, hK, hxt, hnw, hE, hbs, hnm⟩ := C
  have hn' : n = pc + 1 := by
    rcases hn with hn | hn
    · cases hn
    · exact hn
  subst hn'
  simp only [zo_binD] at he
  split at he
  · rename_i b a r
    split at he
    · cases he
    · rename_i hb0
      cases he
      intro ok H locs lsc hr hlv
      obtain ⟨o1, o2, o3⟩ := ok
      have ob : zin b := o2 _ List.mem_cons_self
      refine lv_idiv hx hb hd (fun q0 => hb0 ((z_ofInt_inj ob (by constructor <;> omega)).mp q0)) ?_
      have hh := hW ⟨o1, fun v hv => ?_, o3⟩ H locs lsc hr hlv
      · simp only [List.map_cons, zcv, z_cdiv] at hh
        exact hh
      · rcases List.mem_cons.mp hv with h1 | h1
        · rw [h1]; exact zin_toInt _
        · exact o2 v (List.mem_cons_of_mem _ (List.mem_cons_of_mem _ h1))
  · cases he
theorem zs_irem  (C : zCtx p s m args meth c D cA base Xa E y q nL) (hd : decode q.2.1 pc = .ok (.irem, zlen (.irem) w)) (hn : zterm (.irem) = true ∨ n = pc + zlen (.irem) w) (hl : zlnk y pc q (.irem) w ps = true) (he : zo_binD zrem E cal w ps y n ls st h = some (.inl k')) (hW : zW p l e R s m args below meth c Q D cA base Xa nL n0 s0 k') : zW p l e R s m args below meth c Q D cA base Xa nL n0 s0 (y, pc, ls, st, h) := by
  obtain ⟨hx, hb, hml, hown, hts, hall, hK, hxt, hnw, hE, hbs, hnm⟩ := C
  have hn' : n = pc + 1 := by
    rcases hn with hn | hn
    · cases hn
    · exact hn
  subst hn'
  simp only [zo_binD] at he
  split at he
  · rename_i b a r
    split at he
    · cases he
    · rename_i hb0
      cases he
      intro ok H locs lsc hr hlv
      obtain ⟨o1, o2, o3⟩ := ok
      have ob : zin b := o2 _ List.mem_cons_self
      refine lv_irem hx hb hd (fun q0 => hb0 ((z_ofInt_inj ob (by constructor <;> omega)).mp q0)) ?_
      have hh := hW ⟨o1, fun v hv => ?_, o3⟩ H locs lsc hr hlv
      · simp only [List.map_cons, zcv, z_crem] at hh
        exact hh
      · rcases List.mem_cons.mp hv with h1 | h1
        · rw [h1]; exact zin_toInt _
        · exact o2 v (List.mem_cons_of_mem _ (List.mem_cons_of_mem _ h1))
  · cases he
theorem zs_ineg  (C : zCtx p s m args meth c D cA base Xa E y q nL) (hd : decode q.2.1 pc = .ok (.ineg, zlen (.ineg) w)) (hn : zterm (.ineg) = true ∨ n = pc + zlen (.ineg) w) (hl : zlnk y pc q (.ineg) w ps = true) (he : zo_uni zneg E cal w ps y n ls st h = some (.inl k')) (hW : zW p l e R s m args below meth c Q D cA base Xa nL n0 s0 k') : zW p l e R s m args below meth c Q D cA base Xa nL n0 s0 (y, pc, ls, st, h) := by
  obtain ⟨hx, hb, hml, hown, hts, hall, hK, hxt, hnw, hE, hbs, hnm⟩ := C
  have hn' : n = pc + 1 := by
    rcases hn with hn | hn
    · cases hn
    · exact hn
  subst hn'
  simp only [zo_uni] at he
  split at he
  · rename_i a r
    cases he
    intro ok H locs lsc hr hlv
    obtain ⟨o1, o2, o3⟩ := ok
    refine lv_ineg hx hb hd ?_
    have hh := hW ⟨o1, fun v hv => ?_, o3⟩ H locs lsc hr hlv
    · simp only [List.map_cons, zcv, z_cneg] at hh
      exact hh
    · rcases List.mem_cons.mp hv with h1 | h1
      · rw [h1]; exact zin_toInt _
      · exact o2 v (List.mem_cons_of_mem _ h1)
  · cases he
theorem zs_i2b  (C : zCtx p s m args meth c D cA base Xa E y q nL) (hd : decode q.2.1 pc = .ok (.i2b, zlen (.i2b) w)) (hn : zterm (.i2b) = true ∨ n = pc + zlen (.i2b) w) (hl : zlnk y pc q (.i2b) w ps = true) (he : zo_uni zi2b E cal w ps y n ls st h = some (.inl k')) (hW : zW p l e R s m args below meth c Q D cA base Xa nL n0 s0 k') : zW p l e R s m args below meth c Q D cA base Xa nL n0 s0 (y, pc, ls, st, h) := by
  obtain ⟨hx, hb, hml, hown, hts, hall, hK, hxt, hnw, hE, hbs, hnm⟩ := C
  have hn' : n = pc + 1 := by
    rcases hn with hn | hn
    · cases hn
    · exact hn
  subst hn'
  simp only [zo_uni] at he
  split at he
  · rename_i a r
    cases he
    intro ok H locs lsc hr hlv
    obtain ⟨o1, o2, o3⟩ := ok
    refine lv_i2b hx hb hd (v := Int32.ofInt (zi2b a)) (z_ci2b a).symm ?_
    have hh := hW ⟨o1, fun v hv => ?_, o3⟩ H locs lsc hr hlv
    · simp only [List.map_cons, zcv] at hh
      exact hh
    · rcases List.mem_cons.mp hv with h1 | h1
      · rw [h1]; exact zin_toInt _
      · exact o2 v (List.mem_cons_of_mem _ h1)
  · cases he
theorem zs_i2s  (C : zCtx p s m args meth c D cA base Xa E y q nL) (hd : decode q.2.1 pc = .ok (.i2s, zlen (.i2s) w)) (hn : zterm (.i2s) = true ∨ n = pc + zlen (.i2s) w) (hl : zlnk y pc q (.i2s) w ps = true) (he : zo_uni zi2s E cal w ps y n ls st h = some (.inl k')) (hW : zW p l e R s m args below meth c Q D cA base Xa nL n0 s0 k') : zW p l e R s m args below meth c Q D cA base Xa nL n0 s0 (y, pc, ls, st, h) := by
  obtain ⟨hx, hb, hml, hown, hts, hall, hK, hxt, hnw, hE, hbs, hnm⟩ := C
  have hn' : n = pc + 1 := by
    rcases hn with hn | hn
    · cases hn
    · exact hn
  subst hn'
  simp only [zo_uni] at he
  split at he
  · rename_i a r
    cases he
    intro ok H locs lsc hr hlv
    obtain ⟨o1, o2, o3⟩ := ok
    refine lv_i2s hx hb hd (v := Int32.ofInt (zi2s a)) (z_ci2s a).symm ?_
    have hh := hW ⟨o1, fun v hv => ?_, o3⟩ H locs lsc hr hlv
    · simp only [List.map_cons, zcv] at hh
      exact hh
    · rcases List.mem_cons.mp hv with h1 | h1
      · rw [h1]; exact zin_toInt _
      · exact o2 v (List.mem_cons_of_mem _ h1)
  · cases he
theorem zs_ladd  (C : zCtx p s m args meth c D cA base Xa E y q nL) (hd : decode q.2.1 pc = .ok (.ladd, zlen (.ladd) w)) (hn : zterm (.ladd) = true ∨ n = pc + zlen (.ladd) w) (hl : zlnk y pc q (.ladd) w ps = true) (he : zo_lbin zladd E cal w ps y n ls st h = some (.inl k')) (hW : zW p l e R s m args below meth c Q D cA base Xa nL n0 s0 k') : zW p l e R s m args below meth c Q D cA base Xa nL n0 s0 (y, pc, ls, st, h) := by
  obtain ⟨hx, hb, hml, hown, hts, hall, hK, hxt, hnw, hE, hbs, hnm⟩ := C
  have hn' : n = pc + 1 := by
    rcases hn with hn | hn
    · cases hn
    · exact hn
  subst hn'
  simp only [zo_lbin] at he
  split at he
  · rename_i b a r
    cases he
    intro ok H locs lsc hr hlv
    obtain ⟨o1, o2, o3⟩ := ok
    refine lv_ladd hx hb hd ?_
    refine hW ⟨o1, fun v hv => ?_, o3⟩ H locs lsc hr hlv
    rcases List.mem_cons.mp hv with h1 | h1
    · rw [h1]; trivial
    · exact o2 v (List.mem_cons_of_mem _ (List.mem_cons_of_mem _ h1))
  · cases he
theorem zs_lsub  (C : zCtx p s m args meth c D cA base Xa E y q nL) (hd : decode q.2.1 pc = .ok (.lsub, zlen (.lsub) w)) (hn : zterm (.lsub) = true ∨ n = pc + zlen (.lsub) w) (hl : zlnk y pc q (.lsub) w ps = true) (he : zo_lbin zlsub E cal w ps y n ls st h = some (.inl k')) (hW : zW p l e R s m args below meth c Q D cA base Xa nL n0 s0 k') : zW p l e R s m args below meth c Q D cA base Xa nL n0 s0 (y, pc, ls, st, h) := by
  obtain ⟨hx, hb, hml, hown, hts, hall, hK, hxt, hnw, hE, hbs, hnm⟩ := C
  have hn' : n = pc + 1 := by
    rcases hn with hn | hn
    · cases hn
    · exact hn
  subst hn'
  simp only [zo_lbin] at he
  split at he
  · rename_i b a r
    cases he
    intro ok H locs lsc hr hlv
    obtain ⟨o1, o2, o3⟩ := ok
    refine lv_lsub hx hb hd ?_
    refine hW ⟨o1, fun v hv => ?_, o3⟩ H locs lsc hr hlv
    rcases List.mem_cons.mp hv with h1 | h1
    · rw [h1]; trivial
    · exact o2 v (List.mem_cons_of_mem _ (List.mem_cons_of_mem _ h1))
  · cases he
theorem zs_land  (C : zCtx p s m args meth c D cA base Xa E y q nL) (hd : decode q.2.1 pc = .ok (.land, zlen (.land) w)) (hn : zterm (.land) = true ∨ n = pc + zlen (.land) w) (hl : zlnk y pc q (.land) w ps = true) (he : zo_lbin zland E cal w ps y n ls st h = some (.inl k')) (hW : zW p l e R s m args below meth c Q D cA base Xa nL n0 s0 k') : zW p l e R s m args below meth c Q D cA base Xa nL n0 s0 (y, pc, ls, st, h) := by
  obtain ⟨hx, hb, hml, hown, hts, hall, hK, hxt, hnw, hE, hbs, hnm⟩ := C
  have hn' : n = pc + 1 := by
    rcases hn with hn | hn
    · cases hn
    · exact hn
  subst hn'
  simp only [zo_lbin] at he
  split at he
  · rename_i b a r
    cases he
    intro ok H locs lsc hr hlv
    obtain ⟨o1, o2, o3⟩ := ok
    refine lv_land hx hb hd ?_
    refine hW ⟨o1, fun v hv => ?_, o3⟩ H locs lsc hr hlv
    rcases List.mem_cons.mp hv with h1 | h1
    · rw [h1]; trivial
    · exact o2 v (List.mem_cons_of_mem _ (List.mem_cons_of_mem _ h1))
  · cases he
theorem zs_lor  (C : zCtx p s m args meth c D cA base Xa E y q nL) (hd : decode q.2.1 pc = .ok (.lor, zlen (.lor) w)) (hn : zterm (.lor) = true ∨ n = pc + zlen (.lor) w) (hl : zlnk y pc q (.lor) w ps = true) (he : zo_lbin zlor E cal w ps y n ls st h = some (.inl k')) (hW : zW p l e R s m args below meth c Q D cA base Xa nL n0 s0 k') : zW p l e R s m args below meth c Q D cA base Xa nL n0 s0 (y, pc, ls, st, h) := by
  obtain ⟨hx, hb, hml, hown, hts, hall, hK, hxt, hnw, hE, hbs, hnm⟩ := C
  have hn' : n = pc + 1 := by
    rcases hn with hn | hn
    · cases hn
    · exact hn
  subst hn'
  simp only [zo_lbin] at he
  split at he
  · rename_i b a r
    cases he
    intro ok H locs lsc hr hlv
    obtain ⟨o1, o2, o3⟩ := ok
    refine lv_lor hx hb hd ?_
    refine hW ⟨o1, fun v hv => ?_, o3⟩ H locs lsc hr hlv
    rcases List.mem_cons.mp hv with h1 | h1
    · rw [h1]; trivial
    · exact o2 v (List.mem_cons_of_mem _ (List.mem_cons_of_mem _ h1))
  · cases he
theorem zs_lxor  (C : zCtx p s m args meth c D cA base Xa E y q nL) (hd : decode q.2.1 pc = .ok (.lxor, zlen (.lxor) w)) (hn : zterm (.lxor) = true ∨ n = pc + zlen (.lxor) w) (hl : zlnk y pc q (.lxor) w ps = true) (he : zo_lbin zlxor E cal w ps y n ls st h = some (.inl k')) (hW : zW p l e R s m args below meth c Q D cA base Xa nL n0 s0 k') : zW p l e R s m args below meth c Q D cA base Xa nL n0 s0 (y, pc, ls, st, h) := by
  obtain ⟨hx, hb, hml, hown, hts, hall, hK, hxt, hnw, hE, hbs, hnm⟩ := C
  have hn' : n = pc + 1 := by
    rcases hn with hn | hn
    · cases hn
    · exact hn
  subst hn'
  simp only [zo_lbin] at he
  split at he
  · rename_i b a r
    cases he
    intro ok H locs lsc hr hlv
    obtain ⟨o1, o2, o3⟩ := ok
    refine lv_lxor hx hb hd ?_
    refine hW ⟨o1, fun v hv => ?_, o3⟩ H locs lsc hr hlv
    rcases List.mem_cons.mp hv with h1 | h1
    · rw [h1]; trivial
    · exact o2 v (List.mem_cons_of_mem _ (List.mem_cons_of_mem _ h1))
  · cases he
theorem zs_lshl  (C : zCtx p s m args meth c D cA base Xa E y q nL) (hd : decode q.2.1 pc = .ok (.lshl, zlen (.lshl) w)) (hn : zterm (.lshl) = true ∨ n = pc + zlen (.lshl) w) (hl : zlnk y pc q (.lshl) w ps = true) (he : zo_lsh zlshl E cal w ps y n ls st h = some (.inl k')) (hW : zW p l e R s m args below meth c Q D cA base Xa nL n0 s0 k') : zW p l e R s m args below meth c Q D cA base Xa nL n0 s0 (y, pc, ls, st, h) := by
  obtain ⟨hx, hb, hml, hown, hts, hall, hK, hxt, hnw, hE, hbs, hnm⟩ := C
  have hn' : n = pc + 1 := by
    rcases hn with hn | hn
    · cases hn
    · exact hn
  subst hn'
  simp only [zo_lsh] at he
  split at he
  · rename_i b a r
    cases he
    intro ok H locs lsc hr hlv
    obtain ⟨o1, o2, o3⟩ := ok
    refine lv_lshl hx hb hd rfl ?_
    refine hW ⟨o1, fun v hv => ?_, o3⟩ H locs lsc hr hlv
    rcases List.mem_cons.mp hv with h1 | h1
    · rw [h1]; trivial
    · exact o2 v (List.mem_cons_of_mem _ (List.mem_cons_of_mem _ h1))
  · cases he
theorem zs_lshr  (C : zCtx p s m args meth c D cA base Xa E y q nL) (hd : decode q.2.1 pc = .ok (.lshr, zlen (.lshr) w)) (hn : zterm (.lshr) = true ∨ n = pc + zlen (.lshr) w) (hl : zlnk y pc q (.lshr) w ps = true) (he : zo_lsh zlshr E cal w ps y n ls st h = some (.inl k')) (hW : zW p l e R s m args below meth c Q D cA base Xa nL n0 s0 k') : zW p l e R s m args below meth c Q D cA base Xa nL n0 s0 (y, pc, ls, st, h) := by
  obtain ⟨hx, hb, hml, hown, hts, hall, hK, hxt, hnw, hE, hbs, hnm⟩ := C
  have hn' : n = pc + 1 := by
    rcases hn with hn | hn
    · cases hn
    · exact hn
  subst hn'
  simp only [zo_lsh] at he
  split at he
  · rename_i b a r
    cases he
    intro ok H locs lsc hr hlv
    obtain ⟨o1, o2, o3⟩ := ok
    refine lv_lshr hx hb hd rfl ?_
    refine hW ⟨o1, fun v hv => ?_, o3⟩ H locs lsc hr hlv
    rcases List.mem_cons.mp hv with h1 | h1
    · rw [h1]; trivial
    · exact o2 v (List.mem_cons_of_mem _ (List.mem_cons_of_mem _ h1))
  · cases he
theorem zs_lushr  (C : zCtx p s m args meth c D cA base Xa E y q nL) (hd : decode q.2.1 pc = .ok (.lushr, zlen (.lushr) w)) (hn : zterm (.lushr) = true ∨ n = pc + zlen (.lushr) w) (hl : zlnk y pc q (.lushr) w ps = true) (he : zo_lsh zlushr E cal w ps y n ls st h = some (.inl k')) (hW : zW p l e R s m args below meth c Q D cA base Xa nL n0 s0 k') : zW p l e R s m args below meth c Q D cA base Xa nL n0 s0 (y, pc, ls, st, h) := by
  obtain ⟨hx, hb, hml, hown, hts, hall, hK, hxt, hnw, hE, hbs, hnm⟩ := C
  have hn' : n = pc + 1 := by
    rcases hn with hn | hn
    · cases hn
    · exact hn
  subst hn'
  simp only [zo_lsh] at he
  split at he
  · rename_i b a r
    cases he
    intro ok H locs lsc hr hlv
    obtain ⟨o1, o2, o3⟩ := ok
    refine lv_lushr hx hb hd rfl ?_
    refine hW ⟨o1, fun v hv => ?_, o3⟩ H locs lsc hr hlv
    rcases List.mem_cons.mp hv with h1 | h1
    · rw [h1]; trivial
    · exact o2 v (List.mem_cons_of_mem _ (List.mem_cons_of_mem _ h1))
  · cases he
theorem zs_i2l  (C : zCtx p s m args meth c D cA base Xa E y q nL) (hd : decode q.2.1 pc = .ok (.i2l, zlen (.i2l) w)) (hn : zterm (.i2l) = true ∨ n = pc + zlen (.i2l) w) (hl : zlnk y pc q (.i2l) w ps = true) (he : zo_i2l E cal w ps y n ls st h = some (.inl k')) (hW : zW p l e R s m args below meth c Q D cA base Xa nL n0 s0 k') : zW p l e R s m args below meth c Q D cA base Xa nL n0 s0 (y, pc, ls, st, h) := by
  obtain ⟨hx, hb, hml, hown, hts, hall, hK, hxt, hnw, hE, hbs, hnm⟩ := C
  have hn' : n = pc + 1 := by
    rcases hn with hn | hn
    · cases hn
    · exact hn
  subst hn'
  simp only [zo_i2l] at he
  split at he
  · rename_i a r
    cases he
    intro ok H locs lsc hr hlv
    obtain ⟨o1, o2, o3⟩ := ok
    refine lv_i2l hx hb hd rfl ?_
    refine hW ⟨o1, fun v hv => ?_, o3⟩ H locs lsc hr hlv
    rcases List.mem_cons.mp hv with h1 | h1
    · rw [h1]; trivial
    · exact o2 v (List.mem_cons_of_mem _ h1)
  · cases he
theorem zs_l2i  (C : zCtx p s m args meth c D cA base Xa E y q nL) (hd : decode q.2.1 pc = .ok (.l2i, zlen (.l2i) w)) (hn : zterm (.l2i) = true ∨ n = pc + zlen (.l2i) w) (hl : zlnk y pc q (.l2i) w ps = true) (he : zo_l2i E cal w ps y n ls st h = some (.inl k')) (hW : zW p l e R s m args below meth c Q D cA base Xa nL n0 s0 k') : zW p l e R s m args below meth c Q D cA base Xa nL n0 s0 (y, pc, ls, st, h) := by
  obtain ⟨hx, hb, hml, hown, hts, hall, hK, hxt, hnw, hE, hbs, hnm⟩ := C
  have hn' : n = pc + 1 := by
    rcases hn with hn | hn
    · cases hn
    · exact hn
  subst hn'
  simp only [zo_l2i] at he
  split at he
  · rename_i a r
    cases he
    intro ok H locs lsc hr hlv
    obtain ⟨o1, o2, o3⟩ := ok
    refine lv_l2i hx hb hd (v := Int32.ofInt (zl2i a)) (z_cl2i a).symm ?_
    refine hW ⟨o1, fun v hv => ?_, o3⟩ H locs lsc hr hlv
    rcases List.mem_cons.mp hv with h1 | h1
    · rw [h1]; exact zin_toInt _
    · exact o2 v (List.mem_cons_of_mem _ h1)
  · cases he
theorem zs_lcmp  (C : zCtx p s m args meth c D cA base Xa E y q nL) (hd : decode q.2.1 pc = .ok (.lcmp, zlen (.lcmp) w)) (hn : zterm (.lcmp) = true ∨ n = pc + zlen (.lcmp) w) (hl : zlnk y pc q (.lcmp) w ps = true) (he : zo_lcmp E cal w ps y n ls st h = some (.inl k')) (hW : zW p l e R s m args below meth c Q D cA base Xa nL n0 s0 k') : zW p l e R s m args below meth c Q D cA base Xa nL n0 s0 (y, pc, ls, st, h) := by
  obtain ⟨hx, hb, hml, hown, hts, hall, hK, hxt, hnw, hE, hbs, hnm⟩ := C
  have hn' : n = pc + 1 := by
    rcases hn with hn | hn
    · cases hn
    · exact hn
  subst hn'
  simp only [zo_lcmp] at he
  split at he
  · rename_i b a r
    cases he
    intro ok H locs lsc hr hlv
    obtain ⟨o1, o2, o3⟩ := ok
    refine W.lcmp hx hb hd ?_
    have hh := hW ⟨o1, fun v hv => ?_, o3⟩ H locs lsc hr hlv
    · simp only [List.map_cons, zcv, z_clcmp] at hh
      exact hh
    · rcases List.mem_cons.mp hv with h1 | h1
      · rw [h1]; exact zin_toInt _
      · exact o2 v (List.mem_cons_of_mem _ (List.mem_cons_of_mem _ h1))
  · cases he
theorem zs_iconst {z : Int} (C : zCtx p s m args meth c D cA base Xa E y q nL) (hd : decode q.2.1 pc = .ok (.iconst z, zlen (.iconst z) w)) (hn : zterm (.iconst z) = true ∨ n = pc + zlen (.iconst z) w) (hl : zlnk y pc q (.iconst z) w ps = true) (he : zo_cst E cal w ps y n ls st h = some (.inl k')) (hW : zW p l e R s m args below meth c Q D cA base Xa nL n0 s0 k') : zW p l e R s m args below meth c Q D cA base Xa nL n0 s0 (y, pc, ls, st, h) := by
  obtain ⟨hx, hb, hml, hown, hts, hall, hK, hxt, hnw, hE, hbs, hnm⟩ := C
  have hn' : n = pc + 1 := by
    rcases hn with hn | hn
    · cases hn
    · exact hn
  subst hn'
  have hp : ps = [((Int32.ofInt z).toInt, 0)] := of_decide_eq_true hl
  subst hp
  simp only [zo_cst] at he
  cases he
  intro ok H locs lsc hr hlv
  obtain ⟨o1, o2, o3⟩ := ok
  refine lv_iconst (v := Int32.ofInt ((Int32.ofInt z).toInt)) hx hb hd (Int32.ofInt_toInt _).symm ?_
  refine hW ⟨o1, fun v hv => ?_, o3⟩ H locs lsc hr hlv
  rcases List.mem_cons.mp hv with h1 | h1
  · rw [h1]; exact zin_toInt _
  · exact o2 v h1
theorem zs_bipush {z : Int} (C : zCtx p s m args meth c D cA base Xa E y q nL) (hd : decode q.2.1 pc = .ok (.bipush z, zlen (.bipush z) w)) (hn : zterm (.bipush z) = true ∨ n = pc + zlen (.bipush z) w) (hl : zlnk y pc q (.bipush z) w ps = true) (he : zo_cst E cal w ps y n ls st h = some (.inl k')) (hW : zW p l e R s m args below meth c Q D cA base Xa nL n0 s0 k') : zW p l e R s m args below meth c Q D cA base Xa nL n0 s0 (y, pc, ls, st, h) := by
  obtain ⟨hx, hb, hml, hown, hts, hall, hK, hxt, hnw, hE, hbs, hnm⟩ := C
  have hn' : n = pc + 2 := by
    rcases hn with hn | hn
    · cases hn
    · exact hn
  subst hn'
  have hp : ps = [(((Int8.ofInt z).toInt32).toInt, 0)] := of_decide_eq_true hl
  subst hp
  simp only [zo_cst] at he
  cases he
  intro ok H locs lsc hr hlv
  obtain ⟨o1, o2, o3⟩ := ok
  refine lv_bipush (v := Int32.ofInt (((Int8.ofInt z).toInt32).toInt)) hx hb hd (Int32.ofInt_toInt _).symm ?_
  refine hW ⟨o1, fun v hv => ?_, o3⟩ H locs lsc hr hlv
  rcases List.mem_cons.mp hv with h1 | h1
  · rw [h1]; exact zin_toInt _
  · exact o2 v h1
theorem zs_sipush {z : Int} (C : zCtx p s m args meth c D cA base Xa E y q nL) (hd : decode q.2.1 pc = .ok (.sipush z, zlen (.sipush z) w)) (hn : zterm (.sipush z) = true ∨ n = pc + zlen (.sipush z) w) (hl : zlnk y pc q (.sipush z) w ps = true) (he : zo_cst E cal w ps y n ls st h = some (.inl k')) (hW : zW p l e R s m args below meth c Q D cA base Xa nL n0 s0 k') : zW p l e R s m args below meth c Q D cA base Xa nL n0 s0 (y, pc, ls, st, h) := by
  obtain ⟨hx, hb, hml, hown, hts, hall, hK, hxt, hnw, hE, hbs, hnm⟩ := C
  have hn' : n = pc + 3 := by
    rcases hn with hn | hn
    · cases hn
    · exact hn
  subst hn'
  have hp : ps = [(((Int16.ofInt z).toInt32).toInt, 0)] := of_decide_eq_true hl
  subst hp
  simp only [zo_cst] at he
  cases he
  intro ok H locs lsc hr hlv
  obtain ⟨o1, o2, o3⟩ := ok
  refine lv_sipush (v := Int32.ofInt (((Int16.ofInt z).toInt32).toInt)) hx hb hd (Int32.ofInt_toInt _).symm ?_
  refine hW ⟨o1, fun v hv => ?_, o3⟩ H locs lsc hr hlv
  rcases List.mem_cons.mp hv with h1 | h1
  · rw [h1]; exact zin_toInt _
  · exact o2 v h1
theorem zs_lconst {z : Fin 2} (C : zCtx p s m args meth c D cA base Xa E y q nL) (hd : decode q.2.1 pc = .ok (.lconst z, zlen (.lconst z) w)) (hn : zterm (.lconst z) = true ∨ n = pc + zlen (.lconst z) w) (hl : zlnk y pc q (.lconst z) w ps = true) (he : zo_lcst z.val E cal w ps y n ls st h = some (.inl k')) (hW : zW p l e R s m args below meth c Q D cA base Xa nL n0 s0 k') : zW p l e R s m args below meth c Q D cA base Xa nL n0 s0 (y, pc, ls, st, h) := by
  obtain ⟨hx, hb, hml, hown, hts, hall, hK, hxt, hnw, hE, hbs, hnm⟩ := C
  have hn' : n = pc + 1 := by
    rcases hn with hn | hn
    · cases hn
    · exact hn
  subst hn'
  simp only [zo_lcst] at he
  cases he
  intro ok H locs lsc hr hlv
  obtain ⟨o1, o2, o3⟩ := ok
  refine lv_lconst (v := Int64.ofBitVec (BitVec.ofNat 64 z.val)) hx hb hd rfl ?_
  refine hW ⟨o1, fun v hv => ?_, o3⟩ H locs lsc hr hlv
  rcases List.mem_cons.mp hv with h1 | h1
  · rw [h1]; trivial
  · exact o2 v h1
theorem zs_ldc2 {z : Nat} (C : zCtx p s m args meth c D cA base Xa E y q nL) (hd : decode q.2.1 pc = .ok (.ldc2_w z, zlen (.ldc2_w z) w)) (hn : zterm (.ldc2_w z) = true ∨ n = pc + zlen (.ldc2_w z) w) (hl : zlnk y pc q (.ldc2_w z) w ps = true) (he : zo_ldc E cal w ps y n ls st h = some (.inl k')) (hW : zW p l e R s m args below meth c Q D cA base Xa nL n0 s0 k') : zW p l e R s m args below meth c Q D cA base Xa nL n0 s0 (y, pc, ls, st, h) := by
  obtain ⟨hx, hb, hml, hown, hts, hall, hK, hxt, hnw, hE, hbs, hnm⟩ := C
  have hn' : n = pc + 3 := by
    rcases hn with hn | hn
    · cases hn
    · exact hn
  subst hn'
  simp only [zo_ldc] at he
  split at he
  · rename_i v0
    cases he
    simp only [zlnk, List.any_eq_true, Bool.and_eq_true, decide_eq_true_eq] at hl
    obtain ⟨r, hr1, ⟨hr2, hr3⟩, hr4⟩ := hl
    have hk := List.all_eq_true.mp zl_KT r hr1
    unfold zkt at hk
    have hk := of_decide_eq_true hk
    rw [Nat.eq_of_beq_eq_true hr2, Nat.eq_of_beq_eq_true hr3, hr4] at hk
    intro ok H locs lsc hr hlv
    obtain ⟨o1, o2, o3⟩ := ok
    refine lv_ldc2 (v := Int64.ofBitVec (BitVec.ofInt 64 v0.1)) hx hb hown (hts _ (zws0_t (List.mem_of_getElem? hk) rfl)) hd ?_
    refine hW ⟨o1, fun v hv => ?_, o3⟩ H locs lsc hr hlv
    rcases List.mem_cons.mp hv with h1 | h1
    · rw [h1]; trivial
    · exact o2 v h1
  · cases he
theorem zs_iload_n {z : Fin 4} (C : zCtx p s m args meth c D cA base Xa E y q nL) (hd : decode q.2.1 pc = .ok (.iload_n z, zlen (.iload_n z) w)) (hn : zterm (.iload_n z) = true ∨ n = pc + zlen (.iload_n z) w) (hl : zlnk y pc q (.iload_n z) w ps = true) (he : zo_ldi z.val E cal w ps y n ls st h = some (.inl k')) (hW : zW p l e R s m args below meth c Q D cA base Xa nL n0 s0 k') : zW p l e R s m args below meth c Q D cA base Xa nL n0 s0 (y, pc, ls, st, h) := by
  obtain ⟨hx, hb, hml, hown, hts, hall, hK, hxt, hnw, hE, hbs, hnm⟩ := C
  have hn' : n = pc + 1 := by
    rcases hn with hn | hn
    · cases hn
    · exact hn
  subst hn'
  simp only [zo_ldi] at he
  split at he
  · rename_i x hx0
    cases he
    intro ok H locs lsc hr hlv
    obtain ⟨o1, o2, o3⟩ := ok
    have hv0 := hlv.2.2 (z.val, _) (zlp_mem.mpr ⟨_, hx0, (by intro q0; cases q0), rfl⟩)
    refine lv_iload_n hx hb hd rfl hv0 ?_
    refine hW ⟨o1, fun v hv => ?_, o3⟩ H locs lsc hr hlv
    rcases List.mem_cons.mp hv with h1 | h1
    · rw [h1]; exact o1 _ (List.mem_of_getElem? hx0)
    · exact o2 v h1
  · cases he
theorem zs_iload {z : Nat} (C : zCtx p s m args meth c D cA base Xa E y q nL) (hd : decode q.2.1 pc = .ok (.iload z, zlen (.iload z) w)) (hn : zterm (.iload z) = true ∨ n = pc + zlen (.iload z) w) (hl : zlnk y pc q (.iload z) w ps = true) (he : zo_ldi z E cal w ps y n ls st h = some (.inl k')) (hW : zW p l e R s m args below meth c Q D cA base Xa nL n0 s0 k') : zW p l e R s m args below meth c Q D cA base Xa nL n0 s0 (y, pc, ls, st, h) := by
  obtain ⟨hx, hb, hml, hown, hts, hall, hK, hxt, hnw, hE, hbs, hnm⟩ := C
  have hn' : n = pc + 2 := by
    rcases hn with hn | hn
    · cases hn
    · exact hn
  subst hn'
  simp only [zo_ldi] at he
  split at he
  · rename_i x hx0
    cases he
    intro ok H locs lsc hr hlv
    obtain ⟨o1, o2, o3⟩ := ok
    have hv0 := hlv.2.2 (z, _) (zlp_mem.mpr ⟨_, hx0, (by intro q0; cases q0), rfl⟩)
    refine lv_iload hx hb hd hv0 ?_
    refine hW ⟨o1, fun v hv => ?_, o3⟩ H locs lsc hr hlv
    rcases List.mem_cons.mp hv with h1 | h1
    · rw [h1]; exact o1 _ (List.mem_of_getElem? hx0)
    · exact o2 v h1
  · cases he
theorem zs_lload_n {z : Fin 4} (C : zCtx p s m args meth c D cA base Xa E y q nL) (hd : decode q.2.1 pc = .ok (.lload_n z, zlen (.lload_n z) w)) (hn : zterm (.lload_n z) = true ∨ n = pc + zlen (.lload_n z) w) (hl : zlnk y pc q (.lload_n z) w ps = true) (he : zo_ldl z.val E cal w ps y n ls st h = some (.inl k')) (hW : zW p l e R s m args below meth c Q D cA base Xa nL n0 s0 k') : zW p l e R s m args below meth c Q D cA base Xa nL n0 s0 (y, pc, ls, st, h) := by
  obtain ⟨hx, hb, hml, hown, hts, hall, hK, hxt, hnw, hE, hbs, hnm⟩ := C
  have hn' : n = pc + 1 := by
    rcases hn with hn | hn
    · cases hn
    · exact hn
  subst hn'
  simp only [zo_ldl] at he
  split at he
  · rename_i x hx0
    cases he
    intro ok H locs lsc hr hlv
    obtain ⟨o1, o2, o3⟩ := ok
    have hv0 := hlv.2.2 (z.val, _) (zlp_mem.mpr ⟨_, hx0, (by intro q0; cases q0), rfl⟩)
    refine lv_lload_n hx hb hd rfl hv0 ?_
    refine hW ⟨o1, fun v hv => ?_, o3⟩ H locs lsc hr hlv
    rcases List.mem_cons.mp hv with h1 | h1
    · rw [h1]; exact o1 _ (List.mem_of_getElem? hx0)
    · exact o2 v h1
  · cases he
theorem zs_lload {z : Nat} (C : zCtx p s m args meth c D cA base Xa E y q nL) (hd : decode q.2.1 pc = .ok (.lload z, zlen (.lload z) w)) (hn : zterm (.lload z) = true ∨ n = pc + zlen (.lload z) w) (hl : zlnk y pc q (.lload z) w ps = true) (he : zo_ldl z E cal w ps y n ls st h = some (.inl k')) (hW : zW p l e R s m args below meth c Q D cA base Xa nL n0 s0 k') : zW p l e R s m args below meth c Q D cA base Xa nL n0 s0 (y, pc, ls, st, h) := by
  obtain ⟨hx, hb, hml, hown, hts, hall, hK, hxt, hnw, hE, hbs, hnm⟩ := C
  have hn' : n = pc + 2 := by
    rcases hn with hn | hn
    · cases hn
    · exact hn
  subst hn'
  simp only [zo_ldl] at he
  split at he
  · rename_i x hx0
    cases he
    intro ok H locs lsc hr hlv
    obtain ⟨o1, o2, o3⟩ := ok
    have hv0 := hlv.2.2 (z, _) (zlp_mem.mpr ⟨_, hx0, (by intro q0; cases q0), rfl⟩)
    refine lv_lload hx hb hd hv0 ?_
    refine hW ⟨o1, fun v hv => ?_, o3⟩ H locs lsc hr hlv
    rcases List.mem_cons.mp hv with h1 | h1
    · rw [h1]; exact o1 _ (List.mem_of_getElem? hx0)
    · exact o2 v h1
  · cases he
theorem zs_aload_n {z : Fin 4} (C : zCtx p s m args meth c D cA base Xa E y q nL) (hd : decode q.2.1 pc = .ok (.aload_n z, zlen (.aload_n z) w)) (hn : zterm (.aload_n z) = true ∨ n = pc + zlen (.aload_n z) w) (hl : zlnk y pc q (.aload_n z) w ps = true) (he : zo_lda z.val E cal w ps y n ls st h = some (.inl k')) (hW : zW p l e R s m args below meth c Q D cA base Xa nL n0 s0 k') : zW p l e R s m args below meth c Q D cA base Xa nL n0 s0 (y, pc, ls, st, h) := by
  obtain ⟨hx, hb, hml, hown, hts, hall, hK, hxt, hnw, hE, hbs, hnm⟩ := C
  have hn' : n = pc + 1 := by
    rcases hn with hn | hn
    · cases hn
    · exact hn
  subst hn'
  simp only [zo_lda] at he
  split at he
  · rename_i x hx0
    cases he
    intro ok H locs lsc hr hlv
    obtain ⟨o1, o2, o3⟩ := ok
    have hv0 := hlv.2.2 (z.val, _) (zlp_mem.mpr ⟨_, hx0, (by intro q0; cases q0), rfl⟩)
    refine lv_aload_n hx hb hd rfl hv0 ?_
    refine hW ⟨o1, fun v hv => ?_, o3⟩ H locs lsc hr hlv
    rcases List.mem_cons.mp hv with h1 | h1
    · rw [h1]; exact o1 _ (List.mem_of_getElem? hx0)
    · exact o2 v h1
  · cases he
theorem zs_aload {z : Nat} (C : zCtx p s m args meth c D cA base Xa E y q nL) (hd : decode q.2.1 pc = .ok (.aload z, zlen (.aload z) w)) (hn : zterm (.aload z) = true ∨ n = pc + zlen (.aload z) w) (hl : zlnk y pc q (.aload z) w ps = true) (he : zo_lda z E cal w ps y n ls st h = some (.inl k')) (hW : zW p l e R s m args below meth c Q D cA base Xa nL n0 s0 k') : zW p l e R s m args below meth c Q D cA base Xa nL n0 s0 (y, pc, ls, st, h) := by
  obtain ⟨hx, hb, hml, hown, hts, hall, hK, hxt, hnw, hE, hbs, hnm⟩ := C
  have hn' : n = pc + 2 := by
    rcases hn with hn | hn
    · cases hn
    · exact hn
  subst hn'
  simp only [zo_lda] at he
  split at he
  · rename_i x hx0
    cases he
    intro ok H locs lsc hr hlv
    obtain ⟨o1, o2, o3⟩ := ok
    have hv0 := hlv.2.2 (z, _) (zlp_mem.mpr ⟨_, hx0, (by intro q0; cases q0), rfl⟩)
    refine lv_aload hx hb hd hv0 ?_
    refine hW ⟨o1, fun v hv => ?_, o3⟩ H locs lsc hr hlv
    rcases List.mem_cons.mp hv with h1 | h1
    · rw [h1]; exact o1 _ (List.mem_of_getElem? hx0)
    · exact o2 v h1
  · cases he
theorem zs_istore_n {z : Fin 4} (C : zCtx p s m args meth c D cA base Xa E y q nL) (hd : decode q.2.1 pc = .ok (.istore_n z, zlen (.istore_n z) w)) (hn : zterm (.istore_n z) = true ∨ n = pc + zlen (.istore_n z) w) (hl : zlnk y pc q (.istore_n z) w ps = true) (he : zo_sti z.val E cal w ps y n ls st h = some (.inl k')) (hW : zW p l e R s m args below meth c Q D cA base Xa nL n0 s0 k') : zW p l e R s m args below meth c Q D cA base Xa nL n0 s0 (y, pc, ls, st, h) := by
  obtain ⟨hx, hb, hml, hown, hts, hall, hK, hxt, hnw, hE, hbs, hnm⟩ := C
  have hn' : n = pc + 1 := by
    rcases hn with hn | hn
    · cases hn
    · exact hn
  subst hn'
  simp only [zo_sti] at he
  split at he
  · rename_i x r
    split at he
    · rename_i hi
      cases he
      intro ok H locs lsc hr hlv
      obtain ⟨o1, o2, o3⟩ := ok
      have hlen : ls.length = nL := o3.2.2.2
      refine lv_istore_n hx hb hd rfl hlv (by rw [← hlen]; exact hi) rfl (fun ls' hlv' => ?_)
      refine hW ⟨zset_ok (zinv_ok o1) (o2 _ List.mem_cons_self), fun v hv => o2 v (List.mem_cons_of_mem _ hv), o3.1, o3.2.1, o3.2.2.1, by simp [zinv_len, hlen]⟩ H locs ls' hr (lv_less hlv' zlp_set1)
    · cases he
  · cases he
theorem zs_istore {z : Nat} (C : zCtx p s m args meth c D cA base Xa E y q nL) (hd : decode q.2.1 pc = .ok (.istore z, zlen (.istore z) w)) (hn : zterm (.istore z) = true ∨ n = pc + zlen (.istore z) w) (hl : zlnk y pc q (.istore z) w ps = true) (he : zo_sti z E cal w ps y n ls st h = some (.inl k')) (hW : zW p l e R s m args below meth c Q D cA base Xa nL n0 s0 k') : zW p l e R s m args below meth c Q D cA base Xa nL n0 s0 (y, pc, ls, st, h) := by
  obtain ⟨hx, hb, hml, hown, hts, hall, hK, hxt, hnw, hE, hbs, hnm⟩ := C
  have hn' : n = pc + 2 := by
    rcases hn with hn | hn
    · cases hn
    · exact hn
  subst hn'
  simp only [zo_sti] at he
  split at he
  · rename_i x r
    split at he
    · rename_i hi
      cases he
      intro ok H locs lsc hr hlv
      obtain ⟨o1, o2, o3⟩ := ok
      have hlen : ls.length = nL := o3.2.2.2
      refine lv_istore hx hb hd hlv (by rw [← hlen]; exact hi) rfl (fun ls' hlv' => ?_)
      refine hW ⟨zset_ok (zinv_ok o1) (o2 _ List.mem_cons_self), fun v hv => o2 v (List.mem_cons_of_mem _ hv), o3.1, o3.2.1, o3.2.2.1, by simp [zinv_len, hlen]⟩ H locs ls' hr (lv_less hlv' zlp_set1)
    · cases he
  · cases he
theorem zs_lstore_n {z : Fin 4} (C : zCtx p s m args meth c D cA base Xa E y q nL) (hd : decode q.2.1 pc = .ok (.lstore_n z, zlen (.lstore_n z) w)) (hn : zterm (.lstore_n z) = true ∨ n = pc + zlen (.lstore_n z) w) (hl : zlnk y pc q (.lstore_n z) w ps = true) (he : zo_stl z.val E cal w ps y n ls st h = some (.inl k')) (hW : zW p l e R s m args below meth c Q D cA base Xa nL n0 s0 k') : zW p l e R s m args below meth c Q D cA base Xa nL n0 s0 (y, pc, ls, st, h) := by
  obtain ⟨hx, hb, hml, hown, hts, hall, hK, hxt, hnw, hE, hbs, hnm⟩ := C
  have hn' : n = pc + 1 := by
    rcases hn with hn | hn
    · cases hn
    · exact hn
  subst hn'
  simp only [zo_stl] at he
  split at he
  · rename_i x r
    split at he
    · rename_i hi
      cases he
      intro ok H locs lsc hr hlv
      obtain ⟨o1, o2, o3⟩ := ok
      have hlen : ls.length = nL := o3.2.2.2
      refine lv_lstore_n hx hb hd rfl hlv (by rw [← hlen]; exact hi) rfl (fun ls' hlv' => ?_)
      refine hW ⟨zset_ok (zset_ok (zinv_ok o1) (u := zL x) trivial) (u := zR 0) trivial, fun v hv => o2 v (List.mem_cons_of_mem _ hv), o3.1, o3.2.1, o3.2.2.1, by simp [zinv_len, hlen]⟩ H locs ls' hr (lv_less hlv' zlp_set2)
    · cases he
  · cases he
theorem zs_lstore {z : Nat} (C : zCtx p s m args meth c D cA base Xa E y q nL) (hd : decode q.2.1 pc = .ok (.lstore z, zlen (.lstore z) w)) (hn : zterm (.lstore z) = true ∨ n = pc + zlen (.lstore z) w) (hl : zlnk y pc q (.lstore z) w ps = true) (he : zo_stl z E cal w ps y n ls st h = some (.inl k')) (hW : zW p l e R s m args below meth c Q D cA base Xa nL n0 s0 k') : zW p l e R s m args below meth c Q D cA base Xa nL n0 s0 (y, pc, ls, st, h) := by
  obtain ⟨hx, hb, hml, hown, hts, hall, hK, hxt, hnw, hE, hbs, hnm⟩ := C
  have hn' : n = pc + 2 := by
    rcases hn with hn | hn
    · cases hn
    · exact hn
  subst hn'
  simp only [zo_stl] at he
  split at he
  · rename_i x r
    split at he
    · rename_i hi
      cases he
      intro ok H locs lsc hr hlv
      obtain ⟨o1, o2, o3⟩ := ok
      have hlen : ls.length = nL := o3.2.2.2
      refine lv_lstore hx hb hd hlv (by rw [← hlen]; exact hi) rfl (fun ls' hlv' => ?_)
      refine hW ⟨zset_ok (zset_ok (zinv_ok o1) (u := zL x) trivial) (u := zR 0) trivial, fun v hv => o2 v (List.mem_cons_of_mem _ hv), o3.1, o3.2.1, o3.2.2.1, by simp [zinv_len, hlen]⟩ H locs ls' hr (lv_less hlv' zlp_set2)
    · cases he
  · cases he
theorem zs_astore_n {z : Fin 4} (C : zCtx p s m args meth c D cA base Xa E y q nL) (hd : decode q.2.1 pc = .ok (.astore_n z, zlen (.astore_n z) w)) (hn : zterm (.astore_n z) = true ∨ n = pc + zlen (.astore_n z) w) (hl : zlnk y pc q (.astore_n z) w ps = true) (he : zo_sta z.val E cal w ps y n ls st h = some (.inl k')) (hW : zW p l e R s m args below meth c Q D cA base Xa nL n0 s0 k') : zW p l e R s m args below meth c Q D cA base Xa nL n0 s0 (y, pc, ls, st, h) := by
  obtain ⟨hx, hb, hml, hown, hts, hall, hK, hxt, hnw, hE, hbs, hnm⟩ := C
  have hn' : n = pc + 1 := by
    rcases hn with hn | hn
    · cases hn
    · exact hn
  subst hn'
  simp only [zo_sta] at he
  split at he
  · rename_i x r
    split at he
    · rename_i hi
      cases he
      intro ok H locs lsc hr hlv
      obtain ⟨o1, o2, o3⟩ := ok
      have hlen : ls.length = nL := o3.2.2.2
      refine lv_astore_n hx hb hd rfl hlv (by rw [← hlen]; exact hi) rfl (fun ls' hlv' => ?_)
      refine hW ⟨zset_ok (zinv_ok o1) (o2 _ List.mem_cons_self), fun v hv => o2 v (List.mem_cons_of_mem _ hv), o3.1, o3.2.1, o3.2.2.1, by simp [zinv_len, hlen]⟩ H locs ls' hr (lv_less hlv' zlp_set1)
    · cases he
  · cases he
theorem zs_astore {z : Nat} (C : zCtx p s m args meth c D cA base Xa E y q nL) (hd : decode q.2.1 pc = .ok (.astore z, zlen (.astore z) w)) (hn : zterm (.astore z) = true ∨ n = pc + zlen (.astore z) w) (hl : zlnk y pc q (.astore z) w ps = true) (he : zo_sta z E cal w ps y n ls st h = some (.inl k')) (hW : zW p l e R s m args below meth c Q D cA base Xa nL n0 s0 k') : zW p l e R s m args below meth c Q D cA base Xa nL n0 s0 (y, pc, ls, st, h) := by
  obtain ⟨hx, hb, hml, hown, hts, hall, hK, hxt, hnw, hE, hbs, hnm⟩ := C
  have hn' : n = pc + 2 := by
    rcases hn with hn | hn
    · cases hn
    · exact hn
  subst hn'
  simp only [zo_sta] at he
  split at he
  · rename_i x r
    split at he
    · rename_i hi
      cases he
      intro ok H locs lsc hr hlv
      obtain ⟨o1, o2, o3⟩ := ok
      have hlen : ls.length = nL := o3.2.2.2
      refine lv_astore hx hb hd hlv (by rw [← hlen]; exact hi) rfl (fun ls' hlv' => ?_)
      refine hW ⟨zset_ok (zinv_ok o1) (o2 _ List.mem_cons_self), fun v hv => o2 v (List.mem_cons_of_mem _ hv), o3.1, o3.2.1, o3.2.2.1, by simp [zinv_len, hlen]⟩ H locs ls' hr (lv_less hlv' zlp_set1)
    · cases he
  · cases he
theorem zs_iinc {z : Nat} {k0 : Int} (C : zCtx p s m args meth c D cA base Xa E y q nL) (hd : decode q.2.1 pc = .ok (.iinc z k0, zlen (.iinc z k0) w)) (hn : zterm (.iinc z k0) = true ∨ n = pc + zlen (.iinc z k0) w) (hl : zlnk y pc q (.iinc z k0) w ps = true) (he : zo_inc z k0 E cal w ps y n ls st h = some (.inl k')) (hW : zW p l e R s m args below meth c Q D cA base Xa nL n0 s0 k') : zW p l e R s m args below meth c Q D cA base Xa nL n0 s0 (y, pc, ls, st, h) := by
  obtain ⟨hx, hb, hml, hown, hts, hall, hK, hxt, hnw, hE, hbs, hnm⟩ := C
  have hn' : n = pc + 3 := by
    rcases hn with hn | hn
    · cases hn
    · exact hn
  subst hn'
  simp only [zo_inc] at he
  split at he
  · rename_i x hx0
    cases he
    intro ok H locs lsc hr hlv
    obtain ⟨o1, o2, o3⟩ := ok
    have hlen : ls.length = nL := o3.2.2.2
    obtain ⟨kk, hkk⟩ := List.getElem?_of_mem (zlp_mem.mpr ⟨_, hx0, (by intro q0; cases q0), rfl⟩ : (z, zcv base Xa (.inl x)) ∈ zlp base Xa ls)
    refine lv_iinc (v := Int32.ofInt (zadd x k0)) hx hb hd hlv (k := kk) hkk (z_cadd x k0).symm (by rw [← hlen]; exact (List.getElem?_eq_some_iff.mp hx0).1) rfl (fun ls' hlv' => ?_)
    exact hW ⟨zset_ok (zinv_ok o1) (zin_toInt _), o2, o3.1, o3.2.1, o3.2.2.1, by simp [zinv_len, hlen]⟩ H locs ls' hr (lv_less hlv' zlp_set1)
  · cases he
theorem zs_dup  (C : zCtx p s m args meth c D cA base Xa E y q nL) (hd : decode q.2.1 pc = .ok (.dup, zlen (.dup) w)) (hn : zterm (.dup) = true ∨ n = pc + zlen (.dup) w) (hl : zlnk y pc q (.dup) w ps = true) (he : zo_dup E cal w ps y n ls st h = some (.inl k')) (hW : zW p l e R s m args below meth c Q D cA base Xa nL n0 s0 k') : zW p l e R s m args below meth c Q D cA base Xa nL n0 s0 (y, pc, ls, st, h) := by
  obtain ⟨hx, hb, hml, hown, hts, hall, hK, hxt, hnw, hE, hbs, hnm⟩ := C
  have hn' : n = pc + 1 := by
    rcases hn with hn | hn
    · cases hn
    · exact hn
  subst hn'
  simp only [zo_dup] at he
  split at he
  · rename_i v0 r
    split at he
    · rename_i hz
      cases he
      intro ok H locs lsc hr hlv
      obtain ⟨o1, o2, o3⟩ := ok
      refine lv_dup hx hb hd (zone_cat hz) ?_
      refine hW ⟨o1, fun v hv => ?_, o3⟩ H locs lsc hr hlv
      rcases List.mem_cons.mp hv with h1 | h1
      · rw [h1]; exact o2 _ List.mem_cons_self
      · exact o2 v h1
    · cases he
  · cases he
theorem zs_dup_x1  (C : zCtx p s m args meth c D cA base Xa E y q nL) (hd : decode q.2.1 pc = .ok (.dup_x1, zlen (.dup_x1) w)) (hn : zterm (.dup_x1) = true ∨ n = pc + zlen (.dup_x1) w) (hl : zlnk y pc q (.dup_x1) w ps = true) (he : zo_dup_x1 E cal w ps y n ls st h = some (.inl k')) (hW : zW p l e R s m args below meth c Q D cA base Xa nL n0 s0 k') : zW p l e R s m args below meth c Q D cA base Xa nL n0 s0 (y, pc, ls, st, h) := by
  obtain ⟨hx, hb, hml, hown, hts, hall, hK, hxt, hnw, hE, hbs, hnm⟩ := C
  have hn' : n = pc + 1 := by
    rcases hn with hn | hn
    · cases hn
    · exact hn
  subst hn'
  simp only [zo_dup_x1] at he
  split at he
  · rename_i v0 u0 r
    split at he
    · rename_i hz
      cases he
      intro ok H locs lsc hr hlv
      obtain ⟨o1, o2, o3⟩ := ok
      refine lv_dup_x1 hx hb hd (zone_cat hz.1) (zone_cat hz.2) ?_
      refine hW ⟨o1, fun v hv => ?_, o3⟩ H locs lsc hr hlv
      have h0 := o2 v0 List.mem_cons_self
      have h1 := o2 u0 (List.mem_cons_of_mem _ List.mem_cons_self)
      simp only [List.mem_cons] at hv
      rcases hv with h2 | h2 | h2 | h2
      · rw [h2]; exact h0
      · rw [h2]; exact h1
      · rw [h2]; exact h0
      · exact o2 v (List.mem_cons_of_mem _ (List.mem_cons_of_mem _ h2))
    · cases he
  · cases he
theorem zs_dup2  (C : zCtx p s m args meth c D cA base Xa E y q nL) (hd : decode q.2.1 pc = .ok (.dup2, zlen (.dup2) w)) (hn : zterm (.dup2) = true ∨ n = pc + zlen (.dup2) w) (hl : zlnk y pc q (.dup2) w ps = true) (he : zo_dup2 E cal w ps y n ls st h = some (.inl k')) (hW : zW p l e R s m args below meth c Q D cA base Xa nL n0 s0 k') : zW p l e R s m args below meth c Q D cA base Xa nL n0 s0 (y, pc, ls, st, h) := by
  obtain ⟨hx, hb, hml, hown, hts, hall, hK, hxt, hnw, hE, hbs, hnm⟩ := C
  have hn' : n = pc + 1 := by
    rcases hn with hn | hn
    · cases hn
    · exact hn
  subst hn'
  simp only [zo_dup2] at he
  split at he
  · rename_i v0 u0 r
    split at he
    · rename_i hz
      cases he
      intro ok H locs lsc hr hlv
      obtain ⟨o1, o2, o3⟩ := ok
      refine lv_dup2_11 hx hb hd (zone_cat hz.1) (zone_cat hz.2) ?_
      refine hW ⟨o1, fun v hv => ?_, o3⟩ H locs lsc hr hlv
      have h0 := o2 v0 List.mem_cons_self
      have h1 := o2 u0 (List.mem_cons_of_mem _ List.mem_cons_self)
      simp only [List.mem_cons] at hv
      rcases hv with h2 | h2 | h2 | h2 | h2
      · rw [h2]; exact h0
      · rw [h2]; exact h1
      · rw [h2]; exact h0
      · rw [h2]; exact h1
      · exact o2 v (List.mem_cons_of_mem _ (List.mem_cons_of_mem _ h2))
    · cases he
  · cases he
theorem zs_if_eq {o0 : Int} (C : zCtx p s m args meth c D cA base Xa E y q nL) (hd : decode q.2.1 pc = .ok (.ifCond .eq o0, zlen (.ifCond .eq o0) w)) (hn : zterm (.ifCond .eq o0) = true ∨ n = pc + zlen (.ifCond .eq o0) w) (hl : zlnk y pc q (.ifCond .eq o0) w ps = true) (he : zo_ifc .eq E cal w ps y n ls st h = some (.inl k')) (hW : zW p l e R s m args below meth c Q D cA base Xa nL n0 s0 k') : zW p l e R s m args below meth c Q D cA base Xa nL n0 s0 (y, pc, ls, st, h) := by
  obtain ⟨hx, hb, hml, hown, hts, hall, hK, hxt, hnw, hE, hbs, hnm⟩ := C
  have hn' : n = pc + 3 := by
    rcases hn with hn | hn
    · cases hn
    · exact hn
  subst hn'
  simp only [zo_ifc] at he
  split at he
  · rename_i t x r
    have ht : (pc : Int) + o0 = (t : Int) := of_decide_eq_true hl
    cases he
    intro ok H locs lsc hr hlv
    obtain ⟨o1, o2, o3⟩ := ok
    have ox := (o2 _ List.mem_cons_self : zin x)
    have oy := (by constructor <;> omega : zin 0)
    have hh := hW ⟨o1, fun v hv => o2 v (List.mem_cons_of_mem _ hv), o3⟩ H locs lsc hr hlv
    refine lv_if_eq hx hb hd ht (fun g => ?_) (fun g => ?_)
    · rw [show zcmp .eq x 0 = true from decide_eq_true ((z_ofInt_inj ox oy).mp g)] at hh
      exact hh
    · rw [show zcmp .eq x 0 = false from decide_eq_false (fun q0 => g ((z_ofInt_inj ox oy).mpr q0))] at hh
      exact hh
  · cases he
theorem zs_icmp_eq {o0 : Int} (C : zCtx p s m args meth c D cA base Xa E y q nL) (hd : decode q.2.1 pc = .ok (.if_icmp .eq o0, zlen (.if_icmp .eq o0) w)) (hn : zterm (.if_icmp .eq o0) = true ∨ n = pc + zlen (.if_icmp .eq o0) w) (hl : zlnk y pc q (.if_icmp .eq o0) w ps = true) (he : zo_icm .eq E cal w ps y n ls st h = some (.inl k')) (hW : zW p l e R s m args below meth c Q D cA base Xa nL n0 s0 k') : zW p l e R s m args below meth c Q D cA base Xa nL n0 s0 (y, pc, ls, st, h) := by
  obtain ⟨hx, hb, hml, hown, hts, hall, hK, hxt, hnw, hE, hbs, hnm⟩ := C
  have hn' : n = pc + 3 := by
    rcases hn with hn | hn
    · cases hn
    · exact hn
  subst hn'
  simp only [zo_icm] at he
  split at he
  · rename_i t b x r
    have ht : (pc : Int) + o0 = (t : Int) := of_decide_eq_true hl
    cases he
    intro ok H locs lsc hr hlv
    obtain ⟨o1, o2, o3⟩ := ok
    have ox := (o2 _ (List.mem_cons_of_mem _ List.mem_cons_self) : zin x)
    have oy := (o2 _ List.mem_cons_self : zin b)
    have hh := hW ⟨o1, fun v hv => o2 v (List.mem_cons_of_mem _ (List.mem_cons_of_mem _ hv)), o3⟩ H locs lsc hr hlv
    refine lv_icmp_eq hx hb hd ht (fun g => ?_) (fun g => ?_)
    · rw [show zcmp .eq x b = true from decide_eq_true ((z_ofInt_inj ox oy).mp g)] at hh
      exact hh
    · rw [show zcmp .eq x b = false from decide_eq_false (fun q0 => g ((z_ofInt_inj ox oy).mpr q0))] at hh
      exact hh
  · cases he
theorem zs_if_ne {o0 : Int} (C : zCtx p s m args meth c D cA base Xa E y q nL) (hd : decode q.2.1 pc = .ok (.ifCond .ne o0, zlen (.ifCond .ne o0) w)) (hn : zterm (.ifCond .ne o0) = true ∨ n = pc + zlen (.ifCond .ne o0) w) (hl : zlnk y pc q (.ifCond .ne o0) w ps = true) (he : zo_ifc .ne E cal w ps y n ls st h = some (.inl k')) (hW : zW p l e R s m args below meth c Q D cA base Xa nL n0 s0 k') : zW p l e R s m args below meth c Q D cA base Xa nL n0 s0 (y, pc, ls, st, h) := by
  obtain ⟨hx, hb, hml, hown, hts, hall, hK, hxt, hnw, hE, hbs, hnm⟩ := C
  have hn' : n = pc + 3 := by
    rcases hn with hn | hn
    · cases hn
    · exact hn
  subst hn'
  simp only [zo_ifc] at he
  split at he
  · rename_i t x r
    have ht : (pc : Int) + o0 = (t : Int) := of_decide_eq_true hl
    cases he
    intro ok H locs lsc hr hlv
    obtain ⟨o1, o2, o3⟩ := ok
    have ox := (o2 _ List.mem_cons_self : zin x)
    have oy := (by constructor <;> omega : zin 0)
    have hh := hW ⟨o1, fun v hv => o2 v (List.mem_cons_of_mem _ hv), o3⟩ H locs lsc hr hlv
    refine lv_if_ne hx hb hd ht (fun g => ?_) (fun g => ?_)
    · rw [show zcmp .ne x 0 = true from decide_eq_true (fun q0 => g ((z_ofInt_inj ox oy).mpr q0))] at hh
      exact hh
    · rw [show zcmp .ne x 0 = false from decide_eq_false (fun q0 => q0 ((z_ofInt_inj ox oy).mp g))] at hh
      exact hh
  · cases he
theorem zs_icmp_ne {o0 : Int} (C : zCtx p s m args meth c D cA base Xa E y q nL) (hd : decode q.2.1 pc = .ok (.if_icmp .ne o0, zlen (.if_icmp .ne o0) w)) (hn : zterm (.if_icmp .ne o0) = true ∨ n = pc + zlen (.if_icmp .ne o0) w) (hl : zlnk y pc q (.if_icmp .ne o0) w ps = true) (he : zo_icm .ne E cal w ps y n ls st h = some (.inl k')) (hW : zW p l e R s m args below meth c Q D cA base Xa nL n0 s0 k') : zW p l e R s m args below meth c Q D cA base Xa nL n0 s0 (y, pc, ls, st, h) := by
  obtain ⟨hx, hb, hml, hown, hts, hall, hK, hxt, hnw, hE, hbs, hnm⟩ := C
  have hn' : n = pc + 3 := by
    rcases hn with hn | hn
    · cases hn
    · exact hn
  subst hn'
  simp only [zo_icm] at he
  split at he
  · rename_i t b x r
    have ht : (pc : Int) + o0 = (t : Int) := of_decide_eq_true hl
    cases he
    intro ok H locs lsc hr hlv
    obtain ⟨o1, o2, o3⟩ := ok
    have ox := (o2 _ (List.mem_cons_of_mem _ List.mem_cons_self) : zin x)
    have oy := (o2 _ List.mem_cons_self : zin b)
    have hh := hW ⟨o1, fun v hv => o2 v (List.mem_cons_of_mem _ (List.mem_cons_of_mem _ hv)), o3⟩ H locs lsc hr hlv
    refine lv_icmp_ne hx hb hd ht (fun g => ?_) (fun g => ?_)
    · rw [show zcmp .ne x b = true from decide_eq_true (fun q0 => g ((z_ofInt_inj ox oy).mpr q0))] at hh
      exact hh
    · rw [show zcmp .ne x b = false from decide_eq_false (fun q0 => q0 ((z_ofInt_inj ox oy).mp g))] at hh
      exact hh
  · cases he
theorem zs_if_lt {o0 : Int} (C : zCtx p s m args meth c D cA base Xa E y q nL) (hd : decode q.2.1 pc = .ok (.ifCond .lt o0, zlen (.ifCond .lt o0) w)) (hn : zterm (.ifCond .lt o0) = true ∨ n = pc + zlen (.ifCond .lt o0) w) (hl : zlnk y pc q (.ifCond .lt o0) w ps = true) (he : zo_ifc .lt E cal w ps y n ls st h = some (.inl k')) (hW : zW p l e R s m args below meth c Q D cA base Xa nL n0 s0 k') : zW p l e R s m args below meth c Q D cA base Xa nL n0 s0 (y, pc, ls, st, h) := by
  obtain ⟨hx, hb, hml, hown, hts, hall, hK, hxt, hnw, hE, hbs, hnm⟩ := C
  have hn' : n = pc + 3 := by
    rcases hn with hn | hn
    · cases hn
    · exact hn
  subst hn'
  simp only [zo_ifc] at he
  split at he
  · rename_i t x r
    have ht : (pc : Int) + o0 = (t : Int) := of_decide_eq_true hl
    cases he
    intro ok H locs lsc hr hlv
    obtain ⟨o1, o2, o3⟩ := ok
    have ox := (o2 _ List.mem_cons_self : zin x)
    have oy := (by constructor <;> omega : zin 0)
    have hh := hW ⟨o1, fun v hv => o2 v (List.mem_cons_of_mem _ hv), o3⟩ H locs lsc hr hlv
    refine lv_if_lt hx hb hd ht (fun g => ?_) (fun g => ?_)
    · rw [show zcmp .lt x 0 = true from decide_eq_true ((z_ofInt_lt ox oy).mp g)] at hh
      exact hh
    · rw [show zcmp .lt x 0 = false from decide_eq_false (fun q0 => g ((z_ofInt_lt ox oy).mpr q0))] at hh
      exact hh
  · cases he
theorem zs_icmp_lt {o0 : Int} (C : zCtx p s m args meth c D cA base Xa E y q nL) (hd : decode q.2.1 pc = .ok (.if_icmp .lt o0, zlen (.if_icmp .lt o0) w)) (hn : zterm (.if_icmp .lt o0) = true ∨ n = pc + zlen (.if_icmp .lt o0) w) (hl : zlnk y pc q (.if_icmp .lt o0) w ps = true) (he : zo_icm .lt E cal w ps y n ls st h = some (.inl k')) (hW : zW p l e R s m args below meth c Q D cA base Xa nL n0 s0 k') : zW p l e R s m args below meth c Q D cA base Xa nL n0 s0 (y, pc, ls, st, h) := by
  obtain ⟨hx, hb, hml, hown, hts, hall, hK, hxt, hnw, hE, hbs, hnm⟩ := C
  have hn' : n = pc + 3 := by
    rcases hn with hn | hn
    · cases hn
    · exact hn
  subst hn'
  simp only [zo_icm] at he
  split at he
  · rename_i t b x r
    have ht : (pc : Int) + o0 = (t : Int) := of_decide_eq_true hl
    cases he
    intro ok H locs lsc hr hlv
    obtain ⟨o1, o2, o3⟩ := ok
    have ox := (o2 _ (List.mem_cons_of_mem _ List.mem_cons_self) : zin x)
    have oy := (o2 _ List.mem_cons_self : zin b)
    have hh := hW ⟨o1, fun v hv => o2 v (List.mem_cons_of_mem _ (List.mem_cons_of_mem _ hv)), o3⟩ H locs lsc hr hlv
    refine lv_icmp_lt hx hb hd ht (fun g => ?_) (fun g => ?_)
    · rw [show zcmp .lt x b = true from decide_eq_true ((z_ofInt_lt ox oy).mp g)] at hh
      exact hh
    · rw [show zcmp .lt x b = false from decide_eq_false (fun q0 => g ((z_ofInt_lt ox oy).mpr q0))] at hh
      exact hh
  · cases he
theorem zs_if_ge {o0 : Int} (C : zCtx p s m args meth c D cA base Xa E y q nL) (hd : decode q.2.1 pc = .ok (.ifCond .ge o0, zlen (.ifCond .ge o0) w)) (hn : zterm (.ifCond .ge o0) = true ∨ n = pc + zlen (.ifCond .ge o0) w) (hl : zlnk y pc q (.ifCond .ge o0) w ps = true) (he : zo_ifc .ge E cal w ps y n ls st h = some (.inl k')) (hW : zW p l e R s m args below meth c Q D cA base Xa nL n0 s0 k') : zW p l e R s m args below meth c Q D cA base Xa nL n0 s0 (y, pc, ls, st, h) := by
  obtain ⟨hx, hb, hml, hown, hts, hall, hK, hxt, hnw, hE, hbs, hnm⟩ := C
  have hn' : n = pc + 3 := by
    rcases hn with hn | hn
    · cases hn
    · exact hn
  subst hn'
  simp only [zo_ifc] at he
  split at he
  · rename_i t x r
    have ht : (pc : Int) + o0 = (t : Int) := of_decide_eq_true hl
    cases he
    intro ok H locs lsc hr hlv
    obtain ⟨o1, o2, o3⟩ := ok
    have ox := (o2 _ List.mem_cons_self : zin x)
    have oy := (by constructor <;> omega : zin 0)
    have hh := hW ⟨o1, fun v hv => o2 v (List.mem_cons_of_mem _ hv), o3⟩ H locs lsc hr hlv
    refine lv_if_ge hx hb hd ht (fun g => ?_) (fun g => ?_)
    · rw [show zcmp .ge x 0 = true from decide_eq_true ((z_ofInt_le oy ox).mp g)] at hh
      exact hh
    · rw [show zcmp .ge x 0 = false from decide_eq_false (fun q0 => g ((z_ofInt_le oy ox).mpr q0))] at hh
      exact hh
  · cases he
theorem zs_icmp_ge {o0 : Int} (C : zCtx p s m args meth c D cA base Xa E y q nL) (hd : decode q.2.1 pc = .ok (.if_icmp .ge o0, zlen (.if_icmp .ge o0) w)) (hn : zterm (.if_icmp .ge o0) = true ∨ n = pc + zlen (.if_icmp .ge o0) w) (hl : zlnk y pc q (.if_icmp .ge o0) w ps = true) (he : zo_icm .ge E cal w ps y n ls st h = some (.inl k')) (hW : zW p l e R s m args below meth c Q D cA base Xa nL n0 s0 k') : zW p l e R s m args below meth c Q D cA base Xa nL n0 s0 (y, pc, ls, st, h) := by
  obtain ⟨hx, hb, hml, hown, hts, hall, hK, hxt, hnw, hE, hbs, hnm⟩ := C
  have hn' : n = pc + 3 := by
    rcases hn with hn | hn
    · cases hn
    · exact hn
  subst hn'
  simp only [zo_icm] at he
  split at he
  · rename_i t b x r
    have ht : (pc : Int) + o0 = (t : Int) := of_decide_eq_true hl
    cases he
    intro ok H locs lsc hr hlv
    obtain ⟨o1, o2, o3⟩ := ok
    have ox := (o2 _ (List.mem_cons_of_mem _ List.mem_cons_self) : zin x)
    have oy := (o2 _ List.mem_cons_self : zin b)
    have hh := hW ⟨o1, fun v hv => o2 v (List.mem_cons_of_mem _ (List.mem_cons_of_mem _ hv)), o3⟩ H locs lsc hr hlv
    refine lv_icmp_ge hx hb hd ht (fun g => ?_) (fun g => ?_)
    · rw [show zcmp .ge x b = true from decide_eq_true ((z_ofInt_le oy ox).mp g)] at hh
      exact hh
    · rw [show zcmp .ge x b = false from decide_eq_false (fun q0 => g ((z_ofInt_le oy ox).mpr q0))] at hh
      exact hh
  · cases he
theorem zs_if_gt {o0 : Int} (C : zCtx p s m args meth c D cA base Xa E y q nL) (hd : decode q.2.1 pc = .ok (.ifCond .gt o0, zlen (.ifCond .gt o0) w)) (hn : zterm (.ifCond .gt o0) = true ∨ n = pc + zlen (.ifCond .gt o0) w) (hl : zlnk y pc q (.ifCond .gt o0) w ps = true) (he : zo_ifc .gt E cal w ps y n ls st h = some (.inl k')) (hW : zW p l e R s m args below meth c Q D cA base Xa nL n0 s0 k') : zW p l e R s m args below meth c Q D cA base Xa nL n0 s0 (y, pc, ls, st, h) := by
  obtain ⟨hx, hb, hml, hown, hts, hall, hK, hxt, hnw, hE, hbs, hnm⟩ := C
  have hn' : n = pc + 3 := by
    rcases hn with hn | hn
    · cases hn
    · exact hn
  subst hn'
  simp only [zo_ifc] at he
  split at he
  · rename_i t x r
    have ht : (pc : Int) + o0 = (t : Int) := of_decide_eq_true hl
    cases he
    intro ok H locs lsc hr hlv
    obtain ⟨o1, o2, o3⟩ := ok
    have ox := (o2 _ List.mem_cons_self : zin x)
    have oy := (by constructor <;> omega : zin 0)
    have hh := hW ⟨o1, fun v hv => o2 v (List.mem_cons_of_mem _ hv), o3⟩ H locs lsc hr hlv
    refine lv_if_gt hx hb hd ht (fun g => ?_) (fun g => ?_)
    · rw [show zcmp .gt x 0 = true from decide_eq_true ((z_ofInt_lt oy ox).mp g)] at hh
      exact hh
    · rw [show zcmp .gt x 0 = false from decide_eq_false (fun q0 => g ((z_ofInt_lt oy ox).mpr q0))] at hh
      exact hh
  · cases he
theorem zs_icmp_gt {o0 : Int} (C : zCtx p s m args meth c D cA base Xa E y q nL) (hd : decode q.2.1 pc = .ok (.if_icmp .gt o0, zlen (.if_icmp .gt o0) w)) (hn : zterm (.if_icmp .gt o0) = true ∨ n = pc + zlen (.if_icmp .gt o0) w) (hl : zlnk y pc q (.if_icmp .gt o0) w ps = true) (he : zo_icm .gt E cal w ps y n ls st h = some (.inl k')) (hW : zW p l e R s m args below meth c Q D cA base Xa nL n0 s0 k') : zW p l e R s m args below meth c Q D cA base Xa nL n0 s0 (y, pc, ls, st, h) := by
  obtain ⟨hx, hb, hml, hown, hts, hall, hK, hxt, hnw, hE, hbs, hnm⟩ := C
  have hn' : n = pc + 3 := by
    rcases hn with hn | hn
    · cases hn
    · exact hn
  subst hn'
  simp only [zo_icm] at he
  split at he
  · rename_i t b x r
    have ht : (pc : Int) + o0 = (t : Int) := of_decide_eq_true hl
    cases he
    intro ok H locs lsc hr hlv
    obtain ⟨o1, o2, o3⟩ := ok
    have ox := (o2 _ (List.mem_cons_of_mem _ List.mem_cons_self) : zin x)
    have oy := (o2 _ List.mem_cons_self : zin b)
    have hh := hW ⟨o1, fun v hv => o2 v (List.mem_cons_of_mem _ (List.mem_cons_of_mem _ hv)), o3⟩ H locs lsc hr hlv
    refine lv_icmp_gt hx hb hd ht (fun g => ?_) (fun g => ?_)
    · rw [show zcmp .gt x b = true from decide_eq_true ((z_ofInt_lt oy ox).mp g)] at hh
      exact hh
    · rw [show zcmp .gt x b = false from decide_eq_false (fun q0 => g ((z_ofInt_lt oy ox).mpr q0))] at hh
      exact hh
  · cases he
theorem zs_if_le {o0 : Int} (C : zCtx p s m args meth c D cA base Xa E y q nL) (hd : decode q.2.1 pc = .ok (.ifCond .le o0, zlen (.ifCond .le o0) w)) (hn : zterm (.ifCond .le o0) = true ∨ n = pc + zlen (.ifCond .le o0) w) (hl : zlnk y pc q (.ifCond .le o0) w ps = true) (he : zo_ifc .le E cal w ps y n ls st h = some (.inl k')) (hW : zW p l e R s m args below meth c Q D cA base Xa nL n0 s0 k') : zW p l e R s m args below meth c Q D cA base Xa nL n0 s0 (y, pc, ls, st, h) := by
  obtain ⟨hx, hb, hml, hown, hts, hall, hK, hxt, hnw, hE, hbs, hnm⟩ := C
  have hn' : n = pc + 3 := by
    rcases hn with hn | hn
    · cases hn
    · exact hn
  subst hn'
  simp only [zo_ifc] at he
  split at he
  · rename_i t x r
    have ht : (pc : Int) + o0 = (t : Int) := of_decide_eq_true hl
    cases he
    intro ok H locs lsc hr hlv
    obtain ⟨o1, o2, o3⟩ := ok
    have ox := (o2 _ List.mem_cons_self : zin x)
    have oy := (by constructor <;> omega : zin 0)
    have hh := hW ⟨o1, fun v hv => o2 v (List.mem_cons_of_mem _ hv), o3⟩ H locs lsc hr hlv
    refine lv_if_le hx hb hd ht (fun g => ?_) (fun g => ?_)
    · rw [show zcmp .le x 0 = true from decide_eq_true ((z_ofInt_le ox oy).mp g)] at hh
      exact hh
    · rw [show zcmp .le x 0 = false from decide_eq_false (fun q0 => g ((z_ofInt_le ox oy).mpr q0))] at hh
      exact hh
  · cases he
theorem zs_icmp_le {o0 : Int} (C : zCtx p s m args meth c D cA base Xa E y q nL) (hd : decode q.2.1 pc = .ok (.if_icmp .le o0, zlen (.if_icmp .le o0) w)) (hn : zterm (.if_icmp .le o0) = true ∨ n = pc + zlen (.if_icmp .le o0) w) (hl : zlnk y pc q (.if_icmp .le o0) w ps = true) (he : zo_icm .le E cal w ps y n ls st h = some (.inl k')) (hW : zW p l e R s m args below meth c Q D cA base Xa nL n0 s0 k') : zW p l e R s m args below meth c Q D cA base Xa nL n0 s0 (y, pc, ls, st, h) := by
  obtain ⟨hx, hb, hml, hown, hts, hall, hK, hxt, hnw, hE, hbs, hnm⟩ := C
  have hn' : n = pc + 3 := by
    rcases hn with hn | hn
    · cases hn
    · exact hn
  subst hn'
  simp only [zo_icm] at he
  split at he
  · rename_i t b x r
    have ht : (pc : Int) + o0 = (t : Int) := of_decide_eq_true hl
    cases he
    intro ok H locs lsc hr hlv
    obtain ⟨o1, o2, o3⟩ := ok
    have ox := (o2 _ (List.mem_cons_of_mem _ List.mem_cons_self) : zin x)
    have oy := (o2 _ List.mem_cons_self : zin b)
    have hh := hW ⟨o1, fun v hv => o2 v (List.mem_cons_of_mem _ (List.mem_cons_of_mem _ hv)), o3⟩ H locs lsc hr hlv
    refine lv_icmp_le hx hb hd ht (fun g => ?_) (fun g => ?_)
    · rw [show zcmp .le x b = true from decide_eq_true ((z_ofInt_le ox oy).mp g)] at hh
      exact hh
    · rw [show zcmp .le x b = false from decide_eq_false (fun q0 => g ((z_ofInt_le ox oy).mpr q0))] at hh
      exact hh
  · cases he
theorem zs_goto {o0 : Int} (C : zCtx p s m args meth c D cA base Xa E y q nL) (hd : decode q.2.1 pc = .ok (.goto o0, zlen (.goto o0) w)) (hn : zterm (.goto o0) = true ∨ n = pc + zlen (.goto o0) w) (hl : zlnk y pc q (.goto o0) w ps = true) (he : zo_got E cal w ps y n ls st h = some (.inl k')) (hW : zW p l e R s m args below meth c Q D cA base Xa nL n0 s0 k') : zW p l e R s m args below meth c Q D cA base Xa nL n0 s0 (y, pc, ls, st, h) := by
  obtain ⟨hx, hb, hml, hown, hts, hall, hK, hxt, hnw, hE, hbs, hnm⟩ := C
  simp only [zo_got] at he
  split at he
  · rename_i t
    have ht : (pc : Int) + o0 = (t : Int) := of_decide_eq_true hl
    cases he
    intro ok H locs lsc hr hlv
    exact lv_goto hx hb hd ht (hW ok H locs lsc hr hlv)
  · cases he
end
end
section
/-! steps that touch the heap -/
theorem zarr_spec {h : zH} {a t l : Nat} (e : zarr h a t = some l) : ∃ k r, a = k + 5 ∧ h.2.2[k]? = some (t, l, r) := by
  unfold zarr at e
  split at e
  · cases e
  · rename_i ha
    split at e
    · rename_i q hq
      split at e
      · rename_i ht
        cases e
        obtain ⟨t', l', r⟩ := q
        simp only at ht
        subst ht
        exact ⟨a - 5, r, by omega, hq⟩
      · cases e
    · cases e
theorem zobj_spec {h : zH} {a ci : Nat} {q : Nat × List Nat} (e : zobj h a ci = some q) : ∃ k, a = k + 5 ∧ h.2.2[k]? = some (3 + ci, q.1, q.2) := by
  unfold zobj at e
  split at e
  · cases e
  · rename_i ha
    split at e
    · rename_i q' hq
      split at e
      · rename_i ht
        cases e
        obtain ⟨t', l'⟩ := q'
        simp only at ht
        subst ht
        exact ⟨a - 5, by omega, hq⟩
      · cases e
    · cases e
theorem zcv_cell (base : Nat) (Xa : Nat → Nat) (k : Nat) : zcv base Xa (.inr (.inr (k + 5))) = .ref (base + k) := by
  show Value.ref (zadr base Xa (k + 4 + 1)) = _
  unfold zadr
  rw [if_neg (by omega)]
  congr 1
theorem zcv_ext (base : Nat) (Xa : Nat → Nat) {a : Nat} (h1 : 1 ≤ a) (h2 : a < 5) : zcv base Xa (.inr (.inr a)) = .ref (Xa a) := by
  obtain ⟨k, rfl⟩ : ∃ k, a = k + 1 := ⟨a - 1, by omega⟩
  show Value.ref (zadr base Xa (k + 1)) = _
  unfold zadr
  rw [if_pos h2]
theorem zws_cell {base : Nat} {Xa : Nat → Nat} {cA : Nat → ClassId} {h : zH} {k : Nat} {q : Nat × Nat × List Nat} (hq : h.2.2[k]? = some q) : (zws base Xa cA h)[k]? = some (base + k, zce base Xa cA h q (k + 5)) := by
  rw [zws_at, hq]; rfl
section
variable {p : Program} {l : Launch} {e : Env} {R : Room} {s : State} {m : MethodId} {args : Array Value} {below : List Frame} {meth : Method} {c : Code} {Q : State → Prop}
variable {D : va_G} {cA : Nat → ClassId} {base : Nat} {Xa : Nat → Nat} {E : Nat → Nat × (Nat → Int)} {y : Nat} {q : zq} {nL n0 s0 : Nat} {cal : zcal} {pc n : Nat} {ls st : List zV} {h : zH} {w : List Nat} {ps : List (Int × Nat)} {k' : zC}
/-- one cell was written -/
theorem zRel_put {h' : zH} {H H' : Heap} {locs : List Loc} {k j : Nat} {r r' : Nat × Nat × List Nat} {el : va_E} (hr : zRel s D cA base Xa h H locs) (hq : h.2.2[k]? = some r) (hs : h'.2.2 = h.2.2.set k r') (hz : zce base Xa cA h' r' (k + 5) = el)
    (hf : ∀ j t, j ≠ k → h.2.2[j]? = some t → zce base Xa cA h' t (j + 5) = zce base Xa cA h t (j + 5)) (hat : va_at D zcl (base + k, el) H') (hsz : H'.size = H.size) (ho : ∀ x : Nat, x ≠ base + k → H'[x]? = H[x]?) :
    zRel s D cA base Xa h' H' (locs ++ [⟨base + k, j⟩]) := by
  obtain ⟨hP, hS1, hS⟩ := hr
  refine ⟨?_, fun hl => ?_, hS.put hsz ho (Nat.le_add_right _ _)⟩
  · rw [← zws_set hq hs hz hf]
    exact hP.set (zws_D base Xa cA h) (zws_cell hq) hat ho
  · have : h'.2.2.length = h.2.2.length := by rw [hs, List.length_set]
    rw [hsz, this]
    exact hS1 (by rw [← this]; exact hl)
theorem zset_same {α : Type} {σ : List α} {k : Nat} {r : α} (hq : σ[k]? = some r) : σ = σ.set k r := by
  apply List.ext_getElem?
  intro j
  by_cases hj : j = k
  · subst hj
    rw [List.getElem?_set_self (List.getElem?_eq_some_iff.mp hq).1, hq]
  · rw [List.getElem?_set_ne (Ne.symm hj)]
theorem zup_far {F : zM} {k a j : Nat} {v : Int} (hk : a ≠ k) : ∀ b, zup F k j v a b = F a b := fun b => by simp [zup, hk]
theorem zug_far {F : zG} {k a j : Nat} {v : BitVec 64} (hk : a ≠ k) : ∀ b, zug F k j v a b = F a b := fun b => by simp [zug, hk]
theorem zup_ok {F : zM} {k j : Nat} {v : Int} (h : ∀ a b, zin (F a b)) (hv : zin v) : ∀ a b, zin (zup F k j v a b) := by
  intro a b
  unfold zup
  split
  · exact hv
  · exact h a b
theorem z_upd {F : zM} {k j : Nat} {v : Int} : (fun b => Int32.ofInt (zup F k j v k b)) = upd (fun b => Int32.ofInt (F k b)) j (Int32.ofInt v) := by
  funext b
  unfold zup upd
  by_cases hb : b = j <;> simp [hb]
theorem z_updL {F : zG} {k j : Nat} {v : BitVec 64} : (fun b => Int64.ofBitVec (zug F k j v k b)) = vp_updL (fun b => Int64.ofBitVec (F k b)) j (Int64.ofBitVec v) := by
  funext b
  unfold zug vp_updL
  by_cases hb : b = j <;> simp [hb]
theorem zs_iaload (C : zCtx p s m args meth c D cA base Xa E y q nL) (hd : decode q.2.1 pc = .ok (.iaload, zlen (.iaload) w)) (hn : zterm (.iaload) = true ∨ n = pc + zlen (.iaload) w) (he : zo_ald 0 E cal w ps y n ls st h = some (.inl k')) (hW : zW p l e R s m args below meth c Q D cA base Xa nL n0 s0 k') : zW p l e R s m args below meth c Q D cA base Xa nL n0 s0 (y, pc, ls, st, h) := by
  obtain ⟨hx, hb, hml, hown, hts, hall, hK, hxt, hnw, hE, hbs, hnm⟩ := C
  have hn' : n = pc + 1 := by
    rcases hn with hn | hn
    · cases hn
    · exact hn
  subst hn'
  simp only [zo_ald] at he
  split at he
  · rename_i i a r
    intro ok H locs lsc hr hlv
    obtain ⟨o1, o2, o3⟩ := ok
    have oi : zin i := o2 _ List.mem_cons_self
    have o2r : ∀ v ∈ r, zok v := fun v hv => o2 v (List.mem_cons_of_mem _ (List.mem_cons_of_mem _ hv))
    split at he
    · rename_i ha5
      split at he
      · rename_i hc
        obtain ⟨-, h1a, hi0, hi1⟩ := hc
        cases he
        have hE1 : a = 1 → (E 0).1 = 1 := by
          intro ha
          subst ha
          by_cases hz : (E 0).1 = 1
          · exact hz
          · rw [hE.2.2.1 hz] at hi1
            omega
        have hX := hxt.1 a h1a ha5 hE1
        have hXb := hxt.2.1 a h1a ha5
        have hh := hW ⟨o1, fun v hv => ?_, o3⟩ H locs lsc hr hlv
        · show W p l e R s m args below meth c H locs _ _ Q (F0 m pc lsc (zcv base Xa (.inl i) :: zcv base Xa (.inr (.inr a)) :: r.map (zcv base Xa)))
          rw [zcv_ext base Xa h1a ha5]
          refine va_sld hx hb hX (by omega) (by show ¬ base ≤ Xa a; omega) hr.2.2 (z_vp_in oi hi0 hi1) hd ?_
          simp only [z_nat oi]
          exact hh
        · rcases List.mem_cons.mp hv with h1 | h1
          · rw [h1]; exact hE.1 a _
          · exact o2r v h1
      · cases he
    · split at he
      · rename_i ln hz
        split at he
        · rename_i hc
          cases he
          obtain ⟨k, rr, rfl, hq⟩ := zarr_spec hz
          have hh := hW ⟨o1, fun v hv => ?_, o3⟩ H locs lsc hr hlv
          · show W p l e R s m args below meth c H locs _ _ Q (F0 m pc lsc (zcv base Xa (.inl i) :: zcv base Xa (.inr (.inr (k + 5))) :: r.map (zcv base Xa)))
            rw [zcv_cell]
            refine va_iald hx hb hK hr.1 k 0 (zws_cell hq) rfl (z_vp_in oi hc.1 hc.2) hd ?_
            rw [z_nat oi]
            exact hh
          · rcases List.mem_cons.mp hv with h1 | h1
            · rw [h1]; exact o3.1 _ _
            · exact o2r v h1
        · cases he
      · cases he
  · cases he
theorem zs_baload (C : zCtx p s m args meth c D cA base Xa E y q nL) (hd : decode q.2.1 pc = .ok (.baload, zlen (.baload) w)) (hn : zterm (.baload) = true ∨ n = pc + zlen (.baload) w) (he : zo_ald 1 E cal w ps y n ls st h = some (.inl k')) (hW : zW p l e R s m args below meth c Q D cA base Xa nL n0 s0 k') : zW p l e R s m args below meth c Q D cA base Xa nL n0 s0 (y, pc, ls, st, h) := by
  obtain ⟨hx, hb, hml, hown, hts, hall, hK, hxt, hnw, hE, hbs, hnm⟩ := C
  have hn' : n = pc + 1 := by
    rcases hn with hn | hn
    · cases hn
    · exact hn
  subst hn'
  simp only [zo_ald] at he
  split at he
  · rename_i i a r
    intro ok H locs lsc hr hlv
    obtain ⟨o1, o2, o3⟩ := ok
    have oi : zin i := o2 _ List.mem_cons_self
    have o2r : ∀ v ∈ r, zok v := fun v hv => o2 v (List.mem_cons_of_mem _ (List.mem_cons_of_mem _ hv))
    split at he
    · split at he
      · rename_i hc
        exact absurd hc.1 (by decide)
      · cases he
    · split at he
      · rename_i ln hz
        split at he
        · rename_i hc
          cases he
          obtain ⟨k, rr, rfl, hq⟩ := zarr_spec hz
          have hh := hW ⟨o1, fun v hv => ?_, o3⟩ H locs lsc hr hlv
          · show W p l e R s m args below meth c H locs _ _ Q (F0 m pc lsc (zcv base Xa (.inl i) :: zcv base Xa (.inr (.inr (k + 5))) :: r.map (zcv base Xa)))
            rw [zcv_cell]
            refine va_zald hx hb hK hr.1 k 1 (zws_cell hq) rfl (z_vp_in oi hc.1 hc.2) hd ?_
            rw [z_nat oi]
            exact hh
          · rcases List.mem_cons.mp hv with h1 | h1
            · rw [h1]; exact o3.1 _ _
            · exact o2r v h1
        · cases he
      · cases he
  · cases he
theorem zs_laload (C : zCtx p s m args meth c D cA base Xa E y q nL) (hd : decode q.2.1 pc = .ok (.laload, zlen (.laload) w)) (hn : zterm (.laload) = true ∨ n = pc + zlen (.laload) w) (he : zo_lld E cal w ps y n ls st h = some (.inl k')) (hW : zW p l e R s m args below meth c Q D cA base Xa nL n0 s0 k') : zW p l e R s m args below meth c Q D cA base Xa nL n0 s0 (y, pc, ls, st, h) := by
  obtain ⟨hx, hb, hml, hown, hts, hall, hK, hxt, hnw, hE, hbs, hnm⟩ := C
  have hn' : n = pc + 1 := by
    rcases hn with hn | hn
    · cases hn
    · exact hn
  subst hn'
  simp only [zo_lld] at he
  split at he
  · rename_i i a r
    intro ok H locs lsc hr hlv
    obtain ⟨o1, o2, o3⟩ := ok
    have oi : zin i := o2 _ List.mem_cons_self
    have o2r : ∀ v ∈ r, zok v := fun v hv => o2 v (List.mem_cons_of_mem _ (List.mem_cons_of_mem _ hv))
    split at he
    · rename_i ln hz
      split at he
      · rename_i hc
        cases he
        obtain ⟨k, rr, rfl, hq⟩ := zarr_spec hz
        have hh := hW ⟨o1, fun v hv => ?_, o3⟩ H locs lsc hr hlv
        · show W p l e R s m args below meth c H locs _ _ Q (F0 m pc lsc (zcv base Xa (.inl i) :: zcv base Xa (.inr (.inr (k + 5))) :: r.map (zcv base Xa)))
          rw [zcv_cell]
          refine va_lald hx hb hK hr.1 k 2 (zws_cell hq) rfl (z_vp_in oi hc.1 hc.2) hd ?_
          rw [z_nat oi]
          exact hh
        · rcases List.mem_cons.mp hv with h1 | h1
          · rw [h1]; trivial
          · exact o2r v h1
      · cases he
    · cases he
  · cases he
theorem zs_iastore (C : zCtx p s m args meth c D cA base Xa E y q nL) (hd : decode q.2.1 pc = .ok (.iastore, zlen (.iastore) w)) (hn : zterm (.iastore) = true ∨ n = pc + zlen (.iastore) w) (he : zo_ast 0 E cal w ps y n ls st h = some (.inl k')) (hW : zW p l e R s m args below meth c Q D cA base Xa nL n0 s0 k') : zW p l e R s m args below meth c Q D cA base Xa nL n0 s0 (y, pc, ls, st, h) := by
  obtain ⟨hx, hb, hml, hown, hts, hall, hK, hxt, hnw, hE, hbs, hnm⟩ := C
  have hn' : n = pc + 1 := by
    rcases hn with hn | hn
    · cases hn
    · exact hn
  subst hn'
  simp only [zo_ast] at he
  split at he
  · rename_i x i a r
    intro ok H locs lsc hr hlv
    obtain ⟨o1, o2, o3⟩ := ok
    have ox : zin x := o2 _ List.mem_cons_self
    have oi : zin i := o2 _ (List.mem_cons_of_mem _ List.mem_cons_self)
    have o2r : ∀ v ∈ r, zok v := fun v hv => o2 v (List.mem_cons_of_mem _ (List.mem_cons_of_mem _ (List.mem_cons_of_mem _ hv)))
    split at he
    · rename_i ln hz
      split at he
      · rename_i hc
        cases he
        obtain ⟨k, rr, rfl, hq⟩ := zarr_spec hz
        show W p l e R s m args below meth c H locs _ _ Q (F0 m pc lsc (zcv base Xa (.inl x) :: zcv base Xa (.inl i) :: zcv base Xa (.inr (.inr (k + 5))) :: r.map (zcv base Xa)))
        rw [zcv_cell]
        have hcell : H[base + k]? = some (vp_cell (cA 0) (ln, .inl (fun j => Int32.ofInt (h.1 (k + 5) j)))) := hr.1 k _ (zws_cell hq)
        have hin := z_vp_in oi hc.1 hc.2.1
        refine W.iast hx hb hcell ((hK.2 0 _ rfl).1 ln (fun j => .int (Int32.ofInt (h.1 (k + 5) j)))) (fun q => by cases q) (by show ¬ (_ < 0 ∨ (arrV _ _ _).slots.size ≤ _); rw [arrV_size]; exact hin) rfl rfl hd fun H1 e1 z1 oq => ?_
        refine hW ⟨o1, o2r, zup_ok o3.1 ox, o3.2.1, o3.2.2.1, o3.2.2.2⟩ H1 _ lsc ?_ hlv
        refine zRel_put hr hq (zset_same hq) rfl (fun j t hj ht => zce_far (zup_far (by omega)) (fun _ => rfl)) ?_ z1 oq
        show H1[base + k]? = some (vp_cell (cA 0) (ln, .inl (fun j => Int32.ofInt (zup h.1 (k + 5) i.toNat x (k + 5) j))))
        rw [e1, z_upd, vp_cell_i, vp_cell_i, arrV_store, z_nat oi]
        congr 2
        funext b
        by_cases hb2 : b = i.toNat
        · subst hb2
          simp [updV, upd]
        · simp [updV, upd, hb2]
      · cases he
    · cases he
  · cases he
theorem zs_bastore (C : zCtx p s m args meth c D cA base Xa E y q nL) (hd : decode q.2.1 pc = .ok (.bastore, zlen (.bastore) w)) (hn : zterm (.bastore) = true ∨ n = pc + zlen (.bastore) w) (he : zo_ast 1 E cal w ps y n ls st h = some (.inl k')) (hW : zW p l e R s m args below meth c Q D cA base Xa nL n0 s0 k') : zW p l e R s m args below meth c Q D cA base Xa nL n0 s0 (y, pc, ls, st, h) := by
  obtain ⟨hx, hb, hml, hown, hts, hall, hK, hxt, hnw, hE, hbs, hnm⟩ := C
  have hn' : n = pc + 1 := by
    rcases hn with hn | hn
    · cases hn
    · exact hn
  subst hn'
  simp only [zo_ast] at he
  split at he
  · rename_i x i a r
    intro ok H locs lsc hr hlv
    obtain ⟨o1, o2, o3⟩ := ok
    have ox : zin x := o2 _ List.mem_cons_self
    have oi : zin i := o2 _ (List.mem_cons_of_mem _ List.mem_cons_self)
    have o2r : ∀ v ∈ r, zok v := fun v hv => o2 v (List.mem_cons_of_mem _ (List.mem_cons_of_mem _ (List.mem_cons_of_mem _ hv)))
    split at he
    · rename_i ln hz
      split at he
      · rename_i hc
        cases he
        obtain ⟨k, rr, rfl, hq⟩ := zarr_spec hz
        have hx01 := hc.2.2 trivial
        show W p l e R s m args below meth c H locs _ _ Q (F0 m pc lsc (zcv base Xa (.inl x) :: zcv base Xa (.inl i) :: zcv base Xa (.inr (.inr (k + 5))) :: r.map (zcv base Xa)))
        rw [zcv_cell]
        have hcell : H[base + k]? = some (vp_cell (cA 1) (ln, .inl (fun j => Int32.ofInt (h.1 (k + 5) j)))) := hr.1 k _ (zws_cell hq)
        have hin := z_vp_in oi hc.1 hc.2.1
        refine W.zast hx hb hcell ((hK.2 1 _ rfl).1 ln (fun j => .int (Int32.ofInt (h.1 (k + 5) j)))) (fun q => by cases q) (by show ¬ (_ < 0 ∨ (arrV _ _ _).slots.size ≤ _); rw [arrV_size]; exact hin) rfl rfl hd fun H1 e1 z1 oq => ?_
        refine hW ⟨o1, o2r, zup_ok o3.1 ox, o3.2.1, o3.2.2.1, o3.2.2.2⟩ H1 _ lsc ?_ hlv
        refine zRel_put hr hq (zset_same hq) rfl (fun j t hj ht => zce_far (zup_far (by omega)) (fun _ => rfl)) ?_ z1 oq
        show H1[base + k]? = some (vp_cell (cA 1) (ln, .inl (fun j => Int32.ofInt (zup h.1 (k + 5) i.toNat x (k + 5) j))))
        have hnar : narrow .boolean (.int (Int32.ofInt x)) = .int (Int32.ofInt x) := by rcases hx01 with rfl | rfl <;> rfl
        rw [e1, hnar, z_upd, vp_cell_i, vp_cell_i, arrV_store, z_nat oi]
        congr 2
        funext b
        by_cases hb2 : b = i.toNat
        · subst hb2
          simp [updV, upd]
        · simp [updV, upd, hb2]
      · cases he
    · cases he
  · cases he
theorem zs_lastore (C : zCtx p s m args meth c D cA base Xa E y q nL) (hd : decode q.2.1 pc = .ok (.lastore, zlen (.lastore) w)) (hn : zterm (.lastore) = true ∨ n = pc + zlen (.lastore) w) (he : zo_lst E cal w ps y n ls st h = some (.inl k')) (hW : zW p l e R s m args below meth c Q D cA base Xa nL n0 s0 k') : zW p l e R s m args below meth c Q D cA base Xa nL n0 s0 (y, pc, ls, st, h) := by
  obtain ⟨hx, hb, hml, hown, hts, hall, hK, hxt, hnw, hE, hbs, hnm⟩ := C
  have hn' : n = pc + 1 := by
    rcases hn with hn | hn
    · cases hn
    · exact hn
  subst hn'
  simp only [zo_lst] at he
  split at he
  · rename_i x i a r
    intro ok H locs lsc hr hlv
    obtain ⟨o1, o2, o3⟩ := ok
    have oi : zin i := o2 _ (List.mem_cons_of_mem _ List.mem_cons_self)
    have o2r : ∀ v ∈ r, zok v := fun v hv => o2 v (List.mem_cons_of_mem _ (List.mem_cons_of_mem _ (List.mem_cons_of_mem _ hv)))
    split at he
    · rename_i ln hz
      split at he
      · rename_i hc
        cases he
        obtain ⟨k, rr, rfl, hq⟩ := zarr_spec hz
        show W p l e R s m args below meth c H locs _ _ Q (F0 m pc lsc (zcv base Xa (.inr (.inl x)) :: zcv base Xa (.inl i) :: zcv base Xa (.inr (.inr (k + 5))) :: r.map (zcv base Xa)))
        rw [zcv_cell]
        have hcell : H[base + k]? = some (vp_cell (cA 2) (ln, .inr (.inl (fun j => Int64.ofBitVec (h.2.1 (k + 5) j))))) := hr.1 k _ (zws_cell hq)
        have hin := z_vp_in oi hc.1 hc.2
        refine W.last hx hb hcell ((hK.2 2 _ rfl).1 ln (fun j => .long (Int64.ofBitVec (h.2.1 (k + 5) j)))) (fun q => by cases q) (by show ¬ (_ < 0 ∨ (arrV _ _ _).slots.size ≤ _); rw [arrV_size]; exact hin) rfl rfl hd fun H1 e1 z1 oq => ?_
        refine hW ⟨o1, o2r, o3.1, o3.2.1, o3.2.2.1, o3.2.2.2⟩ H1 _ lsc ?_ hlv
        refine zRel_put hr hq (zset_same hq) rfl (fun j t hj ht => zce_far (fun _ => rfl) (zug_far (by omega))) ?_ z1 oq
        show H1[base + k]? = some (vp_cell (cA 2) (ln, .inr (.inl (fun j => Int64.ofBitVec (zug h.2.1 (k + 5) i.toNat x (k + 5) j)))))
        rw [e1, z_updL, vp_cell_l, vp_cell_l, arrV_store, z_nat oi]
        congr 2
        funext b
        by_cases hb2 : b = i.toNat
        · subst hb2
          simp [updV, vp_updL]
        · simp [updV, vp_updL, hb2]
      · cases he
    · cases he
  · cases he
theorem zs_alen (C : zCtx p s m args meth c D cA base Xa E y q nL) (hd : decode q.2.1 pc = .ok (.arraylength, zlen (.arraylength) w)) (hn : zterm (.arraylength) = true ∨ n = pc + zlen (.arraylength) w) (he : zo_len E cal w ps y n ls st h = some (.inl k')) (hW : zW p l e R s m args below meth c Q D cA base Xa nL n0 s0 k') : zW p l e R s m args below meth c Q D cA base Xa nL n0 s0 (y, pc, ls, st, h) := by
  obtain ⟨hx, hb, hml, hown, hts, hall, hK, hxt, hnw, hE, hbs, hnm⟩ := C
  have hn' : n = pc + 1 := by
    rcases hn with hn | hn
    · cases hn
    · exact hn
  subst hn'
  simp only [zo_len] at he
  split at he
  · rename_i a r
    split at he
    · rename_i hc
      obtain ⟨rfl, hE0⟩ := hc
      cases he
      intro ok H locs lsc hr hlv
      obtain ⟨o1, o2, o3⟩ := ok
      have hX := hxt.1 1 (by omega) (by omega) (fun _ => hE0)
      have hXb := hxt.2.1 1 (by omega) (by omega)
      have hlt := hE.2.1 hE0
      have hh := hW ⟨o1, fun v hv => ?_, o3⟩ H locs lsc hr hlv
      · show W p l e R s m args below meth c H locs _ _ Q (F0 m pc lsc (zcv base Xa (.inr (.inr 1)) :: r.map (zcv base Xa)))
        rw [zcv_ext base Xa (by omega) (by omega)]
        refine va_slen hx hb hX (by omega) (by show ¬ base ≤ Xa 1; omega) hr.2.2 hd ?_
        exact hh
      · rcases List.mem_cons.mp hv with h1 | h1
        · rw [h1]; show zin _; constructor <;> omega
        · exact o2 v (List.mem_cons_of_mem _ h1)
    · cases he
  · cases he
end
end
section
/-! fields, statics, new cells, arraycopy -/
theorem zce_obj {base : Nat} {Xa : Nat → Nat} {cA : Nat → ClassId} {h : zH} {ci N a : Nat} {rs : List Nat} : zce base Xa cA h (3 + ci, N, rs) a = .inr (ci, (List.range N).map (zfv base Xa h a ci rs)) := by
  rw [Nat.add_comm]; rfl
theorem zrange_at {N j : Nat} {f : Nat → Value} (hj : j < N) : ((List.range N).map f)[j]? = some (f j) := by
  rw [List.getElem?_map, List.getElem?_range hj]; rfl
theorem zrange_set {N j : Nat} {f f' : Nat → Value} {v : Value} (hj : j < N) (h1 : f' j = v) (h2 : ∀ i, i ≠ j → f' i = f i) : (List.range N).map f' = ((List.range N).map f).set j v := by
  apply List.ext_getElem?
  intro i
  by_cases hi : i = j
  · subst hi
    rw [List.getElem?_set_self (by simpa using hj), zrange_at hj, h1]
  · rw [List.getElem?_set_ne (Ne.symm hi), List.getElem?_map, List.getElem?_map]
    cases h9 : (List.range N)[i]? with
    | none => rfl
    | some x =>
      have hx : x = i := by
        rw [List.getElem?_eq_some_iff] at h9
        obtain ⟨h10, h11⟩ := h9
        rw [List.getElem_range] at h11
        exact h11.symm
      subst hx
      simp [h2 x hi]
theorem zcd_of {ci j : Nat} (hc : ci < 11) (hj : j < znf ci) : parseFieldDescriptor (zTf ci j).2.2.1 = some (zty ci j) ∧ ztk (zty ci j) = ztag ci j ∧ (zTf ci j).1 = zon ci ∧ ∀ i, i < znf ci → j ≠ i → (zTf ci j).2.1 ≠ (zTf ci i).2.1 := by
  have h1 := List.all_eq_true.mp zl_CD ci (List.mem_range.mpr hc)
  unfold zcd at h1
  have h2 := List.all_eq_true.mp h1 j (List.mem_range.mpr hj)
  simp only [Bool.and_eq_true, decide_eq_true_eq, List.all_eq_true, Bool.or_eq_true] at h2
  obtain ⟨⟨⟨a1, a2⟩, a3⟩, a4⟩ := h2
  refine ⟨a1, Nat.eq_of_beq_eq_true a2, a3, fun i hi hne => ?_⟩
  rcases a4 i (List.mem_range.mpr hi) with h3 | h3
  · exact absurd (Nat.eq_of_beq_eq_true h3) hne
  · exact h3
theorem zin_ws {ci : Nat} (hc : ci < 11) : ∀ w ∈ u_ws (zon ci) (zTf ci) (znf ci), w ∈ zws0 := by
  intro w hw
  refine zws0_t (zl_in ci hc w hw) ?_
  obtain ⟨k, -, rfl⟩ := List.mem_map.mp hw
  unfold u_lay
  split <;> rfl
theorem zft_of {own k ci j : Nat} (h : zFT.any (fun r => Nat.beq r.1 own && Nat.beq r.2.1 k && Nat.beq r.2.2.1 ci && Nat.beq r.2.2.2.1 j) = true) : Jvm.Cond.fieldLink (zon own) k (zTf ci j).1 (zTf ci j).2.1 (zTf ci j).2.2.1 ∈ zws0 := by
  simp only [List.any_eq_true, Bool.and_eq_true] at h
  obtain ⟨r, hr, ⟨⟨h1, h2⟩, h3⟩, h4⟩ := h
  have h5 := List.all_eq_true.mp zl_FT r hr
  unfold zft at h5
  have h6 := of_decide_eq_true h5
  rw [Nat.eq_of_beq_eq_true h1, Nat.eq_of_beq_eq_true h2, Nat.eq_of_beq_eq_true h3, Nat.eq_of_beq_eq_true h4] at h6
  exact zws0_t (List.mem_of_getElem? h6) rfl
theorem z_blt {a b : Nat} (h : Nat.blt a b = true) : a < b := Nat.le_of_ble_eq_true h
section
variable {p : Program} {l : Launch} {e : Env} {R : Room} {s : State} {m : MethodId} {args : Array Value} {below : List Frame} {meth : Method} {c : Code} {Q : State → Prop}
variable {D : va_G} {cA : Nat → ClassId} {base : Nat} {Xa : Nat → Nat} {E : Nat → Nat × (Nat → Int)} {y : Nat} {q : zq} {nL n0 s0 : Nat} {cal : zcal} {pc n : Nat} {ls st : List zV} {h : zH} {w : List Nat} {ps : List (Int × Nat)} {k' : zC}
theorem zs_getfield {z : Nat} (C : zCtx p s m args meth c D cA base Xa E y q nL) (hd : decode q.2.1 pc = .ok (.getfield z, zlen (.getfield z) w)) (hn : zterm (.getfield z) = true ∨ n = pc + zlen (.getfield z) w) (hl : zlnk y pc q (.getfield z) w ps = true) (he : zo_gf E cal w ps y n ls st h = some (.inl k')) (hW : zW p l e R s m args below meth c Q D cA base Xa nL n0 s0 k') : zW p l e R s m args below meth c Q D cA base Xa nL n0 s0 (y, pc, ls, st, h) := by
  obtain ⟨hx, hb, hml, hown, hts, hall, hK, hxt, hnw, hE, hbs, hnm⟩ := C
  have hn' : n = pc + 3 := by
    rcases hn with hn | hn
    · cases hn
    · exact hn
  subst hn'
  simp only [zo_gf] at he
  split at he
  · rename_i ci j t a r
    simp only [zlnk, Bool.and_eq_true] at hl
    obtain ⟨⟨⟨l1, l2⟩, l3⟩, l4⟩ := hl
    have hci := z_blt l4
    have hjN := z_blt l3
    have htag : t = ztag ci j := Nat.eq_of_beq_eq_true l2
    split at he
    · rename_i q0 hz
      obtain ⟨k, rfl, hq⟩ := zobj_spec hz
      split at he
      · rename_i hj
        intro ok H locs lsc hr hlv
        obtain ⟨o1, o2, o3⟩ := ok
        have o2r : ∀ v ∈ r, zok v := fun v hv => o2 v (List.mem_cons_of_mem _ hv)
        have key : ∀ v : zV, zok v → zfv base Xa h (k + 5) ci q0.2 j = zcv base Xa v → (some (Sum.inl (y, pc + 3, ls, v :: r, h)) : zT) = some (Sum.inl k') → W p l e R s m args below meth c H locs (h.2.2.length - n0) (zsl h - s0) Q (F0 m pc lsc (zcv base Xa (.inr (.inr (k + 5))) :: r.map (zcv base Xa))) := by
          intro v hv1 hv2 he2
          cases he2
          rw [zcv_cell]
          have hcell := zws_cell (base := base) (Xa := Xa) (cA := cA) hq
          rw [zce_obj] at hcell
          refine va_get (v := zcv base Xa v) hx hb hts (zin_ws hci) hown hK hr.1 k hcell (zl_cl ci hci) j hjN (hts _ (zft_of l1)) (fun _ h9 => h9) (by rw [zrange_at hj, hv2]) hd ?_
          refine hW ⟨o1, fun v2 h2 => ?_, o3⟩ H locs lsc hr hlv
          rcases List.mem_cons.mp h2 with h3 | h3
          · rw [h3]; exact hv1
          · exact o2r v2 h3
        split at he
        · rename_i ht
          split at he
          · rename_i z0 hz0
            refine key (.inr (.inr z0)) trivial ?_ he
            unfold zfv
            rw [if_pos (by omega), List.getD_eq_getElem?_getD, hz0]
            rfl
          · cases he
        · rename_i ht
          split at he
          · rename_i ht2
            refine key (.inr (.inl (h.2.1 (k + 5) j))) trivial ?_ he
            unfold zfv
            rw [if_neg (by omega), if_pos (by omega)]
            rfl
          · rename_i ht2
            refine key (.inl (h.1 (k + 5) j)) (o3.1 _ _) ?_ he
            unfold zfv
            rw [if_neg (by omega), if_neg (by omega)]
            rfl
      · cases he
    · cases he
  · cases he
/-- a store to a field, with the heap's size -/
theorem z_put {H : Heap} {locs : List Loc} {cells slots ci j k z own : Nat} {fs : List Value} {v : Value} {rest : List Value} {lsc : Array Slot} (hx : p.tables.exec = Jvm.exec) (hb : c.code = q.2.1) (hown : s.vm.findClass (zon own) = some m.cls) (hts : ∀ w ∈ zws0, w.before args s = true) (hK : va_K D zcl (ztys cA) s)
    (hat : va_at D zcl (base + k, .inr (ci, fs)) H) (hci : ci < 11) (hj : j < znf ci) (hjf : j < fs.length) (hlk : Jvm.Cond.fieldLink (zon own) z (zTf ci j).1 (zTf ci j).2.1 (zTf ci j).2.2.1 ∈ zws0) (hfin : (zTf ci j).2.2.2 = false ∨ (meth.name = "<init>" ∧ ci = own))
    (hn : narrow (zty ci j) v = v) (hfit : fits (zty ci j) v = true) (hd : decode q.2.1 pc = .ok (.putfield z, 3))
    (kk : ∀ (H' : Heap) (x : Nat), va_at D zcl (base + k, .inr (ci, fs.set j v)) H' → H'.size = H.size → (∀ x : Nat, x ≠ base + k → H'[x]? = H[x]?) → W p l e R s m args below meth c H' (locs ++ [⟨base + k, x⟩]) cells slots Q (F0 m (pc + 3) lsc rest)) :
    W p l e R s m args below meth c H locs cells slots Q (F0 m pc lsc (v :: .ref (base + k) :: rest)) := by
  have hc := zl_cl ci hci
  have hin := zin_ws hci
  obtain ⟨hpd, -, hdecl, -⟩ := zcd_of hci hj
  have hap := va_apart (own := zon own) hts hin (zty ci) (fun i hi => (zcd_of hci hi).1) (fun a ha b hb2 hne => (zcd_of hci ha).2.2.2 b hb2 hne) hK hc
  obtain ⟨r, h1, cell, q1, q2, q3, q4⟩ := hat
  have hr : r = (zon ci, zTf ci, znf ci) := Option.some.inj (h1.symm.trans hc)
  subst hr
  obtain ⟨hS, hfc, kC, hkC, hkind⟩ := hK.1 ci _ hc
  obtain ⟨cf, kf, fi, f, hi, hsl⟩ := hS j hj
  have hlay := hts _ (hin _ (u_in_lay hj))
  unfold u_lay at hlay
  have hst := (u_facts hfc hkC (u_lays hts hin hj) hi).1
  have hend : ∀ H' : Heap, H'[base + k]? = some (cell.setSlot f.slot v) → H'.size = H.size → (∀ x : Nat, x ≠ base + k → H'[x]? = H[x]?) → W p l e R s m args below meth c H' (locs ++ [⟨base + k, f.slot⟩]) cells slots Q (F0 m (pc + 3) lsc rest) := by
    intro H' e1 e2 e3
    rw [hsl] at e1
    exact kk H' f.slot ⟨_, hc, t_OB.to (V := updV (vp_V fs) j v) ⟨_, e1, q2, q3, t_set q4 hap hj v⟩ (fun i _ => vp_updV_set hjf v i)⟩ e2 e3
  by_cases hfn : (zTf ci j).2.2.2 = true
  · rw [if_pos hfn] at hlay
    obtain ⟨hin2, hco⟩ : meth.name = "<init>" ∧ ci = own := by
      rcases hfin with hf | hf
      · rw [hf] at hfn; cases hfn
      · exact hf
    subst hco
    have hcf : m.cls = cf := by
      obtain ⟨_, _, c', _, _, _, -, -, hf', -, -, -, hown2, -⟩ := Cond.laysFinal_spec hlay
      have e1 : c' = cf := by have := hi.symm.trans hf'; simp at this; exact this.1.symm
      rw [hdecl] at hown2
      rw [← e1]; exact Option.some.inj (hown.symm.trans hown2)
    have h6 := u_fits hfc hkC hkind (Or.inr hlay) hi hpd hn hfit
    exact W.putFinK hx hb hown (hts _ hlk) hi hst hcf hin2 (by rw [q2]; exact h6) q1 q3 (by rw [hsl]; exact k2_hasslot (q4 j hj)) rfl rfl hd hend
  · rw [if_neg hfn] at hlay
    have h6 := u_store hfc hkC hkind hlay hi hpd hn hfit
    exact W.putK hx hb (f := f) ⟨hown, hts _ hlk, ⟨_, _, _, hi⟩, hst⟩ (by rw [q2]; exact h6) q1 q3 (by rw [hsl]; exact k2_hasslot (q4 j hj)) rfl rfl hd hend
theorem ztk_int {ty : FieldType} (h : ztk ty = 0) : ty = .int := by cases ty <;> first | rfl | cases h
theorem ztk_bool {ty : FieldType} (h : ztk ty = 1) : ty = .boolean := by cases ty <;> first | rfl | cases h
theorem ztk_long {ty : FieldType} (h : ztk ty = 2) : ty = .long := by cases ty <;> first | rfl | cases h
theorem ztk_ref {ty : FieldType} (h : ztk ty = 3) (a : Nat) : narrow ty (.ref a) = .ref a ∧ fits ty (.ref a) = true := by cases ty <;> first | exact ⟨rfl, rfl⟩ | cases h
theorem ztk_int' {ty : FieldType} {t : Nat} (h1 : t = 0) (h2 : ztk ty = t) : ty = .int := ztk_int (h2.trans h1)
theorem ztk_bool' {ty : FieldType} {t : Nat} (h1 : t = 1) (h2 : ztk ty = t) : ty = .boolean := ztk_bool (h2.trans h1)
theorem ztk_long' {ty : FieldType} {t : Nat} (h1 : t = 2) (h2 : ztk ty = t) : ty = .long := ztk_long (h2.trans h1)
theorem zs_putfield {z : Nat} (C : zCtx p s m args meth c D cA base Xa E y q nL) (hd : decode q.2.1 pc = .ok (.putfield z, zlen (.putfield z) w)) (hn : zterm (.putfield z) = true ∨ n = pc + zlen (.putfield z) w) (hl : zlnk y pc q (.putfield z) w ps = true) (he : zo_pf E cal w ps y n ls st h = some (.inl k')) (hW : zW p l e R s m args below meth c Q D cA base Xa nL n0 s0 k') : zW p l e R s m args below meth c Q D cA base Xa nL n0 s0 (y, pc, ls, st, h) := by
  obtain ⟨hx, hb, hml, hown, hts, hall, hK, hxt, hnw, hE, hbs, hnm⟩ := C
  have hn' : n = pc + 3 := by
    rcases hn with hn | hn
    · cases hn
    · exact hn
  subst hn'
  simp only [zo_pf] at he
  split at he
  · rename_i ci j t v a r
    simp only [zlnk, Bool.and_eq_true, Bool.or_eq_true, decide_eq_true_eq, Bool.not_eq_true'] at hl
    obtain ⟨⟨⟨⟨l1, l2⟩, l3⟩, l4⟩, l5⟩ := hl
    have hci := z_blt l4
    have hjN := z_blt l3
    have htag : t = ztag ci j := Nat.eq_of_beq_eq_true l2
    obtain ⟨-, htk, -, -⟩ := zcd_of hci hjN
    have hfin : (zTf ci j).2.2.2 = false ∨ (meth.name = "<init>" ∧ ci = q.2.2.2.2) := l5.imp id (fun h => ⟨by rw [hnm]; exact h.1, Nat.eq_of_beq_eq_true h.2⟩)
    split at he
    · rename_i q0 hz
      obtain ⟨k, rfl, hq⟩ := zobj_spec hz
      split at he
      · rename_i hj
        intro ok H locs lsc hr hlv
        obtain ⟨o1, o2, o3⟩ := ok
        have o2r : ∀ v ∈ r, zok v := fun v hv => o2 v (List.mem_cons_of_mem _ (List.mem_cons_of_mem _ hv))
        have hat0 := hr.1 k _ (zws_cell hq)
        rw [zce_obj] at hat0
        have hjf : j < ((List.range q0.1).map (zfv base Xa h (k + 5) ci q0.2)).length := by simpa using hj
        have hlk := zft_of l1
        split at he
        · rename_i x
          have ox : zin x := o2 _ List.mem_cons_self
          split at he
          · rename_i hc
            cases he
            show W p l e R s m args below meth c H locs _ _ Q (F0 m pc lsc (zcv base Xa (.inl x) :: zcv base Xa (.inr (.inr (k + 5))) :: r.map (zcv base Xa)))
            rw [zcv_cell]
            have hnf : narrow (zty ci j) (zcv base Xa (.inl x)) = zcv base Xa (.inl x) ∧ fits (zty ci j) (zcv base Xa (.inl x)) = true := by
              rcases hc with hc | ⟨hc, hc2⟩
              · rw [ztk_int' hc (htk.trans htag.symm)]; exact ⟨rfl, rfl⟩
              · rw [ztk_bool' hc (htk.trans htag.symm)]
                rcases hc2 with rfl | rfl <;> exact ⟨rfl, rfl⟩
            refine z_put hx hb hown hts hK hat0 hci hjN hjf hlk hfin hnf.1 hnf.2 hd fun H1 xx e1 z1 oq => ?_
            refine hW ⟨o1, o2r, zup_ok o3.1 ox, o3.2.1, o3.2.2.1, o3.2.2.2⟩ H1 _ lsc ?_ hlv
            refine zRel_put hr hq (zset_same hq) ?_ (fun j t hj ht => zce_far (zup_far (by omega)) (fun _ => rfl)) e1 z1 oq
            rw [zce_obj]
            congr 2
            refine zrange_set hj ?_ (fun i hi => ?_)
            · unfold zfv
              rw [if_neg (by omega), if_neg (by omega)]
              simp [zup, zcv]
            · unfold zfv
              simp [zup, hi]
          · cases he
        · rename_i x
          split at he
          · rename_i hc
            cases he
            show W p l e R s m args below meth c H locs _ _ Q (F0 m pc lsc (zcv base Xa (.inr (.inl x)) :: zcv base Xa (.inr (.inr (k + 5))) :: r.map (zcv base Xa)))
            rw [zcv_cell]
            have hnf : narrow (zty ci j) (zcv base Xa (.inr (.inl x))) = zcv base Xa (.inr (.inl x)) ∧ fits (zty ci j) (zcv base Xa (.inr (.inl x))) = true := by
              rw [ztk_long' hc (htk.trans htag.symm)]; exact ⟨rfl, rfl⟩
            refine z_put hx hb hown hts hK hat0 hci hjN hjf hlk hfin hnf.1 hnf.2 hd fun H1 xx e1 z1 oq => ?_
            refine hW ⟨o1, o2r, o3.1, o3.2.1, o3.2.2.1, o3.2.2.2⟩ H1 _ lsc ?_ hlv
            refine zRel_put hr hq (zset_same hq) ?_ (fun j t hj ht => zce_far (fun _ => rfl) (zug_far (by omega))) e1 z1 oq
            rw [zce_obj]
            congr 2
            refine zrange_set hj ?_ (fun i hi => ?_)
            · unfold zfv
              rw [if_neg (by omega), if_pos (by omega)]
              simp [zug, zcv]
            · unfold zfv
              simp [zug, hi]
          · cases he
        · rename_i x
          split at he
          · rename_i hc
            obtain ⟨hc1, hc2, hc3, hjr⟩ := hc
            cases he
            obtain ⟨x', rfl⟩ : ∃ x', x = x' + 1 := ⟨x - 1, by omega⟩
            show W p l e R s m args below meth c H locs _ _ Q (F0 m pc lsc (zcv base Xa (.inr (.inr (x' + 1))) :: zcv base Xa (.inr (.inr (k + 5))) :: r.map (zcv base Xa)))
            rw [zcv_cell]
            have hnf := ztk_ref (ty := zty ci j) (by omega) (zadr base Xa (x' + 1))
            refine z_put hx hb hown hts hK hat0 hci hjN hjf hlk hfin hnf.1 hnf.2 hd fun H1 xx e1 z1 oq => ?_
            have hlen : (h.2.2.set (k + 5 - 5) (3 + ci, q0.1, q0.2.set j (x' + 1))).length = h.2.2.length := List.length_set
            have hsl : zsl (h.1, h.2.1, h.2.2.set (k + 5 - 5) (3 + ci, q0.1, q0.2.set j (x' + 1))) = zsl h := by
              unfold zsl
              have hh : (h.2.2.set k (3 + ci, q0.1, q0.2.set j (x' + 1))).map (fun q => q.2.1) = h.2.2.map (fun q => q.2.1) := by
                rw [List.map_set]
                refine (zset_same ?_).symm
                rw [List.getElem?_map, hq]; rfl
              show ((h.2.2.set k _).map _).sum = _
              rw [hh]
            have hh := hW ⟨o1, o2r, o3.1, by rw [hlen]; exact o3.2.1, by rw [hsl]; exact o3.2.2.1, o3.2.2.2⟩ H1 (locs ++ [⟨base + k, xx⟩]) lsc ?_ hlv
            · simp only [hlen, hsl] at hh
              exact hh
            · refine zRel_put hr hq (r' := (3 + ci, q0.1, q0.2.set j (x' + 1))) rfl ?_ (fun j t hj ht => zce_far (fun _ => rfl) (fun _ => rfl)) e1 z1 oq
              rw [zce_obj]
              congr 2
              refine zrange_set hj ?_ (fun i hi => ?_)
              · unfold zfv
                rw [if_pos (by omega), List.getD_eq_getElem?_getD, List.getElem?_set_self hjr]
                rfl
              · unfold zfv
                rw [List.getD_eq_getElem?_getD, List.getD_eq_getElem?_getD, List.getElem?_set_ne (Ne.symm hi)]
          · cases he
      · cases he
    · cases he
  · cases he
end
end
section
/-! statics, new cells, Object's own constructor, arraycopy -/
set_option maxRecDepth 100000 in
theorem ztag_lt : (List.range 11).all (fun ci => (List.range (znf ci)).all (fun j => Nat.blt (ztag ci j) 4)) = true := by decide +kernel
theorem ztag_4 {ci j : Nat} (hc : ci < 11) (hj : j < znf ci) : ztag ci j < 4 := z_blt (List.all_eq_true.mp (List.all_eq_true.mp ztag_lt ci (List.mem_range.mpr hc)) j (List.mem_range.mpr hj))
theorem zdef {base : Nat} {Xa : Nat → Nat} {h : zH} {ci j a N : Nat} (hc : ci < 11) (hj : j < znf ci) (h1 : h.1 a j = 0) (h2 : h.2.1 a j = 0) : defaultValue (zty ci j) = zfv base Xa h a ci (List.replicate N 0) j := by
  obtain ⟨-, htk, -, -⟩ := zcd_of hc hj
  have ht := ztag_4 hc hj
  have hrep : (List.replicate N 0).getD j 0 = 0 := by
    rw [List.getD_eq_getElem?_getD, List.getElem?_replicate]
    split <;> rfl
  unfold zfv
  rw [hrep, h1, h2]
  generalize zty ci j = ty at htk
  generalize ztag ci j = t at htk ht
  subst htk
  cases ty <;> first | rfl | (exact absurd ht (by decide))
section
variable {p : Program} {l : Launch} {e : Env} {R : Room} {s : State} {m : MethodId} {args : Array Value} {below : List Frame} {meth : Method} {c : Code} {Q : State → Prop}
variable {D : va_G} {cA : Nat → ClassId} {base : Nat} {Xa : Nat → Nat} {E : Nat → Nat × (Nat → Int)} {y : Nat} {q : zq} {nL n0 s0 : Nat} {cal : zcal} {pc n : Nat} {ls st : List zV} {h : zH} {w : List Nat} {ps : List (Int × Nat)} {k' : zC}
theorem zs_getstatic {z : Nat} (C : zCtx p s m args meth c D cA base Xa E y q nL) (hd : decode q.2.1 pc = .ok (.getstatic z, zlen (.getstatic z) w)) (hn : zterm (.getstatic z) = true ∨ n = pc + zlen (.getstatic z) w) (hl : zlnk y pc q (.getstatic z) w ps = true) (he : zo_gs E cal w ps y n ls st h = some (.inl k')) (hW : zW p l e R s m args below meth c Q D cA base Xa nL n0 s0 k') : zW p l e R s m args below meth c Q D cA base Xa nL n0 s0 (y, pc, ls, st, h) := by
  obtain ⟨hx, hb, hml, hown, hts, hall, hK, hxt, hnw, hE, hbs, hnm⟩ := C
  have hn' : n = pc + 3 := by
    rcases hn with hn | hn
    · cases hn
    · exact hn
  subst hn'
  simp only [zo_gs] at he
  split at he
  · rename_i k
    split at he
    · rename_i hk
      cases he
      simp only [zlnk, List.any_eq_true, Bool.and_eq_true] at hl
      obtain ⟨r, hr, ⟨h1, h2⟩, h3⟩ := hl
      have h5 := List.all_eq_true.mp zl_GT r hr
      unfold zgt at h5
      simp only [Bool.and_eq_true, decide_eq_true_eq] at h5
      have h6 := h5.1.1
      rw [Nat.eq_of_beq_eq_true h1, Nat.eq_of_beq_eq_true h2, Nat.eq_of_beq_eq_true h3] at h6
      intro ok H locs lsc hr hlv
      obtain ⟨o1, o2, o3⟩ := ok
      have hh := hW ⟨o1, fun v hv => ?_, o3⟩ H locs lsc hr hlv
      · refine va_gets hx hb (hxt.2.2 k hk.1 hk.2) hr.2.2 hown (hts _ (zws0_t (List.mem_of_getElem? h6) rfl)) (fun _ h9 => h9) hd ?_
        rw [← zcv_ext base Xa (by omega) hk.2]
        exact hh
      · rcases List.mem_cons.mp hv with h1 | h1
        · rw [h1]; trivial
        · exact o2 v h1
    · cases he
  · cases he
theorem zclr_far {F : zM} {k a : Nat} (hk : a ≠ k) : ∀ b, zclr F k a b = F a b := fun b => by simp [zclr, hk]
theorem zclg_far {F : zG} {k a : Nat} (hk : a ≠ k) : ∀ b, zclg F k a b = F a b := fun b => by simp [zclg, hk]
theorem zclr_ok {F : zM} {k : Nat} (h : ∀ a b, zin (F a b)) : ∀ a b, zin (zclr F k a b) := by
  intro a b
  unfold zclr
  split
  · constructor <;> omega
  · exact h a b
/-- one cell was made -/
theorem zRel_new {h' : zH} {H H' : Heap} {locs : List Loc} {r : Nat × Nat × List Nat} (hr : zRel s D cA base Xa h H locs) (hl : h.2.2.length < 96) (hs : h'.2.2 = h.2.2 ++ [r])
    (hf : ∀ j t, h.2.2[j]? = some t → zce base Xa cA h' t (j + 5) = zce base Xa cA h t (j + 5)) (hat : va_at D zcl (base + h.2.2.length, zce base Xa cA h' r (h.2.2.length + 5)) H') (hsz : H'.size = base + h.2.2.length + 1) (ho : ∀ x : Nat, x < base + h.2.2.length → H'[x]? = H[x]?) : zRel s D cA base Xa h' H' locs := by
  obtain ⟨hP, hS1, hS⟩ := hr
  have hsz0 := hS1 hl
  refine ⟨?_, fun _ => by rw [hsz, hs]; simp; omega, ⟨by have := hS.1; omega, fun x h1 h2 => ?_, hS.2.2⟩⟩
  · rw [zws_push hs hf]
    refine (hP.kept (fun k x hx => ho x.1 (by rw [← hsz0]; exact (hP k x hx).lt))).app (fun k x hx => ?_)
    have hz : k < 1 := (List.getElem?_eq_some_iff.mp hx).1
    rw [show k = 0 by omega] at hx
    cases hx
    exact hat
  · rw [ho x (by have := hS.1; omega)]
    exact hS.2.1 x h1 h2
theorem zs_newarray {z : ArrayType} (C : zCtx p s m args meth c D cA base Xa E y q nL) (hd : decode q.2.1 pc = .ok (.newarray z, zlen (.newarray z) w)) (hn : zterm (.newarray z) = true ∨ n = pc + zlen (.newarray z) w) (hl : zlnk y pc q (.newarray z) w ps = true) (he : zo_mka E cal w ps y n ls st h = some (.inl k'))
    (hB : k'.2.2.2.2.2.2.length - n0 ≤ R.cells ∧ zsl k'.2.2.2.2 - s0 ≤ R.slots) (hW : zW p l e R s m args below meth c Q D cA base Xa nL n0 s0 k') : zW p l e R s m args below meth c Q D cA base Xa nL n0 s0 (y, pc, ls, st, h) := by
  obtain ⟨hx, hb, hml, hown, hts, hall, hK, hxt, hnw, hE, hbs, hnm⟩ := C
  have hn' : n = pc + 2 := by
    rcases hn with hn | hn
    · cases hn
    · exact hn
  subst hn'
  simp only [zo_mka] at he
  split at he
  · rename_i t ln r
    split at he
    · rename_i hc
      obtain ⟨hc1, hc2, hc3, hc4⟩ := hc
      intro ok H locs lsc hr hlv
      obtain ⟨o1, o2, o3⟩ := ok
      have oln : zin ln := o2 _ List.mem_cons_self
      have o2r : ∀ v ∈ r, zok v := fun v hv => o2 v (List.mem_cons_of_mem _ hv)
      have hsl := zsl_push (h := h) (h' := (zclr h.1 (h.2.2.length + 5), zclg h.2.1 (h.2.2.length + 5), h.2.2 ++ [(t, ln.toNat, [])])) rfl
      have hs0 := o3.2.2.1
      have hn0 := o3.2.1
      have hneg : ¬ Int32.ofInt ln < 0 := by
        rw [show (0 : Int32) = Int32.ofInt 0 from rfl, z_ofInt_lt oln (by constructor <;> omega)]; omega
      cases he
      have hB1 : h.2.2.length - n0 + 1 ≤ R.cells := by have := hB.1; simp at this; omega
      have hB2 : zsl h - s0 + ln.toNat ≤ R.slots := by
        have := hB.2
        simp only [hsl] at this
        omega
      have hfin : ∀ (H1 : Heap) (cN : ClassId) (vd : Value), vp_cell cN (ln.toNat, (match t with
          | 0 => (.inl (fun _ => 0) : (Nat → Int32) ⊕ (Nat → Int64) ⊕ (Nat → UInt32) ⊕ (Nat → UInt64) ⊕ (Nat → Option Nat))
          | 1 => .inl (fun _ => 0)
          | _ => .inr (.inl (fun _ => 0)))) = arrV cN ln.toNat (fun _ => vd) → cN = cA t → H1[base + h.2.2.length]? = some (arrV cN ln.toNat (fun _ => vd)) → H1.size = base + h.2.2.length + 1 → (∀ x, x < base + h.2.2.length → H1[x]? = H[x]?) →
          W p l e R s m args below meth c H1 locs (h.2.2.length - n0 + 1) (zsl h - s0 + ln.toNat) Q (F0 m (pc + 2) lsc (.ref (base + h.2.2.length) :: r.map (zcv base Xa))) := by
        intro H1 cN vd hv hcN e1 z1 o1'
        subst hcN
        have hrel : zRel s D cA base Xa (zclr h.1 (h.2.2.length + 5), zclg h.2.1 (h.2.2.length + 5), h.2.2 ++ [(t, ln.toNat, [])]) H1 locs := by
          refine zRel_new hr hc3 rfl (fun j t' ht' => ?_) ?_ z1 o1'
          · have hj : j < h.2.2.length := (List.getElem?_eq_some_iff.mp ht').1
            exact zce_far (zclr_far (by omega)) (zclg_far (by omega))
          · have e0 : (fun j => Int32.ofInt (zclr h.1 (h.2.2.length + 5) (h.2.2.length + 5) j)) = fun _ => (0 : Int32) := by funext j; simp [zclr]
            have e2 : (fun j => Int64.ofBitVec (zclg h.2.1 (h.2.2.length + 5) (h.2.2.length + 5) j)) = fun _ => (0 : Int64) := by funext j; simp [zclg]
            have ht3 : t = 0 ∨ t = 1 ∨ t = 2 := by omega
            rcases ht3 with rfl | rfl | rfl
            · show H1[base + h.2.2.length]? = some (vp_cell (cA 0) (ln.toNat, .inl (fun j => Int32.ofInt (zclr h.1 (h.2.2.length + 5) (h.2.2.length + 5) j))))
              rw [e0, e1]
              exact congrArg some hv.symm
            · show H1[base + h.2.2.length]? = some (vp_cell (cA 1) (ln.toNat, .inl (fun j => Int32.ofInt (zclr h.1 (h.2.2.length + 5) (h.2.2.length + 5) j))))
              rw [e0, e1]
              exact congrArg some hv.symm
            · show H1[base + h.2.2.length]? = some (vp_cell (cA 2) (ln.toNat, .inr (.inl (fun j => Int64.ofBitVec (zclg h.2.1 (h.2.2.length + 5) (h.2.2.length + 5) j)))))
              rw [e2, e1]
              exact congrArg some hv.symm
        have hh := hW ⟨o1, fun v hv => ?_, zclr_ok o3.1, by simp; omega, by rw [hsl]; omega, o3.2.2.2⟩ H1 locs lsc hrel hlv
        · simp only [List.map_cons, zcv_cell, hsl, List.length_append, List.length_singleton] at hh
          rw [show h.2.2.length - n0 + 1 = h.2.2.length + 1 - n0 by omega, show zsl h - s0 + ln.toNat = zsl h + ln.toNat - s0 by omega]
          exact hh
        · rcases List.mem_cons.mp hv with h1 | h1
          · rw [h1]; trivial
          · exact o2r v h1
      have hsz := hr.2.1 hc3
      have hlz : ∀ {b : Nat}, b ≤ 8 → ln.toNat * b ≤ 536870912 := by
        intro b hb8
        exact Nat.le_trans (Nat.mul_le_mul (show ln.toNat ≤ 1000 by omega) hb8) (Nat.le_of_ble_eq_true rfl)
      match z, hl, hd with
      | .int, hl, hd =>
        have hw : t = 0 := by simpa [zlnk] using hl
        subst hw
        refine va_newaK hx hb (atype := .int) (hts _ (zws0_t zl_AR.1 rfl)) rfl hd rfl hneg (z_nat oln) (hlz (by decide)) hB1 hB2 hsz fun H1 cN e1 z1 o1' hAr hNm => ?_
        exact hfin H1 cN (.int 0) rfl (Option.some.inj (hNm.symm.trans (hK.2 0 _ rfl).2)) e1 z1 o1'
      | .boolean, hl, hd =>
        have hw : t = 1 := by simpa [zlnk] using hl
        subst hw
        refine va_newaK hx hb (atype := .boolean) (hts _ (zws0_t zl_AR.2.1 rfl)) rfl hd rfl hneg (z_nat oln) (hlz (by decide)) hB1 hB2 hsz fun H1 cN e1 z1 o1' hAr hNm => ?_
        exact hfin H1 cN (.int 0) rfl (Option.some.inj (hNm.symm.trans (hK.2 1 _ rfl).2)) e1 z1 o1'
      | .long, hl, hd =>
        have hw : t = 2 := by simpa [zlnk] using hl
        subst hw
        refine va_newaK hx hb (atype := .long) (hts _ (zws0_t zl_AR.2.2 rfl)) rfl hd rfl hneg (z_nat oln) (hlz (by decide)) hB1 hB2 hsz fun H1 cN e1 z1 o1' hAr hNm => ?_
        exact hfin H1 cN (.long 0) rfl (Option.some.inj (hNm.symm.trans (hK.2 2 _ rfl).2)) e1 z1 o1'
      | .char, hl, _ => cases hl
      | .float, hl, _ => cases hl
      | .double, hl, _ => cases hl
      | .byte, hl, _ => cases hl
      | .short, hl, _ => cases hl
    · cases he
  · cases he
theorem zs_new {z : Nat} (C : zCtx p s m args meth c D cA base Xa E y q nL) (hd : decode q.2.1 pc = .ok (.new z, zlen (.new z) w)) (hn : zterm (.new z) = true ∨ n = pc + zlen (.new z) w) (hl : zlnk y pc q (.new z) w ps = true) (he : zo_mko E cal w ps y n ls st h = some (.inl k'))
    (hB : k'.2.2.2.2.2.2.length - n0 ≤ R.cells ∧ zsl k'.2.2.2.2 - s0 ≤ R.slots) (hW : zW p l e R s m args below meth c Q D cA base Xa nL n0 s0 k') : zW p l e R s m args below meth c Q D cA base Xa nL n0 s0 (y, pc, ls, st, h) := by
  obtain ⟨hx, hb, hml, hown, hts, hall, hK, hxt, hnw, hE, hbs, hnm⟩ := C
  have hn' : n = pc + 3 := by
    rcases hn with hn | hn
    · cases hn
    · exact hn
  subst hn'
  simp only [zo_mko] at he
  split at he
  · rename_i ci ln
    split at he
    · rename_i hc3
      intro ok H locs lsc hr hlv
      obtain ⟨o1, o2, o3⟩ := ok
      simp only [zlnk, List.any_eq_true, Bool.and_eq_true] at hl
      obtain ⟨⟨r, hr1, ⟨h1, h2⟩, h3⟩, h4⟩ := hl
      have hln : ln = znf ci := Nat.eq_of_beq_eq_true h4
      subst hln
      have h5 := List.all_eq_true.mp zl_NT r hr1
      unfold znt at h5
      simp only [Bool.and_eq_true, decide_eq_true_eq] at h5
      rw [Nat.eq_of_beq_eq_true h1, Nat.eq_of_beq_eq_true h2, Nat.eq_of_beq_eq_true h3] at h5
      obtain ⟨⟨⟨h6, h7⟩, h8⟩, h9⟩ := h5
      have hci := z_blt h9
      have hsl := zsl_push (h := h) (h' := (zclr h.1 (h.2.2.length + 5), zclg h.2.1 (h.2.2.length + 5), h.2.2 ++ [(3 + ci, znf ci, List.replicate (znf ci) 0)])) rfl
      have hs0 := o3.2.2.1
      have hn0 := o3.2.1
      cases he
      have hB1 : h.2.2.length - n0 + 1 ≤ R.cells := by have := hB.1; simp at this; omega
      have hB2 : zsl h - s0 + znf ci ≤ R.slots := by
        have := hB.2
        simp only [hsl] at this
        omega
      have hKn := hK.1 ci _ (zl_cl ci hci)
      refine W.newcK hx hb hown (hts _ (zws0_t (List.mem_of_getElem? h6) rfl)) (hts _ (zws0_t (List.mem_of_getElem? h7) rfl)) (hts _ (zws0_t (List.mem_of_getElem? h8) rfl)) rfl hd hB1 hB2 hKn.2.1 (hr.2.1 hc3) fun H1 kC hkC e1 z1 o1' => ?_
      have hrel : zRel s D cA base Xa (zclr h.1 (h.2.2.length + 5), zclg h.2.1 (h.2.2.length + 5), h.2.2 ++ [(3 + ci, znf ci, List.replicate (znf ci) 0)]) H1 locs := by
        refine zRel_new hr hc3 rfl (fun j t' ht' => ?_) ?_ z1 o1'
        · have hj : j < h.2.2.length := (List.getElem?_eq_some_iff.mp ht').1
          exact zce_far (zclr_far (by omega)) (zclg_far (by omega))
        · rw [zce_obj]
          refine ⟨_, zl_cl ci hci, (u_born (zty ci) hts (zin_ws hci) hKn hkC e1 (fun i hi => (zcd_of hci hi).1)).to (fun j hj => ?_)⟩
          rw [zdef (base := base) (Xa := Xa) (h := (zclr h.1 (h.2.2.length + 5), zclg h.2.1 (h.2.2.length + 5), h.2.2 ++ [(3 + ci, znf ci, List.replicate (znf ci) 0)])) (a := h.2.2.length + 5) (N := znf ci) hci hj (by simp [zclr]) (by simp [zclg])]
          show _ = vp_V _ j
          unfold vp_V
          rw [List.getD_eq_getElem?_getD, zrange_at hj]
          rfl
      have hh := hW ⟨o1, fun v hv => ?_, zclr_ok o3.1, by simp; omega, by rw [hsl]; omega, o3.2.2.2⟩ H1 locs lsc hrel hlv
      · simp only [List.map_cons, zcv_cell, hsl, List.length_append, List.length_singleton] at hh
        show W p l e R s m args below meth c H1 locs (h.2.2.length - n0 + 1) (zsl h - s0 + znf ci) Q (F0 m (pc + 3) lsc (.ref (base + h.2.2.length) :: st.map (zcv base Xa)))
        rw [show h.2.2.length - n0 + 1 = h.2.2.length + 1 - n0 by omega, show zsl h - s0 + znf ci = zsl h + znf ci - s0 by omega]
        exact hh
      · rcases List.mem_cons.mp hv with h1 | h1
        · rw [h1]; trivial
        · exact o2 v h1
    · cases he
  · cases he
end
end
