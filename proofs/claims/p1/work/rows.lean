section
-- ===== PART A: goes FIRST, ahead of the names: the tables' words, and 'selects' of the private methods out of them =====
/-- a private method of a class that the tables say can be made, by its rows of tables_1 -/
def lw_okq (q : MethodName × Nat) : Prop := (q.1.cls ≠ "java/lang/invoke/MethodHandle" ∧ q.1.cls ≠ "java/lang/invoke/VarHandle") ∧ Cond.instantiable q.1.cls q.2 ∈ tables_1 ∧ Cond.privateMethod q.1 ∈ tables_1 ∧ Cond.instanceMethod q.1 ∈ tables_1
theorem lw_p0 : lw_okq (⟨"LightsMarket$Land", "rework", "()V"⟩, 16) := ⟨⟨by decide +kernel, by decide +kernel⟩, List.mem_of_getElem? (i := 35) (by decide +kernel), List.mem_of_getElem? (i := 145) (by decide +kernel), List.mem_of_getElem? (i := 146) (by decide +kernel)⟩
theorem lw_p1 : lw_okq (⟨"LightsMarket$Land", "fillPull", "(I)V"⟩, 16) := ⟨⟨by decide +kernel, by decide +kernel⟩, List.mem_of_getElem? (i := 35) (by decide +kernel), List.mem_of_getElem? (i := 149) (by decide +kernel), List.mem_of_getElem? (i := 150) (by decide +kernel)⟩
theorem lw_p2 : lw_okq (⟨"LightsMarket$Land", "addPull", "(III)V"⟩, 16) := ⟨⟨by decide +kernel, by decide +kernel⟩, List.mem_of_getElem? (i := 35) (by decide +kernel), List.mem_of_getElem? (i := 156) (by decide +kernel), List.mem_of_getElem? (i := 157) (by decide +kernel)⟩
theorem lw_p3 : lw_okq (⟨"LightsMarket$Land", "turn", "()V"⟩, 16) := ⟨⟨by decide +kernel, by decide +kernel⟩, List.mem_of_getElem? (i := 35) (by decide +kernel), List.mem_of_getElem? (i := 160) (by decide +kernel), List.mem_of_getElem? (i := 161) (by decide +kernel)⟩
theorem lw_p4 : lw_okq (⟨"LightsMarket$Land", "fillShares", "(I)V"⟩, 16) := ⟨⟨by decide +kernel, by decide +kernel⟩, List.mem_of_getElem? (i := 35) (by decide +kernel), List.mem_of_getElem? (i := 164) (by decide +kernel), List.mem_of_getElem? (i := 165) (by decide +kernel)⟩
theorem lw_p5 : lw_okq (⟨"LightsMarket$Land", "height", "(II)I"⟩, 16) := ⟨⟨by decide +kernel, by decide +kernel⟩, List.mem_of_getElem? (i := 35) (by decide +kernel), List.mem_of_getElem? (i := 168) (by decide +kernel), List.mem_of_getElem? (i := 169) (by decide +kernel)⟩
theorem lw_p6 : lw_okq (⟨"LightsMarket$Reader", "takeNumber", "(I)V"⟩, 11) := ⟨⟨by decide +kernel, by decide +kernel⟩, List.mem_of_getElem? (i := 261) (by decide +kernel), List.mem_of_getElem? (i := 649) (by decide +kernel), List.mem_of_getElem? (i := 650) (by decide +kernel)⟩
theorem lw_p7 : lw_okq (⟨"LightsMarket", "hasPlace", "(I)Z"⟩, 14) := ⟨⟨by decide +kernel, by decide +kernel⟩, List.mem_of_getElem? (i := 27) (by decide +kernel), List.mem_of_getElem? (i := 670) (by decide +kernel), List.mem_of_getElem? (i := 671) (by decide +kernel)⟩
theorem lw_p8 : lw_okq (⟨"java/lang/Throwable", "fillInStackTrace", "(I)Ljava/lang/Throwable;"⟩, 6) := ⟨⟨by decide +kernel, by decide +kernel⟩, List.mem_of_getElem? (i := 711) (by decide +kernel), List.mem_of_getElem? (i := 709) (by decide +kernel), List.mem_of_getElem? (i := 710) (by decide +kernel)⟩
theorem lw_p9 : lw_okq (⟨"LightsMarket$Sheets", "hasPart", "(III)Z"⟩, 4) := ⟨⟨by decide +kernel, by decide +kernel⟩, List.mem_of_getElem? (i := 240) (by decide +kernel), List.mem_of_getElem? (i := 786) (by decide +kernel), List.mem_of_getElem? (i := 787) (by decide +kernel)⟩
theorem lw_p10 : lw_okq (⟨"LightsMarket", "hasMill", "(I)Z"⟩, 14) := ⟨⟨by decide +kernel, by decide +kernel⟩, List.mem_of_getElem? (i := 27) (by decide +kernel), List.mem_of_getElem? (i := 815) (by decide +kernel), List.mem_of_getElem? (i := 816) (by decide +kernel)⟩
theorem lw_p11 : lw_okq (⟨"LightsMarket$Reader", "advance", "()V"⟩, 11) := ⟨⟨by decide +kernel, by decide +kernel⟩, List.mem_of_getElem? (i := 261) (by decide +kernel), List.mem_of_getElem? (i := 846) (by decide +kernel), List.mem_of_getElem? (i := 847) (by decide +kernel)⟩
theorem lw_p12 : lw_okq (⟨"LightsMarket$Reader", "byteAt", "(I)I"⟩, 11) := ⟨⟨by decide +kernel, by decide +kernel⟩, List.mem_of_getElem? (i := 261) (by decide +kernel), List.mem_of_getElem? (i := 850) (by decide +kernel), List.mem_of_getElem? (i := 851) (by decide +kernel)⟩
theorem lw_p13 : lw_okq (⟨"LightsMarket$Reader", "readWord", "()V"⟩, 11) := ⟨⟨by decide +kernel, by decide +kernel⟩, List.mem_of_getElem? (i := 261) (by decide +kernel), List.mem_of_getElem? (i := 857) (by decide +kernel), List.mem_of_getElem? (i := 858) (by decide +kernel)⟩
theorem lw_p14 : lw_okq (⟨"LightsMarket$Reader", "wordCode", "()I"⟩, 11) := ⟨⟨by decide +kernel, by decide +kernel⟩, List.mem_of_getElem? (i := 261) (by decide +kernel), List.mem_of_getElem? (i := 861) (by decide +kernel), List.mem_of_getElem? (i := 862) (by decide +kernel)⟩
theorem lw_p15 : lw_okq (⟨"LightsMarket$Reader", "reads", "(Ljava/lang/String;)Z"⟩, 11) := ⟨⟨by decide +kernel, by decide +kernel⟩, List.mem_of_getElem? (i := 261) (by decide +kernel), List.mem_of_getElem? (i := 866) (by decide +kernel), List.mem_of_getElem? (i := 867) (by decide +kernel)⟩
def lw_privs_1 : List (MethodName × Nat) := [(⟨"LightsMarket$Land", "rework", "()V"⟩, 16), (⟨"LightsMarket$Land", "fillPull", "(I)V"⟩, 16), (⟨"LightsMarket$Land", "addPull", "(III)V"⟩, 16), (⟨"LightsMarket$Land", "turn", "()V"⟩, 16), (⟨"LightsMarket$Land", "fillShares", "(I)V"⟩, 16), (⟨"LightsMarket$Land", "height", "(II)I"⟩, 16), (⟨"LightsMarket$Reader", "takeNumber", "(I)V"⟩, 11), (⟨"LightsMarket", "hasPlace", "(I)Z"⟩, 14), (⟨"java/lang/Throwable", "fillInStackTrace", "(I)Ljava/lang/Throwable;"⟩, 6), (⟨"LightsMarket$Sheets", "hasPart", "(III)Z"⟩, 4), (⟨"LightsMarket", "hasMill", "(I)Z"⟩, 14), (⟨"LightsMarket$Reader", "advance", "()V"⟩, 11), (⟨"LightsMarket$Reader", "byteAt", "(I)I"⟩, 11), (⟨"LightsMarket$Reader", "readWord", "()V"⟩, 11), (⟨"LightsMarket$Reader", "wordCode", "()I"⟩, 11), (⟨"LightsMarket$Reader", "reads", "(Ljava/lang/String;)Z"⟩, 11)]
theorem lw_r1 : ∀ q ∈ lw_privs_1, lw_okq q := List.forall_mem_cons.mpr ⟨lw_p0, List.forall_mem_cons.mpr ⟨lw_p1, List.forall_mem_cons.mpr ⟨lw_p2, List.forall_mem_cons.mpr ⟨lw_p3, List.forall_mem_cons.mpr ⟨lw_p4, List.forall_mem_cons.mpr ⟨lw_p5, List.forall_mem_cons.mpr ⟨lw_p6, List.forall_mem_cons.mpr ⟨lw_p7, List.forall_mem_cons.mpr ⟨lw_p8, List.forall_mem_cons.mpr ⟨lw_p9, List.forall_mem_cons.mpr ⟨lw_p10, List.forall_mem_cons.mpr ⟨lw_p11, List.forall_mem_cons.mpr ⟨lw_p12, List.forall_mem_cons.mpr ⟨lw_p13, List.forall_mem_cons.mpr ⟨lw_p14, List.forall_mem_cons.mpr ⟨lw_p15, fun _ h => absurd h List.not_mem_nil⟩⟩⟩⟩⟩⟩⟩⟩⟩⟩⟩⟩⟩⟩⟩⟩
theorem lw_p16 : lw_okq (⟨"LightsMarket$Reader", "readNumber", "()V"⟩, 11) := ⟨⟨by decide +kernel, by decide +kernel⟩, List.mem_of_getElem? (i := 261) (by decide +kernel), List.mem_of_getElem? (i := 930) (by decide +kernel), List.mem_of_getElem? (i := 931) (by decide +kernel)⟩
theorem lw_p17 : lw_okq (⟨"LightsMarket$Reader", "clause", "(I)V"⟩, 11) := ⟨⟨by decide +kernel, by decide +kernel⟩, List.mem_of_getElem? (i := 261) (by decide +kernel), List.mem_of_getElem? (i := 937) (by decide +kernel), List.mem_of_getElem? (i := 938) (by decide +kernel)⟩
theorem lw_p18 : lw_okq (⟨"LightsMarket$Reader", "fail", "(I)V"⟩, 11) := ⟨⟨by decide +kernel, by decide +kernel⟩, List.mem_of_getElem? (i := 261) (by decide +kernel), List.mem_of_getElem? (i := 941) (by decide +kernel), List.mem_of_getElem? (i := 942) (by decide +kernel)⟩
theorem lw_p19 : lw_okq (⟨"LightsMarket$Reader", "expression", "(I)V"⟩, 11) := ⟨⟨by decide +kernel, by decide +kernel⟩, List.mem_of_getElem? (i := 261) (by decide +kernel), List.mem_of_getElem? (i := 945) (by decide +kernel), List.mem_of_getElem? (i := 946) (by decide +kernel)⟩
theorem lw_p20 : lw_okq (⟨"LightsMarket$Reader", "isSign", "(I)Z"⟩, 11) := ⟨⟨by decide +kernel, by decide +kernel⟩, List.mem_of_getElem? (i := 261) (by decide +kernel), List.mem_of_getElem? (i := 949) (by decide +kernel), List.mem_of_getElem? (i := 950) (by decide +kernel)⟩
theorem lw_p21 : lw_okq (⟨"LightsMarket$Reader", "conjunction", "(I)V"⟩, 11) := ⟨⟨by decide +kernel, by decide +kernel⟩, List.mem_of_getElem? (i := 261) (by decide +kernel), List.mem_of_getElem? (i := 953) (by decide +kernel), List.mem_of_getElem? (i := 954) (by decide +kernel)⟩
theorem lw_p22 : lw_okq (⟨"LightsMarket$Reader", "negation", "(I)V"⟩, 11) := ⟨⟨by decide +kernel, by decide +kernel⟩, List.mem_of_getElem? (i := 261) (by decide +kernel), List.mem_of_getElem? (i := 957) (by decide +kernel), List.mem_of_getElem? (i := 958) (by decide +kernel)⟩
theorem lw_p23 : lw_okq (⟨"LightsMarket$Reader", "isWord", "(I)Z"⟩, 11) := ⟨⟨by decide +kernel, by decide +kernel⟩, List.mem_of_getElem? (i := 261) (by decide +kernel), List.mem_of_getElem? (i := 961) (by decide +kernel), List.mem_of_getElem? (i := 962) (by decide +kernel)⟩
theorem lw_p24 : lw_okq (⟨"LightsMarket$Reader", "comparison", "(I)V"⟩, 11) := ⟨⟨by decide +kernel, by decide +kernel⟩, List.mem_of_getElem? (i := 261) (by decide +kernel), List.mem_of_getElem? (i := 965) (by decide +kernel), List.mem_of_getElem? (i := 966) (by decide +kernel)⟩
theorem lw_p25 : lw_okq (⟨"LightsMarket$Reader", "sum", "(I)V"⟩, 11) := ⟨⟨by decide +kernel, by decide +kernel⟩, List.mem_of_getElem? (i := 261) (by decide +kernel), List.mem_of_getElem? (i := 969) (by decide +kernel), List.mem_of_getElem? (i := 970) (by decide +kernel)⟩
theorem lw_p26 : lw_okq (⟨"LightsMarket$Reader", "product", "(I)V"⟩, 11) := ⟨⟨by decide +kernel, by decide +kernel⟩, List.mem_of_getElem? (i := 261) (by decide +kernel), List.mem_of_getElem? (i := 973) (by decide +kernel), List.mem_of_getElem? (i := 974) (by decide +kernel)⟩
theorem lw_p27 : lw_okq (⟨"LightsMarket$Reader", "part", "(I)V"⟩, 11) := ⟨⟨by decide +kernel, by decide +kernel⟩, List.mem_of_getElem? (i := 261) (by decide +kernel), List.mem_of_getElem? (i := 977) (by decide +kernel), List.mem_of_getElem? (i := 978) (by decide +kernel)⟩
theorem lw_p28 : lw_okq (⟨"LightsMarket$Reader", "pass", "(I)V"⟩, 11) := ⟨⟨by decide +kernel, by decide +kernel⟩, List.mem_of_getElem? (i := 261) (by decide +kernel), List.mem_of_getElem? (i := 981) (by decide +kernel), List.mem_of_getElem? (i := 982) (by decide +kernel)⟩
theorem lw_p29 : lw_okq (⟨"LightsMarket$Reader", "emit", "(I)V"⟩, 11) := ⟨⟨by decide +kernel, by decide +kernel⟩, List.mem_of_getElem? (i := 261) (by decide +kernel), List.mem_of_getElem? (i := 985) (by decide +kernel), List.mem_of_getElem? (i := 986) (by decide +kernel)⟩
theorem lw_p30 : lw_okq (⟨"LightsMarket$Dispatch", "askAll", "(I)V"⟩, 12) := ⟨⟨by decide +kernel, by decide +kernel⟩, List.mem_of_getElem? (i := 305) (by decide +kernel), List.mem_of_getElem? (i := 1013) (by decide +kernel), List.mem_of_getElem? (i := 1014) (by decide +kernel)⟩
theorem lw_p31 : lw_okq (⟨"LightsMarket$Offer", "pull", "()I"⟩, 5) := ⟨⟨by decide +kernel, by decide +kernel⟩, List.mem_of_getElem? (i := 50) (by decide +kernel), List.mem_of_getElem? (i := 1026) (by decide +kernel), List.mem_of_getElem? (i := 1027) (by decide +kernel)⟩
def lw_privs_2 : List (MethodName × Nat) := [(⟨"LightsMarket$Reader", "readNumber", "()V"⟩, 11), (⟨"LightsMarket$Reader", "clause", "(I)V"⟩, 11), (⟨"LightsMarket$Reader", "fail", "(I)V"⟩, 11), (⟨"LightsMarket$Reader", "expression", "(I)V"⟩, 11), (⟨"LightsMarket$Reader", "isSign", "(I)Z"⟩, 11), (⟨"LightsMarket$Reader", "conjunction", "(I)V"⟩, 11), (⟨"LightsMarket$Reader", "negation", "(I)V"⟩, 11), (⟨"LightsMarket$Reader", "isWord", "(I)Z"⟩, 11), (⟨"LightsMarket$Reader", "comparison", "(I)V"⟩, 11), (⟨"LightsMarket$Reader", "sum", "(I)V"⟩, 11), (⟨"LightsMarket$Reader", "product", "(I)V"⟩, 11), (⟨"LightsMarket$Reader", "part", "(I)V"⟩, 11), (⟨"LightsMarket$Reader", "pass", "(I)V"⟩, 11), (⟨"LightsMarket$Reader", "emit", "(I)V"⟩, 11), (⟨"LightsMarket$Dispatch", "askAll", "(I)V"⟩, 12), (⟨"LightsMarket$Offer", "pull", "()I"⟩, 5)]
theorem lw_r2 : ∀ q ∈ lw_privs_2, lw_okq q := List.forall_mem_cons.mpr ⟨lw_p16, List.forall_mem_cons.mpr ⟨lw_p17, List.forall_mem_cons.mpr ⟨lw_p18, List.forall_mem_cons.mpr ⟨lw_p19, List.forall_mem_cons.mpr ⟨lw_p20, List.forall_mem_cons.mpr ⟨lw_p21, List.forall_mem_cons.mpr ⟨lw_p22, List.forall_mem_cons.mpr ⟨lw_p23, List.forall_mem_cons.mpr ⟨lw_p24, List.forall_mem_cons.mpr ⟨lw_p25, List.forall_mem_cons.mpr ⟨lw_p26, List.forall_mem_cons.mpr ⟨lw_p27, List.forall_mem_cons.mpr ⟨lw_p28, List.forall_mem_cons.mpr ⟨lw_p29, List.forall_mem_cons.mpr ⟨lw_p30, List.forall_mem_cons.mpr ⟨lw_p31, fun _ h => absurd h List.not_mem_nil⟩⟩⟩⟩⟩⟩⟩⟩⟩⟩⟩⟩⟩⟩⟩⟩
theorem lw_p32 : lw_okq (⟨"LightsMarket$Offer", "step", "(I)V"⟩, 5) := ⟨⟨by decide +kernel, by decide +kernel⟩, List.mem_of_getElem? (i := 50) (by decide +kernel), List.mem_of_getElem? (i := 1030) (by decide +kernel), List.mem_of_getElem? (i := 1031) (by decide +kernel)⟩
theorem lw_p33 : lw_okq (⟨"LightsMarket$Offer", "push", "(I)V"⟩, 5) := ⟨⟨by decide +kernel, by decide +kernel⟩, List.mem_of_getElem? (i := 50) (by decide +kernel), List.mem_of_getElem? (i := 1034) (by decide +kernel), List.mem_of_getElem? (i := 1035) (by decide +kernel)⟩
theorem lw_p34 : lw_okq (⟨"LightsMarket$Dispatch", "span", "(IIII)Z"⟩, 12) := ⟨⟨by decide +kernel, by decide +kernel⟩, List.mem_of_getElem? (i := 305) (by decide +kernel), List.mem_of_getElem? (i := 1090) (by decide +kernel), List.mem_of_getElem? (i := 1091) (by decide +kernel)⟩
theorem lw_p35 : lw_okq (⟨"LightsMarket$Dispatch", "lowOf", "(LLightsMarket$Mill;II)I"⟩, 12) := ⟨⟨by decide +kernel, by decide +kernel⟩, List.mem_of_getElem? (i := 305) (by decide +kernel), List.mem_of_getElem? (i := 1094) (by decide +kernel), List.mem_of_getElem? (i := 1095) (by decide +kernel)⟩
theorem lw_p36 : lw_okq (⟨"LightsMarket$Dispatch", "highOf", "(LLightsMarket$Mill;III)I"⟩, 12) := ⟨⟨by decide +kernel, by decide +kernel⟩, List.mem_of_getElem? (i := 305) (by decide +kernel), List.mem_of_getElem? (i := 1108) (by decide +kernel), List.mem_of_getElem? (i := 1109) (by decide +kernel)⟩
theorem lw_p37 : lw_okq (⟨"LightsMarket$Dispatch", "choose", "(III)V"⟩, 12) := ⟨⟨by decide +kernel, by decide +kernel⟩, List.mem_of_getElem? (i := 305) (by decide +kernel), List.mem_of_getElem? (i := 1120) (by decide +kernel), List.mem_of_getElem? (i := 1121) (by decide +kernel)⟩
theorem lw_p38 : lw_okq (⟨"LightsMarket$Dispatch", "fits", "()Z"⟩, 12) := ⟨⟨by decide +kernel, by decide +kernel⟩, List.mem_of_getElem? (i := 305) (by decide +kernel), List.mem_of_getElem? (i := 1124) (by decide +kernel), List.mem_of_getElem? (i := 1125) (by decide +kernel)⟩
theorem lw_p39 : lw_okq (⟨"LightsMarket$Dispatch", "roomBehind", "(I)I"⟩, 12) := ⟨⟨by decide +kernel, by decide +kernel⟩, List.mem_of_getElem? (i := 305) (by decide +kernel), List.mem_of_getElem? (i := 1135) (by decide +kernel), List.mem_of_getElem? (i := 1136) (by decide +kernel)⟩
theorem lw_p40 : lw_okq (⟨"LightsMarket$Planner", "fillCost", "(I)V"⟩, 11) := ⟨⟨by decide +kernel, by decide +kernel⟩, List.mem_of_getElem? (i := 418) (by decide +kernel), List.mem_of_getElem? (i := 1163) (by decide +kernel), List.mem_of_getElem? (i := 1164) (by decide +kernel)⟩
theorem lw_p41 : lw_okq (⟨"LightsMarket$Planner", "fillRest", "(I)V"⟩, 11) := ⟨⟨by decide +kernel, by decide +kernel⟩, List.mem_of_getElem? (i := 418) (by decide +kernel), List.mem_of_getElem? (i := 1171) (by decide +kernel), List.mem_of_getElem? (i := 1172) (by decide +kernel)⟩
theorem lw_p42 : lw_okq (⟨"LightsMarket$Planner", "cheapest", "(III)I"⟩, 11) := ⟨⟨by decide +kernel, by decide +kernel⟩, List.mem_of_getElem? (i := 418) (by decide +kernel), List.mem_of_getElem? (i := 1175) (by decide +kernel), List.mem_of_getElem? (i := 1176) (by decide +kernel)⟩
theorem lw_p43 : lw_okq (⟨"LightsMarket$Planner", "canStart", "(II)Z"⟩, 11) := ⟨⟨by decide +kernel, by decide +kernel⟩, List.mem_of_getElem? (i := 418) (by decide +kernel), List.mem_of_getElem? (i := 1179) (by decide +kernel), List.mem_of_getElem? (i := 1180) (by decide +kernel)⟩
theorem lw_p44 : lw_okq (⟨"LightsMarket$Planner", "turningCoin", "(II)I"⟩, 11) := ⟨⟨by decide +kernel, by decide +kernel⟩, List.mem_of_getElem? (i := 418) (by decide +kernel), List.mem_of_getElem? (i := 1183) (by decide +kernel), List.mem_of_getElem? (i := 1184) (by decide +kernel)⟩
theorem lw_p45 : lw_okq (⟨"LightsMarket$Planner", "turningOf", "(III)I"⟩, 11) := ⟨⟨by decide +kernel, by decide +kernel⟩, List.mem_of_getElem? (i := 418) (by decide +kernel), List.mem_of_getElem? (i := 1187) (by decide +kernel), List.mem_of_getElem? (i := 1188) (by decide +kernel)⟩
theorem lw_p46 : lw_okq (⟨"LightsMarket$Planner", "costAt", "(III)I"⟩, 11) := ⟨⟨by decide +kernel, by decide +kernel⟩, List.mem_of_getElem? (i := 418) (by decide +kernel), List.mem_of_getElem? (i := 1191) (by decide +kernel), List.mem_of_getElem? (i := 1192) (by decide +kernel)⟩
theorem lw_p47 : lw_okq (⟨"LightsMarket$Planner", "lakeBehind", "(II)I"⟩, 11) := ⟨⟨by decide +kernel, by decide +kernel⟩, List.mem_of_getElem? (i := 418) (by decide +kernel), List.mem_of_getElem? (i := 1196) (by decide +kernel), List.mem_of_getElem? (i := 1197) (by decide +kernel)⟩
def lw_privs_3 : List (MethodName × Nat) := [(⟨"LightsMarket$Offer", "step", "(I)V"⟩, 5), (⟨"LightsMarket$Offer", "push", "(I)V"⟩, 5), (⟨"LightsMarket$Dispatch", "span", "(IIII)Z"⟩, 12), (⟨"LightsMarket$Dispatch", "lowOf", "(LLightsMarket$Mill;II)I"⟩, 12), (⟨"LightsMarket$Dispatch", "highOf", "(LLightsMarket$Mill;III)I"⟩, 12), (⟨"LightsMarket$Dispatch", "choose", "(III)V"⟩, 12), (⟨"LightsMarket$Dispatch", "fits", "()Z"⟩, 12), (⟨"LightsMarket$Dispatch", "roomBehind", "(I)I"⟩, 12), (⟨"LightsMarket$Planner", "fillCost", "(I)V"⟩, 11), (⟨"LightsMarket$Planner", "fillRest", "(I)V"⟩, 11), (⟨"LightsMarket$Planner", "cheapest", "(III)I"⟩, 11), (⟨"LightsMarket$Planner", "canStart", "(II)Z"⟩, 11), (⟨"LightsMarket$Planner", "turningCoin", "(II)I"⟩, 11), (⟨"LightsMarket$Planner", "turningOf", "(III)I"⟩, 11), (⟨"LightsMarket$Planner", "costAt", "(III)I"⟩, 11), (⟨"LightsMarket$Planner", "lakeBehind", "(II)I"⟩, 11)]
theorem lw_r3 : ∀ q ∈ lw_privs_3, lw_okq q := List.forall_mem_cons.mpr ⟨lw_p32, List.forall_mem_cons.mpr ⟨lw_p33, List.forall_mem_cons.mpr ⟨lw_p34, List.forall_mem_cons.mpr ⟨lw_p35, List.forall_mem_cons.mpr ⟨lw_p36, List.forall_mem_cons.mpr ⟨lw_p37, List.forall_mem_cons.mpr ⟨lw_p38, List.forall_mem_cons.mpr ⟨lw_p39, List.forall_mem_cons.mpr ⟨lw_p40, List.forall_mem_cons.mpr ⟨lw_p41, List.forall_mem_cons.mpr ⟨lw_p42, List.forall_mem_cons.mpr ⟨lw_p43, List.forall_mem_cons.mpr ⟨lw_p44, List.forall_mem_cons.mpr ⟨lw_p45, List.forall_mem_cons.mpr ⟨lw_p46, List.forall_mem_cons.mpr ⟨lw_p47, fun _ h => absurd h List.not_mem_nil⟩⟩⟩⟩⟩⟩⟩⟩⟩⟩⟩⟩⟩⟩⟩⟩
theorem lw_p48 : lw_okq (⟨"LightsMarket$Planner", "restAt", "(III)I"⟩, 11) := ⟨⟨by decide +kernel, by decide +kernel⟩, List.mem_of_getElem? (i := 418) (by decide +kernel), List.mem_of_getElem? (i := 1200) (by decide +kernel), List.mem_of_getElem? (i := 1201) (by decide +kernel)⟩
theorem lw_p49 : lw_okq (⟨"LightsMarket$Planner", "pick", "(II)V"⟩, 11) := ⟨⟨by decide +kernel, by decide +kernel⟩, List.mem_of_getElem? (i := 418) (by decide +kernel), List.mem_of_getElem? (i := 1209) (by decide +kernel), List.mem_of_getElem? (i := 1210) (by decide +kernel)⟩
theorem lw_p50 : lw_okq (⟨"LightsMarket$Planner", "keepQuarter", "(II)V"⟩, 11) := ⟨⟨by decide +kernel, by decide +kernel⟩, List.mem_of_getElem? (i := 418) (by decide +kernel), List.mem_of_getElem? (i := 1213) (by decide +kernel), List.mem_of_getElem? (i := 1214) (by decide +kernel)⟩
theorem lw_p51 : lw_okq (⟨"LightsMarket$Planner", "keepPrices", "(I)V"⟩, 11) := ⟨⟨by decide +kernel, by decide +kernel⟩, List.mem_of_getElem? (i := 418) (by decide +kernel), List.mem_of_getElem? (i := 1221) (by decide +kernel), List.mem_of_getElem? (i := 1222) (by decide +kernel)⟩
theorem lw_p52 : lw_okq (⟨"LightsMarket$Planner", "keepPay", "()V"⟩, 11) := ⟨⟨by decide +kernel, by decide +kernel⟩, List.mem_of_getElem? (i := 418) (by decide +kernel), List.mem_of_getElem? (i := 1227) (by decide +kernel), List.mem_of_getElem? (i := 1228) (by decide +kernel)⟩
theorem lw_p53 : lw_okq (⟨"LightsMarket$Game", "fillUnits", "(I)V"⟩, 8) := ⟨⟨by decide +kernel, by decide +kernel⟩, List.mem_of_getElem? (i := 459) (by decide +kernel), List.mem_of_getElem? (i := 1270) (by decide +kernel), List.mem_of_getElem? (i := 1271) (by decide +kernel)⟩
theorem lw_p54 : lw_okq (⟨"LightsMarket$Game", "addGains", "(II)V"⟩, 8) := ⟨⟨by decide +kernel, by decide +kernel⟩, List.mem_of_getElem? (i := 459) (by decide +kernel), List.mem_of_getElem? (i := 1278) (by decide +kernel), List.mem_of_getElem? (i := 1279) (by decide +kernel)⟩
theorem lw_p55 : lw_okq (⟨"LightsMarket$Game", "addGainsAt", "(III)V"⟩, 8) := ⟨⟨by decide +kernel, by decide +kernel⟩, List.mem_of_getElem? (i := 459) (by decide +kernel), List.mem_of_getElem? (i := 1282) (by decide +kernel), List.mem_of_getElem? (i := 1283) (by decide +kernel)⟩
theorem lw_p56 : lw_okq (⟨"LightsMarket$Game", "play", "()I"⟩, 8) := ⟨⟨by decide +kernel, by decide +kernel⟩, List.mem_of_getElem? (i := 459) (by decide +kernel), List.mem_of_getElem? (i := 1288) (by decide +kernel), List.mem_of_getElem? (i := 1289) (by decide +kernel)⟩
theorem lw_p57 : lw_okq (⟨"LightsMarket$Game", "bestFor", "(II)I"⟩, 8) := ⟨⟨by decide +kernel, by decide +kernel⟩, List.mem_of_getElem? (i := 459) (by decide +kernel), List.mem_of_getElem? (i := 1292) (by decide +kernel), List.mem_of_getElem? (i := 1293) (by decide +kernel)⟩
theorem lw_p58 : lw_okq (⟨"LightsMarket$Game", "wasSeen", "(I)Z"⟩, 8) := ⟨⟨by decide +kernel, by decide +kernel⟩, List.mem_of_getElem? (i := 459) (by decide +kernel), List.mem_of_getElem? (i := 1301) (by decide +kernel), List.mem_of_getElem? (i := 1302) (by decide +kernel)⟩
theorem lw_p59 : lw_okq (⟨"LightsMarket$Night", "orderRight", "(I)Z"⟩, 14) := ⟨⟨by decide +kernel, by decide +kernel⟩, List.mem_of_getElem? (i := 494) (by decide +kernel), List.mem_of_getElem? (i := 1333) (by decide +kernel), List.mem_of_getElem? (i := 1334) (by decide +kernel)⟩
theorem lw_p60 : lw_okq (⟨"LightsMarket$Night", "unitsRight", "(I)Z"⟩, 14) := ⟨⟨by decide +kernel, by decide +kernel⟩, List.mem_of_getElem? (i := 494) (by decide +kernel), List.mem_of_getElem? (i := 1337) (by decide +kernel), List.mem_of_getElem? (i := 1338) (by decide +kernel)⟩
theorem lw_p61 : lw_okq (⟨"LightsMarket$Night", "passOne", "()V"⟩, 14) := ⟨⟨by decide +kernel, by decide +kernel⟩, List.mem_of_getElem? (i := 494) (by decide +kernel), List.mem_of_getElem? (i := 1366) (by decide +kernel), List.mem_of_getElem? (i := 1367) (by decide +kernel)⟩
theorem lw_p62 : lw_okq (⟨"LightsMarket$Night", "rampUp", "()V"⟩, 14) := ⟨⟨by decide +kernel, by decide +kernel⟩, List.mem_of_getElem? (i := 494) (by decide +kernel), List.mem_of_getElem? (i := 1371) (by decide +kernel), List.mem_of_getElem? (i := 1372) (by decide +kernel)⟩
theorem lw_p63 : lw_okq (⟨"LightsMarket$Night", "loadNow", "()I"⟩, 14) := ⟨⟨by decide +kernel, by decide +kernel⟩, List.mem_of_getElem? (i := 494) (by decide +kernel), List.mem_of_getElem? (i := 1376) (by decide +kernel), List.mem_of_getElem? (i := 1377) (by decide +kernel)⟩
def lw_privs_4 : List (MethodName × Nat) := [(⟨"LightsMarket$Planner", "restAt", "(III)I"⟩, 11), (⟨"LightsMarket$Planner", "pick", "(II)V"⟩, 11), (⟨"LightsMarket$Planner", "keepQuarter", "(II)V"⟩, 11), (⟨"LightsMarket$Planner", "keepPrices", "(I)V"⟩, 11), (⟨"LightsMarket$Planner", "keepPay", "()V"⟩, 11), (⟨"LightsMarket$Game", "fillUnits", "(I)V"⟩, 8), (⟨"LightsMarket$Game", "addGains", "(II)V"⟩, 8), (⟨"LightsMarket$Game", "addGainsAt", "(III)V"⟩, 8), (⟨"LightsMarket$Game", "play", "()I"⟩, 8), (⟨"LightsMarket$Game", "bestFor", "(II)I"⟩, 8), (⟨"LightsMarket$Game", "wasSeen", "(I)Z"⟩, 8), (⟨"LightsMarket$Night", "orderRight", "(I)Z"⟩, 14), (⟨"LightsMarket$Night", "unitsRight", "(I)Z"⟩, 14), (⟨"LightsMarket$Night", "passOne", "()V"⟩, 14), (⟨"LightsMarket$Night", "rampUp", "()V"⟩, 14), (⟨"LightsMarket$Night", "loadNow", "()I"⟩, 14)]
theorem lw_r4 : ∀ q ∈ lw_privs_4, lw_okq q := List.forall_mem_cons.mpr ⟨lw_p48, List.forall_mem_cons.mpr ⟨lw_p49, List.forall_mem_cons.mpr ⟨lw_p50, List.forall_mem_cons.mpr ⟨lw_p51, List.forall_mem_cons.mpr ⟨lw_p52, List.forall_mem_cons.mpr ⟨lw_p53, List.forall_mem_cons.mpr ⟨lw_p54, List.forall_mem_cons.mpr ⟨lw_p55, List.forall_mem_cons.mpr ⟨lw_p56, List.forall_mem_cons.mpr ⟨lw_p57, List.forall_mem_cons.mpr ⟨lw_p58, List.forall_mem_cons.mpr ⟨lw_p59, List.forall_mem_cons.mpr ⟨lw_p60, List.forall_mem_cons.mpr ⟨lw_p61, List.forall_mem_cons.mpr ⟨lw_p62, List.forall_mem_cons.mpr ⟨lw_p63, fun _ h => absurd h List.not_mem_nil⟩⟩⟩⟩⟩⟩⟩⟩⟩⟩⟩⟩⟩⟩⟩⟩
theorem lw_p64 : lw_okq (⟨"LightsMarket$Night", "cutNext", "()V"⟩, 14) := ⟨⟨by decide +kernel, by decide +kernel⟩, List.mem_of_getElem? (i := 494) (by decide +kernel), List.mem_of_getElem? (i := 1385) (by decide +kernel), List.mem_of_getElem? (i := 1386) (by decide +kernel)⟩
theorem lw_p65 : lw_okq (⟨"LightsMarket$Way", "trace", "(I)I"⟩, 7) := ⟨⟨by decide +kernel, by decide +kernel⟩, List.mem_of_getElem? (i := 548) (by decide +kernel), List.mem_of_getElem? (i := 1417) (by decide +kernel), List.mem_of_getElem? (i := 1418) (by decide +kernel)⟩
theorem lw_p66 : lw_okq (⟨"LightsMarket$Way", "spread", "(I)V"⟩, 7) := ⟨⟨by decide +kernel, by decide +kernel⟩, List.mem_of_getElem? (i := 548) (by decide +kernel), List.mem_of_getElem? (i := 1421) (by decide +kernel), List.mem_of_getElem? (i := 1422) (by decide +kernel)⟩
theorem lw_p67 : lw_okq (⟨"LightsMarket$Way", "behind", "(II)I"⟩, 7) := ⟨⟨by decide +kernel, by decide +kernel⟩, List.mem_of_getElem? (i := 548) (by decide +kernel), List.mem_of_getElem? (i := 1425) (by decide +kernel), List.mem_of_getElem? (i := 1426) (by decide +kernel)⟩
theorem lw_p68 : lw_okq (⟨"LightsMarket$Way", "canComeOn", "(II)Z"⟩, 7) := ⟨⟨by decide +kernel, by decide +kernel⟩, List.mem_of_getElem? (i := 548) (by decide +kernel), List.mem_of_getElem? (i := 1429) (by decide +kernel), List.mem_of_getElem? (i := 1430) (by decide +kernel)⟩
theorem lw_p69 : lw_okq (⟨"LightsMarket$Way", "reachOfOn", "(I)I"⟩, 7) := ⟨⟨by decide +kernel, by decide +kernel⟩, List.mem_of_getElem? (i := 548) (by decide +kernel), List.mem_of_getElem? (i := 1434) (by decide +kernel), List.mem_of_getElem? (i := 1435) (by decide +kernel)⟩
theorem lw_p70 : lw_okq (⟨"LightsMarket$Way", "servedLoad", "(I)I"⟩, 7) := ⟨⟨by decide +kernel, by decide +kernel⟩, List.mem_of_getElem? (i := 548) (by decide +kernel), List.mem_of_getElem? (i := 1439) (by decide +kernel), List.mem_of_getElem? (i := 1440) (by decide +kernel)⟩
theorem lw_p71 : lw_okq (⟨"LightsMarket$Way", "behindLine", "(II)I"⟩, 7) := ⟨⟨by decide +kernel, by decide +kernel⟩, List.mem_of_getElem? (i := 548) (by decide +kernel), List.mem_of_getElem? (i := 1444) (by decide +kernel), List.mem_of_getElem? (i := 1445) (by decide +kernel)⟩
theorem lw_p72 : lw_okq (⟨"LightsMarket", "unitsKnown", "(III)I"⟩, 14) := ⟨⟨by decide +kernel, by decide +kernel⟩, List.mem_of_getElem? (i := 27) (by decide +kernel), List.mem_of_getElem? (i := 1485) (by decide +kernel), List.mem_of_getElem? (i := 1486) (by decide +kernel)⟩
theorem lw_p73 : lw_okq (⟨"LightsMarketModel", "isPlace", "(I)Z"⟩, 113) := ⟨⟨by decide +kernel, by decide +kernel⟩, List.mem_of_getElem? (i := 1496) (by decide +kernel), List.mem_of_getElem? (i := 1861) (by decide +kernel), List.mem_of_getElem? (i := 1862) (by decide +kernel)⟩
theorem lw_p74 : lw_okq (⟨"LightsMarketModel", "fail", "(I)I"⟩, 113) := ⟨⟨by decide +kernel, by decide +kernel⟩, List.mem_of_getElem? (i := 1496) (by decide +kernel), List.mem_of_getElem? (i := 1868) (by decide +kernel), List.mem_of_getElem? (i := 1869) (by decide +kernel)⟩
theorem lw_p75 : lw_okq (⟨"LightsMarketModel", "isTold", "(IIIIII)Z"⟩, 113) := ⟨⟨by decide +kernel, by decide +kernel⟩, List.mem_of_getElem? (i := 1496) (by decide +kernel), List.mem_of_getElem? (i := 1876) (by decide +kernel), List.mem_of_getElem? (i := 1877) (by decide +kernel)⟩
theorem lw_p76 : lw_okq (⟨"LightsMarketModel", "isSheet", "(I)Z"⟩, 113) := ⟨⟨by decide +kernel, by decide +kernel⟩, List.mem_of_getElem? (i := 1496) (by decide +kernel), List.mem_of_getElem? (i := 1888) (by decide +kernel), List.mem_of_getElem? (i := 1889) (by decide +kernel)⟩
theorem lw_p77 : lw_okq (⟨"LightsMarketModel", "hasPart", "(III)Z"⟩, 113) := ⟨⟨by decide +kernel, by decide +kernel⟩, List.mem_of_getElem? (i := 1496) (by decide +kernel), List.mem_of_getElem? (i := 1896) (by decide +kernel), List.mem_of_getElem? (i := 1897) (by decide +kernel)⟩
theorem lw_p78 : lw_okq (⟨"LightsMarketModel", "isMill", "(I)Z"⟩, 113) := ⟨⟨by decide +kernel, by decide +kernel⟩, List.mem_of_getElem? (i := 1496) (by decide +kernel), List.mem_of_getElem? (i := 1904) (by decide +kernel), List.mem_of_getElem? (i := 1905) (by decide +kernel)⟩
theorem lw_p79 : lw_okq (⟨"LightsMarketModel", "step", "()V"⟩, 113) := ⟨⟨by decide +kernel, by decide +kernel⟩, List.mem_of_getElem? (i := 1496) (by decide +kernel), List.mem_of_getElem? (i := 1916) (by decide +kernel), List.mem_of_getElem? (i := 1917) (by decide +kernel)⟩
def lw_privs_5 : List (MethodName × Nat) := [(⟨"LightsMarket$Night", "cutNext", "()V"⟩, 14), (⟨"LightsMarket$Way", "trace", "(I)I"⟩, 7), (⟨"LightsMarket$Way", "spread", "(I)V"⟩, 7), (⟨"LightsMarket$Way", "behind", "(II)I"⟩, 7), (⟨"LightsMarket$Way", "canComeOn", "(II)Z"⟩, 7), (⟨"LightsMarket$Way", "reachOfOn", "(I)I"⟩, 7), (⟨"LightsMarket$Way", "servedLoad", "(I)I"⟩, 7), (⟨"LightsMarket$Way", "behindLine", "(II)I"⟩, 7), (⟨"LightsMarket", "unitsKnown", "(III)I"⟩, 14), (⟨"LightsMarketModel", "isPlace", "(I)Z"⟩, 113), (⟨"LightsMarketModel", "fail", "(I)I"⟩, 113), (⟨"LightsMarketModel", "isTold", "(IIIIII)Z"⟩, 113), (⟨"LightsMarketModel", "isSheet", "(I)Z"⟩, 113), (⟨"LightsMarketModel", "hasPart", "(III)Z"⟩, 113), (⟨"LightsMarketModel", "isMill", "(I)Z"⟩, 113), (⟨"LightsMarketModel", "step", "()V"⟩, 113)]
theorem lw_r5 : ∀ q ∈ lw_privs_5, lw_okq q := List.forall_mem_cons.mpr ⟨lw_p64, List.forall_mem_cons.mpr ⟨lw_p65, List.forall_mem_cons.mpr ⟨lw_p66, List.forall_mem_cons.mpr ⟨lw_p67, List.forall_mem_cons.mpr ⟨lw_p68, List.forall_mem_cons.mpr ⟨lw_p69, List.forall_mem_cons.mpr ⟨lw_p70, List.forall_mem_cons.mpr ⟨lw_p71, List.forall_mem_cons.mpr ⟨lw_p72, List.forall_mem_cons.mpr ⟨lw_p73, List.forall_mem_cons.mpr ⟨lw_p74, List.forall_mem_cons.mpr ⟨lw_p75, List.forall_mem_cons.mpr ⟨lw_p76, List.forall_mem_cons.mpr ⟨lw_p77, List.forall_mem_cons.mpr ⟨lw_p78, List.forall_mem_cons.mpr ⟨lw_p79, fun _ h => absurd h List.not_mem_nil⟩⟩⟩⟩⟩⟩⟩⟩⟩⟩⟩⟩⟩⟩⟩⟩
theorem lw_p80 : lw_okq (⟨"LightsMarketModel", "byteAt", "(I)I"⟩, 113) := ⟨⟨by decide +kernel, by decide +kernel⟩, List.mem_of_getElem? (i := 1496) (by decide +kernel), List.mem_of_getElem? (i := 1920) (by decide +kernel), List.mem_of_getElem? (i := 1921) (by decide +kernel)⟩
theorem lw_p81 : lw_okq (⟨"LightsMarketModel", "readClause", "()V"⟩, 113) := ⟨⟨by decide +kernel, by decide +kernel⟩, List.mem_of_getElem? (i := 1496) (by decide +kernel), List.mem_of_getElem? (i := 1932) (by decide +kernel), List.mem_of_getElem? (i := 1933) (by decide +kernel)⟩
theorem lw_p82 : lw_okq (⟨"LightsMarketModel", "is", "(Ljava/lang/String;)Z"⟩, 113) := ⟨⟨by decide +kernel, by decide +kernel⟩, List.mem_of_getElem? (i := 1496) (by decide +kernel), List.mem_of_getElem? (i := 1937) (by decide +kernel), List.mem_of_getElem? (i := 1938) (by decide +kernel)⟩
theorem lw_p83 : lw_okq (⟨"LightsMarketModel", "wrong", "(I)V"⟩, 113) := ⟨⟨by decide +kernel, by decide +kernel⟩, List.mem_of_getElem? (i := 1496) (by decide +kernel), List.mem_of_getElem? (i := 1944) (by decide +kernel), List.mem_of_getElem? (i := 1945) (by decide +kernel)⟩
theorem lw_p84 : lw_okq (⟨"LightsMarketModel", "readExpression", "(I)V"⟩, 113) := ⟨⟨by decide +kernel, by decide +kernel⟩, List.mem_of_getElem? (i := 1496) (by decide +kernel), List.mem_of_getElem? (i := 1948) (by decide +kernel), List.mem_of_getElem? (i := 1949) (by decide +kernel)⟩
theorem lw_p85 : lw_okq (⟨"LightsMarketModel", "isSign", "(I)Z"⟩, 113) := ⟨⟨by decide +kernel, by decide +kernel⟩, List.mem_of_getElem? (i := 1496) (by decide +kernel), List.mem_of_getElem? (i := 1952) (by decide +kernel), List.mem_of_getElem? (i := 1953) (by decide +kernel)⟩
theorem lw_p86 : lw_okq (⟨"LightsMarketModel", "readAnd", "(I)V"⟩, 113) := ⟨⟨by decide +kernel, by decide +kernel⟩, List.mem_of_getElem? (i := 1496) (by decide +kernel), List.mem_of_getElem? (i := 1956) (by decide +kernel), List.mem_of_getElem? (i := 1957) (by decide +kernel)⟩
theorem lw_p87 : lw_okq (⟨"LightsMarketModel", "readNot", "(I)V"⟩, 113) := ⟨⟨by decide +kernel, by decide +kernel⟩, List.mem_of_getElem? (i := 1496) (by decide +kernel), List.mem_of_getElem? (i := 1960) (by decide +kernel), List.mem_of_getElem? (i := 1961) (by decide +kernel)⟩
theorem lw_p88 : lw_okq (⟨"LightsMarketModel", "readSum", "(I)V"⟩, 113) := ⟨⟨by decide +kernel, by decide +kernel⟩, List.mem_of_getElem? (i := 1496) (by decide +kernel), List.mem_of_getElem? (i := 1965) (by decide +kernel), List.mem_of_getElem? (i := 1966) (by decide +kernel)⟩
theorem lw_p89 : lw_okq (⟨"LightsMarketModel", "readProduct", "(I)V"⟩, 113) := ⟨⟨by decide +kernel, by decide +kernel⟩, List.mem_of_getElem? (i := 1496) (by decide +kernel), List.mem_of_getElem? (i := 1969) (by decide +kernel), List.mem_of_getElem? (i := 1970) (by decide +kernel)⟩
theorem lw_p90 : lw_okq (⟨"LightsMarketModel", "readPart", "(I)V"⟩, 113) := ⟨⟨by decide +kernel, by decide +kernel⟩, List.mem_of_getElem? (i := 1496) (by decide +kernel), List.mem_of_getElem? (i := 1973) (by decide +kernel), List.mem_of_getElem? (i := 1974) (by decide +kernel)⟩
theorem lw_p91 : lw_okq (⟨"LightsMarketModel", "readNumber", "()I"⟩, 113) := ⟨⟨by decide +kernel, by decide +kernel⟩, List.mem_of_getElem? (i := 1496) (by decide +kernel), List.mem_of_getElem? (i := 1977) (by decide +kernel), List.mem_of_getElem? (i := 1978) (by decide +kernel)⟩
theorem lw_p92 : lw_okq (⟨"LightsMarketModel", "emit", "(I)V"⟩, 113) := ⟨⟨by decide +kernel, by decide +kernel⟩, List.mem_of_getElem? (i := 1496) (by decide +kernel), List.mem_of_getElem? (i := 1981) (by decide +kernel), List.mem_of_getElem? (i := 1982) (by decide +kernel)⟩
theorem lw_p93 : lw_okq (⟨"LightsMarketModel", "valueNow", "()I"⟩, 113) := ⟨⟨by decide +kernel, by decide +kernel⟩, List.mem_of_getElem? (i := 1496) (by decide +kernel), List.mem_of_getElem? (i := 1985) (by decide +kernel), List.mem_of_getElem? (i := 1986) (by decide +kernel)⟩
theorem lw_p94 : lw_okq (⟨"LightsMarketModel", "need", "(I)V"⟩, 113) := ⟨⟨by decide +kernel, by decide +kernel⟩, List.mem_of_getElem? (i := 1496) (by decide +kernel), List.mem_of_getElem? (i := 1989) (by decide +kernel), List.mem_of_getElem? (i := 1990) (by decide +kernel)⟩
theorem lw_p95 : lw_okq (⟨"LightsMarketModel", "loadsOf", "(I)I"⟩, 113) := ⟨⟨by decide +kernel, by decide +kernel⟩, List.mem_of_getElem? (i := 1496) (by decide +kernel), List.mem_of_getElem? (i := 2006) (by decide +kernel), List.mem_of_getElem? (i := 2007) (by decide +kernel)⟩
def lw_privs_6 : List (MethodName × Nat) := [(⟨"LightsMarketModel", "byteAt", "(I)I"⟩, 113), (⟨"LightsMarketModel", "readClause", "()V"⟩, 113), (⟨"LightsMarketModel", "is", "(Ljava/lang/String;)Z"⟩, 113), (⟨"LightsMarketModel", "wrong", "(I)V"⟩, 113), (⟨"LightsMarketModel", "readExpression", "(I)V"⟩, 113), (⟨"LightsMarketModel", "isSign", "(I)Z"⟩, 113), (⟨"LightsMarketModel", "readAnd", "(I)V"⟩, 113), (⟨"LightsMarketModel", "readNot", "(I)V"⟩, 113), (⟨"LightsMarketModel", "readSum", "(I)V"⟩, 113), (⟨"LightsMarketModel", "readProduct", "(I)V"⟩, 113), (⟨"LightsMarketModel", "readPart", "(I)V"⟩, 113), (⟨"LightsMarketModel", "readNumber", "()I"⟩, 113), (⟨"LightsMarketModel", "emit", "(I)V"⟩, 113), (⟨"LightsMarketModel", "valueNow", "()I"⟩, 113), (⟨"LightsMarketModel", "need", "(I)V"⟩, 113), (⟨"LightsMarketModel", "loadsOf", "(I)I"⟩, 113)]
theorem lw_r6 : ∀ q ∈ lw_privs_6, lw_okq q := List.forall_mem_cons.mpr ⟨lw_p80, List.forall_mem_cons.mpr ⟨lw_p81, List.forall_mem_cons.mpr ⟨lw_p82, List.forall_mem_cons.mpr ⟨lw_p83, List.forall_mem_cons.mpr ⟨lw_p84, List.forall_mem_cons.mpr ⟨lw_p85, List.forall_mem_cons.mpr ⟨lw_p86, List.forall_mem_cons.mpr ⟨lw_p87, List.forall_mem_cons.mpr ⟨lw_p88, List.forall_mem_cons.mpr ⟨lw_p89, List.forall_mem_cons.mpr ⟨lw_p90, List.forall_mem_cons.mpr ⟨lw_p91, List.forall_mem_cons.mpr ⟨lw_p92, List.forall_mem_cons.mpr ⟨lw_p93, List.forall_mem_cons.mpr ⟨lw_p94, List.forall_mem_cons.mpr ⟨lw_p95, fun _ h => absurd h List.not_mem_nil⟩⟩⟩⟩⟩⟩⟩⟩⟩⟩⟩⟩⟩⟩⟩⟩
theorem lw_p96 : lw_okq (⟨"LightsMarketModel", "askedOf", "(IIII)I"⟩, 113) := ⟨⟨by decide +kernel, by decide +kernel⟩, List.mem_of_getElem? (i := 1496) (by decide +kernel), List.mem_of_getElem? (i := 2010) (by decide +kernel), List.mem_of_getElem? (i := 2011) (by decide +kernel)⟩
theorem lw_p97 : lw_okq (⟨"LightsMarketModel", "worked", "(II)I"⟩, 113) := ⟨⟨by decide +kernel, by decide +kernel⟩, List.mem_of_getElem? (i := 1496) (by decide +kernel), List.mem_of_getElem? (i := 2014) (by decide +kernel), List.mem_of_getElem? (i := 2015) (by decide +kernel)⟩
theorem lw_p98 : lw_okq (⟨"LightsMarketModel", "tellNet", "(I)V"⟩, 113) := ⟨⟨by decide +kernel, by decide +kernel⟩, List.mem_of_getElem? (i := 1496) (by decide +kernel), List.mem_of_getElem? (i := 2030) (by decide +kernel), List.mem_of_getElem? (i := 2031) (by decide +kernel)⟩
theorem lw_p99 : lw_okq (⟨"LightsMarketModel", "determinant", "(II)J"⟩, 113) := ⟨⟨by decide +kernel, by decide +kernel⟩, List.mem_of_getElem? (i := 1496) (by decide +kernel), List.mem_of_getElem? (i := 2034) (by decide +kernel), List.mem_of_getElem? (i := 2035) (by decide +kernel)⟩
theorem lw_p100 : lw_okq (⟨"LightsMarketModel", "height", "(II)J"⟩, 113) := ⟨⟨by decide +kernel, by decide +kernel⟩, List.mem_of_getElem? (i := 1496) (by decide +kernel), List.mem_of_getElem? (i := 2038) (by decide +kernel), List.mem_of_getElem? (i := 2039) (by decide +kernel)⟩
theorem lw_p101 : lw_okq (⟨"LightsMarketModel", "waterMost", "()I"⟩, 113) := ⟨⟨by decide +kernel, by decide +kernel⟩, List.mem_of_getElem? (i := 1496) (by decide +kernel), List.mem_of_getElem? (i := 2049) (by decide +kernel), List.mem_of_getElem? (i := 2050) (by decide +kernel)⟩
theorem lw_p102 : lw_okq (⟨"LightsMarketModel", "tellNets", "()V"⟩, 113) := ⟨⟨by decide +kernel, by decide +kernel⟩, List.mem_of_getElem? (i := 1496) (by decide +kernel), List.mem_of_getElem? (i := 2053) (by decide +kernel), List.mem_of_getElem? (i := 2054) (by decide +kernel)⟩
theorem lw_p103 : lw_okq (⟨"LightsMarketModel", "leastOf", "(IIII)I"⟩, 113) := ⟨⟨by decide +kernel, by decide +kernel⟩, List.mem_of_getElem? (i := 1496) (by decide +kernel), List.mem_of_getElem? (i := 2057) (by decide +kernel), List.mem_of_getElem? (i := 2058) (by decide +kernel)⟩
theorem lw_p104 : lw_okq (⟨"LightsMarketModel", "tellMill", "(IIII)V"⟩, 113) := ⟨⟨by decide +kernel, by decide +kernel⟩, List.mem_of_getElem? (i := 1496) (by decide +kernel), List.mem_of_getElem? (i := 2061) (by decide +kernel), List.mem_of_getElem? (i := 2062) (by decide +kernel)⟩
theorem lw_p105 : lw_okq (⟨"LightsMarketModel", "mostOf", "(I)I"⟩, 113) := ⟨⟨by decide +kernel, by decide +kernel⟩, List.mem_of_getElem? (i := 1496) (by decide +kernel), List.mem_of_getElem? (i := 2065) (by decide +kernel), List.mem_of_getElem? (i := 2066) (by decide +kernel)⟩
theorem lw_p106 : lw_okq (⟨"LightsMarketModel", "go", "(III)V"⟩, 113) := ⟨⟨by decide +kernel, by decide +kernel⟩, List.mem_of_getElem? (i := 1496) (by decide +kernel), List.mem_of_getElem? (i := 2069) (by decide +kernel), List.mem_of_getElem? (i := 2070) (by decide +kernel)⟩
theorem lw_p107 : lw_okq (⟨"LightsMarketModel", "fits", "()Z"⟩, 113) := ⟨⟨by decide +kernel, by decide +kernel⟩, List.mem_of_getElem? (i := 1496) (by decide +kernel), List.mem_of_getElem? (i := 2073) (by decide +kernel), List.mem_of_getElem? (i := 2074) (by decide +kernel)⟩
theorem lw_p108 : lw_okq (⟨"LightsMarketModel", "startable", "()I"⟩, 113) := ⟨⟨by decide +kernel, by decide +kernel⟩, List.mem_of_getElem? (i := 1496) (by decide +kernel), List.mem_of_getElem? (i := 2085) (by decide +kernel), List.mem_of_getElem? (i := 2086) (by decide +kernel)⟩
theorem lw_p109 : lw_okq (⟨"LightsMarketModel", "tellBest", "(IIII)V"⟩, 113) := ⟨⟨by decide +kernel, by decide +kernel⟩, List.mem_of_getElem? (i := 1496) (by decide +kernel), List.mem_of_getElem? (i := 2089) (by decide +kernel), List.mem_of_getElem? (i := 2090) (by decide +kernel)⟩
theorem lw_p110 : lw_okq (⟨"LightsMarketModel", "coinOf", "(IIII)I"⟩, 113) := ⟨⟨by decide +kernel, by decide +kernel⟩, List.mem_of_getElem? (i := 1496) (by decide +kernel), List.mem_of_getElem? (i := 2093) (by decide +kernel), List.mem_of_getElem? (i := 2094) (by decide +kernel)⟩
theorem lw_p111 : lw_okq (⟨"LightsMarketModel", "streamed", "(II)I"⟩, 113) := ⟨⟨by decide +kernel, by decide +kernel⟩, List.mem_of_getElem? (i := 1496) (by decide +kernel), List.mem_of_getElem? (i := 2097) (by decide +kernel), List.mem_of_getElem? (i := 2098) (by decide +kernel)⟩
def lw_privs_7 : List (MethodName × Nat) := [(⟨"LightsMarketModel", "askedOf", "(IIII)I"⟩, 113), (⟨"LightsMarketModel", "worked", "(II)I"⟩, 113), (⟨"LightsMarketModel", "tellNet", "(I)V"⟩, 113), (⟨"LightsMarketModel", "determinant", "(II)J"⟩, 113), (⟨"LightsMarketModel", "height", "(II)J"⟩, 113), (⟨"LightsMarketModel", "waterMost", "()I"⟩, 113), (⟨"LightsMarketModel", "tellNets", "()V"⟩, 113), (⟨"LightsMarketModel", "leastOf", "(IIII)I"⟩, 113), (⟨"LightsMarketModel", "tellMill", "(IIII)V"⟩, 113), (⟨"LightsMarketModel", "mostOf", "(I)I"⟩, 113), (⟨"LightsMarketModel", "go", "(III)V"⟩, 113), (⟨"LightsMarketModel", "fits", "()Z"⟩, 113), (⟨"LightsMarketModel", "startable", "()I"⟩, 113), (⟨"LightsMarketModel", "tellBest", "(IIII)V"⟩, 113), (⟨"LightsMarketModel", "coinOf", "(IIII)I"⟩, 113), (⟨"LightsMarketModel", "streamed", "(II)I"⟩, 113)]
theorem lw_r7 : ∀ q ∈ lw_privs_7, lw_okq q := List.forall_mem_cons.mpr ⟨lw_p96, List.forall_mem_cons.mpr ⟨lw_p97, List.forall_mem_cons.mpr ⟨lw_p98, List.forall_mem_cons.mpr ⟨lw_p99, List.forall_mem_cons.mpr ⟨lw_p100, List.forall_mem_cons.mpr ⟨lw_p101, List.forall_mem_cons.mpr ⟨lw_p102, List.forall_mem_cons.mpr ⟨lw_p103, List.forall_mem_cons.mpr ⟨lw_p104, List.forall_mem_cons.mpr ⟨lw_p105, List.forall_mem_cons.mpr ⟨lw_p106, List.forall_mem_cons.mpr ⟨lw_p107, List.forall_mem_cons.mpr ⟨lw_p108, List.forall_mem_cons.mpr ⟨lw_p109, List.forall_mem_cons.mpr ⟨lw_p110, List.forall_mem_cons.mpr ⟨lw_p111, fun _ h => absurd h List.not_mem_nil⟩⟩⟩⟩⟩⟩⟩⟩⟩⟩⟩⟩⟩⟩⟩⟩
theorem lw_p112 : lw_okq (⟨"LightsMarketModel", "keepQuarter", "(IIII)V"⟩, 113) := ⟨⟨by decide +kernel, by decide +kernel⟩, List.mem_of_getElem? (i := 1496) (by decide +kernel), List.mem_of_getElem? (i := 2101) (by decide +kernel), List.mem_of_getElem? (i := 2102) (by decide +kernel)⟩
theorem lw_p113 : lw_okq (⟨"LightsMarketModel", "earned", "()I"⟩, 113) := ⟨⟨by decide +kernel, by decide +kernel⟩, List.mem_of_getElem? (i := 1496) (by decide +kernel), List.mem_of_getElem? (i := 2117) (by decide +kernel), List.mem_of_getElem? (i := 2118) (by decide +kernel)⟩
theorem lw_p114 : lw_okq (⟨"LightsMarketModel", "priceOf", "(II)I"⟩, 113) := ⟨⟨by decide +kernel, by decide +kernel⟩, List.mem_of_getElem? (i := 1496) (by decide +kernel), List.mem_of_getElem? (i := 2121) (by decide +kernel), List.mem_of_getElem? (i := 2122) (by decide +kernel)⟩
theorem lw_p115 : lw_okq (⟨"LightsMarketModel", "payOf", "(I)I"⟩, 113) := ⟨⟨by decide +kernel, by decide +kernel⟩, List.mem_of_getElem? (i := 1496) (by decide +kernel), List.mem_of_getElem? (i := 2125) (by decide +kernel), List.mem_of_getElem? (i := 2126) (by decide +kernel)⟩
theorem lw_p116 : lw_okq (⟨"LightsMarketModel", "tellGains", "(II)V"⟩, 113) := ⟨⟨by decide +kernel, by decide +kernel⟩, List.mem_of_getElem? (i := 1496) (by decide +kernel), List.mem_of_getElem? (i := 2133) (by decide +kernel), List.mem_of_getElem? (i := 2134) (by decide +kernel)⟩
theorem lw_p117 : lw_okq (⟨"LightsMarketModel", "round", "(I)I"⟩, 113) := ⟨⟨by decide +kernel, by decide +kernel⟩, List.mem_of_getElem? (i := 1496) (by decide +kernel), List.mem_of_getElem? (i := 2141) (by decide +kernel), List.mem_of_getElem? (i := 2142) (by decide +kernel)⟩
theorem lw_p118 : lw_okq (⟨"LightsMarketModel", "refuse", "(I)Z"⟩, 113) := ⟨⟨by decide +kernel, by decide +kernel⟩, List.mem_of_getElem? (i := 1496) (by decide +kernel), List.mem_of_getElem? (i := 2153) (by decide +kernel), List.mem_of_getElem? (i := 2154) (by decide +kernel)⟩
theorem lw_p119 : lw_okq (⟨"LightsMarketModel", "passMinute", "()V"⟩, 113) := ⟨⟨by decide +kernel, by decide +kernel⟩, List.mem_of_getElem? (i := 1496) (by decide +kernel), List.mem_of_getElem? (i := 2170) (by decide +kernel), List.mem_of_getElem? (i := 2171) (by decide +kernel)⟩
theorem lw_p120 : lw_okq (⟨"LightsMarketModel", "madeNow", "()I"⟩, 113) := ⟨⟨by decide +kernel, by decide +kernel⟩, List.mem_of_getElem? (i := 1496) (by decide +kernel), List.mem_of_getElem? (i := 2175) (by decide +kernel), List.mem_of_getElem? (i := 2176) (by decide +kernel)⟩
theorem lw_p121 : lw_okq (⟨"LightsMarketModel", "behind", "(III)I"⟩, 113) := ⟨⟨by decide +kernel, by decide +kernel⟩, List.mem_of_getElem? (i := 1496) (by decide +kernel), List.mem_of_getElem? (i := 2193) (by decide +kernel), List.mem_of_getElem? (i := 2194) (by decide +kernel)⟩
theorem lw_p122 : lw_okq (⟨"LightsMarketModel", "couldMake", "(II)I"⟩, 113) := ⟨⟨by decide +kernel, by decide +kernel⟩, List.mem_of_getElem? (i := 1496) (by decide +kernel), List.mem_of_getElem? (i := 2197) (by decide +kernel), List.mem_of_getElem? (i := 2198) (by decide +kernel)⟩
theorem lw_p123 : lw_okq (⟨"LightsMarketModel", "servedLoads", "(II)I"⟩, 113) := ⟨⟨by decide +kernel, by decide +kernel⟩, List.mem_of_getElem? (i := 1496) (by decide +kernel), List.mem_of_getElem? (i := 2201) (by decide +kernel), List.mem_of_getElem? (i := 2202) (by decide +kernel)⟩
def lw_privs_8 : List (MethodName × Nat) := [(⟨"LightsMarketModel", "keepQuarter", "(IIII)V"⟩, 113), (⟨"LightsMarketModel", "earned", "()I"⟩, 113), (⟨"LightsMarketModel", "priceOf", "(II)I"⟩, 113), (⟨"LightsMarketModel", "payOf", "(I)I"⟩, 113), (⟨"LightsMarketModel", "tellGains", "(II)V"⟩, 113), (⟨"LightsMarketModel", "round", "(I)I"⟩, 113), (⟨"LightsMarketModel", "refuse", "(I)Z"⟩, 113), (⟨"LightsMarketModel", "passMinute", "()V"⟩, 113), (⟨"LightsMarketModel", "madeNow", "()I"⟩, 113), (⟨"LightsMarketModel", "behind", "(III)I"⟩, 113), (⟨"LightsMarketModel", "couldMake", "(II)I"⟩, 113), (⟨"LightsMarketModel", "servedLoads", "(II)I"⟩, 113)]
theorem lw_r8 : ∀ q ∈ lw_privs_8, lw_okq q := List.forall_mem_cons.mpr ⟨lw_p112, List.forall_mem_cons.mpr ⟨lw_p113, List.forall_mem_cons.mpr ⟨lw_p114, List.forall_mem_cons.mpr ⟨lw_p115, List.forall_mem_cons.mpr ⟨lw_p116, List.forall_mem_cons.mpr ⟨lw_p117, List.forall_mem_cons.mpr ⟨lw_p118, List.forall_mem_cons.mpr ⟨lw_p119, List.forall_mem_cons.mpr ⟨lw_p120, List.forall_mem_cons.mpr ⟨lw_p121, List.forall_mem_cons.mpr ⟨lw_p122, List.forall_mem_cons.mpr ⟨lw_p123, fun _ h => absurd h List.not_mem_nil⟩⟩⟩⟩⟩⟩⟩⟩⟩⟩⟩⟩
def lw_privs : List (MethodName × Nat) := lw_privs_1 ++ (lw_privs_2 ++ (lw_privs_3 ++ (lw_privs_4 ++ (lw_privs_5 ++ (lw_privs_6 ++ (lw_privs_7 ++ (lw_privs_8)))))))
def lw_tbl : List Cond := k2_sels lw_privs ++ tables_1
theorem lw_privs_ok : ∀ q ∈ lw_privs, lw_okq q := by
  show ∀ q ∈ lw_privs_1 ++ (lw_privs_2 ++ (lw_privs_3 ++ (lw_privs_4 ++ (lw_privs_5 ++ (lw_privs_6 ++ (lw_privs_7 ++ (lw_privs_8))))))), lw_okq q
  exact List.forall_mem_append.mpr ⟨lw_r1, List.forall_mem_append.mpr ⟨lw_r2, List.forall_mem_append.mpr ⟨lw_r3, List.forall_mem_append.mpr ⟨lw_r4, List.forall_mem_append.mpr ⟨lw_r5, List.forall_mem_append.mpr ⟨lw_r6, List.forall_mem_append.mpr ⟨lw_r7, lw_r8⟩⟩⟩⟩⟩⟩⟩
-- ===== end of PART A; then your names; then what follows =====
end
section
/-! ===== BEGIN words of one list among another's, by their places ===== -/
theorem goodIn_r {big : List Cond} (ws : List Cond) (ps : List Nat) (hp : ws = ps.filterMap (fun i => big[i]?)) (h : ws.all goodWord = true) : GoodIn big ws := by
  intro w hw
  have h1 := List.all_eq_true.mp h w hw
  rw [hp] at hw
  obtain ⟨i, -, hi⟩ := List.mem_filterMap.mp hw
  have hm : w ∈ big := by first | exact List.mem_of_getElem? hi | exact List.getElem?_mem hi
  exact ⟨hm, good_of_word h1⟩
theorem goodIn_app {big a b : List Cond} (ha : GoodIn big a) (hb : GoodIn big b) : GoodIn big (a ++ b) := fun w h => (List.mem_append.mp h).elim (ha w) (hb w)
theorem goodIn_ca {big a b : List Cond} {c : Cond} (ha : GoodIn big (c :: a)) (hb : GoodIn big b) : GoodIn big (c :: (a ++ b)) := fun w h => (List.mem_cons.mp h).elim (fun e => ha w (List.mem_cons.mpr (Or.inl e))) (fun h => (List.mem_append.mp h).elim (fun h => ha w (List.mem_cons.mpr (Or.inr h))) (hb w))
theorem goodIn_sub {big ws : List Cond} (hm : ∀ w ∈ ws, w ∈ big) (h : ws.all goodWord = true) : GoodIn big ws := fun w hw => ⟨hm w hw, good_of_word (List.all_eq_true.mp h w hw)⟩
/-! ===== END ===== -/

/-! ===== BEGIN new T[n][m]: the outer array a place, the inner ones among the pooled ===== -/
/-- f, but v at every address of l -/
def vr_up {α : Type} (f : Nat → α) (l : List Nat) (v : α) : Nat → α := fun a => if a ∈ l then v else f a
theorem vr_up_in {α : Type} {f : Nat → α} {l : List Nat} {v : α} {a : Nat} (h : a ∈ l) : vr_up f l v a = v := if_pos h
theorem vr_up_ne {α : Type} {f : Nat → α} {l : List Nat} {v : α} {a : Nat} (h : a ∉ l) : vr_up f l v a = f a := if_neg h
theorem vr_rows {L l : List Nat} {f : Nat → va_E} {e : va_E} (h : ∀ a, a ∈ l → a ∉ L) : va_pl L f ++ l.map (fun a => (a, e)) = va_pl (L ++ l) (vr_up f l e) := by
  unfold va_pl
  rw [List.map_append]
  congr 1
  · apply List.map_congr_left
    intro a ha
    rw [vr_up_ne (fun q => h a q ha)]
  · apply List.map_congr_left
    intro a ha
    rw [vr_up_in ha]
theorem vr_lay {X rows : va_W} {x : Nat × va_E} {pl : va_W} {D : va_G} {cl : List vw_C} {H : Heap} (hP : va_P D cl (((X ++ pl) ++ [x]) ++ rows) H) : va_P D cl ((X ++ [x]) ++ (pl ++ rows)) H := by
  rw [List.append_assoc (X ++ pl)] at hP
  have h := va_P.swap hP
  rw [← List.append_assoc X] at h
  have h2 := va_P.swap h
  rw [List.append_assoc (X ++ [x])] at h2
  exact h2
theorem vr_layD {X rows : va_W} {x : Nat × va_E} {pl : va_W} {A : Nat → Prop} (hD : va_D A (((X ++ pl) ++ [x]) ++ rows)) : va_D A ((X ++ [x]) ++ (pl ++ rows)) := by
  rw [List.append_assoc (X ++ pl)] at hD
  have h := va_D.swap hD
  rw [← List.append_assoc X] at h
  have h2 := va_D.swap h
  rw [List.append_assoc (X ++ [x])] at h2
  exact h2
theorem vr_outer (c : ClassId) (N h0 : Nat) : ∀ i : Nat, Jvm.Free.Multi.outerC c N h0 i = arrV c N (fun j => va_rf (if j < i then some (h0 + 1 + j) else none))
  | 0 => by
    show ({ cls := c, slots := Array.replicate N .null, vm := .none } : Cell) = _
    rw [arrV_new]
    refine congrArg (arrV c N) (funext fun j => ?_)
    simp [va_rf]
  | i + 1 => by
    show (Jvm.Free.Multi.outerC c N h0 i).setSlot i (.ref (h0 + 1 + i)) = _
    rw [vr_outer c N h0 i, arrV_store]
    refine congrArg (arrV c N) (funext fun j => ?_)
    by_cases e : j = i
    · subst e
      simp [updV, va_rf]
    · by_cases h : j < i
      · simp [updV, e, h, Nat.lt_succ_of_lt h]
      · simp [updV, e, h, show ¬ j < i + 1 by omega]
def va_AOA (ty : FieldType) (U : State) : Prop := (Cond.arrayOver (.array ty)).before #[] U = true
theorem va_AOA.use {ty : FieldType} {A : Array Value} {U : State} (h : va_AOA ty U) : (Cond.arrayOver (.array ty)).before A U = true := h
section VGM
variable {p : Program} {l : Launch} {e : Env} {R : Room} {s : State} {m : MethodId} {args : Array Value} {below : List Frame} {meth : Method} {c : Code} {H : Heap} {locs : List Loc} {cells slots : Nat} {Q : State → Prop}
variable {cc : ByteArray} {pc : Nat} {ls : Array Slot} {rest : List Value} {D : va_G} {cl : List vw_C} {A : Nat → Prop} {a : Nat} {tys : List (ClassId × FieldType)} {ws : va_W} {H0 : Heap}
theorem va_mna {X : va_W} {L : List Nat} {f : Nat → va_E} {cc : ByteArray} (hexec : p.tables.exec = Jvm.exec) (hb : c.code = cc) {own : String} {index : Nat} {ty : FieldType} {cy : ClassId} (hown : s.vm.findClass own = some m.cls) (hclink : (Cond.classLink own index ("[" ++ (FieldType.array ty).toString)).before args s = true) (hover : va_AOA ty s) (harr : (Cond.arrayClass ty).before args s = true) (hcy : s.vm.findClass (FieldType.array ty).toString = some cy)
    (hK : va_K D cl tys s) (hP : va_P D cl (X ++ va_pl L f) H) (hD : va_D A (X ++ va_pl L f)) (hS : va_S A H0 H locs) (hA : ∀ q, H0.size ≤ q → A q) {n k : Int32} {N' K' : Nat} {z : vp_A} (hn : ¬ n < 0) (hk : ¬ k < 0) (hN : n.toNatClampNeg = N') (hM : k.toNatClampNeg = K')
    (hb1 : N' * 4 ≤ 536870912) (hb2 : K' * componentBytes ty ≤ 536870912) (hb3 : K' ≤ 536870912) (hdf : fits ty (defaultValue ty) = true) (hdd : (defaultValue ty).isDefault = true) (hcells : cells + (1 + N') ≤ R.cells) (hslots : slots + (N' + N' * K') ≤ R.slots) (hz : ∀ c : ClassId, Jvm.Free.Multi.innerC c K' (defaultValue ty) = vp_cell c z) (hdg : decode cc pc = .ok (.multianewarray index 2, 4))
    (kk : ∀ (q : Nat) (r : Nat → Nat) (cA : ClassId) (H1 : Heap), (∀ i j : Nat, i < N' → j < N' → r i = r j → i = j) → (∀ i : Nat, i < N' → r i ∉ L) → va_K D cl (tys ++ [(cA, .array ty)]) s →
      va_P D cl ((X ++ [(q, .inl (cA, N', .inr (.inr (.inr (.inr (fun i => if i < N' then some (r i) else none))))))]) ++ va_pl (L ++ (List.range N').map r) (vr_up f ((List.range N').map r) (.inl (cy, z)))) H1 → va_D A ((X ++ [(q, .inl (cA, N', .inr (.inr (.inr (.inr (fun i => if i < N' then some (r i) else none))))))]) ++ va_pl (L ++ (List.range N').map r) (vr_up f ((List.range N').map r) (.inl (cy, z)))) → va_S A H0 H1 locs →
      W p l e R s m args below meth c H1 locs (cells + 1 + N') (slots + N' + N' * K') Q (F0 m (pc + 4) ls (.ref q :: rest))) : W p l e R s m args below meth c H locs cells slots Q (F0 m pc ls (.int k :: .int n :: rest)) := by
  subst hN
  subst hM
  intro T hT Xs
  obtain ⟨vm₁, cA, comp, -, fA, fC, hO, -, X', step⟩ := Xs.multianewarray2F hexec hown hclink (va_AOA.use hover) harr (g := F0 m pc ls (.int k :: .int n :: rest)) rfl (by rw [hb]; exact hdg) rfl hn hk hb1 hb2 hb3 hdf hdd hcells hslots
  have ec : some cy = some comp := hcy.symm.trans fC
  cases ec
  generalize hF : Jvm.Free.Multi.fill (T.setVm vm₁) cA cy n.toNatClampNeg k.toNatClampNeg (defaultValue ty) n.toNatClampNeg = F at X' step
  have hTh : (T.setVm vm₁).heap = H := hT
  obtain ⟨f1, f2, -, -⟩ := Jvm.Free.Multi.fill_facts (T.setVm vm₁) cA cy n.toNatClampNeg k.toNatClampNeg (defaultValue ty) n.toNatClampNeg
  rw [hF, hTh] at f1 f2
  have hold : ∀ x : Nat, x < H.size → F.heap[x]? = H[x]? := fun x hx => by
    have := Jvm.Free.Multi.fill_old (T.setVm vm₁) cA cy n.toNatClampNeg k.toNatClampNeg (defaultValue ty) (a := x) (by rw [hTh]; exact hx) n.toNatClampNeg
    rw [hF, hTh] at this
    exact this
  have hrow : ∀ j : Nat, j < n.toNatClampNeg → F.heap[H.size + 1 + j]? = some (vp_cell cy z) := fun j hj => by
    have := Jvm.Free.Multi.fill_inner (T.setVm vm₁) cA cy n.toNatClampNeg k.toNatClampNeg (defaultValue ty) n.toNatClampNeg j hj
    rw [hF, hTh, hz] at this
    exact this
  have hout : Jvm.Free.Multi.outerC cA n.toNatClampNeg H.size n.toNatClampNeg = vp_cell cA (n.toNatClampNeg, .inr (.inr (.inr (.inr (fun i => if i < n.toNatClampNeg then some (H.size + 1 + i) else none))))) := by
    rw [vp_cell_q]
    exact vr_outer cA n.toNatClampNeg H.size n.toNatClampNeg
  rw [hout] at f2
  have hlt : ∀ a, a ∈ L → a < H.size := fun a ha => by
    obtain ⟨k9, hk9⟩ := va_pl_get (X := X) (f := f) ha
    exact (hP k9 _ hk9).lt
  have hnl : ∀ i : Nat, i < n.toNatClampNeg → H.size + 1 + i ∉ L := fun i _ h => by
    have := hlt _ h
    omega
  have hnm : ∀ a, a ∈ (List.range n.toNatClampNeg).map (fun i => H.size + 1 + i) → a ∉ L := fun a ha h => by
    obtain ⟨i, -, rfl⟩ := List.mem_map.mp ha
    have := hlt _ h
    omega
  have hP0 : va_P D cl (X ++ va_pl L f) F.heap := hP.kept (fun k9 x hx => hold x.1 ((hP k9 x hx).lt))
  have hP1 : va_P D cl ((X ++ va_pl L f) ++ [(H.size, .inl (cA, n.toNatClampNeg, .inr (.inr (.inr (.inr (fun i => if i < n.toNatClampNeg then some (H.size + 1 + i) else none))))))]) F.heap := hP0.app (fun k9 x hx => by
    have h0 : k9 < 1 := (List.getElem?_eq_some_iff.mp hx).1
    rw [show k9 = 0 by omega] at hx
    cases hx
    exact f2)
  have hP2 : va_P D cl (((X ++ va_pl L f) ++ [(H.size, .inl (cA, n.toNatClampNeg, .inr (.inr (.inr (.inr (fun i => if i < n.toNatClampNeg then some (H.size + 1 + i) else none))))))]) ++ ((List.range n.toNatClampNeg).map (fun i => H.size + 1 + i)).map (fun a => (a, .inl (cy, z)))) F.heap := hP1.app (fun k9 x hx => by
    obtain ⟨a, ha, rfl⟩ := List.mem_map.mp (List.mem_of_getElem? hx)
    obtain ⟨i, hi, rfl⟩ := List.mem_map.mp ha
    exact hrow i (List.mem_range.mp hi))
  have hD2 : va_D A (((X ++ va_pl L f) ++ [(H.size, .inl (cA, n.toNatClampNeg, .inr (.inr (.inr (.inr (fun i => if i < n.toNatClampNeg then some (H.size + 1 + i) else none))))))]) ++ ((List.range n.toNatClampNeg).map (fun i => H.size + 1 + i)).map (fun a => (a, .inl (cy, z)))) := by
    have hD1 := hD.push (e := .inl (cA, n.toNatClampNeg, .inr (.inr (.inr (.inr (fun i => if i < n.toNatClampNeg then some (H.size + 1 + i) else none)))))) hP rfl (hA _ hS.1)
    generalize hW1 : (X ++ va_pl L f) ++ [(H.size, .inl (cA, n.toNatClampNeg, .inr (.inr (.inr (.inr (fun i => if i < n.toNatClampNeg then some (H.size + 1 + i) else none))))))] = W1 at hD1 hP1 ⊢
    have hle : ∀ (k9 : Nat) (x : Nat × va_E), W1[k9]? = some x → x.1 ≤ H.size := fun k9 x hx => by
      rw [← hW1] at hx
      by_cases hl : k9 < (X ++ va_pl L f).length
      · rw [List.getElem?_append_left hl] at hx
        exact Nat.le_of_lt ((hP k9 x hx).lt)
      · rw [List.getElem?_append_right (by omega)] at hx
        have h0 : k9 - (X ++ va_pl L f).length < 1 := (List.getElem?_eq_some_iff.mp hx).1
        rw [show k9 - (X ++ va_pl L f).length = 0 by omega] at hx
        cases hx
        exact Nat.le_refl _
    have hr : ∀ (k9 : Nat) (x : Nat × va_E), (((List.range n.toNatClampNeg).map (fun i => H.size + 1 + i)).map (fun a => ((a, .inl (cy, z)) : Nat × va_E)))[k9]? = some x → x.1 = H.size + 1 + k9 := fun k9 x hx => by
      rw [List.getElem?_map, List.getElem?_map] at hx
      by_cases h9 : k9 < n.toNatClampNeg
      · rw [List.getElem?_range h9] at hx
        cases hx
        rfl
      · have hn0 : (List.range n.toNatClampNeg)[k9]? = none := List.getElem?_eq_none (by rw [List.length_range]; omega)
        rw [hn0] at hx
        cases hx
    refine ⟨fun i j x y hi hj hxy => ?_, fun k9 x hx => ?_⟩
    · by_cases h1 : i < W1.length <;> by_cases h2 : j < W1.length
      · rw [List.getElem?_append_left h1] at hi
        rw [List.getElem?_append_left h2] at hj
        exact hD1.1 i j x y hi hj hxy
      · rw [List.getElem?_append_left h1] at hi
        rw [List.getElem?_append_right (by omega)] at hj
        have := hle _ _ hi
        have := hr _ _ hj
        omega
      · rw [List.getElem?_append_right (by omega)] at hi
        rw [List.getElem?_append_left h2] at hj
        have := hle _ _ hj
        have := hr _ _ hi
        omega
      · rw [List.getElem?_append_right (by omega)] at hi hj
        have := hr _ _ hi
        have := hr _ _ hj
        omega
    · by_cases h1 : k9 < W1.length
      · rw [List.getElem?_append_left h1] at hx
        exact hD1.2 k9 x hx
      · rw [List.getElem?_append_right (by omega)] at hx
        have := hr _ _ hx
        exact hA _ (by have := hS.1; omega)
  have hAr : ArrOfT s cA (.array ty) := fun N9 z9 => by
    obtain ⟨-, k9, hk9, cm9, hkk9⟩ := (hO 0 0 0).1
    exact ⟨(fun q hq => by cases hq), k9, hk9, cm9, hkk9⟩
  have hK2 : va_K D cl (tys ++ [(cA, .array ty)]) s := ⟨hK.1, fun k9 x hx => by
    by_cases hl : k9 < tys.length
    · rw [List.getElem?_append_left hl] at hx
      exact hK.2 k9 x hx
    · rw [List.getElem?_append_right (by omega)] at hx
      have h0 : k9 - tys.length < 1 := (List.getElem?_eq_some_iff.mp hx).1
      rw [show k9 - tys.length = 0 by omega] at hx
      cases hx
      exact ⟨hAr, fA⟩⟩
  obtain ⟨t, a1, b1⟩ := kk H.size (fun i => H.size + 1 + i) cA F.heap (fun i j _ _ h => by have h9 : H.size + 1 + i = H.size + 1 + j := h; omega) hnl hK2 (by rw [← vr_rows hnm]; exact vr_lay hP2) (by rw [← vr_rows hnm]; exact vr_layD hD2) ⟨by rw [f1]; have := hS.1; omega, fun x h1 h2 => (hold x (Nat.lt_of_lt_of_le h1 hS.1)).trans (hS.2.1 x h1 h2), hS.2.2⟩ F rfl X'
  refine ⟨t, step t ?_, b1⟩
  have e : T.heap.size = H.size := by rw [hT]
  rw [e]
  exact a1
end VGM
/-! ===== END ===== -/

/-! ===== BEGIN exceptions that leave a method, and their catching by the caller (launches without stack traces) ===== -/
section VXA
/-! The laws vx_back, vx_callV, vx_callS, vx_callSW, vx_throw0, vx_throwS follow proofs of the library, with one case more: JvmDerived/Free/Laws.lean (Back.of_free), Shelf42/LK1.lean (callV, callS), Shelf/KitTraced.lean (throwNew0V, throwNewS). -/
/-- where a method has thrown q: the class by its name, the cell, what was written, the world -/
def vx_T (XC : String → State → State → Prop) (st : State) (q : Addr) (t : State) (mc ms : Nat) (free : Addr → Prop) : Prop :=
  ∃ (E : String) (ce : Cell) (L : List Loc), XC E st t ∧ t.heap[q]? = some ce ∧ ce.vm = .none ∧ st.vm.findClass E = some ce.cls ∧ st.WarmedH t.vm ∧ st.sameButNew ({ t with vm := st.vm } : State) L mc ms ∧ ∀ z ∈ L, free z.base
def vx_Q (Qc : Array Value → State → Outcome → State → Prop) (XC : String → State → State → Prop) (mc ms : Nat) (free : Addr → Prop) : Array Value → State → Outcome → State → Prop := fun a st o t =>
  (Qc a st o t ∧ ∃ L, FrameEnd st o t L mc ms ∧ ∀ q ∈ L, free q.base) ∨ ∃ q, o = .threw q ∧ vx_T XC st q t mc ms free
/-- a callee that returns or throws -/
def vx_Met (l : Launch) (y : MethodName) (ws : List Cond) (rm : Room) (Pc : Array Value → State → Prop) (Qc : Array Value → State → Outcome → State → Prop) (XC : String → State → State → Prop) (mc ms : Nat) (free : Addr → Prop) : Prop :=
  MetFree l y (headSpec ws rm) Pc (fun _ _ _ _ _ => True) (vx_Q Qc XC mc ms free)
def vx_Post (XC : String → State → State → Prop) (mc ms : Nat) (free : Addr → Prop) : Pt → Array Value → Addr → Pt → Prop := fun A a q B =>
  ∃ (g : JFrame) (mk : MethodId) (t : State) (L : List Loc) (E : String) (ce : Cell), B.U.heap = t.heap ∧ B.U.vm = t.vm ∧ XC E (A.U.calling g mk a) t ∧ t.heap[q]? = some ce ∧ ce.vm = .none ∧ A.U.vm.findClass E = some ce.cls ∧ B.locs = A.locs ++ L ∧ (∀ z ∈ L, free z.base) ∧ B.cells = A.cells + mc ∧ B.slots = A.slots + ms
def vx_Back (l : Launch) (R : Room) (p : Program) (e : Env) (below : List Frame) (s : State) (sargs : Array Value) (y : MethodName) (len W9 : Nat)
    (Pre : Pt → Array Value → Prop) (Post : Pt → Array Value → Option Value → Pt → Prop) (PostX : Pt → Array Value → Addr → Pt → Prop) : Prop :=
  ∀ (m : MethodId) (meth : Method) (c : Code) (A : Pt) (g : JFrame) (ig : Instr) (mk : MethodId) (a : Array Value),
    Stand p l e R s m sargs below meth c A.U A.locs A.cells A.slots → g.method = m → g.locals.size = c.maxLocals → decode c.code g.pc = .ok (ig, len) →
    2 * g.monitorRoom + (g.stack.map fun v => v.category).sum ≤ W9 → A.U.methodNamed? y = some mk → Pre A a →
    (∃ (v : Option Value) (B : Pt), Stand p l e R s m sargs below meth c B.U B.locs B.cells B.slots ∧ Post A a v B ∧
      Steps p.tables e below (doInvoke e (A.U.setTop g) [] mk a).1 (B.U.setTop { g with pc := g.pc + len, stack := v.toList ++ g.stack })) ∨
    (∃ (q : Addr) (B : Pt), Stand p l e R s m sargs below meth c B.U B.locs B.cells B.slots ∧ PostX A a q B ∧
      Steps p.tables e below (doInvoke e (A.U.setTop g) [] mk a).1 ((B.U.setTop g).pushFrame (.throwing q)))
section Payer
variable {l : Launch} {R : Room} {p : Program} {e : Env} {below : List Frame} {s : State} {sargs : Array Value} {y : MethodName} {len W9 : Nat}
theorem vx_back {ws : List Cond} {rm : Room} {Pc : Array Value → State → Prop} {Qc : Array Value → State → Outcome → State → Prop} {XC : String → State → State → Prop} {mc ms : Nat} {free : Addr → Prop} {bytes : ByteArray} {maxL : Nat} {ret : Option FieldType}
    (hM : vx_Met l y ws rm Pc Qc XC mc ms free) (hblind : FrameBlind Pc) (hrc : rm.cells = mc) (hrs : rm.slots = ms)
    (hframes : rm.frames + 1 ≤ R.frames) (hlocals : W9 + (maxL + 11) + rm.locals ≤ R.locals)
    (hws : ∀ w ∈ ws, ∀ a' U, s.WarmedH U.vm → w.before a' U = true) (hcode : Cond.code y bytes maxL ret ∈ ws) (hinit : ∀ a' U, s.WarmedH U.vm → (Cond.initialized y.cls).before a' U = true) :
    vx_Back l R p e below s sargs y len W9 (PreOf R mc ms Pc) (PostOf Qc mc ms free) (vx_Post XC mc ms free) := by
  intro m meth c A g ig mk a X hg hsize hdg hW hn hp
  have h1 : (headSpec ws rm).pre.before a A.U = true := atoms_intro fun w hw => hws w hw _ _ X.warmed
  have h2 : (Cond.code y bytes maxL ret).before a A.U = true := hws _ hcode _ _ X.warmed
  have h3 : (Cond.initialized y.cls).before a A.U = true := hinit _ _ X.warmed
  have h4 : A.cells + (headSpec ws rm).room.cells ≤ R.cells := by rw [show (headSpec ws rm).room.cells = mc from hrc]; exact hp.1
  have h5 : A.slots + (headSpec ws rm).room.slots ≤ R.slots := by rw [show (headSpec ws rm).room.slots = ms from hrs]; exact hp.2.1
  have hPc : Pc a (A.U.calling g mk a) := hblind _ _ _ _ hp.2.2
  obtain ⟨U, Ls, c0, s0⟩ := A
  dsimp only [Pt.U, Pt.locs, Pt.cells, Pt.slots] at h1 h2 h3 h4 h5 X hn hPc ⊢
  obtain ⟨methY, cY, hmY, hcY, -, hlY, -, -, -, -⟩ := Cond.code_spec hn h2
  obtain ⟨kY, hkY, -⟩ := className_of_methodNamed hn
  have hinitY : kY.init = .initialized := Cond.initialized_spec (findClass_of_methodNamed hn) hkY h3
  have h : At U g.method c below := by rw [hg]; exact X.here
  have hlocals9 : W9 + (maxL + 11) + (headSpec ws rm).room.locals ≤ R.locals := hlocals
  have happ : (headSpec ws rm).appliesLoose y e.platform (U.calling g mk a) = true :=
    Spec.appliesLoose_calling (g := g) h hdg hn hkY hinitY
      (X.room_calling (g := g) (R' := (headSpec ws rm).room) hsize hmY hcY hframes (by rw [hlY]; omega) h4 h5) h1
  obtain ⟨mid, hmid⟩ := h.above
  have hfr : (U.setTop g).frames = (.java g :: mid) ++ below := by rw [State.frames_setTop' g h.top, hmid]; rfl
  obtain ⟨o, s₂, hsteps, -, hend, hq⟩ := Steps.callFree hM p X.admits X.cas X.clock (acts := []) hfr happ hPc trivial
  have hq' : vx_Q Qc XC mc ms free a (U.calling g mk a) o s₂ := hq
  rw [State.frames_setTop' g h.top] at hend
  obtain ⟨g₀, hg0⟩ := Option.isSome_iff_exists.mp h.top
  obtain ⟨r, hr⟩ := State.topJava?_eq_some.mp hg0
  have hr' : (({ U with heap := s₂.heap, slotsUsed := s₂.slotsUsed } : State).setVm s₂.vm).frames = .java g₀ :: r := hr
  rcases hq' with ⟨hqc, L, hfe, hL⟩ | ⟨q, rfl, E, ce, L, hx, hce, hcv, hcl, hW₂, hsm, hL⟩
  · obtain ⟨⟨v, rfl⟩, hW₂, e2, q2, q3, q4, q5, q6⟩ := id hfe
    have e3 : s₂ = ({ (U.calling g mk a).setFrames s₂.frames with heap := s₂.heap, slotsUsed := s₂.slotsUsed } : State).setVm s₂.vm := by
      have : s₂ = ({ s₂ with vm := (U.calling g mk a).vm } : State).setVm s₂.vm := rfl
      rw [e2] at this
      exact this
    obtain ⟨c₂, i₂, len₂, hc₂, hd₂, hf₂⟩ := hend
    have hW' : U.WarmedH s₂.vm := hW₂
    have hcc : c₂ = c := by
      have h1 : s₂.code? g.method = U.code? g.method := by
        rw [State.code?_eq, State.code?_eq, hW'.alike.method?]
      exact Option.some.inj (hc₂.symm.trans (h1.trans h.code))
    subst hcc
    have hlen : len₂ = len := by rw [hdg] at hd₂; cases hd₂; rfl
    subst hlen
    have hs₂ : s₂ = (({ U with heap := s₂.heap, slotsUsed := s₂.slotsUsed } : State).setVm s₂.vm).setTop { g with pc := g.pc + len₂, stack := v.toList ++ g.stack } := by
      refine e3.trans ?_
      rw [hf₂, State.calling_eq h.top, State.setFrames_setFrames, State.setTop_of_frames _ hr', hr]
      rfl
    have hsame : U.sameButNew ({ U with heap := s₂.heap, slotsUsed := s₂.slotsUsed } : State) L mc ms := by
      refine ⟨?_, q2, q3, q4, q5, q6⟩
      obtain ⟨t, ht, -⟩ := State.frames_cons hr
      show ({ U with heap := s₂.heap, slotsUsed := s₂.slotsUsed } : State) = { U.setFrames U.frames with heap := s₂.heap, slotsUsed := s₂.slotsUsed }
      rw [State.setFrames_self ht]
    subst hg
    refine Or.inl ⟨v, ⟨(({ U with heap := s₂.heap, slotsUsed := s₂.slotsUsed } : State).setVm s₂.vm), Ls ++ L, c0 + mc, s0 + ms⟩,
      ⟨X.admits, X.cas, X.clock, X.frames, X.room, X.hears, X.method, X.code, (X.here.setHeapUsed s₂.heap s₂.slotsUsed).setVm hW'.alike, X.tail, State.WarmedH.trans X.warmed hW', X.limits, X.bytes, X.same.trans (hsame.setVm s.vm)⟩,
      ⟨g, mk, s₂, L, rfl, rfl, hqc, rfl, hL, rfl, rfl⟩, ?_⟩
    show Steps p.tables e below _ ((({ U with heap := s₂.heap, slotsUsed := s₂.slotsUsed } : State).setVm s₂.vm).setTop { g with pc := g.pc + len₂, stack := v.toList ++ g.stack })
    rw [← hs₂]
    exact hsteps
  · obtain ⟨e2, q2, q3, q4, q5, q6⟩ := id hsm
    have e3 : s₂ = ({ (U.calling g mk a).setFrames s₂.frames with heap := s₂.heap, slotsUsed := s₂.slotsUsed } : State).setVm s₂.vm := by
      have : s₂ = ({ s₂ with vm := (U.calling g mk a).vm } : State).setVm s₂.vm := rfl
      rw [e2] at this
      exact this
    have hf₂ : s₂.frames = .throwing q :: .java g :: U.frames.tail := hend
    have hW' : U.WarmedH s₂.vm := hW₂
    have hs₂ : s₂ = ((({ U with heap := s₂.heap, slotsUsed := s₂.slotsUsed } : State).setVm s₂.vm).setTop g).pushFrame (.throwing q) := by
      refine e3.trans ?_
      rw [hf₂, State.calling_eq h.top, State.setFrames_setFrames, State.pushFrame, State.frames_setTop _ hr', State.setTop_of_frames _ hr', State.setFrames_setFrames, hr]
      rfl
    have hsame : U.sameButNew ({ U with heap := s₂.heap, slotsUsed := s₂.slotsUsed } : State) L mc ms := by
      refine ⟨?_, q2, q3, q4, q5, q6⟩
      obtain ⟨t, ht, -⟩ := State.frames_cons hr
      show ({ U with heap := s₂.heap, slotsUsed := s₂.slotsUsed } : State) = { U.setFrames U.frames with heap := s₂.heap, slotsUsed := s₂.slotsUsed }
      rw [State.setFrames_self ht]
    subst hg
    refine Or.inr ⟨q, ⟨(({ U with heap := s₂.heap, slotsUsed := s₂.slotsUsed } : State).setVm s₂.vm), Ls ++ L, c0 + mc, s0 + ms⟩,
      ⟨X.admits, X.cas, X.clock, X.frames, X.room, X.hears, X.method, X.code, (X.here.setHeapUsed s₂.heap s₂.slotsUsed).setVm hW'.alike, X.tail, State.WarmedH.trans X.warmed hW', X.limits, X.bytes, X.same.trans (hsame.setVm s.vm)⟩,
      ⟨g, mk, s₂, L, E, ce, rfl, rfl, hx, hce, hcv, hcl, rfl, hL, rfl, rfl⟩, ?_⟩
    show Steps p.tables e below _ (((({ U with heap := s₂.heap, slotsUsed := s₂.slotsUsed } : State).setVm s₂.vm).setTop g).pushFrame (.throwing q))
    rw [← hs₂]
    exact hsteps
end Payer
section Calls
variable {p : Program} {l : Launch} {e : Env} {R : Room} {s : State} {m : MethodId} {args : Array Value} {below : List Frame} {meth : Method} {c : Code} {T : State} {locs : List Loc} {cells slots : Nat}
theorem vx_callV (X : Stand p l e R s m args below meth c T locs cells slots) (hexec : p.tables.exec = Jvm.exec) {own C : String} {index : Nat} {y : MethodName} {bytes : ByteArray} {maxL : Nat} {ret : Option FieldType}
    (hown : s.vm.findClass own = some m.cls) (hlink : (Cond.methodLink own index y).before args s = true) (hinst : (Cond.instanceMethod y).before args s = true) (hsel : (Cond.selects C y y).before args s = true)
    (hcode : (Cond.code y bytes maxL ret).before args s = true) (hy : y.cls ≠ "java/lang/invoke/MethodHandle" ∧ y.cls ≠ "java/lang/invoke/VarHandle")
    {W9 : Nat} {Pre : Pt → Array Value → Prop} {Post : Pt → Array Value → Option Value → Pt → Prop} {PostX : Pt → Array Value → Addr → Pt → Prop} (hK : vx_Back l R p e below s args y 3 W9 Pre Post PostX)
    {b : Addr} {cellB : Cell} (hcell : T.heap[b]? = some cellB) (hobj : cellB.vm.isStatics = false) (hcls : s.vm.findClass C = some cellB.cls)
    {g : JFrame} (hg : g.method = m) (hsize : g.locals.size = c.maxLocals) {argsL rest : List Value} (hlen : ∀ sig, parseMethodDescriptor y.desc = some sig → argsL.length = sig.parameters.length)
    (hstack : g.stack = argsL.reverse ++ .ref b :: rest) (hW : 2 * g.monitorRoom + (rest.map fun v => v.category).sum ≤ W9) (hdg : decode c.code g.pc = .ok (.invokevirtual index, 3))
    (hpre : ∀ vm₁, s.WarmedH vm₁ → Pre ⟨T.setVm vm₁, locs, cells, slots⟩ (Value.ref b :: argsL).toArray) :
    (∃ (v : Option Value) (vm₁ : Vm) (B : Pt), s.WarmedH vm₁ ∧ Stand p l e R s m args below meth c B.U B.locs B.cells B.slots ∧ Post ⟨T.setVm vm₁, locs, cells, slots⟩ (Value.ref b :: argsL).toArray v B ∧
      ∀ target, Steps p.tables e below (B.U.setTop { g with pc := g.pc + 3, stack := v.toList ++ rest }) target → Steps p.tables e below (T.setTop g) target) ∨
    (∃ (q : Addr) (vm₁ : Vm) (B : Pt), s.WarmedH vm₁ ∧ Stand p l e R s m args below meth c B.U B.locs B.cells B.slots ∧ PostX ⟨T.setVm vm₁, locs, cells, slots⟩ (Value.ref b :: argsL).toArray q B ∧
      Steps p.tables e below (T.setTop g) ((B.U.setTop { g with stack := rest }).pushFrame (.throwing q))) := by
  obtain ⟨mk, methM, hnamed, hmethM, hstM, habM⟩ := Cond.instanceMethod_spec hinst
  obtain ⟨methM', cM, hmethM', -, -, -, -, -, -, hsigM⟩ := Cond.code_spec hnamed hcode
  cases hmethM.symm.trans hmethM'
  obtain ⟨c2, r2, m2, q1, q2, q3, q4, kP, hkP, hkPi⟩ := Cond.selects_spec hsel
  cases hcls.symm.trans q1
  cases (State.methodFound?_of_named hnamed hy).symm.trans q2
  cases hnamed.symm.trans q3
  have hselP : selectMethod e.platform s.vm cellB.cls mk = .method mk := by rw [Launch.admits_selectMethod X.admits]; exact q4
  obtain ⟨vm₁, X₁, hstep₁⟩ := X.invokevirtual hexec hown hlink hnamed hmethM hstM hkP hkPi hy (a := b) (cell := cellB) hcell
    (fun z h => by rw [h] at hobj; cases hobj) hselP hmethM habM hkP hkPi (g := g) hg (argsL := argsL) (rest := rest) (hlen _ hsigM) hstack hdg
  rcases hK m meth c ⟨T.setVm vm₁, locs, cells, slots⟩ { g with stack := rest } (.invokevirtual index) mk (Value.ref b :: argsL).toArray X₁ hg hsize hdg hW (X₁.named hnamed) (hpre vm₁ X₁.warmed) with ⟨v, B, X', hpost, hsteps⟩ | ⟨q, B, X', hpost, hsteps⟩
  · exact Or.inl ⟨v, vm₁, B, X₁.warmed, X', hpost, fun target h => hstep₁ _ fun acts => by rw [doInvoke_state]; exact hsteps.trans h⟩
  · exact Or.inr ⟨q, vm₁, B, X₁.warmed, X', hpost, hstep₁ _ fun acts => by rw [doInvoke_state]; exact hsteps⟩
theorem vx_callS (X : Stand p l e R s m args below meth c T locs cells slots) (hexec : p.tables.exec = Jvm.exec) {own : String} {index : Nat} {y : MethodName} {bytes : ByteArray} {maxL : Nat} {ret : Option FieldType}
    (hown : s.vm.findClass own = some m.cls) (hlink : (Cond.methodLink own index y).before args s = true) (hstat : (Cond.static y).before args s = true) (hinit : (Cond.initialized y.cls).before args s = true)
    (hcode : (Cond.code y bytes maxL ret).before args s = true) (hy : y.cls ≠ "java/lang/invoke/MethodHandle" ∧ y.cls ≠ "java/lang/invoke/VarHandle")
    {W9 : Nat} {Pre : Pt → Array Value → Prop} {Post : Pt → Array Value → Option Value → Pt → Prop} {PostX : Pt → Array Value → Addr → Pt → Prop} (hK : vx_Back l R p e below s args y 3 W9 Pre Post PostX)
    {g : JFrame} (hg : g.method = m) (hsize : g.locals.size = c.maxLocals) {argsL rest : List Value} (hlen : ∀ sig, parseMethodDescriptor y.desc = some sig → argsL.length = sig.parameters.length)
    (hstack : g.stack = argsL.reverse ++ rest) (hW : 2 * g.monitorRoom + (rest.map fun v => v.category).sum ≤ W9) (hdg : decode c.code g.pc = .ok (.invokestatic index, 3))
    (hpre : ∀ vm₁, s.WarmedH vm₁ → Pre ⟨T.setVm vm₁, locs, cells, slots⟩ argsL.toArray) :
    (∃ (v : Option Value) (vm₁ : Vm) (B : Pt), s.WarmedH vm₁ ∧ Stand p l e R s m args below meth c B.U B.locs B.cells B.slots ∧ Post ⟨T.setVm vm₁, locs, cells, slots⟩ argsL.toArray v B ∧
      ∀ target, Steps p.tables e below (B.U.setTop { g with pc := g.pc + 3, stack := v.toList ++ rest }) target → Steps p.tables e below (T.setTop g) target) ∨
    (∃ (q : Addr) (vm₁ : Vm) (B : Pt), s.WarmedH vm₁ ∧ Stand p l e R s m args below meth c B.U B.locs B.cells B.slots ∧ PostX ⟨T.setVm vm₁, locs, cells, slots⟩ argsL.toArray q B ∧
      Steps p.tables e below (T.setTop g) ((B.U.setTop { g with stack := rest }).pushFrame (.throwing q))) := by
  obtain ⟨mk, hnamed⟩ := Cond.code_named hcode
  obtain ⟨methM, cM, hmethM, -, -, -, -, -, -, hsigM⟩ := Cond.code_spec hnamed hcode
  have hstatic : methM.isStatic = true := Cond.static_spec hnamed hmethM hstat
  obtain ⟨kP, hkP, -⟩ := className_of_methodNamed hnamed
  have hinitP : kP.init = .initialized := Cond.initialized_spec (findClass_of_methodNamed hnamed) hkP hinit
  obtain ⟨vm₁, X₁, hstep₁⟩ := X.invokestatic hexec hown hlink hnamed hmethM hstatic hkP hinitP hy (g := g) hg (argsL := argsL) (rest := rest) (hlen _ hsigM) hstack hdg
  rcases hK m meth c ⟨T.setVm vm₁, locs, cells, slots⟩ { g with stack := rest } (.invokestatic index) mk argsL.toArray X₁ hg hsize hdg hW (X₁.named hnamed) (hpre vm₁ X₁.warmed) with ⟨v, B, X', hpost, hsteps⟩ | ⟨q, B, X', hpost, hsteps⟩
  · exact Or.inl ⟨v, vm₁, B, X₁.warmed, X', hpost, fun target h => hstep₁ _ fun acts => by rw [doInvoke_state]; exact hsteps.trans h⟩
  · exact Or.inr ⟨q, vm₁, B, X₁.warmed, X', hpost, hstep₁ _ fun acts => by rw [doInvoke_state]; exact hsteps⟩
end Calls
theorem vx_cls {s : State} {T : State} {vm₁ : Vm} {E : String} {k : ClassId} (hW : s.WarmedH vm₁) (h : (T.setVm vm₁).vm.findClass E = some k) : s.vm.findClass E = some k := by
  have h1 : vm₁.findClass E = some k := h
  rw [hW.alike.findClass] at h1
  exact h1
/-- the method's frame g, with q thrown over it -/
def vx_W (p : Program) (l : Launch) (e : Env) (R : Room) (s : State) (m : MethodId) (args : Array Value) (below : List Frame) (meth : Method) (c : Code) (H : Heap) (locs : List Loc) (cells slots : Nat) (Q : State → Prop) (g : JFrame) (q : Addr) : Prop :=
  ∀ T : State, T.heap = H → Stand p l e R s m args below meth c T locs cells slots → ∃ t, Steps p.tables e below ((T.setTop g).pushFrame (.throwing q)) t ∧ Q t
def vx_Run (p : Program) (l : Launch) (e : Env) (R : Room) (s : State) (m : MethodId) (args : Array Value) (below : List Frame) (meth : Method) (c : Code) (H : Heap) (locs : List Loc) (cells slots mc ms : Nat) (g : JFrame) (rest : List Value) (Qa : State → Outcome → State → Prop) (XC : String → State → State → Prop) (free : Addr → Prop) : Prop :=
  ∀ T : State, T.heap = H → Stand p l e R s m args below meth c T locs cells slots →
    (∃ (v : Option Value) (st₀ t T' : State) (L : List Loc), st₀.heap = H ∧ Stand p l e R s m args below meth c T' (locs ++ L) (cells + mc) (slots + ms) ∧ (∀ q ∈ L, free q.base) ∧ T'.heap = t.heap ∧ T'.vm = t.vm ∧ Qa st₀ (.returned v) t ∧
      Goes p e below T g T' { g with pc := g.pc + 3, stack := v.toList ++ rest }) ∨
    (∃ (q : Addr) (st₀ t T' : State) (L : List Loc) (E : String) (ce : Cell), st₀.heap = H ∧ Stand p l e R s m args below meth c T' (locs ++ L) (cells + mc) (slots + ms) ∧ (∀ z ∈ L, free z.base) ∧ T'.heap = t.heap ∧ T'.vm = t.vm ∧ XC E st₀ t ∧ t.heap[q]? = some ce ∧ ce.vm = .none ∧ s.vm.findClass E = some ce.cls ∧
      Steps p.tables e below (T.setTop g) ((T'.setTop { g with stack := rest }).pushFrame (.throwing q)))
def vx_X {S : Type} (px : S → Prop) (B : String → S → State → Prop) (A : Nat → Prop) : String → State → State → Prop := fun E st t => ∃ u : S, px u ∧ B E u t ∧ va_F A st t
section Runs
variable {p : Program} {l : Launch} {e : Env} {R : Room} {s : State} {m : MethodId} {args : Array Value} {below : List Frame} {meth : Method} {c : Code} {H : Heap} {locs : List Loc} {cells slots : Nat}
variable {y : MethodName} {bytes cc : ByteArray} {maxL nL mc ms n index : Nat} {ret : Option FieldType} {ws : List Cond} {rm : Room} {Pc : Array Value → State → Prop} {Qc : Array Value → State → Outcome → State → Prop} {XC : String → State → State → Prop} {free : Addr → Prop} {Ts : List Cond} {own C : String} {b : Addr} {As rest : List Value} {g : JFrame}
theorem vx_callBack (cb : CallB R s args own index y bytes maxL ret ws rm mc ms n) (hM : vx_Met l y ws rm Pc Qc XC mc ms free) (hbl : FrameBlind Pc) : vx_Back l R p e below s args y 3 8 (PreOf R mc ms Pc) (PostOf Qc mc ms free) (vx_Post XC mc ms free) := by
  obtain ⟨hrc, hrs, hfr, hlo, hws, hcw, -, hini, -⟩ := cb
  exact vx_back (bytes := bytes) (maxL := maxL) (ret := ret) hM hbl hrc hrs hfr hlo hws hcw (fun a' U hW => word_at hW (Or.inl (by first | rfl | simp [Cond.onTables, Cond.keeps, Cond.steady])) hini)
theorem vx_runV (S : CallFix p m c cc nL s args Ts own) (hM : vx_Met l y ws rm Pc Qc XC mc ms free) (cw : CallW R s args own C index y bytes maxL ret ws rm mc ms n) (hp : PreV s H C b Pc As)
    (hg : g.method = m) (hn : As.length = n) (hsize : g.locals.size = nL) (hstack : g.stack = As.reverse ++ .ref b :: rest) (hW : 2 * g.monitorRoom + (rest.map fun v => v.category).sum ≤ 8) (hdg : decode cc g.pc = .ok (.invokevirtual index, 3)) (hf : cells + mc ≤ R.cells ∧ slots + ms ≤ R.slots) :
    vx_Run p l e R s m args below meth c H locs cells slots mc ms g rest (Qc (Value.ref b :: As).toArray) XC free := by
  have hK : vx_Back l R p e below s args y 3 8 (PreOf R mc ms Pc) (PostOf Qc mc ms free) (vx_Post XC mc ms free) := vx_callBack cw.1 hM hp.1
  obtain ⟨⟨-, -, -, -, -, -, hcode, -, hy, hlen, hl⟩, hin, hse⟩ := cw
  obtain ⟨hx, hb, hml, ho, -⟩ := S
  obtain ⟨-, ⟨cellB, hcB, hoB, hclB⟩, hPc⟩ := hp
  intro T hT X
  rcases vx_callV X hx (C := C) (bytes := bytes) (maxL := maxL) (ret := ret) ho hl hin hse hcode hy hK (by rw [hT]; exact hcB) hoB hclB hg (hsize.trans hml.symm) (argsL := As) (rest := rest) (fun sig h => hn.trans (hlen sig h)) hstack hW (by rw [hb]; exact hdg)
    (fun vm₁ hW₁ => ⟨hf.1, hf.2, hPc (T.setVm vm₁) hT hW₁⟩) with ⟨v, vm₁, ⟨U', l2, c2, s2⟩, hW₁, X', ⟨g', mk, t, L, e1, e2, hq, h1, hL, h2, h3⟩, st⟩ | ⟨q, vm₁, ⟨U', l2, c2, s2⟩, hW₁, X', ⟨g', mk, t, L, E, ce, e1, e2, hq, hce, hcv, hcl, h1, hL, h2, h3⟩, st⟩
  · dsimp only [Pt.U, Pt.locs, Pt.cells, Pt.slots] at X' e1 e2 h1 h2 h3 st
    subst h1; subst h2; subst h3
    exact Or.inl ⟨v, (T.setVm vm₁).calling g' mk (Value.ref b :: As).toArray, t, U', L, hT, X', hL, e1, e2, hq, st⟩
  · dsimp only [Pt.U, Pt.locs, Pt.cells, Pt.slots] at X' e1 e2 h1 h2 h3 st hcl
    subst h1; subst h2; subst h3
    exact Or.inr ⟨q, (T.setVm vm₁).calling g' mk (Value.ref b :: As).toArray, t, U', L, E, ce, hT, X', hL, e1, e2, hq, hce, hcv, vx_cls hW₁ hcl, st⟩
theorem vx_runS (S : CallFix p m c cc nL s args Ts own) (hM : vx_Met l y ws rm Pc Qc XC mc ms free) (cw : CallB R s args own index y bytes maxL ret ws rm mc ms n ∧ (Cond.static y).before args s = true) (hp : PreS s H Pc As)
    (hg : g.method = m) (hn : As.length = n) (hsize : g.locals.size = nL) (hstack : g.stack = As.reverse ++ rest) (hW : 2 * g.monitorRoom + (rest.map fun v => v.category).sum ≤ 8) (hdg : decode cc g.pc = .ok (.invokestatic index, 3)) (hf : cells + mc ≤ R.cells ∧ slots + ms ≤ R.slots) :
    vx_Run p l e R s m args below meth c H locs cells slots mc ms g rest (Qc As.toArray) XC free := by
  have hK : vx_Back l R p e below s args y 3 8 (PreOf R mc ms Pc) (PostOf Qc mc ms free) (vx_Post XC mc ms free) := vx_callBack cw.1 hM hp.1
  obtain ⟨⟨-, -, -, -, -, -, hcode, hini, hy, hlen, hl⟩, hstt⟩ := cw
  obtain ⟨hx, hb, hml, ho, -⟩ := S
  intro T hT X
  rcases vx_callS X hx (bytes := bytes) (maxL := maxL) (ret := ret) ho hl hstt hini hcode hy hK hg (hsize.trans hml.symm) (argsL := As) (rest := rest) (fun sig h => hn.trans (hlen sig h)) hstack hW (by rw [hb]; exact hdg)
    (fun vm₁ hW₁ => ⟨hf.1, hf.2, hp.2 (T.setVm vm₁) hT hW₁⟩) with ⟨v, vm₁, ⟨U', l2, c2, s2⟩, hW₁, X', ⟨g', mk, t, L, e1, e2, hq, h1, hL, h2, h3⟩, st⟩ | ⟨q, vm₁, ⟨U', l2, c2, s2⟩, hW₁, X', ⟨g', mk, t, L, E, ce, e1, e2, hq, hce, hcv, hcl, h1, hL, h2, h3⟩, st⟩
  · dsimp only [Pt.U, Pt.locs, Pt.cells, Pt.slots] at X' e1 e2 h1 h2 h3 st
    subst h1; subst h2; subst h3
    exact Or.inl ⟨v, (T.setVm vm₁).calling g' mk As.toArray, t, U', L, hT, X', hL, e1, e2, hq, st⟩
  · dsimp only [Pt.U, Pt.locs, Pt.cells, Pt.slots] at X' e1 e2 h1 h2 h3 st hcl
    subst h1; subst h2; subst h3
    exact Or.inr ⟨q, (T.setVm vm₁).calling g' mk As.toArray, t, U', L, E, ce, hT, X', hL, e1, e2, hq, hce, hcv, vx_cls hW₁ hcl, st⟩
end Runs
section Rows
variable {p : Program} {l : Launch} {e : Env} {R : Room} {s : State} {m : MethodId} {args : Array Value} {below : List Frame} {meth : Method} {c : Code} {H : Heap} {locs : List Loc} {cells slots : Nat} {Q : State → Prop}
variable {mc ms : Nat} {free : Addr → Prop} {A0 A1 : Nat → Prop} {H0 : Heap} {a : Array Value} {pc : Nat} {ls : Array Slot} {st0 rest : List Value}
theorem vx_keep {st₀ t T' : State} {L : List Loc} (h0 : st₀.heap = H) (e1 : T'.heap = t.heap) (hS : va_S A0 H0 H locs) (hA : ∀ q, q < H.size → A1 q → A0 q) (hf : ∀ q, free q → A0 q) (hL : ∀ q ∈ L, free q.base) (hF : va_F A1 st₀ t) :
    H.size ≤ T'.heap.size ∧ (∀ q : Nat, q < H.size → ¬ A1 q → T'.heap[q]? = H[q]?) ∧ va_S A0 H0 T'.heap (locs ++ L) := by
  obtain ⟨hz, hk⟩ := hF
  rw [h0] at hz hk
  exact ⟨by rw [e1]; exact hz, fun q h1 h2 => by rw [e1]; exact hk q h1 h2,
    ⟨Nat.le_trans hS.1 (by rw [e1]; exact hz), fun q h1 h2 => by rw [e1, hk q (Nat.lt_of_lt_of_le h1 hS.1) (fun z => h2 (hA q (Nat.lt_of_lt_of_le h1 hS.1) z))]; exact hS.2.1 q h1 h2, fun q hq => by
      rcases List.mem_append.mp hq with h | h
      · exact hS.2.2 q h
      · exact hf _ (hL q h)⟩⟩
theorem vx_calli {S SX : Type} {post : Int32 → S → Prop} {px : SX → Prop} {B : S → State → Prop} {BX : String → SX → State → Prop} {AX : Nat → Prop} (hr : vx_Run p l e R s m args below meth c H locs cells slots mc ms (F0 m pc ls st0) rest (va_Qi post B A1 a) (vx_X px BX AX) free) (hS : va_S A0 H0 H locs) (hA : ∀ q, q < H.size → A1 q → A0 q) (hf : ∀ q, free q → A0 q) (hAX : ∀ q, q < H.size → AX q → A0 q)
    (kx : ∀ (E : String) (ce : Cell) (q9 : Addr) (u : SX) (t : State) (H1 : Heap) (locs1 : List Loc), t.heap = H1 → s.vm.Alike t.vm → px u → BX E u t → H.size ≤ H1.size → (∀ q : Nat, q < H.size → ¬ AX q → H1[q]? = H[q]?) → va_S A0 H0 H1 locs1 → H1[q9]? = some ce → ce.vm = .none → s.vm.findClass E = some ce.cls → vx_W p l e R s m args below meth c H1 locs1 (cells + mc) (slots + ms) Q (F0 m pc ls rest) q9)
    (kk : ∀ (r : Int32) (u : S) (t : State) (H1 : Heap) (locs1 : List Loc), t.heap = H1 → s.vm.Alike t.vm → post r u → B u t → H.size ≤ H1.size → (∀ q : Nat, q < H.size → ¬ A1 q → H1[q]? = H[q]?) → va_S A0 H0 H1 locs1 → W p l e R s m args below meth c H1 locs1 (cells + mc) (slots + ms) Q (F0 m (pc + 3) ls (.int r :: rest))) : W p l e R s m args below meth c H locs cells slots Q (F0 m pc ls st0) := by
  intro T hT X
  rcases hr T hT X with ⟨v, st₀, t, T', L, h0, X', hL, e1, e2, ⟨⟨r, u, hv, hp, hb⟩, hF⟩, st⟩ | ⟨q, st₀, t, T', L, E, ce, h0, X', hL, e1, e2, ⟨u, hp, hb, hF⟩, hce, hcv, hcl, st⟩
  · cases hv
    obtain ⟨k1, k2, k3⟩ := vx_keep h0 e1 hS hA hf hL hF
    obtain ⟨t2, a1, b1⟩ := kk r u t T'.heap (locs ++ L) e1.symm (by rw [← e2]; exact X'.warmed.alike) hp hb k1 k2 k3 T' rfl X'
    exact ⟨t2, st t2 a1, b1⟩
  · obtain ⟨k1, k2, k3⟩ := vx_keep h0 e1 hS hAX hf hL hF
    obtain ⟨t2, a1, b1⟩ := kx E ce q u t T'.heap (locs ++ L) e1.symm (by rw [← e2]; exact X'.warmed.alike) hp hb k1 k2 k3 (by rw [e1]; exact hce) hcv hcl T' rfl X'
    exact ⟨t2, st.trans a1, b1⟩
theorem vx_calll {S SX : Type} {post : Int64 → S → Prop} {px : SX → Prop} {B : S → State → Prop} {BX : String → SX → State → Prop} {AX : Nat → Prop} (hr : vx_Run p l e R s m args below meth c H locs cells slots mc ms (F0 m pc ls st0) rest (va_Ql post B A1 a) (vx_X px BX AX) free) (hS : va_S A0 H0 H locs) (hA : ∀ q, q < H.size → A1 q → A0 q) (hf : ∀ q, free q → A0 q) (hAX : ∀ q, q < H.size → AX q → A0 q)
    (kx : ∀ (E : String) (ce : Cell) (q9 : Addr) (u : SX) (t : State) (H1 : Heap) (locs1 : List Loc), t.heap = H1 → s.vm.Alike t.vm → px u → BX E u t → H.size ≤ H1.size → (∀ q : Nat, q < H.size → ¬ AX q → H1[q]? = H[q]?) → va_S A0 H0 H1 locs1 → H1[q9]? = some ce → ce.vm = .none → s.vm.findClass E = some ce.cls → vx_W p l e R s m args below meth c H1 locs1 (cells + mc) (slots + ms) Q (F0 m pc ls rest) q9)
    (kk : ∀ (r : Int64) (u : S) (t : State) (H1 : Heap) (locs1 : List Loc), t.heap = H1 → s.vm.Alike t.vm → post r u → B u t → H.size ≤ H1.size → (∀ q : Nat, q < H.size → ¬ A1 q → H1[q]? = H[q]?) → va_S A0 H0 H1 locs1 → W p l e R s m args below meth c H1 locs1 (cells + mc) (slots + ms) Q (F0 m (pc + 3) ls (.long r :: rest))) : W p l e R s m args below meth c H locs cells slots Q (F0 m pc ls st0) := by
  intro T hT X
  rcases hr T hT X with ⟨v, st₀, t, T', L, h0, X', hL, e1, e2, ⟨⟨r, u, hv, hp, hb⟩, hF⟩, st⟩ | ⟨q, st₀, t, T', L, E, ce, h0, X', hL, e1, e2, ⟨u, hp, hb, hF⟩, hce, hcv, hcl, st⟩
  · cases hv
    obtain ⟨k1, k2, k3⟩ := vx_keep h0 e1 hS hA hf hL hF
    obtain ⟨t2, a1, b1⟩ := kk r u t T'.heap (locs ++ L) e1.symm (by rw [← e2]; exact X'.warmed.alike) hp hb k1 k2 k3 T' rfl X'
    exact ⟨t2, st t2 a1, b1⟩
  · obtain ⟨k1, k2, k3⟩ := vx_keep h0 e1 hS hAX hf hL hF
    obtain ⟨t2, a1, b1⟩ := kx E ce q u t T'.heap (locs ++ L) e1.symm (by rw [← e2]; exact X'.warmed.alike) hp hb k1 k2 k3 (by rw [e1]; exact hce) hcv hcl T' rfl X'
    exact ⟨t2, st.trans a1, b1⟩
theorem vx_callf {S SX : Type} {post : UInt32 → S → Prop} {px : SX → Prop} {B : S → State → Prop} {BX : String → SX → State → Prop} {AX : Nat → Prop} (hr : vx_Run p l e R s m args below meth c H locs cells slots mc ms (F0 m pc ls st0) rest (va_Qf post B A1 a) (vx_X px BX AX) free) (hS : va_S A0 H0 H locs) (hA : ∀ q, q < H.size → A1 q → A0 q) (hf : ∀ q, free q → A0 q) (hAX : ∀ q, q < H.size → AX q → A0 q)
    (kx : ∀ (E : String) (ce : Cell) (q9 : Addr) (u : SX) (t : State) (H1 : Heap) (locs1 : List Loc), t.heap = H1 → s.vm.Alike t.vm → px u → BX E u t → H.size ≤ H1.size → (∀ q : Nat, q < H.size → ¬ AX q → H1[q]? = H[q]?) → va_S A0 H0 H1 locs1 → H1[q9]? = some ce → ce.vm = .none → s.vm.findClass E = some ce.cls → vx_W p l e R s m args below meth c H1 locs1 (cells + mc) (slots + ms) Q (F0 m pc ls rest) q9)
    (kk : ∀ (r : UInt32) (u : S) (t : State) (H1 : Heap) (locs1 : List Loc), t.heap = H1 → s.vm.Alike t.vm → post r u → B u t → H.size ≤ H1.size → (∀ q : Nat, q < H.size → ¬ A1 q → H1[q]? = H[q]?) → va_S A0 H0 H1 locs1 → W p l e R s m args below meth c H1 locs1 (cells + mc) (slots + ms) Q (F0 m (pc + 3) ls (.float r :: rest))) : W p l e R s m args below meth c H locs cells slots Q (F0 m pc ls st0) := by
  intro T hT X
  rcases hr T hT X with ⟨v, st₀, t, T', L, h0, X', hL, e1, e2, ⟨⟨r, u, hv, hp, hb⟩, hF⟩, st⟩ | ⟨q, st₀, t, T', L, E, ce, h0, X', hL, e1, e2, ⟨u, hp, hb, hF⟩, hce, hcv, hcl, st⟩
  · cases hv
    obtain ⟨k1, k2, k3⟩ := vx_keep h0 e1 hS hA hf hL hF
    obtain ⟨t2, a1, b1⟩ := kk r u t T'.heap (locs ++ L) e1.symm (by rw [← e2]; exact X'.warmed.alike) hp hb k1 k2 k3 T' rfl X'
    exact ⟨t2, st t2 a1, b1⟩
  · obtain ⟨k1, k2, k3⟩ := vx_keep h0 e1 hS hAX hf hL hF
    obtain ⟨t2, a1, b1⟩ := kx E ce q u t T'.heap (locs ++ L) e1.symm (by rw [← e2]; exact X'.warmed.alike) hp hb k1 k2 k3 (by rw [e1]; exact hce) hcv hcl T' rfl X'
    exact ⟨t2, st.trans a1, b1⟩
theorem vx_calld {S SX : Type} {post : UInt64 → S → Prop} {px : SX → Prop} {B : S → State → Prop} {BX : String → SX → State → Prop} {AX : Nat → Prop} (hr : vx_Run p l e R s m args below meth c H locs cells slots mc ms (F0 m pc ls st0) rest (va_Qd post B A1 a) (vx_X px BX AX) free) (hS : va_S A0 H0 H locs) (hA : ∀ q, q < H.size → A1 q → A0 q) (hf : ∀ q, free q → A0 q) (hAX : ∀ q, q < H.size → AX q → A0 q)
    (kx : ∀ (E : String) (ce : Cell) (q9 : Addr) (u : SX) (t : State) (H1 : Heap) (locs1 : List Loc), t.heap = H1 → s.vm.Alike t.vm → px u → BX E u t → H.size ≤ H1.size → (∀ q : Nat, q < H.size → ¬ AX q → H1[q]? = H[q]?) → va_S A0 H0 H1 locs1 → H1[q9]? = some ce → ce.vm = .none → s.vm.findClass E = some ce.cls → vx_W p l e R s m args below meth c H1 locs1 (cells + mc) (slots + ms) Q (F0 m pc ls rest) q9)
    (kk : ∀ (r : UInt64) (u : S) (t : State) (H1 : Heap) (locs1 : List Loc), t.heap = H1 → s.vm.Alike t.vm → post r u → B u t → H.size ≤ H1.size → (∀ q : Nat, q < H.size → ¬ A1 q → H1[q]? = H[q]?) → va_S A0 H0 H1 locs1 → W p l e R s m args below meth c H1 locs1 (cells + mc) (slots + ms) Q (F0 m (pc + 3) ls (.double r :: rest))) : W p l e R s m args below meth c H locs cells slots Q (F0 m pc ls st0) := by
  intro T hT X
  rcases hr T hT X with ⟨v, st₀, t, T', L, h0, X', hL, e1, e2, ⟨⟨r, u, hv, hp, hb⟩, hF⟩, st⟩ | ⟨q, st₀, t, T', L, E, ce, h0, X', hL, e1, e2, ⟨u, hp, hb, hF⟩, hce, hcv, hcl, st⟩
  · cases hv
    obtain ⟨k1, k2, k3⟩ := vx_keep h0 e1 hS hA hf hL hF
    obtain ⟨t2, a1, b1⟩ := kk r u t T'.heap (locs ++ L) e1.symm (by rw [← e2]; exact X'.warmed.alike) hp hb k1 k2 k3 T' rfl X'
    exact ⟨t2, st t2 a1, b1⟩
  · obtain ⟨k1, k2, k3⟩ := vx_keep h0 e1 hS hAX hf hL hF
    obtain ⟨t2, a1, b1⟩ := kx E ce q u t T'.heap (locs ++ L) e1.symm (by rw [← e2]; exact X'.warmed.alike) hp hb k1 k2 k3 (by rw [e1]; exact hce) hcv hcl T' rfl X'
    exact ⟨t2, st.trans a1, b1⟩
theorem vx_callv {S SX : Type} {post : S → Prop} {px : SX → Prop} {B : S → State → Prop} {BX : String → SX → State → Prop} {AX : Nat → Prop} (hr : vx_Run p l e R s m args below meth c H locs cells slots mc ms (F0 m pc ls st0) rest (va_Qv post B A1 a) (vx_X px BX AX) free) (hS : va_S A0 H0 H locs) (hA : ∀ q, q < H.size → A1 q → A0 q) (hf : ∀ q, free q → A0 q) (hAX : ∀ q, q < H.size → AX q → A0 q)
    (kx : ∀ (E : String) (ce : Cell) (q9 : Addr) (u : SX) (t : State) (H1 : Heap) (locs1 : List Loc), t.heap = H1 → s.vm.Alike t.vm → px u → BX E u t → H.size ≤ H1.size → (∀ q : Nat, q < H.size → ¬ AX q → H1[q]? = H[q]?) → va_S A0 H0 H1 locs1 → H1[q9]? = some ce → ce.vm = .none → s.vm.findClass E = some ce.cls → vx_W p l e R s m args below meth c H1 locs1 (cells + mc) (slots + ms) Q (F0 m pc ls rest) q9)
    (kk : ∀ (u : S) (t : State) (H1 : Heap) (locs1 : List Loc), t.heap = H1 → s.vm.Alike t.vm → post u → B u t → H.size ≤ H1.size → (∀ q : Nat, q < H.size → ¬ A1 q → H1[q]? = H[q]?) → va_S A0 H0 H1 locs1 → W p l e R s m args below meth c H1 locs1 (cells + mc) (slots + ms) Q (F0 m (pc + 3) ls (rest))) : W p l e R s m args below meth c H locs cells slots Q (F0 m pc ls st0) := by
  intro T hT X
  rcases hr T hT X with ⟨v, st₀, t, T', L, h0, X', hL, e1, e2, ⟨⟨u, hv, hp, hb⟩, hF⟩, st⟩ | ⟨q, st₀, t, T', L, E, ce, h0, X', hL, e1, e2, ⟨u, hp, hb, hF⟩, hce, hcv, hcl, st⟩
  · cases hv
    obtain ⟨k1, k2, k3⟩ := vx_keep h0 e1 hS hA hf hL hF
    obtain ⟨t2, a1, b1⟩ := kk u t T'.heap (locs ++ L) e1.symm (by rw [← e2]; exact X'.warmed.alike) hp hb k1 k2 k3 T' rfl X'
    exact ⟨t2, st t2 a1, b1⟩
  · obtain ⟨k1, k2, k3⟩ := vx_keep h0 e1 hS hAX hf hL hF
    obtain ⟨t2, a1, b1⟩ := kx E ce q u t T'.heap (locs ++ L) e1.symm (by rw [← e2]; exact X'.warmed.alike) hp hb k1 k2 k3 (by rw [e1]; exact hce) hcv hcl T' rfl X'
    exact ⟨t2, st.trans a1, b1⟩
/-- caught by the row x of this method's table; the rows ahead don't take it -/
theorem vx_catch {own name : String} {E : String} {ce : Cell} {q : Addr} (hown : s.vm.findClass own = some m.cls) (pre : List ExceptionTableEntry) (x : ExceptionTableEntry) (suf : List ExceptionTableEntry) (hsplit : c.exceptionTable.toList = pre ++ x :: suf)
    (hpass : ∀ z ∈ pre, covers z pc = false ∨ (z.catchType ≠ 0 ∧ ∃ nm : String, (Cond.classLink own z.catchType nm).before args s = true ∧ va_Nc E nm s)) (hx : covers x pc = true) (h0 : x.catchType ≠ 0)
    (hlink : (Cond.classLink own x.catchType name).before args s = true) (hcast : (Cond.castable E name).before args s = true) (hcell : H[q]? = some ce) (hv : ce.vm = .none) (hcl : s.vm.findClass E = some ce.cls)
    (kk : W p l e R s m args below meth c H locs cells slots Q (F0 m x.handlerPc ls [.ref q])) : vx_W p l e R s m args below meth c H locs cells slots Q (F0 m pc ls rest) q := by
  intro T hT X
  have hpl : e.platform.magicAccessors = ({} : Platform).magicAccessors := by rw [X.admits.platform]
  obtain ⟨c3, c4, hc3, hc4, hasg⟩ := Cond.castable_spec hcast
  cases Option.some.inj (hc3.symm.trans hcl)
  obtain ⟨c5, hc5, hcl5⟩ := Cond.classLink_spec hown hlink e.platform hpl
  cases Option.some.inj (hc4.symm.trans hc5)
  obtain ⟨vm', X', st⟩ := X.thenCaughtThrough q (g := F0 m pc ls rest) rfl (Steps.refl _) (by rw [hT]; exact hcell) (by rw [hv]; rfl) (by obtain ⟨k9, h9, -⟩ := Vm.findClass_spec hcl; exact ⟨k9, h9⟩) pre x suf hsplit
    (fun z hz => by
      rcases hpass z hz with h | ⟨hz0, nm, hl1, hn1⟩
      · exact Or.inl h
      · obtain ⟨c6, hc6, hcl6⟩ := Cond.classLink_spec hown hl1 e.platform hpl
        obtain ⟨a8, b8, h1, h2, h3⟩ := hn1
        cases Option.some.inj (h1.symm.trans hcl)
        cases Option.some.inj (h2.symm.trans hc6)
        exact Or.inr ⟨hz0, _, hcl6, h3⟩) hx (Or.inr ⟨h0, c4, hcl5, hasg⟩)
  obtain ⟨t, a1, b1⟩ := kk (T.setVm vm') hT X'
  exact ⟨t, st.trans a1, b1⟩
end Rows
section Ends
variable {p : Program} {l : Launch} {e : Env} {R : Room} {s : State} {m : MethodId} {args : Array Value} {below : List Frame} {meth : Method} {c : Code} {H : Heap} {locs : List Loc} {cells slots : Nat} {Q : State → Prop}
variable {mc ms : Nat} {free : Addr → Prop} {A0 A1 : Nat → Prop} {H0 : Heap} {a : Array Value} {ls : Array Slot} {st0 rest : List Value}
variable {Qc : Array Value → State → Outcome → State → Prop} {XC : String → State → State → Prop}
/-- what a body that may throw owes at its end -/
def vx_MQ (below : List Frame) (Qc : Array Value → State → Outcome → State → Prop) (XC : String → State → State → Prop) (a : Array Value) (s : State) (mc ms : Nat) (free : Addr → Prop) : State → Prop := fun t =>
  ∃ o, t.status = .running ∧ Ended t below o ∧ vx_Q Qc XC mc ms free a s o t
theorem vx_ret {g : JFrame} {mc ms : Nat} (k : W p l e R s m args below meth c H locs cells slots (MQ below Qc args s mc ms free) g) : W p l e R s m args below meth c H locs cells slots (vx_MQ below Qc XC args s mc ms free) g := by
  intro T hT X
  obtain ⟨t, a1, o, b1, b2, b3, b4⟩ := k T hT X
  exact ⟨t, a1, o, b1, b2, Or.inl ⟨b3, b4⟩⟩
/-- not caught here: it goes on to the caller -/
theorem vx_widen {g : JFrame} {q : Addr} {k n : Nat} (h1 : cells ≤ k) (h2 : slots ≤ n) (kk : vx_W p l e R s m args below meth c H locs k n Q g q) : vx_W p l e R s m args below meth c H locs cells slots Q g q := fun T hT X => kk T hT (stand_widen X h1 h2)
theorem vx_out {pc : Nat} {E : String} {ce : Cell} {q : Addr} {mc ms : Nat} (hout : ∀ x ∈ c.exceptionTable.toList, covers x pc = false) (hlocks : meth.locks = false) (hcell : H[q]? = some ce) (hv : ce.vm = .none) (hcl : s.vm.findClass E = some ce.cls)
    (hx : ∀ t : State, t.heap = H → s.vm.Alike t.vm → XC E s t) (hf : ∀ z ∈ locs, free z.base) (hc : cells ≤ mc) (hs : slots ≤ ms) :
    vx_W p l e R s m args below meth c H locs cells slots (vx_MQ below Qc XC args s mc ms free) (F0 m pc ls rest) q := by
  intro T hT X
  obtain ⟨st1, hrun, hend, hW, hsm⟩ := X.leaveThrown q (g := F0 m pc ls rest) rfl rfl rfl hout hlocks
  have hcell9 : (T.setFrames (.throwing q :: below)).heap[q]? = some ce := by
    show T.heap[q]? = some ce
    rw [hT]; exact hcell
  exact ⟨_, st1, .threw q, hrun, hend, Or.inr ⟨q, rfl, E, ce, locs, hx _ hT hW.alike, hcell9, hv, hcl, hW, hsm.mono hc hs, hf⟩⟩
theorem vx_frame {U : State} {k n : Nat} (h : s.sameButNew ({ U with vm := s.vm } : State) locs k n) : s.heap.size ≤ U.heap.size ∧ ∀ q : Nat, q < s.heap.size → (∀ z ∈ locs, z.base ≠ q) → U.heap[q]? = s.heap[q]? := by
  obtain ⟨-, h2, -, -, -, h6⟩ := h
  refine ⟨h2, fun q hq hz => ?_⟩
  obtain ⟨c9, e1, e2, e3, e4⟩ := h6 q _ (Array.getElem?_eq_getElem hq)
  have hs : c9.slots = (s.heap[q]).slots := Array.ext_getElem? fun i => e4 i fun hm => hz _ hm rfl
  have h9 : c9 = s.heap[q] := by
    rw [hs] at e2
    exact e2
  have e5 : U.heap[q]? = some c9 := e1
  rw [e5, h9, Array.getElem?_eq_getElem hq]
/-- the words of a throw but the four that speak of the heap -/
def vx_no (w : Cond) : Bool := decide (w ≠ .isRef (.static Bundle.tN "UNASSIGNED_STACK" Bundle.steD)) && decide (w ≠ .isRef (.static Bundle.tN "SUPPRESSED_SENTINEL" Bundle.listD)) && decide (w ≠ .laysStatic Bundle.tN "UNASSIGNED_STACK" Bundle.steD) && decide (w ≠ .laysStatic Bundle.tN "SUPPRESSED_SENTINEL" Bundle.listD)
def vx_at0 (own : String) (ic : Nat) (X : String) (names : List String) : List Cond := (Bundle.ownAtoms0 own ic X names).filter vx_no
def vx_atS (own : String) (ic : Nat) (X : String) (names : List String) : List Cond := (Bundle.ownAtoms own ic X names).filter vx_no
/-- a word that the tables alone decide, or a good one -/
def vx_ot (w : Cond) : Bool := w.onTables || goodWord w
theorem vx_ot_at {args a' : Array Value} {s U : State} {w : Cond} (hW : s.WarmedH U.vm) (hvm : s.vm = U.vm) (hg : vx_ot w = true) (h : w.before args s = true) : w.before a' U = true := by
  simp only [vx_ot, Bool.or_eq_true] at hg
  rcases hg with hg | hg
  · exact va_tabs hg hvm h
  · exact word_at hW (good_of_word hg) h
/-- a list's words: the good ones out of the method's own list, the others by premises of their own -/
theorem vx_hat {args : Array Value} {s : State} {L B : List Cond} (h1 : ∀ w ∈ L.filter goodWord, w.before args s = true) (h2 : ∀ w ∈ L.filter (fun w => !goodWord w), w ∈ B) (h3 : ∀ w ∈ B, w.before args s = true) : ∀ w ∈ L, w.before args s = true := by
  intro w hw
  by_cases g : goodWord w = true
  · exact h1 w (List.mem_filter.mpr ⟨hw, g⟩)
  · refine h3 w (h2 w (List.mem_filter.mpr ⟨hw, ?_⟩))
    show (!goodWord w) = true
    cases hgw : goodWord w
    · rfl
    · exact absurd hgw g
theorem vx_c {args : Array Value} {s : State} {w : Cond} {B : List Cond} (h : w.before args s = true) (t : ∀ w ∈ B, w.before args s = true) : ∀ w' ∈ w :: B, w'.before args s = true := fun w' h' => (List.mem_cons.mp h').elim (fun e => by rw [e]; exact h) (t w')
theorem vx_n {args : Array Value} {s : State} : ∀ w ∈ ([] : List Cond), w.before args s = true := fun _ h => nomatch h
theorem vx_own {args : Array Value} {s : State} {L : List Cond} (h1 : ∀ w ∈ L.filter vx_no, w.before args s = true)
    (hU : (Cond.isRef (.static Bundle.tN "UNASSIGNED_STACK" Bundle.steD)).before args s = true) (hN : (Cond.isRef (.static Bundle.tN "SUPPRESSED_SENTINEL" Bundle.listD)).before args s = true)
    (lU : (Cond.laysStatic Bundle.tN "UNASSIGNED_STACK" Bundle.steD).before args s = true) (lN : (Cond.laysStatic Bundle.tN "SUPPRESSED_SENTINEL" Bundle.listD).before args s = true) : ∀ w ∈ L, w.before args s = true := by
  intro w hw
  by_cases e1 : w = .isRef (.static Bundle.tN "UNASSIGNED_STACK" Bundle.steD)
  · rw [e1]; exact hU
  · by_cases e2 : w = .isRef (.static Bundle.tN "SUPPRESSED_SENTINEL" Bundle.listD)
    · rw [e2]; exact hN
    · by_cases e3 : w = .laysStatic Bundle.tN "UNASSIGNED_STACK" Bundle.steD
      · rw [e3]; exact lU
      · by_cases e4 : w = .laysStatic Bundle.tN "SUPPRESSED_SENTINEL" Bundle.listD
        · rw [e4]; exact lN
        · exact h1 w (List.mem_filter.mpr ⟨hw, by unfold vx_no; rw [decide_eq_true e1, decide_eq_true e2, decide_eq_true e3, decide_eq_true e4]; rfl⟩)
/-- where a static field lies, its class's statics cell in H -/
def vx_L (C n d : String) (A : Nat → Prop) (U : State) (H : Heap) : Prop := ∃ (c : ClassId) (k : Class) (i : Nat) (f : Field) (a : Nat) (cell : Cell), U.vm.findClass C = some c ∧ U.fieldFound? C n d = some (c, k, i, f) ∧ f.isStatic = true ∧ k.statics = some a ∧ H[a]? = some cell ∧ cell.vm.isStatics = true ∧ cell.cls = c ∧ f.slot < cell.slots.size ∧ k.staticTypes[f.slot]? = some f.type ∧ ¬ A a
theorem vx_L.moved {C n d : String} {A : Nat → Prop} {u U : State} {H : Heap} (hvm : u.vm.Alike U.vm) (h : vx_L C n d A u H) : vx_L C n d A U H := by
  obtain ⟨c, k, i, f, a, cell, h1, h2, h3, h4, h5, h6, h7, h8, h9, h10⟩ := h
  obtain ⟨k', hi', he⟩ := State.fieldFound?_setVm hvm h2
  exact ⟨c, k', i, f, a, cell, by rw [hvm.findClass]; exact h1, hi', h3, by rw [he]; exact h4, h5, h6, h7, h8, by rw [he]; exact h9, h10⟩
theorem vx_L.kept {C n d : String} {A : Nat → Prop} {U : State} {H H1 : Heap} (h : vx_L C n d A U H) (hq : ∀ a : Nat, a < H.size → ¬ A a → H1[a]? = H[a]?) : vx_L C n d A U H1 := by
  obtain ⟨c, k, i, f, a, cell, h1, h2, h3, h4, h5, h6, h7, h8, h9, h10⟩ := h
  exact ⟨c, k, i, f, a, cell, h1, h2, h3, h4, by rw [hq a (Array.getElem?_eq_some_iff.mp h5).1 h10]; exact h5, h6, h7, h8, h9, h10⟩
theorem vx_L.narrow {C n d : String} {A B : Nat → Prop} {U : State} {H : Heap} (h : vx_L C n d A U H) (hAB : ∀ q, B q → A q) : vx_L C n d B U H := by
  obtain ⟨c, k, i, f, a, cell, h1, h2, h3, h4, h5, h6, h7, h8, h9, h10⟩ := h
  exact ⟨c, k, i, f, a, cell, h1, h2, h3, h4, h5, h6, h7, h8, h9, fun z => h10 (hAB _ z)⟩
theorem vx_L.word {C n d : String} {A : Nat → Prop} {s : State} {args : Array Value} (h : vx_L C n d A s s.heap) : (Cond.laysStatic C n d).before args s = true := by
  obtain ⟨c, k, i, f, a, cell, h1, h2, h3, h4, h5, h6, h7, h8, h9, -⟩ := h
  show (Cond.laysStatic C n d).holds args s none s [] = true
  exact Cond.laysStatic_of h1 h2 h3 h4 h5 h6 h7 h8 h9
/-- .. and what it holds: null or some reference -/
def vx_Zq (C n d : String) (A : Nat → Prop) (U : State) (H : Heap) : Prop := va_Zq C n d A U H ∧ vx_L C n d A U H
theorem vx_Zq.moved {C n d : String} {A : Nat → Prop} {u U : State} {H : Heap} (hvm : u.vm.Alike U.vm) (h : vx_Zq C n d A u H) : vx_Zq C n d A U H := ⟨va_Zq.moved hvm h.1, vx_L.moved hvm h.2⟩
theorem vx_Zq.kept {C n d : String} {A : Nat → Prop} {U : State} {H H1 : Heap} (h : vx_Zq C n d A U H) (hq : ∀ a : Nat, a < H.size → ¬ A a → H1[a]? = H[a]?) : vx_Zq C n d A U H1 := ⟨va_Zq.kept h.1 hq, vx_L.kept h.2 hq⟩
theorem vx_Zq.narrow {C n d : String} {A B : Nat → Prop} {U : State} {H : Heap} (h : vx_Zq C n d A U H) (hAB : ∀ q, B q → A q) : vx_Zq C n d B U H := ⟨va_Zq.narrow h.1 hAB, vx_L.narrow h.2 hAB⟩
theorem vx_Zqof {args : Array Value} {s : State} {C n d : String} {A : Nat → Prop} (hl : (Cond.laysStatic C n d).before args s = true) (hini : (Cond.initialized C).before args s = true) (h : (Cond.isRef (.static C n d)).before args s = true) (hA : ∀ a : Nat, a < s.heap.size → ¬ A a) : vx_Zq C n d A s s.heap := by
  refine ⟨va_Zqof hl hini h hA, ?_⟩
  obtain ⟨c, k, i, f, a, cell, h1, h2, h3, h4, h5, h6, h7, h8, h9⟩ := Cond.laysStatic_spec hl
  exact ⟨c, k, i, f, a, cell, h1, h2, h3, h4, h5, h6, h7, h8, h9, hA a (Array.getElem?_eq_some_iff.mp h5).1⟩
theorem vx_isRef {C n d : String} {v : Value} {A : Nat → Prop} {s : State} {args : Array Value} (h : va_Z C n d v A s s.heap) (hv : v.isRef = true) : (Cond.isRef (.static C n d)).before args s = true := by
  obtain ⟨cf, kf, fi, f, a, cell, h1, h2, h3, h4, h5, h6, h7, -⟩ := h
  have he : (Term.static C n d).eval args s none [] s = some v := by
    simp [Term.eval, State.fieldNamed?, h1, h2, h4, h5, h6, h7]
  simp only [Cond.before, Cond.holds, Cond.value, he]
  cases v <;> simp_all [Value.isRef]
theorem vx_isRefq {C n d : String} {A : Nat → Prop} {s : State} {args : Array Value} (h : va_Zq C n d A s s.heap) : (Cond.isRef (.static C n d)).before args s = true := by
  rcases h with h | ⟨t, h⟩
  · exact vx_isRef h rfl
  · exact vx_isRef h rfl
/-- the same frame, seen from here: as if the method were called anew in this heap -/
theorem vx_rebase {T : State} (X : Stand p l e R s m args below meth c T locs cells slots) {R' : Room} (hf : R'.frames ≤ R.frames) (hl : R'.locals ≤ R.locals) (hc : cells + R'.cells ≤ R.cells) (hs : slots + R'.slots ≤ R.slots) :
    Stand p l e R' ((T.setVm s.vm).setFrames (.invoking m args :: below)) m args below meth c T [] 0 0 := by
  have htop : (T.setVm s.vm).topJava?.isSome := X.here.top
  have hF : ((T.setVm s.vm).setFrames (.invoking m args :: below)).frames = .invoking m args :: below := State.frames_setFrames _ (State.cur_lt_of_top htop)
  obtain ⟨g₀, hg0⟩ := Option.isSome_iff_exists.mp htop
  obtain ⟨r, hr⟩ := State.topJava?_eq_some.mp hg0
  have hl9 : e.platform.stackLimits (T.setVm s.vm).me = e.platform.stackLimits s.me := X.limits
  have hb9 : (T.setVm s.vm).me.stackBytes = s.me.stackBytes := X.bytes
  refine ⟨X.admits, X.cas, X.clock, hF, ?_, X.hears, X.method, X.code, X.here, X.tail, X.warmed, ?_, ?_, ?_⟩
  · have h := X.room
    have hU : ((T.setVm s.vm).setFrames (.invoking m args :: below)).localsInUse = s.localsInUse := by
      rw [State.localsInUse_invoking hF (meth := meth) (c := c) X.method X.code, State.localsInUse_invoking X.frames X.method X.code]
    simp only [State.hasRoom, Bool.and_eq_true, decide_eq_true_eq] at h ⊢
    obtain ⟨⟨⟨⟨h1, h2, h3, h4, h5, h6⟩, h7⟩, h8⟩, h9⟩ := h
    rw [X.frames, List.length_cons] at h2 h3
    have q1 := X.heapSize
    have q2 := X.used
    simp only [hF, hU, List.length_cons, State.stackLimits_setFrames, State.stackBytes_setFrames, hl9, hb9]
    refine ⟨⟨⟨⟨by omega, by omega, by omega, by omega, by omega, h6⟩, ?_⟩, ?_⟩, X.book⟩
    · show T.heap.size + R'.cells ≤ e.platform.maxCells
      omega
    · show T.slotsUsed + R'.slots ≤ e.platform.maxSlots
      omega
  · rw [State.stackLimits_setFrames]; rfl
  · rw [State.stackBytes_setFrames]; rfl
  · refine ⟨?_, Nat.le_refl _, Nat.le_refl _, ?_, ?_, fun a c9 h9 => ⟨c9, h9, rfl, rfl, fun _ _ => rfl⟩⟩
    · obtain ⟨t, ht, -⟩ := State.frames_cons hr
      show T.setVm s.vm = { ((T.setVm s.vm).setFrames (.invoking m args :: below)).setFrames (T.setVm s.vm).frames with heap := T.heap, slotsUsed := T.slotsUsed }
      rw [State.setFrames_setFrames, State.setFrames_self ht]
      rfl
    · show T.slotsUsed = T.slotsUsed + ((T.heap.toList.drop T.heap.size).map (·.slots.size)).sum
      rw [List.drop_eq_nil_of_le (Nat.le_of_eq Array.length_toList)]
      rfl
    · show ((T.heap.toList.drop T.heap.size).map (·.slots.size)).sum ≤ 0
      rw [List.drop_eq_nil_of_le (Nat.le_of_eq Array.length_toList)]
      exact Nat.le_refl _
/-- 'throw new E()': new; dup; invokespecial; athrow -/
theorem vx_throw0 {cc : ByteArray} {pc : Nat} (hexec : p.tables.exec = Jvm.exec) (hb : c.code = cc) (hl : l.stackTraces = false) {own cls : String} {names : List String} {ik ic mc ms : Nat} {A : Nat → Prop}
    (hown : s.vm.findClass own = some m.cls) (hcls : Bundle.fit cls = true) (hnames : ∀ n ∈ names, Bundle.fit n = true)
    (hk : (Cond.classLink own ik cls).before args s = true) (hini : (Cond.initialized cls).before args s = true) (hat : ∀ w ∈ vx_at0 own ic cls names, w.before args s = true)
    (hgood : ∀ w ∈ Cond.classLink own ik cls :: Cond.initialized cls :: vx_at0 own ic cls names, vx_ot w = true)
    (hU : vx_Zq Bundle.tN "UNASSIGNED_STACK" Bundle.steD A s s.heap) (hN : vx_Zq Bundle.tN "SUPPRESSED_SENTINEL" Bundle.listD A s s.heap) (hS : va_S A s.heap H locs) (hsize : ls.size = c.maxLocals)
    (d0 : decode cc pc = .ok (.new ik, 3)) (d3 : decode cc (pc + 3) = .ok (.dup, 1)) (d4 : decode cc (pc + 4) = .ok (.invokespecial ic, 3)) (d7 : decode cc (pc + 7) = .ok (.athrow, 1))
    (hout : ∀ x ∈ c.exceptionTable.toList, covers x (pc + 7) = false)
    (hRframes : names.length + 3 < R.frames) (hRlocals : (rest.map fun v => v.category).sum + (13 * (names.length + 1) + 42) ≤ R.locals) (hRcells : cells + 1 ≤ R.cells) (hRslots : slots + 6 ≤ R.slots) (hlocks : meth.locks = false)
    (hx : ∀ t : State, s.vm.Alike t.vm → H.size ≤ t.heap.size → (∀ q : Nat, q < H.size → t.heap[q]? = H[q]?) → XC cls s t)
    (hf : ∀ z ∈ locs, free z.base) (hc : cells + 1 ≤ mc) (hs : slots + 6 ≤ ms) :
    W p l e R s m args below meth c H locs cells slots (vx_MQ below Qc XC args s mc ms free) (F0 m pc ls rest) := by
  intro T hT X
  have htr : e.platform.stackTraces = false := (show e.platform.stackTraces = l.stackTraces by rw [X.admits.platform]).trans hl
  have Y := vx_rebase X (R' := { frames := R.frames, locals := R.locals, cells := 1, slots := 6 }) (Nat.le_refl _) (Nat.le_refl _) hRcells hRslots
  obtain ⟨s', hA⟩ : ∃ z, z = (T.setVm s.vm).setFrames (.invoking m args :: below) := ⟨_, rfl⟩
  rw [← hA] at Y
  have hvm : s'.vm = s.vm := by rw [hA]; rfl
  have hhp : s'.heap = H := by rw [hA]; exact hT
  have hW0 : s.WarmedH s'.vm := by rw [hvm]; exact State.WarmedH.refl s
  have hat' : ∀ w ∈ vx_at0 own ic cls names, w.before args s' = true := fun w hw => vx_ot_at hW0 hvm.symm (hgood w (List.mem_cons_of_mem _ (List.mem_cons_of_mem _ hw))) (hat w hw)
  have hk' : (Cond.classLink own ik cls).before args s' = true := vx_ot_at hW0 hvm.symm (hgood _ List.mem_cons_self) hk
  have hini' : (Cond.initialized cls).before args s' = true := vx_ot_at hW0 hvm.symm (hgood _ (List.mem_cons_of_mem _ List.mem_cons_self)) hini
  have hU' : vx_Zq Bundle.tN "UNASSIGNED_STACK" Bundle.steD A s' s'.heap := by rw [hhp]; exact vx_Zq.moved hW0.alike (hU.kept hS.2.1)
  have hN' : vx_Zq Bundle.tN "SUPPRESSED_SENTINEL" Bundle.listD A s' s'.heap := by rw [hhp]; exact vx_Zq.moved hW0.alike (hN.kept hS.2.1)
  have h : ∀ w ∈ Bundle.ownAtoms0 own ic cls names, w.before args s' = true := vx_own hat' (vx_isRefq hU'.1) (vx_isRefq hN'.1) hU'.2.word hN'.2.word
  have hown' : s'.vm.findClass own = some m.cls := by rw [hvm]; exact hown
  have hins : (Cond.instantiable cls 6).before args s' = true := h _ (by simp [Bundle.ownAtoms0])
  obtain ⟨vm₁, cX, kX, hfX, hkX, -, -, X₁, st1⟩ := Y.newCold hexec (own := own) (C := cls) (index := ik) (n := 6) hown' hk' hins hini'
    (g := F0 m pc ls rest) rfl (by rw [hb]; exact d0) (Nat.le_refl _) (Nat.le_refl _)
  generalize hT1 : (T.setVm vm₁).pushCell { cls := cX, slots := kX.instanceTypes.map defaultValue, vm := .none } = T1 at X₁ st1
  have hcat : (Value.ref T.heap.size).category = 1 := rfl
  have hcellA : T1.heap[T.heap.size]? = some (freshCell cX kX) := by rw [← hT1]; exact State.heap_pushCell_size _ _
  have d3' : decode c.code (pc + 3) = .ok (.dup, 1) := by rw [hb]; exact d3
  obtain ⟨U, hsteps, hrun, hend, hW, hsame, ce, hce, hO⟩ := X₁.ctorThrow0 hexec htr (own := own) (cls := cls) (names := names) (ic := ic) hown' hcls hnames h (fun x hx => nomatch hx) hfX hkX hcellA (by rw [hhp, hT]; exact Nat.le_refl _)
    (g := { method := m, pc := pc + 4, locals := ls, stack := .ref T.heap.size :: .ref T.heap.size :: rest, locked := none }) rfl hsize rfl rfl (rest := rest) rfl
    (by rw [hb]; exact d4) (by rw [hb]; exact d7) hout hRframes (by simp only [List.map_cons, List.sum_cons, hcat]; omega) hlocks
  obtain ⟨f1, f2⟩ := vx_frame hsame
  rw [hhp] at f1 f2
  have hWs : s.WarmedH U.vm := State.WarmedH.trans hW0 hW
  have hcl : s.vm.findClass cls = some ce.cls := by
    have h9 := hO.cls
    rw [hvm] at h9
    exact h9
  have hall : s.sameButNew ({ U with vm := s.vm } : State) locs mc ms := by
    subst hA
    obtain ⟨e1, e2⟩ := hsame
    rw [State.setFrames_setFrames] at e1
    have h2 : (T.setVm s.vm).sameButNew ({ U with vm := s.vm } : State) [] (0 + 1) (0 + 6) := ⟨e1, e2⟩
    have h3 := X.same.trans h2
    rw [List.append_nil] at h3
    exact h3.mono hc hs
  refine ⟨U, ?_, .threw T.heap.size, hrun, hend, Or.inr ⟨T.heap.size, rfl, cls, ce, locs, hx U hWs.alike f1 (fun q hq => f2 q hq (fun z hz => nomatch hz)), hce, hO.vm, hcl, hWs, hall, hf⟩⟩
  refine st1 _ ?_
  show Steps p.tables e below (T1.setTop { method := m, pc := pc + 3, locals := ls, stack := .ref T.heap.size :: rest, locked := none }) _
  jvm_step X₁.here [X₁.here.top, hexec, d3', Value.category]
  exact hsteps
/-- 'throw new E("text")': new; dup; ldc; invokespecial; athrow -/
theorem vx_throwS {cc : ByteArray} {pc : Nat} (hexec : p.tables.exec = Jvm.exec) (hb : c.code = cc) (hl : l.stackTraces = false) {own cls text : String} {names : List String} {ik is ic mc ms sa : Nat} {A : Nat → Prop}
    (hown : s.vm.findClass own = some m.cls) (hcls : Bundle.fit cls = true) (hnames : ∀ n ∈ names, Bundle.fit n = true)
    (hk : (Cond.classLink own ik cls).before args s = true) (hini : (Cond.initialized cls).before args s = true) (hstr : vk_R own is text sa s) (hat : ∀ w ∈ vx_atS own ic cls names, w.before args s = true)
    (hgood : ∀ w ∈ Cond.classLink own ik cls :: Cond.initialized cls :: vx_atS own ic cls names, vx_ot w = true)
    (hU : vx_Zq Bundle.tN "UNASSIGNED_STACK" Bundle.steD A s s.heap) (hN : vx_Zq Bundle.tN "SUPPRESSED_SENTINEL" Bundle.listD A s s.heap) (hS : va_S A s.heap H locs) (hsize : ls.size = c.maxLocals)
    (d0 : decode cc pc = .ok (.new ik, 3)) (d3 : decode cc (pc + 3) = .ok (.dup, 1)) (d4 : decode cc (pc + 4) = .ok (.ldc is, 2)) (d6 : decode cc (pc + 6) = .ok (.invokespecial ic, 3)) (d9 : decode cc (pc + 9) = .ok (.athrow, 1))
    (hout : ∀ x ∈ c.exceptionTable.toList, covers x (pc + 9) = false)
    (hRframes : names.length + 3 < R.frames) (hRlocals : (rest.map fun v => v.category).sum + (13 * (names.length + 1) + 43) ≤ R.locals) (hRcells : cells + 1 ≤ R.cells) (hRslots : slots + 6 ≤ R.slots) (hlocks : meth.locks = false)
    (hx : ∀ t : State, s.vm.Alike t.vm → H.size ≤ t.heap.size → (∀ q : Nat, q < H.size → t.heap[q]? = H[q]?) → XC cls s t)
    (hf : ∀ z ∈ locs, free z.base) (hc : cells + 1 ≤ mc) (hs : slots + 6 ≤ ms) :
    W p l e R s m args below meth c H locs cells slots (vx_MQ below Qc XC args s mc ms free) (F0 m pc ls rest) := by
  intro T hT X
  have htr : e.platform.stackTraces = false := (show e.platform.stackTraces = l.stackTraces by rw [X.admits.platform]).trans hl
  have Y := vx_rebase X (R' := { frames := R.frames, locals := R.locals, cells := 1, slots := 6 }) (Nat.le_refl _) (Nat.le_refl _) hRcells hRslots
  obtain ⟨s', hA⟩ : ∃ z, z = (T.setVm s.vm).setFrames (.invoking m args :: below) := ⟨_, rfl⟩
  rw [← hA] at Y
  have hvm : s'.vm = s.vm := by rw [hA]; rfl
  have hhp : s'.heap = H := by rw [hA]; exact hT
  have hW0 : s.WarmedH s'.vm := by rw [hvm]; exact State.WarmedH.refl s
  have hat' : ∀ w ∈ vx_atS own ic cls names, w.before args s' = true := fun w hw => vx_ot_at hW0 hvm.symm (hgood w (List.mem_cons_of_mem _ (List.mem_cons_of_mem _ hw))) (hat w hw)
  have hk' : (Cond.classLink own ik cls).before args s' = true := vx_ot_at hW0 hvm.symm (hgood _ List.mem_cons_self) hk
  have hini' : (Cond.initialized cls).before args s' = true := vx_ot_at hW0 hvm.symm (hgood _ (List.mem_cons_of_mem _ List.mem_cons_self)) hini
  have hU' : vx_Zq Bundle.tN "UNASSIGNED_STACK" Bundle.steD A s' s'.heap := by rw [hhp]; exact vx_Zq.moved hW0.alike (hU.kept hS.2.1)
  have hN' : vx_Zq Bundle.tN "SUPPRESSED_SENTINEL" Bundle.listD A s' s'.heap := by rw [hhp]; exact vx_Zq.moved hW0.alike (hN.kept hS.2.1)
  have h : ∀ w ∈ Bundle.ownAtoms own ic cls names, w.before args s' = true := vx_own hat' (vx_isRefq hU'.1) (vx_isRefq hN'.1) hU'.2.word hN'.2.word
  have hown' : s'.vm.findClass own = some m.cls := by rw [hvm]; exact hown
  have hins : (Cond.instantiable cls 6).before args s' = true := h _ (by simp [Bundle.ownAtoms])
  obtain ⟨vm₁, cX, kX, hfX, hkX, -, -, X₁, st1⟩ := Y.newCold hexec (own := own) (C := cls) (index := ik) (n := 6) hown' hk' hins hini'
    (g := F0 m pc ls rest) rfl (by rw [hb]; exact d0) (Nat.le_refl _) (Nat.le_refl _)
  generalize hT1 : (T.setVm vm₁).pushCell { cls := cX, slots := kX.instanceTypes.map defaultValue, vm := .none } = T1 at X₁ st1
  have hcat : (Value.ref T.heap.size).category = 1 := rfl
  have hcellA : T1.heap[T.heap.size]? = some (freshCell cX kX) := by rw [← hT1]; exact State.heap_pushCell_size _ _
  have d3' : decode c.code (pc + 3) = .ok (.dup, 1) := by rw [hb]; exact d3
  have d4' : decode c.code (pc + 4) = .ok (.ldc is, 2) := by rw [hb]; exact d4
  have hstr' : vk_R own is text sa s' := vk_R.warm hW0 hstr
  obtain ⟨U, hsteps, hrun, hend, hW, hsame, ce, hce, hO⟩ := X₁.ctorThrowS hexec htr (own := own) (cls := cls) (names := names) (ic := ic) hown' hcls hnames h (fun x hx => nomatch hx) hfX hkX hcellA (by rw [hhp, hT]; exact Nat.le_refl _) (msg := .ref sa) rfl
    (g := { method := m, pc := pc + 6, locals := ls, stack := .ref sa :: .ref T.heap.size :: .ref T.heap.size :: rest, locked := none }) rfl hsize rfl rfl (rest := rest) rfl
    (by rw [hb]; exact d6) (by rw [hb]; exact d9) hout hRframes (by simp only [List.map_cons, List.sum_cons, hcat]; omega) hlocks
  obtain ⟨f1, f2⟩ := vx_frame hsame
  rw [hhp] at f1 f2
  have hWs : s.WarmedH U.vm := State.WarmedH.trans hW0 hW
  have hcl : s.vm.findClass cls = some ce.cls := by
    have h9 := hO.cls
    rw [hvm] at h9
    exact h9
  have hall : s.sameButNew ({ U with vm := s.vm } : State) locs mc ms := by
    subst hA
    obtain ⟨e1, e2⟩ := hsame
    rw [State.setFrames_setFrames] at e1
    have h2 : (T.setVm s.vm).sameButNew ({ U with vm := s.vm } : State) [] (0 + 1) (0 + 6) := ⟨e1, e2⟩
    have h3 := X.same.trans h2
    rw [List.append_nil] at h3
    exact h3.mono hc hs
  refine ⟨U, ?_, .threw T.heap.size, hrun, hend, Or.inr ⟨T.heap.size, rfl, cls, ce, locs, hx U hWs.alike f1 (fun q hq => f2 q hq (fun z hz => nomatch hz)), hce, hO.vm, hcl, hWs, hall, hf⟩⟩
  refine st1 _ ?_
  show Steps p.tables e below (T1.setTop { method := m, pc := pc + 3, locals := ls, stack := .ref T.heap.size :: rest, locked := none }) _
  jvm_step X₁.here [X₁.here.top, hexec, d3', Value.category]
  exact X₁.ldcString hexec (own := own) (text := text) (index := is) (a := sa) hown' hstr'.1 hstr'.2
    (g := { method := m, pc := pc + 4, locals := ls, stack := .ref T.heap.size :: .ref T.heap.size :: rest, locked := none }) rfl d4' _ hsteps
/-- 'throw new E("text")', the text by a wide index -/
theorem vx_throwSW {cc : ByteArray} {pc : Nat} (hexec : p.tables.exec = Jvm.exec) (hb : c.code = cc) (hl : l.stackTraces = false) {own cls text : String} {names : List String} {ik is ic mc ms sa : Nat} {A : Nat → Prop}
    (hown : s.vm.findClass own = some m.cls) (hcls : Bundle.fit cls = true) (hnames : ∀ n ∈ names, Bundle.fit n = true)
    (hk : (Cond.classLink own ik cls).before args s = true) (hini : (Cond.initialized cls).before args s = true) (hstr : vk_R own is text sa s) (hat : ∀ w ∈ vx_atS own ic cls names, w.before args s = true)
    (hgood : ∀ w ∈ Cond.classLink own ik cls :: Cond.initialized cls :: vx_atS own ic cls names, vx_ot w = true)
    (hU : vx_Zq Bundle.tN "UNASSIGNED_STACK" Bundle.steD A s s.heap) (hN : vx_Zq Bundle.tN "SUPPRESSED_SENTINEL" Bundle.listD A s s.heap) (hS : va_S A s.heap H locs) (hsize : ls.size = c.maxLocals)
    (d0 : decode cc pc = .ok (.new ik, 3)) (d3 : decode cc (pc + 3) = .ok (.dup, 1)) (d4 : decode cc (pc + 4) = .ok (.ldc_w is, 3)) (d7 : decode cc (pc + 7) = .ok (.invokespecial ic, 3)) (d10 : decode cc (pc + 10) = .ok (.athrow, 1))
    (hout : ∀ x ∈ c.exceptionTable.toList, covers x (pc + 10) = false)
    (hRframes : names.length + 3 < R.frames) (hRlocals : (rest.map fun v => v.category).sum + (13 * (names.length + 1) + 43) ≤ R.locals) (hRcells : cells + 1 ≤ R.cells) (hRslots : slots + 6 ≤ R.slots) (hlocks : meth.locks = false)
    (hx : ∀ t : State, s.vm.Alike t.vm → H.size ≤ t.heap.size → (∀ q : Nat, q < H.size → t.heap[q]? = H[q]?) → XC cls s t)
    (hf : ∀ z ∈ locs, free z.base) (hc : cells + 1 ≤ mc) (hs : slots + 6 ≤ ms) :
    W p l e R s m args below meth c H locs cells slots (vx_MQ below Qc XC args s mc ms free) (F0 m pc ls rest) := by
  intro T hT X
  have htr : e.platform.stackTraces = false := (show e.platform.stackTraces = l.stackTraces by rw [X.admits.platform]).trans hl
  have Y := vx_rebase X (R' := { frames := R.frames, locals := R.locals, cells := 1, slots := 6 }) (Nat.le_refl _) (Nat.le_refl _) hRcells hRslots
  obtain ⟨s', hA⟩ : ∃ z, z = (T.setVm s.vm).setFrames (.invoking m args :: below) := ⟨_, rfl⟩
  rw [← hA] at Y
  have hvm : s'.vm = s.vm := by rw [hA]; rfl
  have hhp : s'.heap = H := by rw [hA]; exact hT
  have hW0 : s.WarmedH s'.vm := by rw [hvm]; exact State.WarmedH.refl s
  have hat' : ∀ w ∈ vx_atS own ic cls names, w.before args s' = true := fun w hw => vx_ot_at hW0 hvm.symm (hgood w (List.mem_cons_of_mem _ (List.mem_cons_of_mem _ hw))) (hat w hw)
  have hk' : (Cond.classLink own ik cls).before args s' = true := vx_ot_at hW0 hvm.symm (hgood _ List.mem_cons_self) hk
  have hini' : (Cond.initialized cls).before args s' = true := vx_ot_at hW0 hvm.symm (hgood _ (List.mem_cons_of_mem _ List.mem_cons_self)) hini
  have hU' : vx_Zq Bundle.tN "UNASSIGNED_STACK" Bundle.steD A s' s'.heap := by rw [hhp]; exact vx_Zq.moved hW0.alike (hU.kept hS.2.1)
  have hN' : vx_Zq Bundle.tN "SUPPRESSED_SENTINEL" Bundle.listD A s' s'.heap := by rw [hhp]; exact vx_Zq.moved hW0.alike (hN.kept hS.2.1)
  have h : ∀ w ∈ Bundle.ownAtoms own ic cls names, w.before args s' = true := vx_own hat' (vx_isRefq hU'.1) (vx_isRefq hN'.1) hU'.2.word hN'.2.word
  have hown' : s'.vm.findClass own = some m.cls := by rw [hvm]; exact hown
  have hins : (Cond.instantiable cls 6).before args s' = true := h _ (by simp [Bundle.ownAtoms])
  obtain ⟨vm₁, cX, kX, hfX, hkX, -, -, X₁, st1⟩ := Y.newCold hexec (own := own) (C := cls) (index := ik) (n := 6) hown' hk' hins hini'
    (g := F0 m pc ls rest) rfl (by rw [hb]; exact d0) (Nat.le_refl _) (Nat.le_refl _)
  generalize hT1 : (T.setVm vm₁).pushCell { cls := cX, slots := kX.instanceTypes.map defaultValue, vm := .none } = T1 at X₁ st1
  have hcat : (Value.ref T.heap.size).category = 1 := rfl
  have hcellA : T1.heap[T.heap.size]? = some (freshCell cX kX) := by rw [← hT1]; exact State.heap_pushCell_size _ _
  have d3' : decode c.code (pc + 3) = .ok (.dup, 1) := by rw [hb]; exact d3
  have d4' : decode c.code (pc + 4) = .ok (.ldc_w is, 3) := by rw [hb]; exact d4
  have hstr' : vk_R own is text sa s' := vk_R.warm hW0 hstr
  obtain ⟨U, hsteps, hrun, hend, hW, hsame, ce, hce, hO⟩ := X₁.ctorThrowS hexec htr (own := own) (cls := cls) (names := names) (ic := ic) hown' hcls hnames h (fun x hx => nomatch hx) hfX hkX hcellA (by rw [hhp, hT]; exact Nat.le_refl _) (msg := .ref sa) rfl
    (g := { method := m, pc := pc + 7, locals := ls, stack := .ref sa :: .ref T.heap.size :: .ref T.heap.size :: rest, locked := none }) rfl hsize rfl rfl (rest := rest) rfl
    (by rw [hb]; exact d7) (by rw [hb]; exact d10) hout hRframes (by simp only [List.map_cons, List.sum_cons, hcat]; omega) hlocks
  obtain ⟨f1, f2⟩ := vx_frame hsame
  rw [hhp] at f1 f2
  have hWs : s.WarmedH U.vm := State.WarmedH.trans hW0 hW
  have hcl : s.vm.findClass cls = some ce.cls := by
    have h9 := hO.cls
    rw [hvm] at h9
    exact h9
  have hall : s.sameButNew ({ U with vm := s.vm } : State) locs mc ms := by
    subst hA
    obtain ⟨e1, e2⟩ := hsame
    rw [State.setFrames_setFrames] at e1
    have h2 : (T.setVm s.vm).sameButNew ({ U with vm := s.vm } : State) [] (0 + 1) (0 + 6) := ⟨e1, e2⟩
    have h3 := X.same.trans h2
    rw [List.append_nil] at h3
    exact h3.mono hc hs
  refine ⟨U, ?_, .threw T.heap.size, hrun, hend, Or.inr ⟨T.heap.size, rfl, cls, ce, locs, hx U hWs.alike f1 (fun q hq => f2 q hq (fun z hz => nomatch hz)), hce, hO.vm, hcl, hWs, hall, hf⟩⟩
  refine st1 _ ?_
  show Steps p.tables e below (T1.setTop { method := m, pc := pc + 3, locals := ls, stack := .ref T.heap.size :: rest, locked := none }) _
  jvm_step X₁.here [X₁.here.top, hexec, d3', Value.category]
  exact X₁.ldcStringW hexec (own := own) (text := text) (index := is) (a := sa) hown' hstr'.1 hstr'.2
    (g := { method := m, pc := pc + 4, locals := ls, stack := .ref T.heap.size :: .ref T.heap.size :: rest, locked := none }) rfl d4' _ hsteps
end Ends
section Bodies
variable {l : Launch}
theorem vx_ofW {y : MethodName} {ws ws' : List Cond} {rm : Room} {Pc : Array Value → State → Prop} {Qc : Array Value → State → Outcome → State → Prop} {XC : String → State → State → Prop} {mc ms : Nat} {free : Addr → Prop} {cc : ByteArray} {maxL : Nat} {ret : Option FieldType}
    (hy : plainName y.cls = true) (hw : ws = Cond.code y cc maxL ret :: ws')
    (body : ∀ p e s m args below meth c s₁, BodyLoose p l y (headSpec ws rm) cc maxL ret e s m args below meth c s₁ → c.maxLocals = maxL → (∀ x ∈ c.exceptionTable.toList, False) → Pc args s →
      W p l e (headSpec ws rm).room s m args below meth c s.heap [] 0 0 (vx_MQ below Qc XC args s mc ms free) (entryFrame m args maxL)) : vx_Met l y ws rm Pc Qc XC mc ms free := by
  refine MetFree.of_bodyS (code := cc) (maxLocals := maxL) (ret := ret) hy ?_ ?_
  · intro args s m h hn
    obtain ⟨meth, c, h1, h2, h3, h4, h5, h6, -, -⟩ := Cond.code_spec hn (atoms_spec (ws := ws) h _ (by rw [hw]; exact List.mem_cons_self))
    exact ⟨meth, c, h1, h2, h3, h4, h5, h6⟩
  · intro p e s m args below meth c s₁ B hml hP _
    have hh0 : s₁.heap = s.heap := by rw [B.state]; rfl
    have ht : ∀ x ∈ c.exceptionTable.toList, False := by
      obtain ⟨meth9, c9, h1, h2, -, -, -, -, h7, -⟩ := Cond.code_spec B.named (atoms_spec (ws := ws) B.pre _ (by rw [hw]; exact List.mem_cons_self))
      cases Option.some.inj (h1.symm.trans B.method)
      cases Option.some.inj (h2.symm.trans (Stand.of_body B).code)
      intro x hx
      rw [Array.isEmpty_iff.mp h7] at hx
      cases hx
    obtain ⟨t, a1, o, b1, b2, b3⟩ := body p e s m args below meth c s₁ B hml ht hP s₁ hh0 (Stand.of_body B)
    exact ⟨t, o, a1, b1, b2, b3⟩
/-- the table of a body with handlers -/
theorem vx_table {p : Program} {x y : MethodName} {S : Spec} {cc bytes : ByteArray} {maxL maxL' : Nat} {ret ret' : Option FieldType} {e : Env} {s s₁ : State} {m : MethodId} {args : Array Value} {below : List Frame} {meth : Method} {c : Code} {hh : List (Nat × Nat × Nat × Nat)}
    (B : BodyLoose p l y S cc maxL ret e s m args below meth c s₁) (h : (Cond.codeWith y bytes maxL' ret' hh).before args s = true) : c.exceptionTable.toList = tableOf hh := by
  obtain ⟨m9, meth9, c9, hn9, h1, h2, -, -, h6, -⟩ := Cond.codeWith_spec h
  cases Option.some.inj (hn9.symm.trans B.named)
  cases Option.some.inj (h1.symm.trans B.method)
  cases Option.some.inj (h2.symm.trans (Stand.of_body B).code)
  rw [← h6, table_eq]
end Bodies
end VXA
/-! ===== END ===== -/
/-! ===== BEGIN a static call of a method with an exception table ===== -/
section VXS
variable {p : Program} {l : Launch} {e : Env} {R : Room} {s : State} {m : MethodId} {args : Array Value} {below : List Frame} {meth : Method} {c : Code} {T : State} {H : Heap} {locs : List Loc} {cells slots : Nat}
abbrev vx_CSW (R : Room) (s : State) (args : Array Value) (own : String) (index : Nat) (y : MethodName) (bytes : ByteArray) (maxL : Nat) (ret : Option FieldType) (hh : List (Nat × Nat × Nat × Nat)) (ws : List Cond) (rm : Room) (mc ms n : Nat) : Prop :=
  (rm.cells = mc ∧ rm.slots = ms ∧ rm.frames + 1 ≤ R.frames ∧ 8 + (maxL + 11) + rm.locals ≤ R.locals ∧ (∀ w ∈ ws, ∀ (a' : Array Value) (U : State), s.WarmedH U.vm → w.before a' U = true) ∧ Cond.codeWith y bytes maxL ret hh ∈ ws) ∧
  (Cond.codeWith y bytes maxL ret hh).before args s = true ∧ (Cond.initialized y.cls).before args s = true ∧ (y.cls ≠ "java/lang/invoke/MethodHandle" ∧ y.cls ≠ "java/lang/invoke/VarHandle") ∧
  (∀ sig, parseMethodDescriptor y.desc = some sig → n = sig.parameters.length) ∧ (Cond.methodLink own index y).before args s = true ∧ (Cond.static y).before args s = true
theorem vx_cwSW {own : String} {index maxL mc ms : Nat} {y : MethodName} {bytes : ByteArray} {ret : Option FieldType} {hh : List (Nat × Nat × Nat × Nat)} {Ts ws ws' : List Cond} {rm : Room} (n : Nat) (ht : ∀ w ∈ Ts, w.before args s = true) (hT : GoodIn Ts (va_wsS own index y ws)) (hw : ws = Cond.codeWith y bytes maxL ret hh :: ws') (hrc : rm.cells = mc) (hrs : rm.slots = ms)
    (hd : y.cls ≠ "java/lang/invoke/MethodHandle" ∧ y.cls ≠ "java/lang/invoke/VarHandle" ∧ (parseMethodDescriptor y.desc).map (fun d => d.parameters.length) = some n) (hR : rm.frames + 1 ≤ R.frames ∧ 8 + (maxL + 11) + rm.locals ≤ R.locals) :
    vx_CSW R s args own index y bytes maxL ret hh ws rm mc ms n := by
  have ok : ∀ w ∈ va_wsS own index y ws, w.before args s = true := fun w h => ht w (hT w h).1
  have hG : GoodIn Ts ws := fun w h => hT w (by unfold va_wsS; exact List.mem_append_right _ h)
  have hc : Cond.codeWith y bytes maxL ret hh ∈ ws := by rw [hw]; exact List.mem_cons_self
  refine ⟨⟨hrc, hrs, hR.1, hR.2, pay_in ht hG, hc⟩, ht _ (hG _ hc).1, ok _ (by simp [va_wsS]), ⟨hd.1, hd.2.1⟩, fun sig h => ?_, ok _ (by simp [va_wsS]), ok _ (by simp [va_wsS])⟩
  have h2 := hd.2.2
  rw [h] at h2
  exact (Option.some.inj h2).symm
theorem vx_callSW (X : Stand p l e R s m args below meth c T locs cells slots) (hexec : p.tables.exec = Jvm.exec) {own : String} {index : Nat} {y : MethodName} {bytes : ByteArray} {maxL : Nat} {ret : Option FieldType} {hh : List (Nat × Nat × Nat × Nat)}
    (hown : s.vm.findClass own = some m.cls) (hlink : (Cond.methodLink own index y).before args s = true) (hstat : (Cond.static y).before args s = true) (hinit : (Cond.initialized y.cls).before args s = true)
    (hcode : (Cond.codeWith y bytes maxL ret hh).before args s = true) (hy : y.cls ≠ "java/lang/invoke/MethodHandle" ∧ y.cls ≠ "java/lang/invoke/VarHandle")
    {W9 : Nat} {Pre : Pt → Array Value → Prop} {Post : Pt → Array Value → Option Value → Pt → Prop} (hK : Back l R p e below s args y 3 W9 Pre Post)
    {g : JFrame} (hg : g.method = m) (hsize : g.locals.size = c.maxLocals) {argsL rest : List Value} (hlen : ∀ sig, parseMethodDescriptor y.desc = some sig → argsL.length = sig.parameters.length)
    (hstack : g.stack = argsL.reverse ++ rest) (hW : 2 * g.monitorRoom + (rest.map fun v => v.category).sum ≤ W9) (hdg : decode c.code g.pc = .ok (.invokestatic index, 3))
    (hpre : ∀ vm₁, s.WarmedH vm₁ → Pre ⟨T.setVm vm₁, locs, cells, slots⟩ argsL.toArray) :
    ∃ (v : Option Value) (vm₁ : Vm) (B : Pt), s.WarmedH vm₁ ∧ Stand p l e R s m args below meth c B.U B.locs B.cells B.slots ∧ Post ⟨T.setVm vm₁, locs, cells, slots⟩ argsL.toArray v B ∧
      ∀ target, Steps p.tables e below (B.U.setTop { g with pc := g.pc + 3, stack := v.toList ++ rest }) target → Steps p.tables e below (T.setTop g) target := by
  obtain ⟨mk, methM, cM, hnamed, hmethM, -, -, -, -, -, -, hsigM⟩ := Cond.codeWith_spec hcode
  have hstatic : methM.isStatic = true := Cond.static_spec hnamed hmethM hstat
  obtain ⟨kP, hkP, -⟩ := className_of_methodNamed hnamed
  have hinitP : kP.init = .initialized := Cond.initialized_spec (findClass_of_methodNamed hnamed) hkP hinit
  obtain ⟨vm₁, X₁, hstep₁⟩ := X.invokestatic hexec hown hlink hnamed hmethM hstatic hkP hinitP hy (g := g) hg (argsL := argsL) (rest := rest) (hlen _ hsigM) hstack hdg
  obtain ⟨v, B, X', hpost, hsteps⟩ := hK m meth c ⟨T.setVm vm₁, locs, cells, slots⟩ { g with stack := rest } (.invokestatic index) mk argsL.toArray X₁ hg hsize hdg hW (X₁.named hnamed) (hpre vm₁ X₁.warmed)
  exact ⟨v, vm₁, B, X₁.warmed, X', hpost, fun target h => hstep₁ _ fun acts => by rw [doInvoke_state]; exact hsteps.trans h⟩
theorem vx_runSW {y : MethodName} {bytes cc : ByteArray} {maxL nL mc ms n index : Nat} {ret : Option FieldType} {hh : List (Nat × Nat × Nat × Nat)} {ws : List Cond} {rm : Room} {Pc : Array Value → State → Prop} {Qc : Array Value → State → Outcome → State → Prop} {free : Addr → Prop} {Ts : List Cond} {own : String} {As rest : List Value} {g : JFrame}
    (S : CallFix p m c cc nL s args Ts own) (hM : Met l y ws rm Pc Qc mc ms free) (cw : vx_CSW R s args own index y bytes maxL ret hh ws rm mc ms n) (hp : PreS s H Pc As)
    (hg : g.method = m) (hn : As.length = n) (hsize : g.locals.size = nL) (hstack : g.stack = As.reverse ++ rest) (hW : 2 * g.monitorRoom + (rest.map fun v => v.category).sum ≤ 8) (hdg : decode cc g.pc = .ok (.invokestatic index, 3)) (hf : cells + mc ≤ R.cells ∧ slots + ms ≤ R.slots) :
    va_Run p l e R s m args below meth c H locs cells slots mc ms g rest (Qc As.toArray) (free) := by
  obtain ⟨⟨hrc, hrs, hfr, hlo, hws, hcw⟩, hcode, hini, hy, hlen, hl, hstt⟩ := cw
  have hK : Back l R p e below s args y 3 8 (PreOf R mc ms Pc) (PostOf Qc mc ms free) := va_backW (hh := hh) (bytes := bytes) (maxL := maxL) (ret := ret) hM hp.1 hrc hrs hfr hlo hws hcw (fun a' U hW => word_at hW (Or.inl (by first | rfl | simp [Cond.onTables, Cond.keeps, Cond.steady])) hini)
  obtain ⟨hx, hb, hml, ho, -⟩ := S
  intro T hT X
  obtain ⟨v, vm₁, ⟨U', l2, c2, s2⟩, hW₁, X', ⟨g', mk, t, L, e1, e2, hq, h1, hL, h2, h3⟩, st⟩ := vx_callSW X hx (hh := hh) (bytes := bytes) (maxL := maxL) (ret := ret) ho hl hstt hini hcode hy hK hg (hsize.trans hml.symm) (argsL := As) (rest := rest) (fun sig h => hn.trans (hlen sig h)) hstack hW (by rw [hb]; exact hdg)
    (fun vm₁ hW₁ => ⟨hf.1, hf.2, hp.2 (T.setVm vm₁) hT hW₁⟩)
  dsimp only [Pt.U, Pt.locs, Pt.cells, Pt.slots] at X' e1 e2 h1 h2 h3 st
  subst h1; subst h2; subst h3
  exact ⟨v, (T.setVm vm₁).calling g' mk As.toArray, t, U', L, hT, X', hL, e1, e2, hq, st⟩
/-- not caught here, past rows that name other classes: it goes on to the caller -/
theorem vx_outP {p : Program} {l : Launch} {e : Env} {R : Room} {s : State} {m : MethodId} {args : Array Value} {below : List Frame} {meth : Method} {c : Code} {H : Heap} {locs : List Loc} {cells slots : Nat} {free : Addr → Prop} {ls : Array Slot} {rest : List Value} {Qc : Array Value → State → Outcome → State → Prop} {XC : String → State → State → Prop}
    {pc : Nat} {own E : String} {ce : Cell} {q : Addr} {mc ms : Nat} (hown : s.vm.findClass own = some m.cls) (hlocks : meth.locks = false)
    (hpass : ∀ z ∈ c.exceptionTable.toList, covers z pc = false ∨ (z.catchType ≠ 0 ∧ ∃ nm : String, (Cond.classLink own z.catchType nm).before args s = true ∧ va_Nc E nm s)) (hcell : H[q]? = some ce) (hv : ce.vm = .none) (hcl : s.vm.findClass E = some ce.cls)
    (hx : ∀ t : State, t.heap = H → s.vm.Alike t.vm → XC E s t) (hf : ∀ z ∈ locs, free z.base) (hc : cells ≤ mc) (hs : slots ≤ ms) :
    vx_W p l e R s m args below meth c H locs cells slots (vx_MQ below Qc XC args s mc ms free) (F0 m pc ls rest) q := by
  intro T hT X
  have hpl : e.platform.magicAccessors = ({} : Platform).magicAccessors := by rw [X.admits.platform]
  obtain ⟨vm', hW', X', st⟩ := X.outThrough hlocks q (g := F0 m pc ls rest) rfl rfl rfl (cell := ce) (by rw [hT]; exact hcell) (by rw [hv]; rfl)
    (by obtain ⟨k9, h9, -⟩ := Vm.findClass_spec hcl; exact ⟨k9, h9⟩) (fun z hz => by
      rcases hpass z hz with h | ⟨hz0, nm, hl1, hn1⟩
      · exact Or.inl h
      · obtain ⟨c6, hc6, hcl6⟩ := Cond.classLink_spec hown hl1 e.platform hpl
        obtain ⟨a8, b8, h1, h2, h3⟩ := hn1
        cases Option.some.inj (h1.symm.trans hcl)
        cases Option.some.inj (h2.symm.trans hc6)
        exact Or.inr ⟨hz0, _, hcl6, h3⟩)
  obtain ⟨g₀, hfr⟩ := X'.frames_eq
  have hcell9 : ((T.setVm vm').setFrames (.throwing q :: below)).heap[q]? = some ce := by
    show T.heap[q]? = some ce
    rw [hT]; exact hcell
  have hend : Ended ((T.setVm vm').setFrames (.throwing q :: below)) below (.threw q) := State.frames_setFrames _ (State.cur_lt_of_frames hfr)
  refine ⟨(T.setVm vm').setFrames (.throwing q :: below), ?_, .threw q, X'.here.running, hend, Or.inr ⟨q, rfl, E, ce, locs, hx _ hT (X'.ends _).1.alike, hcell9, hv, hcl, (X'.ends _).1, (X'.ends _).2.mono hc hs, hf⟩⟩
  rw [X.pushThrowing_eq]
  exact st
/-- a thing of a world lies in the heap -/
theorem vx_lt {D : va_G} {cl : List vw_C} {ws : va_W} {H1 : Heap} (h : va_P D cl ws H1) {k : Nat} {q : Nat × va_E} (hk : ws[k]? = some q) : q.1 < H1.size := (h k q hk).lt
end VXS
/-! ===== END ===== -/
/-! ===== BEGIN methods with a table of their own: called by a name, returning or throwing ===== -/
section VXH
/-! vx_backW, vx_callVX, vx_callSX, vx_callVW, vx_runVW, vx_runVX, vx_runSX, vx_ofWH follow the same proofs as their sisters above (Free/Laws.lean, Shelf42/LK1.lean); vx_outP calls Shelf42/NT130.lean (outThrough). -/
section
variable {l : Launch} {R : Room} {p : Program} {e : Env} {below : List Frame} {s : State} {sargs : Array Value} {y : MethodName} {len W9 : Nat}
theorem vx_backW {ws : List Cond} {rm : Room} {Pc : Array Value → State → Prop} {Qc : Array Value → State → Outcome → State → Prop} {XC : String → State → State → Prop} {mc ms : Nat} {free : Addr → Prop} {bytes : ByteArray} {maxL : Nat} {ret : Option FieldType} {hh : List (Nat × Nat × Nat × Nat)}
    (hM : vx_Met l y ws rm Pc Qc XC mc ms free) (hblind : FrameBlind Pc) (hrc : rm.cells = mc) (hrs : rm.slots = ms)
    (hframes : rm.frames + 1 ≤ R.frames) (hlocals : W9 + (maxL + 11) + rm.locals ≤ R.locals)
    (hws : ∀ w ∈ ws, ∀ a' U, s.WarmedH U.vm → w.before a' U = true) (hcode : Cond.codeWith y bytes maxL ret hh ∈ ws) (hinit : ∀ a' U, s.WarmedH U.vm → (Cond.initialized y.cls).before a' U = true) :
    vx_Back l R p e below s sargs y len W9 (PreOf R mc ms Pc) (PostOf Qc mc ms free) (vx_Post XC mc ms free) := by
  intro m meth c A g ig mk a X hg hsize hdg hW hn hp
  have h1 : (headSpec ws rm).pre.before a A.U = true := atoms_intro fun w hw => hws w hw _ _ X.warmed
  have h2 : (Cond.codeWith y bytes maxL ret hh).before a A.U = true := hws _ hcode _ _ X.warmed
  have h3 : (Cond.initialized y.cls).before a A.U = true := hinit _ _ X.warmed
  have h4 : A.cells + (headSpec ws rm).room.cells ≤ R.cells := by rw [show (headSpec ws rm).room.cells = mc from hrc]; exact hp.1
  have h5 : A.slots + (headSpec ws rm).room.slots ≤ R.slots := by rw [show (headSpec ws rm).room.slots = ms from hrs]; exact hp.2.1
  have hPc : Pc a (A.U.calling g mk a) := hblind _ _ _ _ hp.2.2
  obtain ⟨U, Ls, c0, s0⟩ := A
  dsimp only [Pt.U, Pt.locs, Pt.cells, Pt.slots] at h1 h2 h3 h4 h5 X hn hPc ⊢
  obtain ⟨m9, methY, cY, hn9, hmY, hcY, -, hlY, -⟩ := Cond.codeWith_spec h2
  cases Option.some.inj (hn9.symm.trans hn)
  obtain ⟨kY, hkY, -⟩ := className_of_methodNamed hn
  have hinitY : kY.init = .initialized := Cond.initialized_spec (findClass_of_methodNamed hn) hkY h3
  have h : At U g.method c below := by rw [hg]; exact X.here
  have hlocals9 : W9 + (maxL + 11) + (headSpec ws rm).room.locals ≤ R.locals := hlocals
  have happ : (headSpec ws rm).appliesLoose y e.platform (U.calling g mk a) = true :=
    Spec.appliesLoose_calling (g := g) h hdg hn hkY hinitY
      (X.room_calling (g := g) (R' := (headSpec ws rm).room) hsize hmY hcY hframes (by rw [hlY]; omega) h4 h5) h1
  obtain ⟨mid, hmid⟩ := h.above
  have hfr : (U.setTop g).frames = (.java g :: mid) ++ below := by rw [State.frames_setTop' g h.top, hmid]; rfl
  obtain ⟨o, s₂, hsteps, -, hend, hq⟩ := Steps.callFree hM p X.admits X.cas X.clock (acts := []) hfr happ hPc trivial
  have hq' : vx_Q Qc XC mc ms free a (U.calling g mk a) o s₂ := hq
  rw [State.frames_setTop' g h.top] at hend
  obtain ⟨g₀, hg0⟩ := Option.isSome_iff_exists.mp h.top
  obtain ⟨r, hr⟩ := State.topJava?_eq_some.mp hg0
  have hr' : (({ U with heap := s₂.heap, slotsUsed := s₂.slotsUsed } : State).setVm s₂.vm).frames = .java g₀ :: r := hr
  rcases hq' with ⟨hqc, L, hfe, hL⟩ | ⟨q, rfl, E, ce, L, hx, hce, hcv, hcl, hW₂, hsm, hL⟩
  · obtain ⟨⟨v, rfl⟩, hW₂, e2, q2, q3, q4, q5, q6⟩ := id hfe
    have e3 : s₂ = ({ (U.calling g mk a).setFrames s₂.frames with heap := s₂.heap, slotsUsed := s₂.slotsUsed } : State).setVm s₂.vm := by
      have : s₂ = ({ s₂ with vm := (U.calling g mk a).vm } : State).setVm s₂.vm := rfl
      rw [e2] at this
      exact this
    obtain ⟨c₂, i₂, len₂, hc₂, hd₂, hf₂⟩ := hend
    have hW' : U.WarmedH s₂.vm := hW₂
    have hcc : c₂ = c := by
      have h1 : s₂.code? g.method = U.code? g.method := by
        rw [State.code?_eq, State.code?_eq, hW'.alike.method?]
      exact Option.some.inj (hc₂.symm.trans (h1.trans h.code))
    subst hcc
    have hlen : len₂ = len := by rw [hdg] at hd₂; cases hd₂; rfl
    subst hlen
    have hs₂ : s₂ = (({ U with heap := s₂.heap, slotsUsed := s₂.slotsUsed } : State).setVm s₂.vm).setTop { g with pc := g.pc + len₂, stack := v.toList ++ g.stack } := by
      refine e3.trans ?_
      rw [hf₂, State.calling_eq h.top, State.setFrames_setFrames, State.setTop_of_frames _ hr', hr]
      rfl
    have hsame : U.sameButNew ({ U with heap := s₂.heap, slotsUsed := s₂.slotsUsed } : State) L mc ms := by
      refine ⟨?_, q2, q3, q4, q5, q6⟩
      obtain ⟨t, ht, -⟩ := State.frames_cons hr
      show ({ U with heap := s₂.heap, slotsUsed := s₂.slotsUsed } : State) = { U.setFrames U.frames with heap := s₂.heap, slotsUsed := s₂.slotsUsed }
      rw [State.setFrames_self ht]
    subst hg
    refine Or.inl ⟨v, ⟨(({ U with heap := s₂.heap, slotsUsed := s₂.slotsUsed } : State).setVm s₂.vm), Ls ++ L, c0 + mc, s0 + ms⟩,
      ⟨X.admits, X.cas, X.clock, X.frames, X.room, X.hears, X.method, X.code, (X.here.setHeapUsed s₂.heap s₂.slotsUsed).setVm hW'.alike, X.tail, State.WarmedH.trans X.warmed hW', X.limits, X.bytes, X.same.trans (hsame.setVm s.vm)⟩,
      ⟨g, mk, s₂, L, rfl, rfl, hqc, rfl, hL, rfl, rfl⟩, ?_⟩
    show Steps p.tables e below _ ((({ U with heap := s₂.heap, slotsUsed := s₂.slotsUsed } : State).setVm s₂.vm).setTop { g with pc := g.pc + len₂, stack := v.toList ++ g.stack })
    rw [← hs₂]
    exact hsteps
  · obtain ⟨e2, q2, q3, q4, q5, q6⟩ := id hsm
    have e3 : s₂ = ({ (U.calling g mk a).setFrames s₂.frames with heap := s₂.heap, slotsUsed := s₂.slotsUsed } : State).setVm s₂.vm := by
      have : s₂ = ({ s₂ with vm := (U.calling g mk a).vm } : State).setVm s₂.vm := rfl
      rw [e2] at this
      exact this
    have hf₂ : s₂.frames = .throwing q :: .java g :: U.frames.tail := hend
    have hW' : U.WarmedH s₂.vm := hW₂
    have hs₂ : s₂ = ((({ U with heap := s₂.heap, slotsUsed := s₂.slotsUsed } : State).setVm s₂.vm).setTop g).pushFrame (.throwing q) := by
      refine e3.trans ?_
      rw [hf₂, State.calling_eq h.top, State.setFrames_setFrames, State.pushFrame, State.frames_setTop _ hr', State.setTop_of_frames _ hr', State.setFrames_setFrames, hr]
      rfl
    have hsame : U.sameButNew ({ U with heap := s₂.heap, slotsUsed := s₂.slotsUsed } : State) L mc ms := by
      refine ⟨?_, q2, q3, q4, q5, q6⟩
      obtain ⟨t, ht, -⟩ := State.frames_cons hr
      show ({ U with heap := s₂.heap, slotsUsed := s₂.slotsUsed } : State) = { U.setFrames U.frames with heap := s₂.heap, slotsUsed := s₂.slotsUsed }
      rw [State.setFrames_self ht]
    subst hg
    refine Or.inr ⟨q, ⟨(({ U with heap := s₂.heap, slotsUsed := s₂.slotsUsed } : State).setVm s₂.vm), Ls ++ L, c0 + mc, s0 + ms⟩,
      ⟨X.admits, X.cas, X.clock, X.frames, X.room, X.hears, X.method, X.code, (X.here.setHeapUsed s₂.heap s₂.slotsUsed).setVm hW'.alike, X.tail, State.WarmedH.trans X.warmed hW', X.limits, X.bytes, X.same.trans (hsame.setVm s.vm)⟩,
      ⟨g, mk, s₂, L, E, ce, rfl, rfl, hx, hce, hcv, hcl, rfl, hL, rfl, rfl⟩, ?_⟩
    show Steps p.tables e below _ (((({ U with heap := s₂.heap, slotsUsed := s₂.slotsUsed } : State).setVm s₂.vm).setTop g).pushFrame (.throwing q))
    rw [← hs₂]
    exact hsteps
end
variable {p : Program} {l : Launch} {e : Env} {R : Room} {s : State} {m : MethodId} {args : Array Value} {below : List Frame} {meth : Method} {c : Code} {T : State} {H : Heap} {locs : List Loc} {cells slots : Nat}
theorem vx_callVX (X : Stand p l e R s m args below meth c T locs cells slots) (hexec : p.tables.exec = Jvm.exec) {own C : String} {index : Nat} {y : MethodName} {bytes : ByteArray} {maxL : Nat} {ret : Option FieldType} {hh : List (Nat × Nat × Nat × Nat)}
    (hown : s.vm.findClass own = some m.cls) (hlink : (Cond.methodLink own index y).before args s = true) (hinst : (Cond.instanceMethod y).before args s = true) (hsel : (Cond.selects C y y).before args s = true)
    (hcode : (Cond.codeWith y bytes maxL ret hh).before args s = true) (hy : y.cls ≠ "java/lang/invoke/MethodHandle" ∧ y.cls ≠ "java/lang/invoke/VarHandle")
    {W9 : Nat} {Pre : Pt → Array Value → Prop} {Post : Pt → Array Value → Option Value → Pt → Prop} {PostX : Pt → Array Value → Addr → Pt → Prop} (hK : vx_Back l R p e below s args y 3 W9 Pre Post PostX)
    {b : Addr} {cellB : Cell} (hcell : T.heap[b]? = some cellB) (hobj : cellB.vm.isStatics = false) (hcls : s.vm.findClass C = some cellB.cls)
    {g : JFrame} (hg : g.method = m) (hsize : g.locals.size = c.maxLocals) {argsL rest : List Value} (hlen : ∀ sig, parseMethodDescriptor y.desc = some sig → argsL.length = sig.parameters.length)
    (hstack : g.stack = argsL.reverse ++ .ref b :: rest) (hW : 2 * g.monitorRoom + (rest.map fun v => v.category).sum ≤ W9) (hdg : decode c.code g.pc = .ok (.invokevirtual index, 3))
    (hpre : ∀ vm₁, s.WarmedH vm₁ → Pre ⟨T.setVm vm₁, locs, cells, slots⟩ (Value.ref b :: argsL).toArray) :
    (∃ (v : Option Value) (vm₁ : Vm) (B : Pt), s.WarmedH vm₁ ∧ Stand p l e R s m args below meth c B.U B.locs B.cells B.slots ∧ Post ⟨T.setVm vm₁, locs, cells, slots⟩ (Value.ref b :: argsL).toArray v B ∧
      ∀ target, Steps p.tables e below (B.U.setTop { g with pc := g.pc + 3, stack := v.toList ++ rest }) target → Steps p.tables e below (T.setTop g) target) ∨
    (∃ (q : Addr) (vm₁ : Vm) (B : Pt), s.WarmedH vm₁ ∧ Stand p l e R s m args below meth c B.U B.locs B.cells B.slots ∧ PostX ⟨T.setVm vm₁, locs, cells, slots⟩ (Value.ref b :: argsL).toArray q B ∧
      Steps p.tables e below (T.setTop g) ((B.U.setTop { g with stack := rest }).pushFrame (.throwing q))) := by
  obtain ⟨mk, methM, hnamed, hmethM, hstM, habM⟩ := Cond.instanceMethod_spec hinst
  obtain ⟨m8, methM', cM, hn8, hmethM', -, -, -, -, -, -, hsigM⟩ := Cond.codeWith_spec hcode
  cases Option.some.inj (hn8.symm.trans hnamed)
  cases hmethM.symm.trans hmethM'
  obtain ⟨c2, r2, m2, q1, q2, q3, q4, kP, hkP, hkPi⟩ := Cond.selects_spec hsel
  cases hcls.symm.trans q1
  cases (State.methodFound?_of_named hnamed hy).symm.trans q2
  cases hnamed.symm.trans q3
  have hselP : selectMethod e.platform s.vm cellB.cls mk = .method mk := by rw [Launch.admits_selectMethod X.admits]; exact q4
  obtain ⟨vm₁, X₁, hstep₁⟩ := X.invokevirtual hexec hown hlink hnamed hmethM hstM hkP hkPi hy (a := b) (cell := cellB) hcell
    (fun z h => by rw [h] at hobj; cases hobj) hselP hmethM habM hkP hkPi (g := g) hg (argsL := argsL) (rest := rest) (hlen _ hsigM) hstack hdg
  rcases hK m meth c ⟨T.setVm vm₁, locs, cells, slots⟩ { g with stack := rest } (.invokevirtual index) mk (Value.ref b :: argsL).toArray X₁ hg hsize hdg hW (X₁.named hnamed) (hpre vm₁ X₁.warmed) with ⟨v, B, X', hpost, hsteps⟩ | ⟨q, B, X', hpost, hsteps⟩
  · exact Or.inl ⟨v, vm₁, B, X₁.warmed, X', hpost, fun target h => hstep₁ _ fun acts => by rw [doInvoke_state]; exact hsteps.trans h⟩
  · exact Or.inr ⟨q, vm₁, B, X₁.warmed, X', hpost, hstep₁ _ fun acts => by rw [doInvoke_state]; exact hsteps⟩
theorem vx_callSX (X : Stand p l e R s m args below meth c T locs cells slots) (hexec : p.tables.exec = Jvm.exec) {own : String} {index : Nat} {y : MethodName} {bytes : ByteArray} {maxL : Nat} {ret : Option FieldType} {hh : List (Nat × Nat × Nat × Nat)}
    (hown : s.vm.findClass own = some m.cls) (hlink : (Cond.methodLink own index y).before args s = true) (hstat : (Cond.static y).before args s = true) (hinit : (Cond.initialized y.cls).before args s = true)
    (hcode : (Cond.codeWith y bytes maxL ret hh).before args s = true) (hy : y.cls ≠ "java/lang/invoke/MethodHandle" ∧ y.cls ≠ "java/lang/invoke/VarHandle")
    {W9 : Nat} {Pre : Pt → Array Value → Prop} {Post : Pt → Array Value → Option Value → Pt → Prop} {PostX : Pt → Array Value → Addr → Pt → Prop} (hK : vx_Back l R p e below s args y 3 W9 Pre Post PostX)
    {g : JFrame} (hg : g.method = m) (hsize : g.locals.size = c.maxLocals) {argsL rest : List Value} (hlen : ∀ sig, parseMethodDescriptor y.desc = some sig → argsL.length = sig.parameters.length)
    (hstack : g.stack = argsL.reverse ++ rest) (hW : 2 * g.monitorRoom + (rest.map fun v => v.category).sum ≤ W9) (hdg : decode c.code g.pc = .ok (.invokestatic index, 3))
    (hpre : ∀ vm₁, s.WarmedH vm₁ → Pre ⟨T.setVm vm₁, locs, cells, slots⟩ argsL.toArray) :
    (∃ (v : Option Value) (vm₁ : Vm) (B : Pt), s.WarmedH vm₁ ∧ Stand p l e R s m args below meth c B.U B.locs B.cells B.slots ∧ Post ⟨T.setVm vm₁, locs, cells, slots⟩ argsL.toArray v B ∧
      ∀ target, Steps p.tables e below (B.U.setTop { g with pc := g.pc + 3, stack := v.toList ++ rest }) target → Steps p.tables e below (T.setTop g) target) ∨
    (∃ (q : Addr) (vm₁ : Vm) (B : Pt), s.WarmedH vm₁ ∧ Stand p l e R s m args below meth c B.U B.locs B.cells B.slots ∧ PostX ⟨T.setVm vm₁, locs, cells, slots⟩ argsL.toArray q B ∧
      Steps p.tables e below (T.setTop g) ((B.U.setTop { g with stack := rest }).pushFrame (.throwing q))) := by
  obtain ⟨mk, methM, cM, hnamed, hmethM, -, -, -, -, -, -, hsigM⟩ := Cond.codeWith_spec hcode
  have hstatic : methM.isStatic = true := Cond.static_spec hnamed hmethM hstat
  obtain ⟨kP, hkP, -⟩ := className_of_methodNamed hnamed
  have hinitP : kP.init = .initialized := Cond.initialized_spec (findClass_of_methodNamed hnamed) hkP hinit
  obtain ⟨vm₁, X₁, hstep₁⟩ := X.invokestatic hexec hown hlink hnamed hmethM hstatic hkP hinitP hy (g := g) hg (argsL := argsL) (rest := rest) (hlen _ hsigM) hstack hdg
  rcases hK m meth c ⟨T.setVm vm₁, locs, cells, slots⟩ { g with stack := rest } (.invokestatic index) mk argsL.toArray X₁ hg hsize hdg hW (X₁.named hnamed) (hpre vm₁ X₁.warmed) with ⟨v, B, X', hpost, hsteps⟩ | ⟨q, B, X', hpost, hsteps⟩
  · exact Or.inl ⟨v, vm₁, B, X₁.warmed, X', hpost, fun target h => hstep₁ _ fun acts => by rw [doInvoke_state]; exact hsteps.trans h⟩
  · exact Or.inr ⟨q, vm₁, B, X₁.warmed, X', hpost, hstep₁ _ fun acts => by rw [doInvoke_state]; exact hsteps⟩
theorem vx_callVW (X : Stand p l e R s m args below meth c T locs cells slots) (hexec : p.tables.exec = Jvm.exec) {own C : String} {index : Nat} {y : MethodName} {bytes : ByteArray} {maxL : Nat} {ret : Option FieldType} {hh : List (Nat × Nat × Nat × Nat)}
    (hown : s.vm.findClass own = some m.cls) (hlink : (Cond.methodLink own index y).before args s = true) (hinst : (Cond.instanceMethod y).before args s = true) (hsel : (Cond.selects C y y).before args s = true)
    (hcode : (Cond.codeWith y bytes maxL ret hh).before args s = true) (hy : y.cls ≠ "java/lang/invoke/MethodHandle" ∧ y.cls ≠ "java/lang/invoke/VarHandle")
    {W9 : Nat} {Pre : Pt → Array Value → Prop} {Post : Pt → Array Value → Option Value → Pt → Prop} (hK : Back l R p e below s args y 3 W9 Pre Post)
    {b : Addr} {cellB : Cell} (hcell : T.heap[b]? = some cellB) (hobj : cellB.vm.isStatics = false) (hcls : s.vm.findClass C = some cellB.cls)
    {g : JFrame} (hg : g.method = m) (hsize : g.locals.size = c.maxLocals) {argsL rest : List Value} (hlen : ∀ sig, parseMethodDescriptor y.desc = some sig → argsL.length = sig.parameters.length)
    (hstack : g.stack = argsL.reverse ++ .ref b :: rest) (hW : 2 * g.monitorRoom + (rest.map fun v => v.category).sum ≤ W9) (hdg : decode c.code g.pc = .ok (.invokevirtual index, 3))
    (hpre : ∀ vm₁, s.WarmedH vm₁ → Pre ⟨T.setVm vm₁, locs, cells, slots⟩ (Value.ref b :: argsL).toArray) :
    ∃ (v : Option Value) (vm₁ : Vm) (B : Pt), s.WarmedH vm₁ ∧ Stand p l e R s m args below meth c B.U B.locs B.cells B.slots ∧ Post ⟨T.setVm vm₁, locs, cells, slots⟩ (Value.ref b :: argsL).toArray v B ∧
      ∀ target, Steps p.tables e below (B.U.setTop { g with pc := g.pc + 3, stack := v.toList ++ rest }) target → Steps p.tables e below (T.setTop g) target := by
  obtain ⟨mk, methM, hnamed, hmethM, hstM, habM⟩ := Cond.instanceMethod_spec hinst
  obtain ⟨m8, methM', cM, hn8, hmethM', -, -, -, -, -, -, hsigM⟩ := Cond.codeWith_spec hcode
  cases Option.some.inj (hn8.symm.trans hnamed)
  cases hmethM.symm.trans hmethM'
  obtain ⟨c2, r2, m2, q1, q2, q3, q4, kP, hkP, hkPi⟩ := Cond.selects_spec hsel
  cases hcls.symm.trans q1
  cases (State.methodFound?_of_named hnamed hy).symm.trans q2
  cases hnamed.symm.trans q3
  have hselP : selectMethod e.platform s.vm cellB.cls mk = .method mk := by rw [Launch.admits_selectMethod X.admits]; exact q4
  obtain ⟨vm₁, X₁, hstep₁⟩ := X.invokevirtual hexec hown hlink hnamed hmethM hstM hkP hkPi hy (a := b) (cell := cellB) hcell
    (fun z h => by rw [h] at hobj; cases hobj) hselP hmethM habM hkP hkPi (g := g) hg (argsL := argsL) (rest := rest) (hlen _ hsigM) hstack hdg
  obtain ⟨v, B, X', hpost, hsteps⟩ := hK m meth c ⟨T.setVm vm₁, locs, cells, slots⟩ { g with stack := rest } (.invokevirtual index) mk (Value.ref b :: argsL).toArray X₁ hg hsize hdg hW (X₁.named hnamed) (hpre vm₁ X₁.warmed)
  exact ⟨v, vm₁, B, X₁.warmed, X', hpost, fun target h => hstep₁ _ fun acts => by rw [doInvoke_state]; exact hsteps.trans h⟩
abbrev vx_CVW (R : Room) (s : State) (args : Array Value) (own C : String) (index : Nat) (y : MethodName) (bytes : ByteArray) (maxL : Nat) (ret : Option FieldType) (hh : List (Nat × Nat × Nat × Nat)) (ws : List Cond) (rm : Room) (mc ms n : Nat) : Prop :=
  (rm.cells = mc ∧ rm.slots = ms ∧ rm.frames + 1 ≤ R.frames ∧ 8 + (maxL + 11) + rm.locals ≤ R.locals ∧ (∀ w ∈ ws, ∀ (a' : Array Value) (U : State), s.WarmedH U.vm → w.before a' U = true) ∧ Cond.codeWith y bytes maxL ret hh ∈ ws) ∧
  (Cond.codeWith y bytes maxL ret hh).before args s = true ∧ (Cond.initialized y.cls).before args s = true ∧ (y.cls ≠ "java/lang/invoke/MethodHandle" ∧ y.cls ≠ "java/lang/invoke/VarHandle") ∧
  (∀ sig, parseMethodDescriptor y.desc = some sig → n = sig.parameters.length) ∧ (Cond.methodLink own index y).before args s = true ∧ (Cond.instanceMethod y).before args s = true ∧ (Cond.selects C y y).before args s = true
theorem vx_cwVW {own C : String} {index maxL mc ms : Nat} {y : MethodName} {bytes : ByteArray} {ret : Option FieldType} {hh : List (Nat × Nat × Nat × Nat)} {Ts ws ws' : List Cond} {rm : Room} (n : Nat) (ht : ∀ w ∈ Ts, w.before args s = true) (hT : GoodIn Ts (wsV own index C y ws)) (hw : ws = Cond.codeWith y bytes maxL ret hh :: ws') (hrc : rm.cells = mc) (hrs : rm.slots = ms)
    (hd : y.cls = C ∧ y.cls ≠ "java/lang/invoke/MethodHandle" ∧ y.cls ≠ "java/lang/invoke/VarHandle" ∧ (parseMethodDescriptor y.desc).map (fun d => d.parameters.length) = some n) (hR : rm.frames + 1 ≤ R.frames ∧ 8 + (maxL + 11) + rm.locals ≤ R.locals) :
    vx_CVW R s args own C index y bytes maxL ret hh ws rm mc ms n := by
  obtain ⟨hC, hd⟩ := hd
  subst hC
  have ok : ∀ w ∈ wsV own index y.cls y ws, w.before args s = true := fun w h => ht w (hT w h).1
  have hG : GoodIn Ts ws := fun w h => hT w (by unfold wsV; exact List.mem_append_right _ h)
  have hc : Cond.codeWith y bytes maxL ret hh ∈ ws := by rw [hw]; exact List.mem_cons_self
  refine ⟨⟨hrc, hrs, hR.1, hR.2, pay_in ht hG, hc⟩, ht _ (hG _ hc).1, ok _ (by simp [wsV]), ⟨hd.1, hd.2.1⟩, fun sig h => ?_, ok _ (by simp [wsV]), ok _ (by simp [wsV]), ok _ (by simp [wsV])⟩
  have h2 := hd.2.2
  rw [h] at h2
  exact (Option.some.inj h2).symm
theorem vx_runVW {y : MethodName} {bytes cc : ByteArray} {maxL nL mc ms n index : Nat} {ret : Option FieldType} {hh : List (Nat × Nat × Nat × Nat)} {ws : List Cond} {rm : Room} {Pc : Array Value → State → Prop} {Qc : Array Value → State → Outcome → State → Prop} {free : Addr → Prop} {Ts : List Cond} {own C : String} {b : Addr} {As rest : List Value} {g : JFrame}
    (S : CallFix p m c cc nL s args Ts own) (hM : Met l y ws rm Pc Qc mc ms free) (cw : vx_CVW R s args own C index y bytes maxL ret hh ws rm mc ms n) (hp : PreV s H C b Pc As)
    (hg : g.method = m) (hn : As.length = n) (hsize : g.locals.size = nL) (hstack : g.stack = As.reverse ++ .ref b :: rest) (hW : 2 * g.monitorRoom + (rest.map fun v => v.category).sum ≤ 8) (hdg : decode cc g.pc = .ok (.invokevirtual index, 3)) (hf : cells + mc ≤ R.cells ∧ slots + ms ≤ R.slots) :
    va_Run p l e R s m args below meth c H locs cells slots mc ms g rest (Qc (Value.ref b :: As).toArray) free := by
  obtain ⟨⟨hrc, hrs, hfr, hlo, hws, hcw⟩, hcode, hini, hy, hlen, hl, hin, hse⟩ := cw
  have hK : Back l R p e below s args y 3 8 (PreOf R mc ms Pc) (PostOf Qc mc ms free) := va_backW (hh := hh) (bytes := bytes) (maxL := maxL) (ret := ret) hM hp.1 hrc hrs hfr hlo hws hcw (fun a' U hW => word_at hW (Or.inl (by first | rfl | simp [Cond.onTables, Cond.keeps, Cond.steady])) hini)
  obtain ⟨hx, hb, hml, ho, -⟩ := S
  obtain ⟨-, ⟨cellB, hcB, hoB, hclB⟩, hPc⟩ := hp
  intro T hT X
  obtain ⟨v, vm₁, ⟨U', l2, c2, s2⟩, hW₁, X', ⟨g', mk, t, L, e1, e2, hq, h1, hL, h2, h3⟩, st⟩ := vx_callVW X hx (C := C) (hh := hh) (bytes := bytes) (maxL := maxL) (ret := ret) ho hl hin hse hcode hy hK (by rw [hT]; exact hcB) hoB hclB hg (hsize.trans hml.symm) (argsL := As) (rest := rest) (fun sig h => hn.trans (hlen sig h)) hstack hW (by rw [hb]; exact hdg)
    (fun vm₁ hW₁ => ⟨hf.1, hf.2, hPc (T.setVm vm₁) hT hW₁⟩)
  dsimp only [Pt.U, Pt.locs, Pt.cells, Pt.slots] at X' e1 e2 h1 h2 h3 st
  subst h1; subst h2; subst h3
  exact ⟨v, (T.setVm vm₁).calling g' mk (Value.ref b :: As).toArray, t, U', L, hT, X', hL, e1, e2, hq, st⟩
section
variable {y : MethodName} {bytes cc : ByteArray} {maxL nL mc ms n index : Nat} {ret : Option FieldType} {ws : List Cond} {rm : Room} {Pc : Array Value → State → Prop} {Qc : Array Value → State → Outcome → State → Prop} {XC : String → State → State → Prop} {free : Addr → Prop} {Ts : List Cond} {own C : String} {b : Addr} {As rest : List Value} {g : JFrame}
theorem vx_runVX {hh : List (Nat × Nat × Nat × Nat)} (S : CallFix p m c cc nL s args Ts own) (hM : vx_Met l y ws rm Pc Qc XC mc ms free) (cw : vx_CVW R s args own C index y bytes maxL ret hh ws rm mc ms n) (hp : PreV s H C b Pc As)
    (hg : g.method = m) (hn : As.length = n) (hsize : g.locals.size = nL) (hstack : g.stack = As.reverse ++ .ref b :: rest) (hW : 2 * g.monitorRoom + (rest.map fun v => v.category).sum ≤ 8) (hdg : decode cc g.pc = .ok (.invokevirtual index, 3)) (hf : cells + mc ≤ R.cells ∧ slots + ms ≤ R.slots) :
    vx_Run p l e R s m args below meth c H locs cells slots mc ms g rest (Qc (Value.ref b :: As).toArray) XC free := by
  obtain ⟨⟨hrc, hrs, hfr, hlo, hws, hcw⟩, hcode, hini, hy, hlen, hl, hin, hse⟩ := cw
  have hK : vx_Back l R p e below s args y 3 8 (PreOf R mc ms Pc) (PostOf Qc mc ms free) (vx_Post XC mc ms free) := vx_backW (hh := hh) (bytes := bytes) (maxL := maxL) (ret := ret) hM hp.1 hrc hrs hfr hlo hws hcw (fun a' U hW => word_at hW (Or.inl (by first | rfl | simp [Cond.onTables, Cond.keeps, Cond.steady])) hini)
  obtain ⟨hx, hb, hml, ho, -⟩ := S
  obtain ⟨-, ⟨cellB, hcB, hoB, hclB⟩, hPc⟩ := hp
  intro T hT X
  rcases vx_callVX X hx (C := C) (hh := hh) (bytes := bytes) (maxL := maxL) (ret := ret) ho hl hin hse hcode hy hK (by rw [hT]; exact hcB) hoB hclB hg (hsize.trans hml.symm) (argsL := As) (rest := rest) (fun sig h => hn.trans (hlen sig h)) hstack hW (by rw [hb]; exact hdg)
    (fun vm₁ hW₁ => ⟨hf.1, hf.2, hPc (T.setVm vm₁) hT hW₁⟩) with ⟨v, vm₁, ⟨U', l2, c2, s2⟩, hW₁, X', ⟨g', mk, t, L, e1, e2, hq, h1, hL, h2, h3⟩, st⟩ | ⟨q, vm₁, ⟨U', l2, c2, s2⟩, hW₁, X', ⟨g', mk, t, L, E, ce, e1, e2, hq, hce, hcv, hcl, h1, hL, h2, h3⟩, st⟩
  · dsimp only [Pt.U, Pt.locs, Pt.cells, Pt.slots] at X' e1 e2 h1 h2 h3 st
    subst h1; subst h2; subst h3
    exact Or.inl ⟨v, (T.setVm vm₁).calling g' mk (Value.ref b :: As).toArray, t, U', L, hT, X', hL, e1, e2, hq, st⟩
  · dsimp only [Pt.U, Pt.locs, Pt.cells, Pt.slots] at X' e1 e2 h1 h2 h3 st hcl
    subst h1; subst h2; subst h3
    exact Or.inr ⟨q, (T.setVm vm₁).calling g' mk (Value.ref b :: As).toArray, t, U', L, E, ce, hT, X', hL, e1, e2, hq, hce, hcv, vx_cls hW₁ hcl, st⟩
theorem vx_runSX {hh : List (Nat × Nat × Nat × Nat)} (S : CallFix p m c cc nL s args Ts own) (hM : vx_Met l y ws rm Pc Qc XC mc ms free) (cw : vx_CSW R s args own index y bytes maxL ret hh ws rm mc ms n) (hp : PreS s H Pc As)
    (hg : g.method = m) (hn : As.length = n) (hsize : g.locals.size = nL) (hstack : g.stack = As.reverse ++ rest) (hW : 2 * g.monitorRoom + (rest.map fun v => v.category).sum ≤ 8) (hdg : decode cc g.pc = .ok (.invokestatic index, 3)) (hf : cells + mc ≤ R.cells ∧ slots + ms ≤ R.slots) :
    vx_Run p l e R s m args below meth c H locs cells slots mc ms g rest (Qc As.toArray) XC free := by
  obtain ⟨⟨hrc, hrs, hfr, hlo, hws, hcw⟩, hcode, hini, hy, hlen, hl, hstt⟩ := cw
  have hK : vx_Back l R p e below s args y 3 8 (PreOf R mc ms Pc) (PostOf Qc mc ms free) (vx_Post XC mc ms free) := vx_backW (hh := hh) (bytes := bytes) (maxL := maxL) (ret := ret) hM hp.1 hrc hrs hfr hlo hws hcw (fun a' U hW => word_at hW (Or.inl (by first | rfl | simp [Cond.onTables, Cond.keeps, Cond.steady])) hini)
  obtain ⟨hx, hb, hml, ho, -⟩ := S
  intro T hT X
  rcases vx_callSX X hx (hh := hh) (bytes := bytes) (maxL := maxL) (ret := ret) ho hl hstt hini hcode hy hK hg (hsize.trans hml.symm) (argsL := As) (rest := rest) (fun sig h => hn.trans (hlen sig h)) hstack hW (by rw [hb]; exact hdg)
    (fun vm₁ hW₁ => ⟨hf.1, hf.2, hp.2 (T.setVm vm₁) hT hW₁⟩) with ⟨v, vm₁, ⟨U', l2, c2, s2⟩, hW₁, X', ⟨g', mk, t, L, e1, e2, hq, h1, hL, h2, h3⟩, st⟩ | ⟨q, vm₁, ⟨U', l2, c2, s2⟩, hW₁, X', ⟨g', mk, t, L, E, ce, e1, e2, hq, hce, hcv, hcl, h1, hL, h2, h3⟩, st⟩
  · dsimp only [Pt.U, Pt.locs, Pt.cells, Pt.slots] at X' e1 e2 h1 h2 h3 st
    subst h1; subst h2; subst h3
    exact Or.inl ⟨v, (T.setVm vm₁).calling g' mk As.toArray, t, U', L, hT, X', hL, e1, e2, hq, st⟩
  · dsimp only [Pt.U, Pt.locs, Pt.cells, Pt.slots] at X' e1 e2 h1 h2 h3 st hcl
    subst h1; subst h2; subst h3
    exact Or.inr ⟨q, (T.setVm vm₁).calling g' mk As.toArray, t, U', L, E, ce, hT, X', hL, e1, e2, hq, hce, hcv, vx_cls hW₁ hcl, st⟩
end
end VXH
theorem vx_ofWH {l : Launch} {y : MethodName} {ws ws' : List Cond} {rm : Room} {Pc : Array Value → State → Prop} {Qc : Array Value → State → Outcome → State → Prop} {XC : String → State → State → Prop} {mc ms : Nat} {free : Addr → Prop} {cc : ByteArray} {maxL : Nat} {ret : Option FieldType} {hh : List (Nat × Nat × Nat × Nat)}
    (hy : plainName y.cls = true) (hw : ws = Cond.codeWith y cc maxL ret hh :: ws')
    (body : ∀ p e s m args below meth c s₁, BodyLoose p l y (headSpec ws rm) cc maxL ret e s m args below meth c s₁ → c.maxLocals = maxL → Pc args s →
      W p l e (headSpec ws rm).room s m args below meth c s.heap [] 0 0 (vx_MQ below Qc XC args s mc ms free) (entryFrame m args maxL)) : vx_Met l y ws rm Pc Qc XC mc ms free := by
  refine MetFree.of_bodyS (code := cc) (maxLocals := maxL) (ret := ret) hy ?_ ?_
  · intro args s m h hn
    obtain ⟨m9, meth, c, hn9, h1, h2, h3, h4, -, h5, h6, -⟩ := Cond.codeWith_spec (atoms_spec (ws := ws) h _ (by rw [hw]; exact List.mem_cons_self))
    cases hn.symm.trans hn9
    exact ⟨meth, c, h1, h2, h3, h4, h5, h6⟩
  · intro p e s m args below meth c s₁ B hml hP _
    have hh0 : s₁.heap = s.heap := by rw [B.state]; rfl
    obtain ⟨t, a1, o, b1, b2, b3⟩ := body p e s m args below meth c s₁ B hml hP s₁ hh0 (Stand.of_body B)
    exact ⟨t, o, a1, b1, b2, b3⟩
/-! ===== END ===== -/
end
section
/-! ===== BEGIN printed: names, fields, word lists, decode rows ===== -/
def RX0 : String := "LightsMarket$Best"
def TX0 : u_T := fun k => match k with
  | 0 => ("LightsMarket$Best", "quarters", "I", false)
  | 1 => ("LightsMarket$Best", "places", "I", false)
  | 2 => ("LightsMarket$Best", "earned", "I", false)
  | 3 => ("LightsMarket$Best", "on", "[I", true)
  | 4 => ("LightsMarket$Best", "given", "[I", true)
  | 5 => ("LightsMarket$Best", "coin", "[I", true)
  | 6 => ("LightsMarket$Best", "units", "[[I", true)
  | 7 => ("LightsMarket$Best", "prices", "[[I", true)
  | 8 => ("LightsMarket$Best", "loads", "[[I", true)
  | 9 => ("LightsMarket$Best", "pay", "[I", true)
  | 10 => ("LightsMarket$Best", "spent", "[I", true)
  | _ => ("LightsMarket$Best", "whole", "[I", true)
def tyX0 : Nat → FieldType := fun k => match k with
  | 0 => .int
  | 1 => .int
  | 2 => .int
  | 3 => .array .int
  | 4 => .array .int
  | 5 => .array .int
  | 6 => .array (.array .int)
  | 7 => .array (.array .int)
  | 8 => .array (.array .int)
  | 9 => .array .int
  | 10 => .array .int
  | _ => .array .int
abbrev wsX00 : List Cond := u_ws RX0 TX0 12
theorem nmX0 : ∀ a, a < 12 → ∀ b, b < 12 → a ≠ b → (TX0 a).2.1 ≠ (TX0 b).2.1 := by decide +kernel
theorem tyX0_ok : ∀ k, k < 12 → parseFieldDescriptor (TX0 k).2.2.1 = some (tyX0 k) := by decide +kernel
abbrev cX0_init : ByteArray := prog_2_method_1_code
def yX0_init : MethodName := ⟨RX0, "<init>", "()V"⟩
abbrev cX0_clear : ByteArray := prog_2_method_2_code
def yX0_clear : MethodName := ⟨RX0, "clear", "(II)V"⟩
abbrev cX0_reckoned : ByteArray := prog_2_method_3_code
def yX0_reckoned : MethodName := ⟨RX0, "reckoned", "(II)I"⟩
def RX1 : String := "LightsMarket$Dispatch"
def TX1 : u_T := fun k => match k with
  | 0 => ("LightsMarket$Dispatch", "units", "[I", true)
  | 1 => ("LightsMarket$Dispatch", "land", "LLightsMarket$Land;", true)
  | 2 => ("LightsMarket$Dispatch", "quarter", "I", false)
  | 3 => ("LightsMarket$Dispatch", "total", "I", false)
  | 4 => ("LightsMarket$Dispatch", "best", "I", false)
  | 5 => ("LightsMarket$Dispatch", "loads", "[I", true)
  | 6 => ("LightsMarket$Dispatch", "sums", "[[I", true)
  | 7 => ("LightsMarket$Dispatch", "offered", "[I", true)
  | 8 => ("LightsMarket$Dispatch", "low", "[I", true)
  | 9 => ("LightsMarket$Dispatch", "high", "[I", true)
  | 10 => ("LightsMarket$Dispatch", "trial", "[I", true)
  | _ => ("LightsMarket$Dispatch", "put", "[I", true)
def tyX1 : Nat → FieldType := fun k => match k with
  | 0 => .array .int
  | 1 => .object "LightsMarket$Land"
  | 2 => .int
  | 3 => .int
  | 4 => .int
  | 5 => .array .int
  | 6 => .array (.array .int)
  | 7 => .array .int
  | 8 => .array .int
  | 9 => .array .int
  | 10 => .array .int
  | _ => .array .int
abbrev wsX10 : List Cond := u_ws RX1 TX1 12
theorem nmX1 : ∀ a, a < 12 → ∀ b, b < 12 → a ≠ b → (TX1 a).2.1 ≠ (TX1 b).2.1 := by decide +kernel
theorem tyX1_ok : ∀ k, k < 12 → parseFieldDescriptor (TX1 k).2.2.1 = some (tyX1 k) := by decide +kernel
abbrev cX1_init : ByteArray := prog_3_method_1_code
def yX1_init : MethodName := ⟨RX1, "<init>", "(LLightsMarket$Land;)V"⟩
abbrev cX1_open : ByteArray := prog_3_method_2_code
def yX1_open : MethodName := ⟨RX1, "open", "(II)V"⟩
abbrev cX1_askAll : ByteArray := prog_3_method_3_code
def yX1_askAll : MethodName := ⟨RX1, "askAll", "(I)V"⟩
abbrev cX1_askedOf : ByteArray := prog_3_method_4_code
def yX1_askedOf : MethodName := ⟨RX1, "askedOf", "(II)I"⟩
abbrev cX1_coinOf : ByteArray := prog_3_method_5_code
def yX1_coinOf : MethodName := ⟨RX1, "coinOf", "(I)I"⟩
abbrev cX1_search : ByteArray := prog_3_method_6_code
def yX1_search : MethodName := ⟨RX1, "search", "(IIII)I"⟩
abbrev cX1_choose : ByteArray := prog_3_method_7_code
def yX1_choose : MethodName := ⟨RX1, "choose", "(III)V"⟩
abbrev cX1_roomBehind : ByteArray := prog_3_method_8_code
def yX1_roomBehind : MethodName := ⟨RX1, "roomBehind", "(I)I"⟩
abbrev cX1_span : ByteArray := prog_3_method_9_code
def yX1_span : MethodName := ⟨RX1, "span", "(IIII)Z"⟩
abbrev cX1_lowOf : ByteArray := prog_3_method_10_code
def yX1_lowOf : MethodName := ⟨RX1, "lowOf", "(LLightsMarket$Mill;II)I"⟩
abbrev cX1_highOf : ByteArray := prog_3_method_11_code
def yX1_highOf : MethodName := ⟨RX1, "highOf", "(LLightsMarket$Mill;III)I"⟩
abbrev cX1_fits : ByteArray := prog_3_method_12_code
def yX1_fits : MethodName := ⟨RX1, "fits", "()Z"⟩
def RX2 : String := "LightsMarket$Game"
def TX2 : u_T := fun k => match k with
  | 0 => ("LightsMarket$Game", "held", "Z", false)
  | 1 => ("LightsMarket$Game", "state", "I", false)
  | 2 => ("LightsMarket$Game", "land", "LLightsMarket$Land;", true)
  | 3 => ("LightsMarket$Game", "dispatch", "LLightsMarket$Dispatch;", true)
  | 4 => ("LightsMarket$Game", "coins", "[I", true)
  | 5 => ("LightsMarket$Game", "units", "[[I", true)
  | 6 => ("LightsMarket$Game", "gains", "[[I", true)
  | _ => ("LightsMarket$Game", "seen", "[Z", true)
def tyX2 : Nat → FieldType := fun k => match k with
  | 0 => .boolean
  | 1 => .int
  | 2 => .object "LightsMarket$Land"
  | 3 => .object "LightsMarket$Dispatch"
  | 4 => .array .int
  | 5 => .array (.array .int)
  | 6 => .array (.array .int)
  | _ => .array .boolean
abbrev wsX20 : List Cond := u_ws RX2 TX2 8
theorem nmX2 : ∀ a, a < 8 → ∀ b, b < 8 → a ≠ b → (TX2 a).2.1 ≠ (TX2 b).2.1 := by decide +kernel
theorem tyX2_ok : ∀ k, k < 8 → parseFieldDescriptor (TX2 k).2.2.1 = some (tyX2 k) := by decide +kernel
abbrev cX2_init : ByteArray := prog_4_method_1_code
def yX2_init : MethodName := ⟨RX2, "<init>", "(LLightsMarket$Land;LLightsMarket$Dispatch;)V"⟩
abbrev cX2_weightOf : ByteArray := prog_4_method_2_code
def yX2_weightOf : MethodName := ⟨RX2, "weightOf", "(I)I"⟩
abbrev cX2_hiddenBy : ByteArray := prog_4_method_3_code
def yX2_hiddenBy : MethodName := ⟨RX2, "hiddenBy", "(II)I"⟩
abbrev cX2_gainOf : ByteArray := prog_4_method_4_code
def yX2_gainOf : MethodName := ⟨RX2, "gainOf", "(II)I"⟩
abbrev cX2_hold : ByteArray := prog_4_method_5_code
def yX2_hold : MethodName := ⟨RX2, "hold", "(I)I"⟩
abbrev cX2_fillUnits : ByteArray := prog_4_method_6_code
def yX2_fillUnits : MethodName := ⟨RX2, "fillUnits", "(I)V"⟩
abbrev cX2_addGains : ByteArray := prog_4_method_7_code
def yX2_addGains : MethodName := ⟨RX2, "addGains", "(II)V"⟩
abbrev cX2_addGainsAt : ByteArray := prog_4_method_8_code
def yX2_addGainsAt : MethodName := ⟨RX2, "addGainsAt", "(III)V"⟩
abbrev cX2_play : ByteArray := prog_4_method_9_code
def yX2_play : MethodName := ⟨RX2, "play", "()I"⟩
abbrev cX2_wasSeen : ByteArray := prog_4_method_10_code
def yX2_wasSeen : MethodName := ⟨RX2, "wasSeen", "(I)Z"⟩
abbrev cX2_bestFor : ByteArray := prog_4_method_11_code
def yX2_bestFor : MethodName := ⟨RX2, "bestFor", "(II)I"⟩
def RX3 : String := "LightsMarket$Land"
def TX3 : u_T := fun k => match k with
  | 0 => ("LightsMarket$Land", "places", "I", false)
  | 1 => ("LightsMarket$Land", "lines", "I", false)
  | 2 => ("LightsMarket$Land", "mills", "I", false)
  | 3 => ("LightsMarket$Land", "fallsAsked", "Z", false)
  | 4 => ("LightsMarket$Land", "slack", "I", false)
  | 5 => ("LightsMarket$Land", "wholes", "I", false)
  | 6 => ("LightsMarket$Land", "loads", "[[I", true)
  | 7 => ("LightsMarket$Land", "mill", "[LLightsMarket$Mill;", true)
  | 8 => ("LightsMarket$Land", "from", "[I", true)
  | 9 => ("LightsMarket$Land", "to", "[I", true)
  | 10 => ("LightsMarket$Land", "stiffness", "[I", true)
  | 11 => ("LightsMarket$Land", "most", "[I", true)
  | 12 => ("LightsMarket$Land", "whole", "[I", true)
  | 13 => ("LightsMarket$Land", "share", "[[I", true)
  | 14 => ("LightsMarket$Land", "pull", "[[I", true)
  | _ => ("LightsMarket$Land", "turned", "[[I", true)
def tyX3 : Nat → FieldType := fun k => match k with
  | 0 => .int
  | 1 => .int
  | 2 => .int
  | 3 => .boolean
  | 4 => .int
  | 5 => .int
  | 6 => .array (.array .int)
  | 7 => .array (.object "LightsMarket$Mill")
  | 8 => .array .int
  | 9 => .array .int
  | 10 => .array .int
  | 11 => .array .int
  | 12 => .array .int
  | 13 => .array (.array .int)
  | 14 => .array (.array .int)
  | _ => .array (.array .int)
abbrev wsX30 : List Cond := u_ws RX3 TX3 16
theorem nmX3 : ∀ a, a < 16 → ∀ b, b < 16 → a ≠ b → (TX3 a).2.1 ≠ (TX3 b).2.1 := by decide +kernel
theorem tyX3_ok : ∀ k, k < 16 → parseFieldDescriptor (TX3 k).2.2.1 = some (tyX3 k) := by decide +kernel
abbrev cX3_init : ByteArray := prog_5_method_1_code
def yX3_init : MethodName := ⟨RX3, "<init>", "()V"⟩
abbrev cX3_addPlace : ByteArray := prog_5_method_2_code
def yX3_addPlace : MethodName := ⟨RX3, "addPlace", "()I"⟩
abbrev cX3_addLine : ByteArray := prog_5_method_3_code
def yX3_addLine : MethodName := ⟨RX3, "addLine", "(IIII)I"⟩
abbrev cX3_millAt : ByteArray := prog_5_method_4_code
def yX3_millAt : MethodName := ⟨RX3, "millAt", "(I)LLightsMarket$Mill;"⟩
abbrev cX3_loadAt : ByteArray := prog_5_method_5_code
def yX3_loadAt : MethodName := ⟨RX3, "loadAt", "(II)I"⟩
abbrev cX3_water : ByteArray := prog_5_method_6_code
def yX3_water : MethodName := ⟨RX3, "water", "()I"⟩
abbrev cX3_waterMost : ByteArray := prog_5_method_7_code
def yX3_waterMost : MethodName := ⟨RX3, "waterMost", "()I"⟩
abbrev cX3_fromOf : ByteArray := prog_5_method_8_code
def yX3_fromOf : MethodName := ⟨RX3, "fromOf", "(I)I"⟩
abbrev cX3_toOf : ByteArray := prog_5_method_9_code
def yX3_toOf : MethodName := ⟨RX3, "toOf", "(I)I"⟩
abbrev cX3_wholeOf : ByteArray := prog_5_method_10_code
def yX3_wholeOf : MethodName := ⟨RX3, "wholeOf", "(I)I"⟩
abbrev cX3_shareOf : ByteArray := prog_5_method_11_code
def yX3_shareOf : MethodName := ⟨RX3, "shareOf", "(III)I"⟩
abbrev cX3_commonPart : ByteArray := prog_5_method_12_code
def yX3_commonPart : MethodName := ⟨RX3, "commonPart", "(II)I"⟩
abbrev cX3_rework : ByteArray := prog_5_method_13_code
def yX3_rework : MethodName := ⟨RX3, "rework", "()V"⟩
abbrev cX3_fillPull : ByteArray := prog_5_method_14_code
def yX3_fillPull : MethodName := ⟨RX3, "fillPull", "(I)V"⟩
abbrev cX3_addPull : ByteArray := prog_5_method_15_code
def yX3_addPull : MethodName := ⟨RX3, "addPull", "(III)V"⟩
abbrev cX3_turn : ByteArray := prog_5_method_16_code
def yX3_turn : MethodName := ⟨RX3, "turn", "()V"⟩
abbrev cX3_fillShares : ByteArray := prog_5_method_17_code
def yX3_fillShares : MethodName := ⟨RX3, "fillShares", "(I)V"⟩
abbrev cX3_height : ByteArray := prog_5_method_18_code
def yX3_height : MethodName := ⟨RX3, "height", "(II)I"⟩
abbrev cX3_carries : ByteArray := prog_5_method_19_code
def yX3_carries : MethodName := ⟨RX3, "carries", "(I[I)Z"⟩
def RX4 : String := "LightsMarket$Mill"
def TX4 : u_T := fun k => match k with
  | 0 => ("LightsMarket$Mill", "place", "I", false)
  | 1 => ("LightsMarket$Mill", "kind", "I", false)
  | 2 => ("LightsMarket$Mill", "house", "I", false)
  | 3 => ("LightsMarket$Mill", "most", "I", false)
  | 4 => ("LightsMarket$Mill", "cost", "I", false)
  | 5 => ("LightsMarket$Mill", "least", "I", false)
  | 6 => ("LightsMarket$Mill", "toStart", "I", false)
  | 7 => ("LightsMarket$Mill", "startCoin", "I", false)
  | 8 => ("LightsMarket$Mill", "waitCoin", "I", false)
  | 9 => ("LightsMarket$Mill", "lake", "I", false)
  | 10 => ("LightsMarket$Mill", "stream", "I", false)
  | 11 => ("LightsMarket$Mill", "startsAlone", "Z", false)
  | 12 => ("LightsMarket$Mill", "needs", "I", false)
  | 13 => ("LightsMarket$Mill", "comes", "[I", true)
  | _ => ("LightsMarket$Mill", "offer", "LLightsMarket$Offer;", true)
def tyX4 : Nat → FieldType := fun k => match k with
  | 0 => .int
  | 1 => .int
  | 2 => .int
  | 3 => .int
  | 4 => .int
  | 5 => .int
  | 6 => .int
  | 7 => .int
  | 8 => .int
  | 9 => .int
  | 10 => .int
  | 11 => .boolean
  | 12 => .int
  | 13 => .array .int
  | _ => .object "LightsMarket$Offer"
abbrev wsX40 : List Cond := u_ws RX4 TX4 15
theorem nmX4 : ∀ a, a < 15 → ∀ b, b < 15 → a ≠ b → (TX4 a).2.1 ≠ (TX4 b).2.1 := by decide +kernel
theorem tyX4_ok : ∀ k, k < 15 → parseFieldDescriptor (TX4 k).2.2.1 = some (tyX4 k) := by decide +kernel
abbrev cX4_init : ByteArray := prog_6_method_1_code
def yX4_init : MethodName := ⟨RX4, "<init>", "()V"⟩
abbrev cX4_asTold : ByteArray := prog_6_method_2_code
def yX4_asTold : MethodName := ⟨RX4, "asTold", "(IIIIII)Z"⟩
abbrev cX4_stand : ByteArray := prog_6_method_3_code
def yX4_stand : MethodName := ⟨RX4, "stand", "(IIIII)V"⟩
abbrev cX4_setWays : ByteArray := prog_6_method_4_code
def yX4_setWays : MethodName := ⟨RX4, "setWays", "(IIII)V"⟩
abbrev cX4_switched : ByteArray := prog_6_method_5_code
def yX4_switched : MethodName := ⟨RX4, "switched", "()Z"⟩
abbrev cX4_reach : ByteArray := prog_6_method_6_code
def yX4_reach : MethodName := ⟨RX4, "reach", "(I)I"⟩
def RX5 : String := "LightsMarket$Night"
def TX5 : u_T := fun k => match k with
  | 0 => ("LightsMarket$Night", "begun", "Z", false)
  | 1 => ("LightsMarket$Night", "isDark", "Z", false)
  | 2 => ("LightsMarket$Night", "speed", "I", false)
  | 3 => ("LightsMarket$Night", "gone", "I", false)
  | 4 => ("LightsMarket$Night", "cut", "I", false)
  | 5 => ("LightsMarket$Night", "land", "LLightsMarket$Land;", true)
  | 6 => ("LightsMarket$Night", "places", "I", false)
  | 7 => ("LightsMarket$Night", "mills", "I", false)
  | 8 => ("LightsMarket$Night", "ramp", "I", false)
  | 9 => ("LightsMarket$Night", "cutMany", "I", false)
  | 10 => ("LightsMarket$Night", "loads", "[I", true)
  | 11 => ("LightsMarket$Night", "order", "[I", true)
  | 12 => ("LightsMarket$Night", "makes", "[I", true)
  | _ => ("LightsMarket$Night", "fallsAt", "[I", true)
def tyX5 : Nat → FieldType := fun k => match k with
  | 0 => .boolean
  | 1 => .boolean
  | 2 => .int
  | 3 => .int
  | 4 => .int
  | 5 => .object "LightsMarket$Land"
  | 6 => .int
  | 7 => .int
  | 8 => .int
  | 9 => .int
  | 10 => .array .int
  | 11 => .array .int
  | 12 => .array .int
  | _ => .array .int
abbrev wsX50 : List Cond := u_ws RX5 TX5 14
theorem nmX5 : ∀ a, a < 14 → ∀ b, b < 14 → a ≠ b → (TX5 a).2.1 ≠ (TX5 b).2.1 := by decide +kernel
theorem tyX5_ok : ∀ k, k < 14 → parseFieldDescriptor (TX5 k).2.2.1 = some (tyX5 k) := by decide +kernel
abbrev cX5_init : ByteArray := prog_7_method_1_code
def yX5_init : MethodName := ⟨RX5, "<init>", "(LLightsMarket$Land;)V"⟩
abbrev cX5_begin : ByteArray := prog_7_method_2_code
def yX5_begin : MethodName := ⟨RX5, "begin", "(IIII)Z"⟩
abbrev cX5_orderRight : ByteArray := prog_7_method_3_code
def yX5_orderRight : MethodName := ⟨RX5, "orderRight", "(I)Z"⟩
abbrev cX5_unitsRight : ByteArray := prog_7_method_4_code
def yX5_unitsRight : MethodName := ⟨RX5, "unitsRight", "(I)Z"⟩
abbrev cX5_tellFall : ByteArray := prog_7_method_5_code
def yX5_tellFall : MethodName := ⟨RX5, "tellFall", "(II)Z"⟩
abbrev cX5_pass : ByteArray := prog_7_method_6_code
def yX5_pass : MethodName := ⟨RX5, "pass", "(I)I"⟩
abbrev cX5_passOne : ByteArray := prog_7_method_7_code
def yX5_passOne : MethodName := ⟨RX5, "passOne", "()V"⟩
abbrev cX5_rampUp : ByteArray := prog_7_method_8_code
def yX5_rampUp : MethodName := ⟨RX5, "rampUp", "()V"⟩
abbrev cX5_cutNext : ByteArray := prog_7_method_9_code
def yX5_cutNext : MethodName := ⟨RX5, "cutNext", "()V"⟩
abbrev cX5_loadNow : ByteArray := prog_7_method_10_code
def yX5_loadNow : MethodName := ⟨RX5, "loadNow", "()I"⟩
abbrev cX5_madeNow : ByteArray := prog_7_method_11_code
def yX5_madeNow : MethodName := ⟨RX5, "madeNow", "()I"⟩
def RX6 : String := "LightsMarket$Offer"
def TX6 : u_T := fun k => match k with
  | 0 => ("LightsMarket$Offer", "code", "[I", true)
  | 1 => ("LightsMarket$Offer", "values", "[I", true)
  | 2 => ("LightsMarket$Offer", "stack", "[I", true)
  | 3 => ("LightsMarket$Offer", "codes", "I", false)
  | _ => ("LightsMarket$Offer", "deep", "I", false)
def tyX6 : Nat → FieldType := fun k => match k with
  | 0 => .array .int
  | 1 => .array .int
  | 2 => .array .int
  | 3 => .int
  | _ => .int
abbrev wsX60 : List Cond := u_ws RX6 TX6 5
theorem nmX6 : ∀ a, a < 5 → ∀ b, b < 5 → a ≠ b → (TX6 a).2.1 ≠ (TX6 b).2.1 := by decide +kernel
theorem tyX6_ok : ∀ k, k < 5 → parseFieldDescriptor (TX6 k).2.2.1 = some (tyX6 k) := by decide +kernel
abbrev cX6_init : ByteArray := prog_8_method_1_code
def yX6_init : MethodName := ⟨RX6, "<init>", "()V"⟩
abbrev cX6_learn : ByteArray := prog_8_method_2_code
def yX6_learn : MethodName := ⟨RX6, "learn", "([II)V"⟩
abbrev cX6_set : ByteArray := prog_8_method_3_code
def yX6_set : MethodName := ⟨RX6, "set", "(IIII)V"⟩
abbrev cX6_ask : ByteArray := prog_8_method_4_code
def yX6_ask : MethodName := ⟨RX6, "ask", "(I)I"⟩
abbrev cX6_step : ByteArray := prog_8_method_5_code
def yX6_step : MethodName := ⟨RX6, "step", "(I)V"⟩
abbrev cX6_joined : ByteArray := prog_8_method_6_code
def yX6_joined : MethodName := ⟨RX6, "joined", "(III)I"⟩
abbrev cX6_push : ByteArray := prog_8_method_7_code
def yX6_push : MethodName := ⟨RX6, "push", "(I)V"⟩
abbrev cX6_pull : ByteArray := prog_8_method_8_code
def yX6_pull : MethodName := ⟨RX6, "pull", "()I"⟩
def RX7 : String := "LightsMarket$Planner"
def TX7 : u_T := fun k => match k with
  | 0 => ("LightsMarket$Planner", "land", "LLightsMarket$Land;", true)
  | 1 => ("LightsMarket$Planner", "dispatch", "LLightsMarket$Dispatch;", true)
  | 2 => ("LightsMarket$Planner", "best", "LLightsMarket$Best;", true)
  | 3 => ("LightsMarket$Planner", "cost", "[[I", true)
  | 4 => ("LightsMarket$Planner", "rest", "[[I", true)
  | 5 => ("LightsMarket$Planner", "switched", "I", false)
  | 6 => ("LightsMarket$Planner", "waterMost", "I", false)
  | 7 => ("LightsMarket$Planner", "stream", "I", false)
  | 8 => ("LightsMarket$Planner", "mostLake", "I", false)
  | 9 => ("LightsMarket$Planner", "pickedOn", "I", false)
  | _ => ("LightsMarket$Planner", "pickedW", "I", false)
def tyX7 : Nat → FieldType := fun k => match k with
  | 0 => .object "LightsMarket$Land"
  | 1 => .object "LightsMarket$Dispatch"
  | 2 => .object "LightsMarket$Best"
  | 3 => .array (.array .int)
  | 4 => .array (.array .int)
  | 5 => .int
  | 6 => .int
  | 7 => .int
  | 8 => .int
  | 9 => .int
  | _ => .int
abbrev wsX70 : List Cond := u_ws RX7 TX7 11
theorem nmX7 : ∀ a, a < 11 → ∀ b, b < 11 → a ≠ b → (TX7 a).2.1 ≠ (TX7 b).2.1 := by decide +kernel
theorem tyX7_ok : ∀ k, k < 11 → parseFieldDescriptor (TX7 k).2.2.1 = some (tyX7 k) := by decide +kernel
abbrev cX7_init : ByteArray := prog_9_method_1_code
def yX7_init : MethodName := ⟨RX7, "<init>", "(LLightsMarket$Land;LLightsMarket$Dispatch;LLightsMarket$Best;)V"⟩
abbrev cX7_seek : ByteArray := prog_9_method_2_code
def yX7_seek : MethodName := ⟨RX7, "seek", "(II)I"⟩
abbrev cX7_fillCost : ByteArray := prog_9_method_3_code
def yX7_fillCost : MethodName := ⟨RX7, "fillCost", "(I)V"⟩
abbrev cX7_fillRest : ByteArray := prog_9_method_4_code
def yX7_fillRest : MethodName := ⟨RX7, "fillRest", "(I)V"⟩
abbrev cX7_costAt : ByteArray := prog_9_method_5_code
def yX7_costAt : MethodName := ⟨RX7, "costAt", "(III)I"⟩
abbrev cX7_restAt : ByteArray := prog_9_method_6_code
def yX7_restAt : MethodName := ⟨RX7, "restAt", "(III)I"⟩
abbrev cX7_lakeBehind : ByteArray := prog_9_method_7_code
def yX7_lakeBehind : MethodName := ⟨RX7, "lakeBehind", "(II)I"⟩
abbrev cX7_cheapest : ByteArray := prog_9_method_8_code
def yX7_cheapest : MethodName := ⟨RX7, "cheapest", "(III)I"⟩
abbrev cX7_canStart : ByteArray := prog_9_method_9_code
def yX7_canStart : MethodName := ⟨RX7, "canStart", "(II)Z"⟩
abbrev cX7_turningCoin : ByteArray := prog_9_method_10_code
def yX7_turningCoin : MethodName := ⟨RX7, "turningCoin", "(II)I"⟩
abbrev cX7_turningOf : ByteArray := prog_9_method_11_code
def yX7_turningOf : MethodName := ⟨RX7, "turningOf", "(III)I"⟩
abbrev cX7_pick : ByteArray := prog_9_method_12_code
def yX7_pick : MethodName := ⟨RX7, "pick", "(II)V"⟩
abbrev cX7_keepQuarter : ByteArray := prog_9_method_13_code
def yX7_keepQuarter : MethodName := ⟨RX7, "keepQuarter", "(II)V"⟩
abbrev cX7_keepPrices : ByteArray := prog_9_method_14_code
def yX7_keepPrices : MethodName := ⟨RX7, "keepPrices", "(I)V"⟩
abbrev cX7_keepPay : ByteArray := prog_9_method_15_code
def yX7_keepPay : MethodName := ⟨RX7, "keepPay", "()V"⟩
def RX8 : String := "LightsMarket$Reader"
def TX8 : u_T := fun k => match k with
  | 0 => ("LightsMarket$Reader", "code", "[I", true)
  | 1 => ("LightsMarket$Reader", "codes", "I", false)
  | 2 => ("LightsMarket$Reader", "bytes", "I", false)
  | 3 => ("LightsMarket$Reader", "faultPlace", "I", false)
  | 4 => ("LightsMarket$Reader", "tape", "[I", true)
  | 5 => ("LightsMarket$Reader", "fault", "I", false)
  | 6 => ("LightsMarket$Reader", "length", "I", false)
  | 7 => ("LightsMarket$Reader", "next", "I", false)
  | 8 => ("LightsMarket$Reader", "start", "I", false)
  | 9 => ("LightsMarket$Reader", "kind", "I", false)
  | _ => ("LightsMarket$Reader", "value", "I", false)
def tyX8 : Nat → FieldType := fun k => match k with
  | 0 => .array .int
  | 1 => .int
  | 2 => .int
  | 3 => .int
  | 4 => .array .int
  | 5 => .int
  | 6 => .int
  | 7 => .int
  | 8 => .int
  | 9 => .int
  | _ => .int
abbrev wsX80 : List Cond := u_ws RX8 TX8 11
theorem nmX8 : ∀ a, a < 11 → ∀ b, b < 11 → a ≠ b → (TX8 a).2.1 ≠ (TX8 b).2.1 := by decide +kernel
theorem tyX8_ok : ∀ k, k < 11 → parseFieldDescriptor (TX8 k).2.2.1 = some (tyX8 k) := by decide +kernel
abbrev cX8_init : ByteArray := prog_10_method_1_code
def yX8_init : MethodName := ⟨RX8, "<init>", "()V"⟩
abbrev cX8_take : ByteArray := prog_10_method_2_code
def yX8_take : MethodName := ⟨RX8, "take", "(IIIII)I"⟩
abbrev cX8_takeNumber : ByteArray := prog_10_method_3_code
def yX8_takeNumber : MethodName := ⟨RX8, "takeNumber", "(I)V"⟩
abbrev cX8_read : ByteArray := prog_10_method_4_code
def yX8_read : MethodName := ⟨RX8, "read", "(I)I"⟩
abbrev cX8_clause : ByteArray := prog_10_method_5_code
def yX8_clause : MethodName := ⟨RX8, "clause", "(I)V"⟩
abbrev cX8_expression : ByteArray := prog_10_method_6_code
def yX8_expression : MethodName := ⟨RX8, "expression", "(I)V"⟩
abbrev cX8_conjunction : ByteArray := prog_10_method_7_code
def yX8_conjunction : MethodName := ⟨RX8, "conjunction", "(I)V"⟩
abbrev cX8_negation : ByteArray := prog_10_method_8_code
def yX8_negation : MethodName := ⟨RX8, "negation", "(I)V"⟩
abbrev cX8_comparison : ByteArray := prog_10_method_9_code
def yX8_comparison : MethodName := ⟨RX8, "comparison", "(I)V"⟩
abbrev cX8_sum : ByteArray := prog_10_method_10_code
def yX8_sum : MethodName := ⟨RX8, "sum", "(I)V"⟩
abbrev cX8_product : ByteArray := prog_10_method_11_code
def yX8_product : MethodName := ⟨RX8, "product", "(I)V"⟩
abbrev cX8_part : ByteArray := prog_10_method_12_code
def yX8_part : MethodName := ⟨RX8, "part", "(I)V"⟩
abbrev cX8_pass : ByteArray := prog_10_method_13_code
def yX8_pass : MethodName := ⟨RX8, "pass", "(I)V"⟩
abbrev cX8_fail : ByteArray := prog_10_method_14_code
def yX8_fail : MethodName := ⟨RX8, "fail", "(I)V"⟩
abbrev cX8_emit : ByteArray := prog_10_method_15_code
def yX8_emit : MethodName := ⟨RX8, "emit", "(I)V"⟩
abbrev cX8_isSign : ByteArray := prog_10_method_16_code
def yX8_isSign : MethodName := ⟨RX8, "isSign", "(I)Z"⟩
abbrev cX8_isWord : ByteArray := prog_10_method_17_code
def yX8_isWord : MethodName := ⟨RX8, "isWord", "(I)Z"⟩
abbrev cX8_byteAt : ByteArray := prog_10_method_18_code
def yX8_byteAt : MethodName := ⟨RX8, "byteAt", "(I)I"⟩
abbrev cX8_advance : ByteArray := prog_10_method_19_code
def yX8_advance : MethodName := ⟨RX8, "advance", "()V"⟩
abbrev cX8_isLetter : ByteArray := prog_10_method_20_code
def yX8_isLetter : MethodName := ⟨RX8, "isLetter", "(I)Z"⟩
abbrev cX8_isDigit : ByteArray := prog_10_method_21_code
def yX8_isDigit : MethodName := ⟨RX8, "isDigit", "(I)Z"⟩
abbrev cX8_isKnownSign : ByteArray := prog_10_method_22_code
def yX8_isKnownSign : MethodName := ⟨RX8, "isKnownSign", "(I)Z"⟩
abbrev cX8_readNumber : ByteArray := prog_10_method_23_code
def yX8_readNumber : MethodName := ⟨RX8, "readNumber", "()V"⟩
abbrev cX8_readWord : ByteArray := prog_10_method_24_code
def yX8_readWord : MethodName := ⟨RX8, "readWord", "()V"⟩
abbrev cX8_wordCode : ByteArray := prog_10_method_25_code
def yX8_wordCode : MethodName := ⟨RX8, "wordCode", "()I"⟩
abbrev cX8_reads : ByteArray := prog_10_method_26_code
def yX8_reads : MethodName := ⟨RX8, "reads", "(Ljava/lang/String;)Z"⟩
def RX9 : String := "LightsMarket$Sheets"
def TX9 : u_T := fun k => match k with
  | 0 => ("LightsMarket$Sheets", "many", "I", false)
  | 1 => ("LightsMarket$Sheets", "rows", "[[I", true)
  | 2 => ("LightsMarket$Sheets", "sorts", "[I", true)
  | _ => ("LightsMarket$Sheets", "sizes", "[I", true)
def tyX9 : Nat → FieldType := fun k => match k with
  | 0 => .int
  | 1 => .array (.array .int)
  | 2 => .array .int
  | _ => .array .int
abbrev wsX90 : List Cond := u_ws RX9 TX9 4
theorem nmX9 : ∀ a, a < 4 → ∀ b, b < 4 → a ≠ b → (TX9 a).2.1 ≠ (TX9 b).2.1 := by decide +kernel
theorem tyX9_ok : ∀ k, k < 4 → parseFieldDescriptor (TX9 k).2.2.1 = some (tyX9 k) := by decide +kernel
abbrev cX9_init : ByteArray := prog_11_method_1_code
def yX9_init : MethodName := ⟨RX9, "<init>", "()V"⟩
abbrev cX9_has : ByteArray := prog_11_method_2_code
def yX9_has : MethodName := ⟨RX9, "has", "(I)Z"⟩
abbrev cX9_add : ByteArray := prog_11_method_3_code
def yX9_add : MethodName := ⟨RX9, "add", "(II)I"⟩
abbrev cX9_hasPart : ByteArray := prog_11_method_4_code
def yX9_hasPart : MethodName := ⟨RX9, "hasPart", "(III)Z"⟩
abbrev cX9_put : ByteArray := prog_11_method_5_code
def yX9_put : MethodName := ⟨RX9, "put", "(III)I"⟩
abbrev cX9_lay : ByteArray := prog_11_method_6_code
def yX9_lay : MethodName := ⟨RX9, "lay", "(IIIII)I"⟩
abbrev cX9_readDay : ByteArray := prog_11_method_7_code
def yX9_readDay : MethodName := ⟨RX9, "readDay", "(III[I)I"⟩
def RX10 : String := "LightsMarket$Way"
def TX10 : u_T := fun k => match k with
  | 0 => ("LightsMarket$Way", "length", "I", false)
  | 1 => ("LightsMarket$Way", "row", "[I", true)
  | 2 => ("LightsMarket$Way", "land", "LLightsMarket$Land;", true)
  | 3 => ("LightsMarket$Way", "quarter", "I", false)
  | 4 => ("LightsMarket$Way", "found", "I", false)
  | 5 => ("LightsMarket$Way", "queue", "[I", true)
  | _ => ("LightsMarket$Way", "back", "[I", true)
def tyX10 : Nat → FieldType := fun k => match k with
  | 0 => .int
  | 1 => .array .int
  | 2 => .object "LightsMarket$Land"
  | 3 => .int
  | 4 => .int
  | 5 => .array .int
  | _ => .array .int
abbrev wsX100 : List Cond := u_ws RX10 TX10 7
theorem nmX10 : ∀ a, a < 7 → ∀ b, b < 7 → a ≠ b → (TX10 a).2.1 ≠ (TX10 b).2.1 := by decide +kernel
theorem tyX10_ok : ∀ k, k < 7 → parseFieldDescriptor (TX10 k).2.2.1 = some (tyX10 k) := by decide +kernel
abbrev cX10_init : ByteArray := prog_12_method_1_code
def yX10_init : MethodName := ⟨RX10, "<init>", "(LLightsMarket$Land;)V"⟩
abbrev cX10_seek : ByteArray := prog_12_method_2_code
def yX10_seek : MethodName := ⟨RX10, "seek", "(I)I"⟩
abbrev cX10_spread : ByteArray := prog_12_method_3_code
def yX10_spread : MethodName := ⟨RX10, "spread", "(I)V"⟩
abbrev cX10_trace : ByteArray := prog_12_method_4_code
def yX10_trace : MethodName := ⟨RX10, "trace", "(I)I"⟩
abbrev cX10_behind : ByteArray := prog_12_method_5_code
def yX10_behind : MethodName := ⟨RX10, "behind", "(II)I"⟩
abbrev cX10_behindLine : ByteArray := prog_12_method_6_code
def yX10_behindLine : MethodName := ⟨RX10, "behindLine", "(II)I"⟩
abbrev cX10_canComeOn : ByteArray := prog_12_method_7_code
def yX10_canComeOn : MethodName := ⟨RX10, "canComeOn", "(II)Z"⟩
abbrev cX10_reachOfOn : ByteArray := prog_12_method_8_code
def yX10_reachOfOn : MethodName := ⟨RX10, "reachOfOn", "(I)I"⟩
abbrev cX10_servedLoad : ByteArray := prog_12_method_9_code
def yX10_servedLoad : MethodName := ⟨RX10, "servedLoad", "(I)I"⟩
def RX11 : String := "LightsMarket"
def TX11 : u_T := fun k => match k with
  | 0 => ("LightsMarket", "land", "LLightsMarket$Land;", true)
  | 1 => ("LightsMarket", "sheets", "LLightsMarket$Sheets;", true)
  | 2 => ("LightsMarket", "reader", "LLightsMarket$Reader;", true)
  | 3 => ("LightsMarket", "dispatch", "LLightsMarket$Dispatch;", true)
  | 4 => ("LightsMarket", "best", "LLightsMarket$Best;", true)
  | 5 => ("LightsMarket", "planner", "LLightsMarket$Planner;", true)
  | 6 => ("LightsMarket", "contest", "LLightsMarket$Game;", true)
  | 7 => ("LightsMarket", "dark", "LLightsMarket$Night;", true)
  | 8 => ("LightsMarket", "road", "LLightsMarket$Way;", true)
  | 9 => ("LightsMarket", "keptUnits", "[I", true)
  | 10 => ("LightsMarket", "keptMills", "I", false)
  | 11 => ("LightsMarket", "told", "[[I", true)
  | 12 => ("LightsMarket", "meters", "I", false)
  | _ => ("LightsMarket", "tonight", "I", false)
def tyX11 : Nat → FieldType := fun k => match k with
  | 0 => .object "LightsMarket$Land"
  | 1 => .object "LightsMarket$Sheets"
  | 2 => .object "LightsMarket$Reader"
  | 3 => .object "LightsMarket$Dispatch"
  | 4 => .object "LightsMarket$Best"
  | 5 => .object "LightsMarket$Planner"
  | 6 => .object "LightsMarket$Game"
  | 7 => .object "LightsMarket$Night"
  | 8 => .object "LightsMarket$Way"
  | 9 => .array .int
  | 10 => .int
  | 11 => .array (.array .int)
  | 12 => .int
  | _ => .int
abbrev wsX110 : List Cond := u_ws RX11 TX11 14
theorem nmX11 : ∀ a, a < 14 → ∀ b, b < 14 → a ≠ b → (TX11 a).2.1 ≠ (TX11 b).2.1 := by decide +kernel
theorem tyX11_ok : ∀ k, k < 14 → parseFieldDescriptor (TX11 k).2.2.1 = some (tyX11 k) := by decide +kernel
abbrev cX11_init : ByteArray := prog_1_method_1_code
def yX11_init : MethodName := ⟨RX11, "<init>", "()V"⟩
abbrev cX11_within : ByteArray := prog_1_method_2_code
def yX11_within : MethodName := ⟨RX11, "within", "(III)Z"⟩
abbrev cX11_hasPlace : ByteArray := prog_1_method_3_code
def yX11_hasPlace : MethodName := ⟨RX11, "hasPlace", "(I)Z"⟩
abbrev cX11_hasMill : ByteArray := prog_1_method_4_code
def yX11_hasMill : MethodName := ⟨RX11, "hasMill", "(I)Z"⟩
abbrev cX11_hasQuarter : ByteArray := prog_1_method_5_code
def yX11_hasQuarter : MethodName := ⟨RX11, "hasQuarter", "(I)Z"⟩
abbrev cX11_hasHouse : ByteArray := prog_1_method_6_code
def yX11_hasHouse : MethodName := ⟨RX11, "hasHouse", "(I)Z"⟩
abbrev cX11_place : ByteArray := prog_1_method_7_code
def yX11_place : MethodName := ⟨RX11, "place", "()I"⟩
abbrev cX11_line : ByteArray := prog_1_method_8_code
def yX11_line : MethodName := ⟨RX11, "line", "(IIII)I"⟩
abbrev cX11_mill : ByteArray := prog_1_method_9_code
def yX11_mill : MethodName := ⟨RX11, "mill", "(IIIIIIIII)I"⟩
abbrev cX11_sheet : ByteArray := prog_1_method_10_code
def yX11_sheet : MethodName := ⟨RX11, "sheet", "(II)I"⟩
abbrev cX11_write : ByteArray := prog_1_method_11_code
def yX11_write : MethodName := ⟨RX11, "write", "(III)I"⟩
abbrev cX11_copy : ByteArray := prog_1_method_12_code
def yX11_copy : MethodName := ⟨RX11, "copy", "(IIIII)I"⟩
abbrev cX11_day : ByteArray := prog_1_method_13_code
def yX11_day : MethodName := ⟨RX11, "day", "(IIII)I"⟩
abbrev cX11_feed : ByteArray := prog_1_method_14_code
def yX11_feed : MethodName := ⟨RX11, "feed", "(IIIII)I"⟩
abbrev cX11_offer : ByteArray := prog_1_method_15_code
def yX11_offer : MethodName := ⟨RX11, "offer", "(II)I"⟩
abbrev cX11_fault : ByteArray := prog_1_method_16_code
def yX11_fault : MethodName := ⟨RX11, "fault", "()I"⟩
abbrev cX11_asked : ByteArray := prog_1_method_17_code
def yX11_asked : MethodName := ⟨RX11, "asked", "(III)I"⟩
abbrev cX11_rules : ByteArray := prog_1_method_18_code
def yX11_rules : MethodName := ⟨RX11, "rules", "(ZII)Z"⟩
abbrev cX11_flow : ByteArray := prog_1_method_19_code
def yX11_flow : MethodName := ⟨RX11, "flow", "(IIII)I"⟩
abbrev cX11_least : ByteArray := prog_1_method_20_code
def yX11_least : MethodName := ⟨RX11, "least", "(III)I"⟩
abbrev cX11_units : ByteArray := prog_1_method_21_code
def yX11_units : MethodName := ⟨RX11, "units", "(I)I"⟩
abbrev cX11_plan : ByteArray := prog_1_method_22_code
def yX11_plan : MethodName := ⟨RX11, "plan", "(II)I"⟩
abbrev cX11_planned : ByteArray := prog_1_method_23_code
def yX11_planned : MethodName := ⟨RX11, "planned", "(II)I"⟩
abbrev cX11_price : ByteArray := prog_1_method_24_code
def yX11_price : MethodName := ⟨RX11, "price", "(II)I"⟩
abbrev cX11_pays : ByteArray := prog_1_method_25_code
def yX11_pays : MethodName := ⟨RX11, "pays", "(II)I"⟩
abbrev cX11_game : ByteArray := prog_1_method_26_code
def yX11_game : MethodName := ⟨RX11, "game", "(I)I"⟩
abbrev cX11_hides : ByteArray := prog_1_method_27_code
def yX11_hides : MethodName := ⟨RX11, "hides", "(II)I"⟩
abbrev cX11_alone : ByteArray := prog_1_method_28_code
def yX11_alone : MethodName := ⟨RX11, "alone", "(II)Z"⟩
abbrev cX11_night : ByteArray := prog_1_method_29_code
def yX11_night : MethodName := ⟨RX11, "night", "(IIII)Z"⟩
abbrev cX11_falls : ByteArray := prog_1_method_30_code
def yX11_falls : MethodName := ⟨RX11, "falls", "(II)Z"⟩
abbrev cX11_minutes : ByteArray := prog_1_method_31_code
def yX11_minutes : MethodName := ⟨RX11, "minutes", "(I)I"⟩
abbrev cX11_ofNight : ByteArray := prog_1_method_32_code
def yX11_ofNight : MethodName := ⟨RX11, "ofNight", "(I)I"⟩
abbrev cX11_starts : ByteArray := prog_1_method_33_code
def yX11_starts : MethodName := ⟨RX11, "starts", "(IZI)Z"⟩
abbrev cX11_way : ByteArray := prog_1_method_34_code
def yX11_way : MethodName := ⟨RX11, "way", "(I)I"⟩
abbrev cX11_act : ByteArray := prog_1_method_35_code
def yX11_act : MethodName := ⟨RX11, "act", "(I)I"⟩
abbrev cX11_evenings : ByteArray := prog_1_method_36_code
def yX11_evenings : MethodName := ⟨RX11, "evenings", "(I)I"⟩
abbrev cX11_meter : ByteArray := prog_1_method_37_code
def yX11_meter : MethodName := ⟨RX11, "meter", "(III)I"⟩
abbrev cX11_bill : ByteArray := prog_1_method_38_code
def yX11_bill : MethodName := ⟨RX11, "bill", "(II)I"⟩
abbrev cX11_unitsKnown : ByteArray := prog_1_method_39_code
def yX11_unitsKnown : MethodName := ⟨RX11, "unitsKnown", "(III)I"⟩
abbrev cX11_count : ByteArray := prog_1_method_40_code
def yX11_count : MethodName := ⟨RX11, "count", "(I)I"⟩
def RX12 : String := "LightsMarketModel"
def TX12 : u_T := fun k => match k with
  | 0 => ("LightsMarketModel", "values", "[Ljava/lang/String;", true)
  | 1 => ("LightsMarketModel", "code", "I", false)
  | 2 => ("LightsMarketModel", "places", "I", false)
  | 3 => ("LightsMarketModel", "lines", "I", false)
  | 4 => ("LightsMarketModel", "mills", "I", false)
  | 5 => ("LightsMarketModel", "sheets", "I", false)
  | 6 => ("LightsMarketModel", "lineA", "[I", true)
  | 7 => ("LightsMarketModel", "lineB", "[I", true)
  | 8 => ("LightsMarketModel", "stiffness", "[I", true)
  | 9 => ("LightsMarketModel", "lineMost", "[I", true)
  | 10 => ("LightsMarketModel", "millPlace", "[I", true)
  | 11 => ("LightsMarketModel", "millKind", "[I", true)
  | 12 => ("LightsMarketModel", "millHouse", "[I", true)
  | 13 => ("LightsMarketModel", "millMost", "[I", true)
  | 14 => ("LightsMarketModel", "millCost", "[I", true)
  | 15 => ("LightsMarketModel", "millX", "[I", true)
  | 16 => ("LightsMarketModel", "millY", "[I", true)
  | 17 => ("LightsMarketModel", "millZ", "[I", true)
  | 18 => ("LightsMarketModel", "millR", "[I", true)
  | 19 => ("LightsMarketModel", "load", "[I", true)
  | 20 => ("LightsMarketModel", "comes", "[I", true)
  | 21 => ("LightsMarketModel", "sheetSort", "[I", true)
  | 22 => ("LightsMarketModel", "sheetSize", "[I", true)
  | 23 => ("LightsMarketModel", "cells", "[I", true)
  | 24 => ("LightsMarketModel", "part", "[I", true)
  | 25 => ("LightsMarketModel", "tape", "[I", true)
  | 26 => ("LightsMarketModel", "taped", "I", false)
  | 27 => ("LightsMarketModel", "at", "I", false)
  | 28 => ("LightsMarketModel", "size", "I", false)
  | 29 => ("LightsMarketModel", "token", "I", false)
  | 30 => ("LightsMarketModel", "sign", "I", false)
  | 31 => ("LightsMarketModel", "number", "I", false)
  | 32 => ("LightsMarketModel", "begins", "I", false)
  | 33 => ("LightsMarketModel", "ends", "I", false)
  | 34 => ("LightsMarketModel", "bad", "I", false)
  | 35 => ("LightsMarketModel", "badPlace", "I", false)
  | 36 => ("LightsMarketModel", "faultPlace", "I", false)
  | 37 => ("LightsMarketModel", "codes", "I", false)
  | 38 => ("LightsMarketModel", "clauses", "[I", true)
  | 39 => ("LightsMarketModel", "clauseIs", "[I", true)
  | 40 => ("LightsMarketModel", "codeFrom", "[I", true)
  | 41 => ("LightsMarketModel", "codeTo", "[I", true)
  | 42 => ("LightsMarketModel", "codeRow", "[I", true)
  | 43 => ("LightsMarketModel", "value", "[I", true)
  | 44 => ("LightsMarketModel", "stack", "[I", true)
  | 45 => ("LightsMarketModel", "hasOffer", "[Z", true)
  | 46 => ("LightsMarketModel", "areFalls", "Z", false)
  | 47 => ("LightsMarketModel", "slack", "I", false)
  | 48 => ("LightsMarketModel", "wholes", "I", false)
  | 49 => ("LightsMarketModel", "det", "[J", true)
  | 50 => ("LightsMarketModel", "push", "[J", true)
  | 51 => ("LightsMarketModel", "matrix", "[J", true)
  | 52 => ("LightsMarketModel", "low", "[I", true)
  | 53 => ("LightsMarketModel", "high", "[I", true)
  | 54 => ("LightsMarketModel", "cost", "[I", true)
  | 55 => ("LightsMarketModel", "made", "[I", true)
  | 56 => ("LightsMarketModel", "best", "[I", true)
  | 57 => ("LightsMarketModel", "hidden", "[I", true)
  | 58 => ("LightsMarketModel", "over", "[I", true)
  | 59 => ("LightsMarketModel", "bestCost", "I", false)
  | 60 => ("LightsMarketModel", "allLoads", "I", false)
  | 61 => ("LightsMarketModel", "without", "I", false)
  | 62 => ("LightsMarketModel", "hasLeast", "Z", false)
  | 63 => ("LightsMarketModel", "keptMills", "I", false)
  | 64 => ("LightsMarketModel", "keptUnits", "[I", true)
  | 65 => ("LightsMarketModel", "table", "[I", true)
  | 66 => ("LightsMarketModel", "ahead", "[I", true)
  | 67 => ("LightsMarketModel", "chosenOn", "[I", true)
  | 68 => ("LightsMarketModel", "chosenW", "[I", true)
  | 69 => ("LightsMarketModel", "planned", "I", false)
  | 70 => ("LightsMarketModel", "planWholes", "I", false)
  | 71 => ("LightsMarketModel", "planMills", "I", false)
  | 72 => ("LightsMarketModel", "planPlaces", "I", false)
  | 73 => ("LightsMarketModel", "isMet", "[Z", true)
  | 74 => ("LightsMarketModel", "planOn", "[I", true)
  | 75 => ("LightsMarketModel", "planLeast", "[I", true)
  | 76 => ("LightsMarketModel", "planUnits", "[I", true)
  | 77 => ("LightsMarketModel", "planPrice", "[I", true)
  | 78 => ("LightsMarketModel", "planLoad", "[I", true)
  | 79 => ("LightsMarketModel", "planCoin", "[I", true)
  | 80 => ("LightsMarketModel", "gain", "[I", true)
  | 81 => ("LightsMarketModel", "plays", "[I", true)
  | 82 => ("LightsMarketModel", "hides", "[I", true)
  | 83 => ("LightsMarketModel", "hasGame", "Z", false)
  | 84 => ("LightsMarketModel", "chosen", "[I", true)
  | 85 => ("LightsMarketModel", "gainThen", "[I", true)
  | 86 => ("LightsMarketModel", "gainAtFirst", "[I", true)
  | 87 => ("LightsMarketModel", "isNight", "Z", false)
  | 88 => ("LightsMarketModel", "isDark", "Z", false)
  | 89 => ("LightsMarketModel", "nightQuarter", "I", false)
  | 90 => ("LightsMarketModel", "ramp", "I", false)
  | 91 => ("LightsMarketModel", "minute", "I", false)
  | 92 => ("LightsMarketModel", "speed", "I", false)
  | 93 => ("LightsMarketModel", "cut", "I", false)
  | 94 => ("LightsMarketModel", "cuts", "I", false)
  | 95 => ("LightsMarketModel", "makes", "[I", true)
  | 96 => ("LightsMarketModel", "fallsAt", "[I", true)
  | 97 => ("LightsMarketModel", "order", "[I", true)
  | 98 => ("LightsMarketModel", "nightLoad", "[I", true)
  | 99 => ("LightsMarketModel", "nightMost", "[I", true)
  | 100 => ("LightsMarketModel", "nightPlaces", "I", false)
  | 101 => ("LightsMarketModel", "nightMills", "I", false)
  | 102 => ("LightsMarketModel", "startsAlone", "[Z", true)
  | 103 => ("LightsMarketModel", "needs", "[I", true)
  | 104 => ("LightsMarketModel", "far", "[I", true)
  | 105 => ("LightsMarketModel", "row", "[I", true)
  | 106 => ("LightsMarketModel", "rowMany", "I", false)
  | 107 => ("LightsMarketModel", "tonight", "I", false)
  | 108 => ("LightsMarketModel", "meters", "I", false)
  | 109 => ("LightsMarketModel", "meterPlace", "[I", true)
  | 110 => ("LightsMarketModel", "meterQuarter", "[I", true)
  | 111 => ("LightsMarketModel", "meterUnits", "[I", true)
  | _ => ("LightsMarketModel", "meterTold", "[I", true)
def tyX12 : Nat → FieldType := fun k => match k with
  | 0 => .array (.object "java/lang/String")
  | 1 => .int
  | 2 => .int
  | 3 => .int
  | 4 => .int
  | 5 => .int
  | 6 => .array .int
  | 7 => .array .int
  | 8 => .array .int
  | 9 => .array .int
  | 10 => .array .int
  | 11 => .array .int
  | 12 => .array .int
  | 13 => .array .int
  | 14 => .array .int
  | 15 => .array .int
  | 16 => .array .int
  | 17 => .array .int
  | 18 => .array .int
  | 19 => .array .int
  | 20 => .array .int
  | 21 => .array .int
  | 22 => .array .int
  | 23 => .array .int
  | 24 => .array .int
  | 25 => .array .int
  | 26 => .int
  | 27 => .int
  | 28 => .int
  | 29 => .int
  | 30 => .int
  | 31 => .int
  | 32 => .int
  | 33 => .int
  | 34 => .int
  | 35 => .int
  | 36 => .int
  | 37 => .int
  | 38 => .array .int
  | 39 => .array .int
  | 40 => .array .int
  | 41 => .array .int
  | 42 => .array .int
  | 43 => .array .int
  | 44 => .array .int
  | 45 => .array .boolean
  | 46 => .boolean
  | 47 => .int
  | 48 => .int
  | 49 => .array .long
  | 50 => .array .long
  | 51 => .array .long
  | 52 => .array .int
  | 53 => .array .int
  | 54 => .array .int
  | 55 => .array .int
  | 56 => .array .int
  | 57 => .array .int
  | 58 => .array .int
  | 59 => .int
  | 60 => .int
  | 61 => .int
  | 62 => .boolean
  | 63 => .int
  | 64 => .array .int
  | 65 => .array .int
  | 66 => .array .int
  | 67 => .array .int
  | 68 => .array .int
  | 69 => .int
  | 70 => .int
  | 71 => .int
  | 72 => .int
  | 73 => .array .boolean
  | 74 => .array .int
  | 75 => .array .int
  | 76 => .array .int
  | 77 => .array .int
  | 78 => .array .int
  | 79 => .array .int
  | 80 => .array .int
  | 81 => .array .int
  | 82 => .array .int
  | 83 => .boolean
  | 84 => .array .int
  | 85 => .array .int
  | 86 => .array .int
  | 87 => .boolean
  | 88 => .boolean
  | 89 => .int
  | 90 => .int
  | 91 => .int
  | 92 => .int
  | 93 => .int
  | 94 => .int
  | 95 => .array .int
  | 96 => .array .int
  | 97 => .array .int
  | 98 => .array .int
  | 99 => .array .int
  | 100 => .int
  | 101 => .int
  | 102 => .array .boolean
  | 103 => .array .int
  | 104 => .array .int
  | 105 => .array .int
  | 106 => .int
  | 107 => .int
  | 108 => .int
  | 109 => .array .int
  | 110 => .array .int
  | 111 => .array .int
  | _ => .array .int
abbrev wsX120 : List Cond := u_ws RX12 TX12 113
theorem nmX12 : ∀ a, a < 113 → ∀ b, b < 113 → a ≠ b → (TX12 a).2.1 ≠ (TX12 b).2.1 := by decide +kernel
theorem tyX12_ok : ∀ k, k < 113 → parseFieldDescriptor (TX12 k).2.2.1 = some (tyX12 k) := by decide +kernel
abbrev cX12_init : ByteArray := prog_14_method_1_code
def yX12_init : MethodName := ⟨RX12, "<init>", "()V"⟩
abbrev cX12_thrown : ByteArray := prog_14_method_2_code
def yX12_thrown : MethodName := ⟨RX12, "thrown", "()I"⟩
abbrev cX12_fail : ByteArray := prog_14_method_3_code
def yX12_fail : MethodName := ⟨RX12, "fail", "(I)I"⟩
abbrev cX12_refuse : ByteArray := prog_14_method_4_code
def yX12_refuse : MethodName := ⟨RX12, "refuse", "(I)Z"⟩
abbrev cX12_isIn : ByteArray := prog_14_method_5_code
def yX12_isIn : MethodName := ⟨RX12, "isIn", "(III)Z"⟩
abbrev cX12_isPlace : ByteArray := prog_14_method_6_code
def yX12_isPlace : MethodName := ⟨RX12, "isPlace", "(I)Z"⟩
abbrev cX12_isMill : ByteArray := prog_14_method_7_code
def yX12_isMill : MethodName := ⟨RX12, "isMill", "(I)Z"⟩
abbrev cX12_isQuarter : ByteArray := prog_14_method_8_code
def yX12_isQuarter : MethodName := ⟨RX12, "isQuarter", "(I)Z"⟩
abbrev cX12_place : ByteArray := prog_14_method_9_code
def yX12_place : MethodName := ⟨RX12, "place", "()I"⟩
abbrev cX12_line : ByteArray := prog_14_method_10_code
def yX12_line : MethodName := ⟨RX12, "line", "(IIII)I"⟩
abbrev cX12_isTold : ByteArray := prog_14_method_11_code
def yX12_isTold : MethodName := ⟨RX12, "isTold", "(IIIIII)Z"⟩
abbrev cX12_mill : ByteArray := prog_14_method_12_code
def yX12_mill : MethodName := ⟨RX12, "mill", "(IIIIIIIII)I"⟩
abbrev cX12_isSheet : ByteArray := prog_14_method_13_code
def yX12_isSheet : MethodName := ⟨RX12, "isSheet", "(I)Z"⟩
abbrev cX12_sheet : ByteArray := prog_14_method_14_code
def yX12_sheet : MethodName := ⟨RX12, "sheet", "(II)I"⟩
abbrev cX12_write : ByteArray := prog_14_method_15_code
def yX12_write : MethodName := ⟨RX12, "write", "(III)I"⟩
abbrev cX12_hasPart : ByteArray := prog_14_method_16_code
def yX12_hasPart : MethodName := ⟨RX12, "hasPart", "(III)Z"⟩
abbrev cX12_copy : ByteArray := prog_14_method_17_code
def yX12_copy : MethodName := ⟨RX12, "copy", "(IIIII)I"⟩
abbrev cX12_day : ByteArray := prog_14_method_18_code
def yX12_day : MethodName := ⟨RX12, "day", "(IIII)I"⟩
abbrev cX12_feed : ByteArray := prog_14_method_19_code
def yX12_feed : MethodName := ⟨RX12, "feed", "(IIIII)I"⟩
abbrev cX12_byteAt : ByteArray := prog_14_method_20_code
def yX12_byteAt : MethodName := ⟨RX12, "byteAt", "(I)I"⟩
abbrev cX12_isLetter : ByteArray := prog_14_method_21_code
def yX12_isLetter : MethodName := ⟨RX12, "isLetter", "(I)Z"⟩
abbrev cX12_isDigit : ByteArray := prog_14_method_22_code
def yX12_isDigit : MethodName := ⟨RX12, "isDigit", "(I)Z"⟩
abbrev cX12_step : ByteArray := prog_14_method_23_code
def yX12_step : MethodName := ⟨RX12, "step", "()V"⟩
abbrev cX12_wrong : ByteArray := prog_14_method_24_code
def yX12_wrong : MethodName := ⟨RX12, "wrong", "(I)V"⟩
abbrev cX12_isSign : ByteArray := prog_14_method_25_code
def yX12_isSign : MethodName := ⟨RX12, "isSign", "(I)Z"⟩
abbrev cX12_is : ByteArray := prog_14_method_26_code
def yX12_is : MethodName := ⟨RX12, "is", "(Ljava/lang/String;)Z"⟩
abbrev cX12_need : ByteArray := prog_14_method_27_code
def yX12_need : MethodName := ⟨RX12, "need", "(I)V"⟩
abbrev cX12_readNumber : ByteArray := prog_14_method_28_code
def yX12_readNumber : MethodName := ⟨RX12, "readNumber", "()I"⟩
abbrev cX12_emit : ByteArray := prog_14_method_29_code
def yX12_emit : MethodName := ⟨RX12, "emit", "(I)V"⟩
abbrev cX12_valueNow : ByteArray := prog_14_method_30_code
def yX12_valueNow : MethodName := ⟨RX12, "valueNow", "()I"⟩
abbrev cX12_readPart : ByteArray := prog_14_method_31_code
def yX12_readPart : MethodName := ⟨RX12, "readPart", "(I)V"⟩
abbrev cX12_readProduct : ByteArray := prog_14_method_32_code
def yX12_readProduct : MethodName := ⟨RX12, "readProduct", "(I)V"⟩
abbrev cX12_readSum : ByteArray := prog_14_method_33_code
def yX12_readSum : MethodName := ⟨RX12, "readSum", "(I)V"⟩
abbrev cX12_readNot : ByteArray := prog_14_method_34_code
def yX12_readNot : MethodName := ⟨RX12, "readNot", "(I)V"⟩
abbrev cX12_readAnd : ByteArray := prog_14_method_35_code
def yX12_readAnd : MethodName := ⟨RX12, "readAnd", "(I)V"⟩
abbrev cX12_readExpression : ByteArray := prog_14_method_36_code
def yX12_readExpression : MethodName := ⟨RX12, "readExpression", "(I)V"⟩
abbrev cX12_readClause : ByteArray := prog_14_method_37_code
def yX12_readClause : MethodName := ⟨RX12, "readClause", "()V"⟩
abbrev cX12_offer : ByteArray := prog_14_method_38_code
def yX12_offer : MethodName := ⟨RX12, "offer", "(II)I"⟩
abbrev cX12_fault : ByteArray := prog_14_method_39_code
def yX12_fault : MethodName := ⟨RX12, "fault", "()I"⟩
abbrev cX12_two : ByteArray := prog_14_method_40_code
def yX12_two : MethodName := ⟨RX12, "two", "(III)I"⟩
abbrev cX12_worked : ByteArray := prog_14_method_41_code
def yX12_worked : MethodName := ⟨RX12, "worked", "(II)I"⟩
abbrev cX12_askedOf : ByteArray := prog_14_method_42_code
def yX12_askedOf : MethodName := ⟨RX12, "askedOf", "(IIII)I"⟩
abbrev cX12_loadsOf : ByteArray := prog_14_method_43_code
def yX12_loadsOf : MethodName := ⟨RX12, "loadsOf", "(I)I"⟩
abbrev cX12_asked : ByteArray := prog_14_method_44_code
def yX12_asked : MethodName := ⟨RX12, "asked", "(III)I"⟩
abbrev cX12_rules : ByteArray := prog_14_method_45_code
def yX12_rules : MethodName := ⟨RX12, "rules", "(ZII)Z"⟩
abbrev cX12_determinant : ByteArray := prog_14_method_46_code
def yX12_determinant : MethodName := ⟨RX12, "determinant", "(II)J"⟩
abbrev cX12_height : ByteArray := prog_14_method_47_code
def yX12_height : MethodName := ⟨RX12, "height", "(II)J"⟩
abbrev cX12_tellNet : ByteArray := prog_14_method_48_code
def yX12_tellNet : MethodName := ⟨RX12, "tellNet", "(I)V"⟩
abbrev cX12_tellNets : ByteArray := prog_14_method_49_code
def yX12_tellNets : MethodName := ⟨RX12, "tellNets", "()V"⟩
abbrev cX12_flow : ByteArray := prog_14_method_50_code
def yX12_flow : MethodName := ⟨RX12, "flow", "(IIII)I"⟩
abbrev cX12_fits : ByteArray := prog_14_method_51_code
def yX12_fits : MethodName := ⟨RX12, "fits", "()Z"⟩
abbrev cX12_go : ByteArray := prog_14_method_52_code
def yX12_go : MethodName := ⟨RX12, "go", "(III)V"⟩
abbrev cX12_mostOf : ByteArray := prog_14_method_53_code
def yX12_mostOf : MethodName := ⟨RX12, "mostOf", "(I)I"⟩
abbrev cX12_tellMill : ByteArray := prog_14_method_54_code
def yX12_tellMill : MethodName := ⟨RX12, "tellMill", "(IIII)V"⟩
abbrev cX12_leastOf : ByteArray := prog_14_method_55_code
def yX12_leastOf : MethodName := ⟨RX12, "leastOf", "(IIII)I"⟩
abbrev cX12_waterMost : ByteArray := prog_14_method_56_code
def yX12_waterMost : MethodName := ⟨RX12, "waterMost", "()I"⟩
abbrev cX12_least : ByteArray := prog_14_method_57_code
def yX12_least : MethodName := ⟨RX12, "least", "(III)I"⟩
abbrev cX12_units : ByteArray := prog_14_method_58_code
def yX12_units : MethodName := ⟨RX12, "units", "(I)I"⟩
abbrev cX12_startable : ByteArray := prog_14_method_59_code
def yX12_startable : MethodName := ⟨RX12, "startable", "()I"⟩
abbrev cX12_coinOf : ByteArray := prog_14_method_60_code
def yX12_coinOf : MethodName := ⟨RX12, "coinOf", "(IIII)I"⟩
abbrev cX12_streamed : ByteArray := prog_14_method_61_code
def yX12_streamed : MethodName := ⟨RX12, "streamed", "(II)I"⟩
abbrev cX12_tellBest : ByteArray := prog_14_method_62_code
def yX12_tellBest : MethodName := ⟨RX12, "tellBest", "(IIII)V"⟩
abbrev cX12_plan : ByteArray := prog_14_method_63_code
def yX12_plan : MethodName := ⟨RX12, "plan", "(II)I"⟩
abbrev cX12_keepQuarter : ByteArray := prog_14_method_64_code
def yX12_keepQuarter : MethodName := ⟨RX12, "keepQuarter", "(IIII)V"⟩
abbrev cX12_priceOf : ByteArray := prog_14_method_65_code
def yX12_priceOf : MethodName := ⟨RX12, "priceOf", "(II)I"⟩
abbrev cX12_planned : ByteArray := prog_14_method_66_code
def yX12_planned : MethodName := ⟨RX12, "planned", "(II)I"⟩
abbrev cX12_price : ByteArray := prog_14_method_67_code
def yX12_price : MethodName := ⟨RX12, "price", "(II)I"⟩
abbrev cX12_payOf : ByteArray := prog_14_method_68_code
def yX12_payOf : MethodName := ⟨RX12, "payOf", "(I)I"⟩
abbrev cX12_earned : ByteArray := prog_14_method_69_code
def yX12_earned : MethodName := ⟨RX12, "earned", "()I"⟩
abbrev cX12_pays : ByteArray := prog_14_method_70_code
def yX12_pays : MethodName := ⟨RX12, "pays", "(II)I"⟩
abbrev cX12_unitOf : ByteArray := prog_14_method_71_code
def yX12_unitOf : MethodName := ⟨RX12, "unitOf", "(I)I"⟩
abbrev cX12_tellGains : ByteArray := prog_14_method_72_code
def yX12_tellGains : MethodName := ⟨RX12, "tellGains", "(II)V"⟩
abbrev cX12_round : ByteArray := prog_14_method_73_code
def yX12_round : MethodName := ⟨RX12, "round", "(I)I"⟩
abbrev cX12_game : ByteArray := prog_14_method_74_code
def yX12_game : MethodName := ⟨RX12, "game", "(I)I"⟩
abbrev cX12_hides : ByteArray := prog_14_method_75_code
def yX12_hides : MethodName := ⟨RX12, "hides", "(II)I"⟩
abbrev cX12_alone : ByteArray := prog_14_method_76_code
def yX12_alone : MethodName := ⟨RX12, "alone", "(II)Z"⟩
abbrev cX12_night : ByteArray := prog_14_method_77_code
def yX12_night : MethodName := ⟨RX12, "night", "(IIII)Z"⟩
abbrev cX12_falls : ByteArray := prog_14_method_78_code
def yX12_falls : MethodName := ⟨RX12, "falls", "(II)Z"⟩
abbrev cX12_madeNow : ByteArray := prog_14_method_79_code
def yX12_madeNow : MethodName := ⟨RX12, "madeNow", "()I"⟩
abbrev cX12_passMinute : ByteArray := prog_14_method_80_code
def yX12_passMinute : MethodName := ⟨RX12, "passMinute", "()V"⟩
abbrev cX12_minutes : ByteArray := prog_14_method_81_code
def yX12_minutes : MethodName := ⟨RX12, "minutes", "(I)I"⟩
abbrev cX12_ofNight : ByteArray := prog_14_method_82_code
def yX12_ofNight : MethodName := ⟨RX12, "ofNight", "(I)I"⟩
abbrev cX12_starts : ByteArray := prog_14_method_83_code
def yX12_starts : MethodName := ⟨RX12, "starts", "(IZI)Z"⟩
abbrev cX12_couldMake : ByteArray := prog_14_method_84_code
def yX12_couldMake : MethodName := ⟨RX12, "couldMake", "(II)I"⟩
abbrev cX12_servedLoads : ByteArray := prog_14_method_85_code
def yX12_servedLoads : MethodName := ⟨RX12, "servedLoads", "(II)I"⟩
abbrev cX12_behind : ByteArray := prog_14_method_86_code
def yX12_behind : MethodName := ⟨RX12, "behind", "(III)I"⟩
abbrev cX12_way : ByteArray := prog_14_method_87_code
def yX12_way : MethodName := ⟨RX12, "way", "(I)I"⟩
abbrev cX12_act : ByteArray := prog_14_method_88_code
def yX12_act : MethodName := ⟨RX12, "act", "(I)I"⟩
abbrev cX12_evenings : ByteArray := prog_14_method_89_code
def yX12_evenings : MethodName := ⟨RX12, "evenings", "(I)I"⟩
abbrev cX12_meter : ByteArray := prog_14_method_90_code
def yX12_meter : MethodName := ⟨RX12, "meter", "(III)I"⟩
abbrev cX12_bill : ByteArray := prog_14_method_91_code
def yX12_bill : MethodName := ⟨RX12, "bill", "(II)I"⟩
abbrev cX12_count : ByteArray := prog_14_method_92_code
def yX12_count : MethodName := ⟨RX12, "count", "(I)I"⟩
def RJx145de : String := "java/io/Serializable"
def TJx145de : u_T := fun k => match k with
  | _ => ("", "", "", false)
def tyJx145de : Nat → FieldType := fun k => match k with
  | _ => .int
abbrev wsJx145de0 : List Cond := u_ws RJx145de TJx145de 0
theorem nmJx145de : ∀ a, a < 0 → ∀ b, b < 0 → a ≠ b → (TJx145de a).2.1 ≠ (TJx145de b).2.1 := by decide +kernel
theorem tyJx145de_ok : ∀ k, k < 0 → parseFieldDescriptor (TJx145de k).2.2.1 = some (tyJx145de k) := by decide +kernel
def RJx9f9b0 : String := "java/lang/CharSequence"
def TJx9f9b0 : u_T := fun k => match k with
  | _ => ("", "", "", false)
def tyJx9f9b0 : Nat → FieldType := fun k => match k with
  | _ => .int
abbrev wsJx9f9b00 : List Cond := u_ws RJx9f9b0 TJx9f9b0 0
theorem nmJx9f9b0 : ∀ a, a < 0 → ∀ b, b < 0 → a ≠ b → (TJx9f9b0 a).2.1 ≠ (TJx9f9b0 b).2.1 := by decide +kernel
theorem tyJx9f9b0_ok : ∀ k, k < 0 → parseFieldDescriptor (TJx9f9b0 k).2.2.1 = some (tyJx9f9b0 k) := by decide +kernel
def RJxb160c : String := "java/lang/Comparable"
def TJxb160c : u_T := fun k => match k with
  | _ => ("", "", "", false)
def tyJxb160c : Nat → FieldType := fun k => match k with
  | _ => .int
abbrev wsJxb160c0 : List Cond := u_ws RJxb160c TJxb160c 0
theorem nmJxb160c : ∀ a, a < 0 → ∀ b, b < 0 → a ≠ b → (TJxb160c a).2.1 ≠ (TJxb160c b).2.1 := by decide +kernel
theorem tyJxb160c_ok : ∀ k, k < 0 → parseFieldDescriptor (TJxb160c k).2.2.1 = some (tyJxb160c k) := by decide +kernel
def RJ9 : String := "java/lang/Math"
def TJ9 : u_T := fun k => match k with
  | _ => ("", "", "", false)
def tyJ9 : Nat → FieldType := fun k => match k with
  | _ => .int
abbrev wsJ90 : List Cond := u_ws RJ9 TJ9 0
theorem nmJ9 : ∀ a, a < 0 → ∀ b, b < 0 → a ≠ b → (TJ9 a).2.1 ≠ (TJ9 b).2.1 := by decide +kernel
theorem tyJ9_ok : ∀ k, k < 0 → parseFieldDescriptor (TJ9 k).2.2.1 = some (tyJ9 k) := by decide +kernel
abbrev cJ9_abs_0f7a4 : ByteArray := prog_20_method_59_code
def yJ9_abs_0f7a4 : MethodName := ⟨RJ9, "abs", "(I)I"⟩
abbrev cJ9_abs_067f4 : ByteArray := prog_20_method_61_code
def yJ9_abs_067f4 : MethodName := ⟨RJ9, "abs", "(J)J"⟩
abbrev cJ9_max_7cf53 : ByteArray := prog_20_method_65_code
def yJ9_max_7cf53 : MethodName := ⟨RJ9, "max", "(II)I"⟩
abbrev cJ9_min_7cf53 : ByteArray := prog_20_method_69_code
def yJ9_min_7cf53 : MethodName := ⟨RJ9, "min", "(II)I"⟩
def RJ0 : String := "java/lang/String"
def TJ0 : u_T := fun k => match k with
  | _ => ("", "", "", false)
def tyJ0 : Nat → FieldType := fun k => match k with
  | _ => .int
abbrev wsJ00 : List Cond := u_ws RJ0 TJ0 0
theorem nmJ0 : ∀ a, a < 0 → ∀ b, b < 0 → a ≠ b → (TJ0 a).2.1 ≠ (TJ0 b).2.1 := by decide +kernel
theorem tyJ0_ok : ∀ k, k < 0 → parseFieldDescriptor (TJ0 k).2.2.1 = some (tyJ0 k) := by decide +kernel
abbrev cJ0_length_8abf5 : ByteArray := prog_22_method_54_code
def yJ0_length_8abf5 : MethodName := ⟨RJ0, "length", "()I"⟩
abbrev cJ0_charAt_5068e : ByteArray := prog_22_method_56_code
def yJ0_charAt_5068e : MethodName := ⟨RJ0, "charAt", "(I)C"⟩
abbrev cJ0_coder_7d493 : ByteArray := prog_22_method_152_code
def yJ0_coder_7d493 : MethodName := ⟨RJ0, "coder", "()B"⟩
abbrev cJ0_isLatin1_aae02 : ByteArray := prog_22_method_154_code
def yJ0_isLatin1_aae02 : MethodName := ⟨RJ0, "isLatin1", "()Z"⟩
abbrev cJ0_checkIndex_df160 : ByteArray := prog_22_method_155_code
def yJ0_checkIndex_df160 : MethodName := ⟨RJ0, "checkIndex", "(II)V"⟩
def RJ1 : String := "java/lang/StringLatin1"
def TJ1 : u_T := fun k => match k with
  | _ => ("", "", "", false)
def tyJ1 : Nat → FieldType := fun k => match k with
  | _ => .int
abbrev wsJ10 : List Cond := u_ws RJ1 TJ1 0
theorem nmJ1 : ∀ a, a < 0 → ∀ b, b < 0 → a ≠ b → (TJ1 a).2.1 ≠ (TJ1 b).2.1 := by decide +kernel
theorem tyJ1_ok : ∀ k, k < 0 → parseFieldDescriptor (TJ1 k).2.2.1 = some (tyJ1 k) := by decide +kernel
abbrev cJ1_charAt_3b067 : ByteArray := prog_23_method_2_code
def yJ1_charAt_3b067 : MethodName := ⟨RJ1, "charAt", "([BI)C"⟩
def RJ2 : String := "java/lang/StringUTF16"
def TJ2 : u_T := fun k => match k with
  | _ => ("", "", "", false)
def tyJ2 : Nat → FieldType := fun k => match k with
  | _ => .int
abbrev wsJ20 : List Cond := u_ws RJ2 TJ2 0
theorem nmJ2 : ∀ a, a < 0 → ∀ b, b < 0 → a ≠ b → (TJ2 a).2.1 ≠ (TJ2 b).2.1 := by decide +kernel
theorem tyJ2_ok : ∀ k, k < 0 → parseFieldDescriptor (TJ2 k).2.2.1 = some (tyJ2 k) := by decide +kernel
abbrev cJ2_getChar_3b067 : ByteArray := prog_24_method_5_code
def yJ2_getChar_3b067 : MethodName := ⟨RJ2, "getChar", "([BI)C"⟩
abbrev cJ2_length_9d52b : ByteArray := prog_24_method_6_code
def yJ2_length_9d52b : MethodName := ⟨RJ2, "length", "([B)I"⟩
abbrev cJ2_charAt_3b067 : ByteArray := prog_24_method_83_code
def yJ2_charAt_3b067 : MethodName := ⟨RJ2, "charAt", "([BI)C"⟩
abbrev cJ2_checkIndex_2214a : ByteArray := prog_24_method_91_code
def yJ2_checkIndex_2214a : MethodName := ⟨RJ2, "checkIndex", "(I[B)V"⟩
def RJ10 : String := "java/lang/System"
def TJ10 : u_T := fun k => match k with
  | _ => ("", "", "", false)
def tyJ10 : Nat → FieldType := fun k => match k with
  | _ => .int
abbrev wsJ100 : List Cond := u_ws RJ10 TJ10 0
theorem nmJ10 : ∀ a, a < 0 → ∀ b, b < 0 → a ≠ b → (TJ10 a).2.1 ≠ (TJ10 b).2.1 := by decide +kernel
theorem tyJ10_ok : ∀ k, k < 0 → parseFieldDescriptor (TJ10 k).2.2.1 = some (tyJ10 k) := by decide +kernel
def RJxfd54e : String := "java/lang/constant/Constable"
def TJxfd54e : u_T := fun k => match k with
  | _ => ("", "", "", false)
def tyJxfd54e : Nat → FieldType := fun k => match k with
  | _ => .int
abbrev wsJxfd54e0 : List Cond := u_ws RJxfd54e TJxfd54e 0
theorem nmJxfd54e : ∀ a, a < 0 → ∀ b, b < 0 → a ≠ b → (TJxfd54e a).2.1 ≠ (TJxfd54e b).2.1 := by decide +kernel
theorem tyJxfd54e_ok : ∀ k, k < 0 → parseFieldDescriptor (TJxfd54e k).2.2.1 = some (tyJxfd54e k) := by decide +kernel
def RJx3cf43 : String := "java/lang/constant/ConstantDesc"
def TJx3cf43 : u_T := fun k => match k with
  | _ => ("", "", "", false)
def tyJx3cf43 : Nat → FieldType := fun k => match k with
  | _ => .int
abbrev wsJx3cf430 : List Cond := u_ws RJx3cf43 TJx3cf43 0
theorem nmJx3cf43 : ∀ a, a < 0 → ∀ b, b < 0 → a ≠ b → (TJx3cf43 a).2.1 ≠ (TJx3cf43 b).2.1 := by decide +kernel
theorem tyJx3cf43_ok : ∀ k, k < 0 → parseFieldDescriptor (TJx3cf43 k).2.2.1 = some (tyJx3cf43 k) := by decide +kernel
def RJ7 : String := "java/util/Arrays"
def TJ7 : u_T := fun k => match k with
  | _ => ("", "", "", false)
def tyJ7 : Nat → FieldType := fun k => match k with
  | _ => .int
abbrev wsJ70 : List Cond := u_ws RJ7 TJ7 0
theorem nmJ7 : ∀ a, a < 0 → ∀ b, b < 0 → a ≠ b → (TJ7 a).2.1 ≠ (TJ7 b).2.1 := by decide +kernel
theorem tyJ7_ok : ∀ k, k < 0 → parseFieldDescriptor (TJ7 k).2.2.1 = some (tyJ7 k) := by decide +kernel
abbrev cJ7_fill_53178 : ByteArray := prog_29_method_103_code
def yJ7_fill_53178 : MethodName := ⟨RJ7, "fill", "([II)V"⟩
def RJ3 : String := "jdk/internal/util/Preconditions"
def TJ3 : u_T := fun k => match k with
  | _ => ("", "", "", false)
def tyJ3 : Nat → FieldType := fun k => match k with
  | _ => .int
abbrev wsJ30 : List Cond := u_ws RJ3 TJ3 0
theorem nmJ3 : ∀ a, a < 0 → ∀ b, b < 0 → a ≠ b → (TJ3 a).2.1 ≠ (TJ3 b).2.1 := by decide +kernel
theorem tyJ3_ok : ∀ k, k < 0 → parseFieldDescriptor (TJ3 k).2.2.1 = some (tyJ3 k) := by decide +kernel
abbrev cJ3_checkIndex_8e157 : ByteArray := prog_31_method_11_code
def yJ3_checkIndex_8e157 : MethodName := ⟨RJ3, "checkIndex", "(IILjava/util/function/BiFunction;)I"⟩
def RL : String := "LightsMarketLaw"
abbrev cL_line : ByteArray := method_3_code
def yL_line : MethodName := ⟨RL, "line", "(LLightsMarket;IIII[J)I"⟩
abbrev cL_mill : ByteArray := method_4_code
def yL_mill : MethodName := ⟨RL, "mill", "(LLightsMarket;IIIIIIIII[J)I"⟩
abbrev cL_write : ByteArray := method_5_code
def yL_write : MethodName := ⟨RL, "write", "(LLightsMarket;III[J)I"⟩
abbrev cL_copy : ByteArray := method_6_code
def yL_copy : MethodName := ⟨RL, "copy", "(LLightsMarket;IIIII[J)I"⟩
abbrev cL_day : ByteArray := method_7_code
def yL_day : MethodName := ⟨RL, "day", "(LLightsMarket;IIII[J)I"⟩
abbrev cL_offer : ByteArray := method_8_code
def yL_offer : MethodName := ⟨RL, "offer", "(LLightsMarket;II[J)I"⟩
abbrev cL_asked : ByteArray := method_9_code
def yL_asked : MethodName := ⟨RL, "asked", "(LLightsMarket;III[J)I"⟩
abbrev cL_flow : ByteArray := method_10_code
def yL_flow : MethodName := ⟨RL, "flow", "(LLightsMarket;IIII[J)I"⟩
abbrev cL_least : ByteArray := method_11_code
def yL_least : MethodName := ⟨RL, "least", "(LLightsMarket;III[J)I"⟩
abbrev cL_units : ByteArray := method_12_code
def yL_units : MethodName := ⟨RL, "units", "(LLightsMarket;I[J)I"⟩
abbrev cL_plan : ByteArray := method_13_code
def yL_plan : MethodName := ⟨RL, "plan", "(LLightsMarket;II[J)I"⟩
abbrev cL_planned : ByteArray := method_14_code
def yL_planned : MethodName := ⟨RL, "planned", "(LLightsMarket;II[J)I"⟩
abbrev cL_price : ByteArray := method_15_code
def yL_price : MethodName := ⟨RL, "price", "(LLightsMarket;II[J)I"⟩
abbrev cL_pays : ByteArray := method_16_code
def yL_pays : MethodName := ⟨RL, "pays", "(LLightsMarket;II[J)I"⟩
abbrev cL_game : ByteArray := method_17_code
def yL_game : MethodName := ⟨RL, "game", "(LLightsMarket;I[J)I"⟩
abbrev cL_hides : ByteArray := method_18_code
def yL_hides : MethodName := ⟨RL, "hides", "(LLightsMarket;II[J)I"⟩
abbrev cL_alone : ByteArray := method_19_code
def yL_alone : MethodName := ⟨RL, "alone", "(LLightsMarket;II[J)I"⟩
abbrev cL_night : ByteArray := method_20_code
def yL_night : MethodName := ⟨RL, "night", "(LLightsMarket;IIII[J)I"⟩
abbrev cL_falls : ByteArray := method_21_code
def yL_falls : MethodName := ⟨RL, "falls", "(LLightsMarket;II[J)I"⟩
abbrev cL_minutes : ByteArray := method_22_code
def yL_minutes : MethodName := ⟨RL, "minutes", "(LLightsMarket;I[J)I"⟩
abbrev cL_ofNight : ByteArray := method_23_code
def yL_ofNight : MethodName := ⟨RL, "ofNight", "(LLightsMarket;I[J)I"⟩
abbrev cL_starts : ByteArray := method_24_code
def yL_starts : MethodName := ⟨RL, "starts", "(LLightsMarket;IZI[J)I"⟩
abbrev cL_way : ByteArray := method_25_code
def yL_way : MethodName := ⟨RL, "way", "(LLightsMarket;I[J)I"⟩
abbrev cL_act : ByteArray := method_26_code
def yL_act : MethodName := ⟨RL, "act", "(LLightsMarket;I[J)I"⟩
abbrev cL_evenings : ByteArray := method_27_code
def yL_evenings : MethodName := ⟨RL, "evenings", "(LLightsMarket;I[J)I"⟩
abbrev cL_meter : ByteArray := method_28_code
def yL_meter : MethodName := ⟨RL, "meter", "(LLightsMarket;III[J)I"⟩
abbrev cL_bill : ByteArray := method_29_code
def yL_bill : MethodName := ⟨RL, "bill", "(LLightsMarket;II[J)I"⟩
abbrev cL_count : ByteArray := method_30_code
def yL_count : MethodName := ⟨RL, "count", "(LLightsMarket;I[J)I"⟩
abbrev cL_law : ByteArray := code
def yL_law : MethodName := ⟨RL, "law", "([I)Z"⟩
abbrev vwCl : List vw_C := [(RX0, TX0, 12), (RX1, TX1, 12), (RX2, TX2, 8), (RX3, TX3, 16), (RX4, TX4, 15), (RX5, TX5, 14), (RX6, TX6, 5), (RX7, TX7, 11), (RX8, TX8, 11), (RX9, TX9, 4), (RX10, TX10, 7), (RX11, TX11, 14), (RX12, TX12, 113)]
end
section
/-! THE DOMAIN: an interpreter of the claim's bytecode over symbolic ints with bounds. A value of ints is a symbol and an offset (symbol 0 is 0); cells are numbered. -/
noncomputable def ai_T (α : Type) : Nat → Type
  | 0 => α
  | d + 1 => ai_T α d × ai_T α d
noncomputable def ai_nd {α : Type} (d : Nat) (a b : ai_T α d) : ai_T α (d + 1) := (a, b)
noncomputable def ai_tnew {α : Type} (v : α) : (d : Nat) → ai_T α d
  | 0 => v
  | d + 1 => (ai_tnew v d, ai_tnew v d)
noncomputable def ai_tget {α : Type} : (d : Nat) → ai_T α d → Nat → α
  | 0, t, _ => t
  | d + 1, t, k => match Nat.mod k 2 with
    | 0 => ai_tget d t.1 (Nat.div k 2)
    | _ + 1 => ai_tget d t.2 (Nat.div k 2)
noncomputable def ai_tset {α : Type} : (d : Nat) → ai_T α d → Nat → α → ai_T α d
  | 0, _, _, v => v
  | d + 1, t, k, v => match t with
    | (a, b) => match Nat.mod k 2 with
      | 0 => (ai_tset d a (Nat.div k 2) v, b)
      | _ + 1 => (a, ai_tset d b (Nat.div k 2) v)
noncomputable def ai_tall {α : Type} (p : α → Bool) : (d : Nat) → ai_T α d → Bool
  | 0, t => p t
  | d + 1, t => match ai_tall p d t.1 with
    | true => ai_tall p d t.2
    | false => false
abbrev ai_X : Type := Nat × Int
abbrev ai_V : Type := ai_X ⊕ (ai_X ⊕ Option (Option Nat))
abbrev ai_K : Type := Int × Int × List (ai_X × ai_X)
abbrev ai_C : Type := (Nat × List ai_V) ⊕ ((Nat × Nat × ai_K) ⊕ (Nat × List (Option Nat)))
abbrev ai_D : Type := Nat × Nat × ai_X × ai_X
abbrev ai_E : Type := Nat × List (Nat × Int × Int) × List ai_D
abbrev ai_H : Type := Nat × ai_T (Option ai_C) 9
abbrev ai_G : Type := ai_E × ai_H × Nat × Nat
abbrev ai_I : Type := Nat × ClassFile.Instr × Nat × Nat × Nat
abbrev ai_R : Type := Nat ⊕ Option ai_V
/-- whole numbers, by their signs -/
noncomputable def ai_le (a b : Int) : Bool := match b - a with
  | .ofNat _ => true
  | .negSucc _ => false
noncomputable def ai_eq : Int → Int → Bool
  | .ofNat a, .ofNat b => Nat.beq a b
  | .negSucc a, .negSucc b => Nat.beq a b
  | _, _ => false
noncomputable def ai_min (a b : Int) : Int := match ai_le a b with
  | true => a
  | false => b
noncomputable def ai_max (a b : Int) : Int := match ai_le a b with
  | true => b
  | false => a
noncomputable def ai_xeq : ai_X → ai_X → Bool
  | (t, c), (u, d) => match Nat.beq t u with
    | true => ai_eq c d
    | false => false
noncomputable def ai_lo32 : Int := -2147483648
noncomputable def ai_hi32 : Int := 2147483647
noncomputable def ai_lo64 : Int := -9223372036854775808
noncomputable def ai_hi64 : Int := 9223372036854775807
/-- the bounds of a symbol -/
noncomputable def ai_look : List (Nat × Int × Int) → Nat → Int × Int
  | [], _ => (ai_lo64, ai_hi64)
  | (u, lo, hi) :: l, t => match Nat.beq u t with
    | true => (lo, hi)
    | false => ai_look l t
noncomputable def ai_iv (E : ai_E) : ai_X → Int × Int
  | (0, c) => (c, c)
  | (t + 1, c) => match ai_look E.2.1 (t + 1) with
    | (lo, hi) => (lo + c, hi + c)
noncomputable def ai_abs (a : Int) : Int := match a with
  | .ofNat n => .ofNat n
  | .negSucc n => .ofNat (n + 1)
/-- what an instruction does, on whole numbers: 0 +, 1 -, 2 *, 3 /, 4 %, 5 &, 6 |, 7 ^, 8 <<, 9 >>, 10 >>>, 11 max, 12 min; from 20 on of longs: 20 +, 21 -, 22 *, 23 /, 24 %, 25 compare -/
noncomputable def ai_op : Nat → Int → Int → Int
  | 0, a, b => (a + b).bmod 4294967296
  | 1, a, b => (a - b).bmod 4294967296
  | 2, a, b => (a * b).bmod 4294967296
  | 3, a, b => (a.tdiv b).bmod 4294967296
  | 4, a, b => (a - a.tdiv b * b).bmod 4294967296
  | 5, a, b => (Int32.ofInt a &&& Int32.ofInt b).toInt
  | 6, a, b => (Int32.ofInt a ||| Int32.ofInt b).toInt
  | 7, a, b => (Int32.ofInt a ^^^ Int32.ofInt b).toInt
  | 8, a, b => (Int32.ofInt a <<< (Int32.ofInt b &&& 31)).toInt
  | 9, a, b => (Int32.ofInt a >>> (Int32.ofInt b &&& 31)).toInt
  | 10, a, b => ((Int32.ofInt a).toUInt32 >>> ((Int32.ofInt b).toUInt32 &&& Int32.toUInt32 31)).toInt32.toInt
  | 11, a, b => ai_max a b
  | 12, a, b => ai_min a b
  | 13, a, _ => (ai_abs a).bmod 4294967296
  | 26, a, _ => (ai_abs a).bmod 18446744073709551616
  | 20, a, b => (a + b).bmod 18446744073709551616
  | 21, a, b => (a - b).bmod 18446744073709551616
  | 22, a, b => (a * b).bmod 18446744073709551616
  | 23, a, b => (a.tdiv b).bmod 18446744073709551616
  | 24, a, b => (a - a.tdiv b * b).bmod 18446744073709551616
  | 25, a, b => match ai_eq a b with
    | true => 0
    | false => match ai_le a b with
      | true => -1
      | false => 1
  | _, _, _ => 0
/-- bounds that are kept if they fit, else all -/
noncomputable def ai_fit (b : Bool) (lo hi : Int) : Int × Int := match b with
  | false => match ai_le ai_lo32 lo with
    | false => (ai_lo32, ai_hi32)
    | true => match ai_le hi ai_hi32 with
      | false => (ai_lo32, ai_hi32)
      | true => (lo, hi)
  | true => match ai_le ai_lo64 lo with
    | false => (ai_lo64, ai_hi64)
    | true => match ai_le hi ai_hi64 with
      | false => (ai_lo64, ai_hi64)
      | true => (lo, hi)
/-- the least 2^k - 1 that is no less -/
noncomputable def ai_full (a : Int) : Int := match a with
  | .ofNat n => .ofNat (2 ^ (Nat.log2 n + 1) - 1)
  | .negSucc _ => ai_hi32
/-- bounds of what comes out -/
noncomputable def ai_rmul (w : Bool) (a b c d : Int) : Int × Int := ai_fit w (ai_min (ai_min (a * c) (a * d)) (ai_min (b * c) (b * d))) (ai_max (ai_max (a * c) (a * d)) (ai_max (b * c) (b * d)))
noncomputable def ai_rdiv (w : Bool) (a b c : Int) : Int × Int := match ai_le 0 a, ai_le 1 c with
  | true, true => (0, b)
  | _, _ => match ai_max (ai_abs a) (ai_abs b) with
    | m => ai_fit w (-m) m
noncomputable def ai_rrem (w : Bool) (a b c d : Int) : Int × Int := match ai_le 0 a with
  | true => match ai_le 1 c with
    | true => (0, ai_min b (d - 1))
    | false => (0, b)
  | false => match ai_le 1 c with
    | true => ai_fit w (1 - d) (d - 1)
    | false => match w with
      | true => (ai_lo64, ai_hi64)
      | false => (ai_lo32, ai_hi32)
noncomputable def ai_rand (a b c d : Int) : Int × Int := match ai_le 0 a with
  | true => match ai_le 0 c with
    | true => (0, ai_min b d)
    | false => (0, b)
  | false => match ai_le 0 c with
    | true => (0, d)
    | false => (ai_lo32, ai_hi32)
noncomputable def ai_ror (a b c d : Int) : Int × Int := match ai_le 0 a with
  | true => match ai_le 0 c with
    | true => (0, ai_full (ai_max b d))
    | false => (ai_lo32, ai_hi32)
  | false => (ai_lo32, ai_hi32)
noncomputable def ai_rshr (a b c d : Int) : Int × Int := match ai_eq c d, c with
  | true, .ofNat k => match Nat.blt k 32 with
    | true => (a >>> k, b >>> k)
    | false => (ai_lo32, ai_hi32)
  | _, _ => (ai_lo32, ai_hi32)
noncomputable def ai_rng (o : Nat) (x y : Int × Int) : Int × Int := match o, x, y with
  | 0, (a, b), (c, d) => ai_fit false (a + c) (b + d)
  | 1, (a, b), (c, d) => ai_fit false (a - d) (b - c)
  | 2, (a, b), (c, d) => ai_rmul false a b c d
  | 3, (a, b), (c, _) => ai_rdiv false a b c
  | 4, (a, b), (c, d) => ai_rrem false a b c d
  | 5, (a, b), (c, d) => ai_rand a b c d
  | 6, (a, b), (c, d) => ai_ror a b c d
  | 7, (a, b), (c, d) => ai_ror a b c d
  | 9, (a, b), (c, d) => ai_rshr a b c d
  | 11, (a, b), (c, d) => (ai_max a c, ai_max b d)
  | 12, (a, b), (c, d) => (ai_min a c, ai_min b d)
  | 20, (a, b), (c, d) => ai_fit true (a + c) (b + d)
  | 21, (a, b), (c, d) => ai_fit true (a - d) (b - c)
  | 22, (a, b), (c, d) => ai_rmul true a b c d
  | 23, (a, b), (c, _) => ai_rdiv true a b c
  | 24, (a, b), (c, d) => ai_rrem true a b c d
  | 25, _, _ => (-1, 1)
  | n, _, _ => match Nat.ble 20 n with
    | true => (ai_lo64, ai_hi64)
    | false => (ai_lo32, ai_hi32)
noncomputable def ai_find (o : Nat) (x y : ai_X) : List ai_D → Option Nat
  | [] => none
  | (q, t, u, v) :: l => match Nat.beq o q with
    | false => ai_find o x y l
    | true => match ai_xeq x u with
      | false => ai_find o x y l
      | true => match ai_xeq y v with
        | false => ai_find o x y l
        | true => some t
/-- a new symbol -/
noncomputable def ai_new (E : ai_E) (b : Int × Int) : ai_X × ai_E := match E with
  | (N, l, ds) => ((N, 0), (N + 1, (N, b) :: l, ds))
noncomputable def ai_def (E : ai_E) (o : Nat) (x y : ai_X) (b : Int × Int) : ai_X × ai_E := match ai_find o x y E.2.2 with
  | some t => ((t, 0), E)
  | none => match ai_eq b.1 b.2 with
    | true => ((0, b.1), E)
    | false => match E with
      | (N, l, ds) => ((N, 0), (N + 1, (N, b) :: l, (o, N, x, y) :: ds))
noncomputable def ai_pm (o : Nat) (c b : Int) : Int := match o with
  | 0 => c + b
  | _ + 1 => c - b
/-- an instruction of two numbers -/
noncomputable def ai_bin (E : ai_E) (o : Nat) (x y : ai_X) : ai_X × ai_E := match x, y with
  | (0, a), (0, b) => ((0, ai_op o a b), E)
  | (0, a), (u + 1, d) => match Nat.beq o 0 with
    | true => match ai_iv E (u + 1, d + a) with
      | (lo, hi) => match ai_le ai_lo32 lo, ai_le hi ai_hi32 with
        | true, true => ((u + 1, d + a), E)
        | _, _ => ai_def E o (0, a) (u + 1, d) (ai_rng o (a, a) (ai_iv E (u + 1, d)))
    | false => ai_def E o (0, a) (u + 1, d) (ai_rng o (a, a) (ai_iv E (u + 1, d)))
  | (t + 1, c), (0, b) => match Nat.ble o 1 with
    | true => match ai_pm o c b with
      | e => match ai_iv E (t + 1, e) with
        | (lo, hi) => match ai_le ai_lo32 lo, ai_le hi ai_hi32 with
          | true, true => ((t + 1, e), E)
          | _, _ => ai_def E o (t + 1, c) (0, b) (ai_rng o (ai_iv E (t + 1, c)) (b, b))
    | false => ai_def E o (t + 1, c) (0, b) (ai_rng o (ai_iv E (t + 1, c)) (b, b))
  | (t + 1, c), (u + 1, d) => ai_def E o (t + 1, c) (u + 1, d) (ai_rng o (ai_iv E (t + 1, c)) (ai_iv E (u + 1, d)))
/-- a bound more for a symbol -/
noncomputable def ai_cap (E : ai_E) (t : Nat) (lo hi : Int) : Option ai_E := match t with
  | 0 => match ai_le lo 0, ai_le 0 hi with
    | true, true => some E
    | _, _ => none
  | _ + 1 => match ai_look E.2.1 t with
    | (a, b) => match ai_max a lo, ai_min b hi with
      | lo', hi' => match ai_le lo' hi' with
        | true => some (E.1, (t, lo', hi') :: E.2.1, E.2.2)
        | false => none
/-- x no more than y + k: what is known then -/
noncomputable def ai_leq (E : ai_E) (x y : ai_X) (k : Int) : Option ai_E := match Nat.beq x.1 y.1 with
  | true => match ai_le x.2 (y.2 + k) with
    | true => some E
    | false => none
  | false => match ai_iv E x, ai_iv E y with
    | (a, b), (c, d) => match ai_le b (c + k) with
      | true => some E
      | false => match ai_cap E x.1 ai_lo64 (d + k - x.2) with
        | none => none
        | some E1 => ai_cap E1 y.1 (a - k - y.2) ai_hi64
noncomputable def ai_same (E : ai_E) (x y : ai_X) : Option ai_E := match ai_leq E x y 0 with
  | none => none
  | some E1 => ai_leq E1 y x 0
/-- a symbol isn't a number: at its bounds' ends -/
noncomputable def ai_off (E : ai_E) (t : Nat) (v : Int) : Option ai_E := match t with
  | 0 => match ai_eq v 0 with
    | true => none
    | false => some E
  | _ + 1 => match ai_look E.2.1 t with
    | (a, b) => match ai_eq a v with
      | true => ai_cap E t (a + 1) ai_hi64
      | false => match ai_eq b v with
        | true => ai_cap E t ai_lo64 (b - 1)
        | false => some E
noncomputable def ai_differ (E : ai_E) (x y : ai_X) : Option ai_E := match Nat.beq x.1 y.1 with
  | true => match ai_eq x.2 y.2 with
    | true => none
    | false => some E
  | false => match x, y with
    | (0, a), (u, d) => ai_off E u (a - d)
    | (t, c), (0, b) => ai_off E t (b - c)
    | _, _ => some E
/-- a comparison that holds: 0 =, 1 ≠, 2 <, 3 ≥, 4 >, 5 ≤ -/
noncomputable def ai_cmp (E : ai_E) (o : Nat) (x y : ai_X) : Option ai_E := match o with
  | 0 => ai_same E x y
  | 1 => ai_differ E x y
  | 2 => ai_leq E x y (-1)
  | 3 => ai_leq E y x 0
  | 4 => ai_leq E y x (-1)
  | _ => ai_leq E x y 0
noncomputable def ai_cno : ClassFile.Cond → Nat
  | .eq => 0
  | .ne => 1
  | .lt => 2
  | .ge => 3
  | .gt => 4
  | .le => 5
noncomputable def ai_inv : Nat → Nat
  | 0 => 1
  | 1 => 0
  | 2 => 3
  | 3 => 2
  | 4 => 5
  | _ => 4
/-- the comparison of two longs whose sign a symbol is -/
noncomputable def ai_lcmp (t : Nat) : List ai_D → Option (ai_X × ai_X)
  | [] => none
  | (o, u, x, y) :: l => match Nat.beq u t with
    | false => ai_lcmp t l
    | true => match Nat.beq o 25 with
      | true => some (x, y)
      | false => ai_lcmp t l
/-- locals -/
noncomputable def ai_lget : List ai_V → Nat → ai_V
  | [], _ => .inr (.inr none)
  | v :: _, 0 => v
  | _ :: l, i + 1 => ai_lget l i
noncomputable def ai_kill : ai_V → ai_V
  | .inr (.inl _) => .inr (.inr none)
  | v => v
noncomputable def ai_lset : List ai_V → Nat → ai_V → List ai_V
  | [], _, _ => []
  | _ :: l, 0, v => v :: l
  | w :: l, 1, v => ai_kill w :: ai_lset l 0 v
  | w :: l, i + 2, v => w :: ai_lset l (i + 1) v
noncomputable def ai_lset2 (L : List ai_V) (i : Nat) (v : ai_V) : List ai_V := ai_lset (ai_lset L (i + 1) (.inr (.inr none))) i v
/-- what stands at a place of an array -/
noncomputable def ai_kget (E : ai_E) (lo hi : Int) (i : ai_X) : List (ai_X × ai_X) → ai_X ⊕ (Int × Int)
  | [] => match ai_eq lo hi with
    | true => .inl (0, lo)
    | false => .inr (lo, hi)
  | (j, v) :: l => match ai_xeq i j with
    | true => .inl v
    | false => match ai_iv E i, ai_iv E j, Nat.beq i.1 j.1 with
      | (a, b), (c, d), q => match q || !(ai_le a d) || !(ai_le c b) with
        | true => ai_kget E lo hi i l
        | false => match ai_kget E lo hi i l with
          | .inl w => match ai_iv E v, ai_iv E w with
            | (a, b), (c, d) => .inr (ai_min a c, ai_max b d)
          | .inr (c, d) => match ai_iv E v with
            | (a, b) => .inr (ai_min a c, ai_max b d)
noncomputable def ai_kdrop (i : ai_X) : List (ai_X × ai_X) → List (ai_X × ai_X)
  | [] => []
  | (j, v) :: l => match ai_xeq i j with
    | true => l
    | false => (j, v) :: ai_kdrop i l
noncomputable def ai_inb (E : ai_E) (i : ai_X) (n : Nat) : Bool := match ai_iv E i with
  | (a, b) => match ai_le 0 a with
    | true => ai_le b (Int.ofNat n - 1)
    | false => false
noncomputable def ai_geta (l : List (Option Nat)) (i : Nat) : Option (Option Nat) := match l, i with
  | [], _ => none
  | v :: _, 0 => some v
  | _ :: l, i + 1 => ai_geta l i
noncomputable def ai_seta : List (Option Nat) → Nat → Option Nat → List (Option Nat)
  | [], _, _ => []
  | _ :: l, 0, v => v :: l
  | w :: l, i + 1, v => w :: ai_seta l i v
noncomputable def ai_getv (l : List ai_V) (i : Nat) : Option ai_V := match l, i with
  | [], _ => none
  | v :: _, 0 => some v
  | _ :: l, i + 1 => ai_getv l i
noncomputable def ai_setv : List ai_V → Nat → ai_V → List ai_V
  | [], _, _ => []
  | _ :: l, 0, v => v :: l
  | w :: l, i + 1, v => w :: ai_setv l i v
/-- cells 0 to 15 are old ones, never written; the others are the world's -/
noncomputable def ai_cell (h : ai_H) (r : Nat) : Option ai_C := ai_tget 9 h.2 r
noncomputable def ai_put (h : ai_H) (r : Nat) (c : ai_C) : Option ai_H := match h with
  | (n, t) => match Nat.ble 16 r, Nat.ble (r + 1) n with
    | true, true => some (n, ai_tset 9 t r (some c))
    | _, _ => none
noncomputable def ai_push (h : ai_H) (c : ai_C) : Option ai_H := match h with
  | (n, t) => match Nat.ble 512 n with
    | false => some (n + 1, ai_tset 9 t n (some c))
    | true => none
abbrev ai_F : Type := Nat × List ai_V × List ai_V × ai_G
abbrev ai_S : Type := List ai_F ⊕ ((Nat × List ai_V × List ai_V × Nat) ⊕ ai_R)
noncomputable def ai_go (pc : Nat) (L S : List ai_V) (G : ai_G) : Option ai_S := some (.inl [(pc, L, S, G)])
noncomputable def ai_s2 (o pc : Nat) (L S : List ai_V) (G : ai_G) : Option ai_S := match S with
  | .inl y :: .inl x :: S => match G with
    | (E, h, c, s) => match ai_bin E o x y with
      | (z, E) => ai_go pc L (.inl z :: S) (E, h, c, s)
  | _ => none
noncomputable def ai_l2 (o pc : Nat) (L S : List ai_V) (G : ai_G) : Option ai_S := match S with
  | .inr (.inl y) :: .inr (.inl x) :: S => match G with
    | (E, h, c, s) => match ai_bin E o x y with
      | (z, E) => ai_go pc L (.inr (.inl z) :: S) (E, h, c, s)
  | _ => none
noncomputable def ai_nz (E : ai_E) (x : ai_X) : Bool := match ai_iv E x with
  | (a, b) => match ai_le 1 a with
    | true => true
    | false => ai_le b (-1)
/-- a comparison of a sign with 0 is that of the two longs -/
noncomputable def ai_bxy (E : ai_E) (x y : ai_X) : ai_X × ai_X := match x, y with
  | (t + 1, 0), (0, 0) => match ai_lcmp (t + 1) E.2.2 with
    | some p => p
    | none => (x, y)
  | _, _ => (x, y)
noncomputable def ai_fork (a b : Option ai_E) (tgt nxt : Nat) (L S : List ai_V) (h : ai_H) (c s : Nat) : List ai_F := match a with
  | some E1 => match b with
    | some E2 => [(tgt, L, S, (E1, h, c, s)), (nxt, L, S, (E2, h, c, s))]
    | none => [(tgt, L, S, (E1, h, c, s))]
  | none => match b with
    | some E2 => [(nxt, L, S, (E2, h, c, s))]
    | none => []
noncomputable def ai_branch (o tgt nxt : Nat) (x y : ai_X) (L S : List ai_V) (G : ai_G) : Option ai_S := match G with
  | (E, h, c, s) => match ai_bxy E x y with
    | (x, y) => some (.inl (ai_fork (ai_cmp E o x y) (ai_cmp E (ai_inv o) x y) tgt nxt L S h c s))
noncomputable def ai_int (v : ai_V) : Bool := match v with
  | .inl _ => true
  | _ => false
noncomputable def ai_lng (v : ai_V) : Bool := match v with
  | .inr (.inl _) => true
  | _ => false
/-- of one word: an int, a reference, null -/
noncomputable def ai_one (v : ai_V) : Bool := match v with
  | .inl _ => true
  | .inr (.inr (some _)) => true
  | _ => false
noncomputable def ai_ref (v : ai_V) : Bool := match v with
  | .inr (.inr (some (some _))) => true
  | _ => false
noncomputable def ai_load (p : ai_V → Bool) (i pc : Nat) (L S : List ai_V) (G : ai_G) : Option ai_S := match ai_lget L i with
  | v => match p v with
    | true => ai_go pc L (v :: S) G
    | false => none
noncomputable def ai_stor (p : ai_V → Bool) (i pc : Nat) (L S : List ai_V) (G : ai_G) : Option ai_S := match S with
  | v :: S => match p v, Nat.blt i L.length with
    | true, true => ai_go pc (ai_lset L i v) S G
    | _, _ => none
  | _ => none
noncomputable def ai_stol (i pc : Nat) (L S : List ai_V) (G : ai_G) : Option ai_S := match S with
  | .inr (.inl x) :: S => match Nat.blt (i + 1) L.length with
    | true => ai_go pc (ai_lset2 L i (.inr (.inl x))) S G
    | _ => none
  | _ => none
noncomputable def ai_num (ty : Nat) (z : ai_X) : ai_V := match ty with
  | 1 => .inr (.inl z)
  | _ => .inl z
noncomputable def ai_read (ty pc : Nat) (L S : List ai_V) (G : ai_G) : Option ai_S := match S with
  | .inl i :: .inr (.inr (some (some r))) :: S => match G with
    | (E, h, c, s) => match ai_cell h r with
      | some (.inr (.inl (q, n, lo, hi, l))) => match Nat.beq q ty, ai_inb E i n with
        | true, true => match ai_kget E lo hi i l with
          | .inl z => ai_go pc L (ai_num ty z :: S) G
          | .inr b => match ai_new E b with
            | (z, E) => ai_go pc L (ai_num ty z :: S) (E, h, c, s)
        | _, _ => none
      | _ => none
  | _ => none
noncomputable def ai_cut (ty : Nat) (v : ai_V) : Option ai_X := match v with
  | .inl z => match ty with
    | 1 => none
    | _ => some z
  | .inr (.inl z) => match ty with
    | 1 => some z
    | _ => none
  | _ => none
noncomputable def ai_bit (E : ai_E) (z : ai_X) : Bool := match ai_iv E z with
  | (a, b) => match ai_le 0 a with
    | true => ai_le b 1
    | false => false
noncomputable def ai_writ (ty pc : Nat) (L S : List ai_V) (G : ai_G) : Option ai_S := match S with
  | v :: .inl i :: .inr (.inr (some (some r))) :: S => match ai_cut ty v with
    | none => none
    | some z => match G with
      | (E, h, c, s) => match ai_cell h r with
        | some (.inr (.inl (q, n, lo, hi, l))) => match Nat.beq q ty, ai_inb E i n, (match ty with | 2 => ai_bit E z | _ => true) with
          | true, true, true => match ai_put h r (.inr (.inl (q, n, lo, hi, (i, z) :: ai_kdrop i l))) with
            | some h => ai_go pc L S (E, h, c, s)
            | none => none
          | _, _, _ => none
        | _ => none
  | _ => none
/-- a reference out of an array of references: each place that it may be -/
noncomputable def ai_aall (E : ai_E) (i : ai_X) (rs : List (Option Nat)) (pc : Nat) (L S : List ai_V) (h : ai_H) (c s : Nat) : Nat → List (Option Nat) → List ai_F
  | _, [] => []
  | j, r :: l => match ai_same E i (0, .ofNat j) with
    | some E1 => (pc, L, .inr (.inr (some r)) :: S, (E1, h, c, s)) :: ai_aall E i rs pc L S h c s (j + 1) l
    | none => ai_aall E i rs pc L S h c s (j + 1) l
noncomputable def ai_aget (pc : Nat) (L S : List ai_V) (G : ai_G) : Option ai_S := match S with
  | .inl i :: .inr (.inr (some (some r))) :: S => match G with
    | (E, h, c, s) => match ai_cell h r with
      | some (.inr (.inr (_, rs))) => match i with
        | (0, .ofNat k) => match ai_geta rs k with
          | some v => ai_go pc L (.inr (.inr (some v)) :: S) G
          | none => none
        | _ => match ai_inb E i rs.length with
          | true => some (.inl (ai_aall E i rs pc L S h c s 0 rs))
          | false => none
      | _ => none
  | _ => none
/-- may an array of references of a kind hold it: mills, texts -/
noncomputable def ai_oka (h : ai_H) (ty v : Nat) : Bool := match ty with
  | 4 => match ai_cell h v with
    | some (.inl (4, _)) => Nat.ble 16 v
    | _ => false
  | 5 => match Nat.ble 1 v with
    | true => Nat.ble v 10
    | false => false
  | _ => false
noncomputable def ai_aput (pc : Nat) (L S : List ai_V) (G : ai_G) : Option ai_S := match S with
  | .inr (.inr (some (some v))) :: .inl (0, .ofNat k) :: .inr (.inr (some (some r))) :: S => match G with
    | (E, h, c, s) => match ai_cell h r with
      | some (.inr (.inr (ty, rs))) => match Nat.blt k rs.length, ai_oka h ty v with
        | true, true => match ai_put h r (.inr (.inr (ty, ai_seta rs k (some v)))) with
          | some h => ai_go pc L S (E, h, c, s)
          | none => none
        | _, _ => none
      | _ => none
  | _ => none
noncomputable def ai_size (c : Option ai_C) : Option Nat := match c with
  | some (.inr (.inl (_, n, _))) => some n
  | some (.inr (.inr (_, rs))) => some rs.length
  | _ => none
noncomputable def ai_alen (pc : Nat) (L S : List ai_V) (G : ai_G) : Option ai_S := match S with
  | .inr (.inr (some (some r))) :: S => match G with
    | (E, h, c, s) => match ai_size (ai_cell h r) with
      | some n => match Nat.blt n 1000000 with
        | true => ai_go pc L (.inl (0, .ofNat n) :: S) (E, h, c, s)
        | false => none
      | none => none
  | _ => none
noncomputable def ai_getf (ci k pc : Nat) (L S : List ai_V) (G : ai_G) : Option ai_S := match S with
  | .inr (.inr (some (some r))) :: S => match G with
    | (_, h, _, _) => match ai_cell h r with
      | some (.inl (cj, fs)) => match Nat.beq ci cj, ai_getv fs k with
        | true, some v => ai_go pc L (v :: S) G
        | _, _ => none
      | _ => none
  | _ => none
/-- may a field of this kind hold it: 0 int, 1 long, 2 boolean, 3 a reference -/
noncomputable def ai_okf (E : ai_E) (ty : Nat) (v : ai_V) : Bool := match v with
  | .inl z => match ty with
    | 0 => true
    | 2 => ai_bit E z
    | _ => false
  | .inr (.inl _) => Nat.beq ty 1
  | .inr (.inr none) => false
  | .inr (.inr (some _)) => Nat.beq ty 3
noncomputable def ai_putf (kind : Nat → Nat → Nat) (ci k pc : Nat) (L S : List ai_V) (G : ai_G) : Option ai_S := match S with
  | v :: .inr (.inr (some (some r))) :: S => match G with
    | (E, h, c, s) => match ai_cell h r with
      | some (.inl (cj, fs)) => match Nat.beq ci cj, Nat.blt k fs.length, ai_okf E (kind ci k) v with
        | true, true, true => match ai_put h r (.inl (cj, ai_setv fs k v)) with
          | some h => ai_go pc L S (E, h, c, s)
          | none => none
        | _, _, _ => none
      | _ => none
  | _ => none
noncomputable def ai_take : Nat → List ai_V → List ai_V → Option (List ai_V × List ai_V)
  | 0, a, S => some (a, S)
  | n + 1, a, S => match S with
    | [] => none
    | v :: S => ai_take n (v :: a) S
/-- words on the operand stack, at most -/
noncomputable def ai_words : List ai_V → Nat
  | [] => 0
  | v :: l => match ai_one v with
    | true => ai_words l + 1
    | false => match ai_lng v with
      | true => ai_words l + 2
      | false => ai_words l + 100
noncomputable def ai_call (mi n pc : Nat) (S : List ai_V) : Option ai_S := match ai_take n [] S with
  | some (a, S) => match Nat.ble (ai_words S) 8 with
    | true => some (.inr (.inl (mi, a, S, pc)))
    | false => none
  | none => none
noncomputable def ai_icall (mi n pc : Nat) (S : List ai_V) : Option ai_S := match ai_take n [] S with
  | some (a, S) => match a with
    | .inr (.inr (some (some _))) :: _ => match Nat.ble (ai_words S) 8 with
      | true => some (.inr (.inl (mi, a, S, pc)))
      | false => none
    | _ => none
  | none => none
noncomputable def ai_vcall (mi n ci pc : Nat) (S : List ai_V) (h : ai_H) : Option ai_S := match ai_take n [] S with
  | some (a, S) => match a with
    | .inr (.inr (some (some q))) :: _ => match ai_cell h q with
      | some (.inl (cj, _)) => match Nat.beq ci cj, Nat.ble (ai_words S) 8 with
        | true, true => some (.inr (.inl (mi, a, S, pc)))
        | _, _ => none
      | _ => none
    | _ => none
  | none => none
noncomputable def ai_make (bud : Nat × Nat) (cell : ai_C) (n pc : Nat) (L S : List ai_V) (G : ai_G) : Option ai_S := match G with
  | (E, h, c, s) => match Nat.ble (c + 1) bud.1, Nat.ble (s + n) bud.2, ai_push h cell with
    | true, true, some h1 => ai_go pc L (.inr (.inr (some (some h.1))) :: S) (E, h1, c + 1, s + n)
    | _, _, _ => none
noncomputable def ai_ids : Nat → Nat → List (Option Nat)
  | _, 0 => []
  | a, n + 1 => some a :: ai_ids (a + 1) n
noncomputable def ai_pushes : ai_H → List ai_C → Option ai_H
  | h, [] => some h
  | h, c :: l => match ai_push h c with
    | some h1 => ai_pushes h1 l
    | none => none
noncomputable def ai_mult (bud : Nat × Nat) (pc : Nat) (L S : List ai_V) (G : ai_G) : Option ai_S := match S with
  | .inl (0, .ofNat k) :: .inl (0, .ofNat n) :: S => match G with
    | (E, h, c, s) => match Nat.ble (c + (1 + n)) bud.1, Nat.ble (s + (n + n * k)) bud.2, Nat.blt n 512, Nat.blt k 1000000 with
      | true, true, true, true => match ai_pushes h (.inr (.inr (3, ai_ids (h.1 + 1) n)) :: List.replicate n (.inr (.inl (0, k, 0, 0, [])))) with
        | some h2 => ai_go pc L (.inr (.inr (some (some h.1))) :: S) (E, h2, c + 1 + n, s + n + n * k)
        | none => none
      | _, _, _, _ => none
  | _ => none
noncomputable def ai_sw1 (E : ai_E) (x : ai_X) (L S : List ai_V) (h : ai_H) (c s : Nat) (pc : Nat) : Int → List Int → List ai_F
  | _, [] => []
  | v, off :: l => match ai_same E x (0, v) with
    | some E1 => ((Int.ofNat pc + off).toNat, L, S, (E1, h, c, s)) :: ai_sw1 E x L S h c s pc (v + 1) l
    | none => ai_sw1 E x L S h c s pc (v + 1) l
noncomputable def ai_some (o : Option ai_E) (pc : Nat) (L S : List ai_V) (h : ai_H) (c s : Nat) : List ai_F := match o with
  | some E => [(pc, L, S, (E, h, c, s))]
  | none => []
noncomputable def ai_tsw (dflt lo hi : Int) (offs : List Int) (pc : Nat) (L S : List ai_V) (G : ai_G) : Option ai_S := match S with
  | .inl x :: S => match G with
    | (E, h, c, s) => some (.inl (ai_some (ai_leq E x (0, lo) (-1)) (Int.ofNat pc + dflt).toNat L S h c s ++ (ai_some (ai_leq E (0, hi) x (-1)) (Int.ofNat pc + dflt).toNat L S h c s ++ ai_sw1 E x L S h c s pc lo offs)))
  | _ => none
noncomputable def ai_lsw1 (x : ai_X) (L S : List ai_V) (h : ai_H) (c s : Nat) (pc : Nat) (dflt : Int) : ai_E → List (Int × Int) → List ai_F
  | E, [] => [((Int.ofNat pc + dflt).toNat, L, S, (E, h, c, s))]
  | E, (v, off) :: l => match ai_same E x (0, v), ai_differ E x (0, v) with
    | some E1, some E2 => ((Int.ofNat pc + off).toNat, L, S, (E1, h, c, s)) :: ai_lsw1 x L S h c s pc dflt E2 l
    | some E1, none => [((Int.ofNat pc + off).toNat, L, S, (E1, h, c, s))]
    | none, some E2 => ai_lsw1 x L S h c s pc dflt E2 l
    | none, none => []
/-- what a part of an array is, place by place, laid from a place on -/
noncomputable def ai_part (lo hi : Int) (l : List (ai_X × ai_X)) : Nat → Nat → Nat → ai_E → List (ai_X × ai_X) → ai_E × List (ai_X × ai_X)
  | 0, _, _, E, a => (E, a)
  | n + 1, sp, dp, E, a => match ai_kget E lo hi (0, .ofNat sp) l with
    | .inl z => ai_part lo hi l n (sp + 1) (dp + 1) E (((0, .ofNat dp), z) :: a)
    | .inr b => match ai_new E b with
      | (z, E) => ai_part lo hi l n (sp + 1) (dp + 1) E (((0, .ofNat dp), z) :: a)
noncomputable def ai_lay : List (ai_X × ai_X) → List (ai_X × ai_X) → List (ai_X × ai_X)
  | [], l => l
  | (i, v) :: a, l => ai_lay a ((i, v) :: ai_kdrop i l)
noncomputable def ai_copy (pc : Nat) (L S : List ai_V) (G : ai_G) : Option ai_S := match S with
  | .inl (0, .ofNat n) :: .inl (0, .ofNat dp) :: .inr (.inr (some (some q))) :: .inl (0, .ofNat sp) :: .inr (.inr (some (some r))) :: S => match G with
    | (E, h, c, s) => match ai_cell h r, ai_cell h q with
      | some (.inr (.inl (ty, k, lo, hi, l))), some (.inr (.inl (tz, m, lo', hi', l'))) => match Nat.beq ty 0, Nat.beq tz 0, Nat.ble (sp + n) k, Nat.ble (dp + n) m, Nat.ble 16 r with
        | true, true, true, true, true => match ai_part lo hi l n sp dp E [] with
          | (E, a) => match ai_put h q (.inr (.inl (tz, m, lo', hi', ai_lay a l'))) with
            | some h => ai_go pc L S (E, h, c, s)
            | none => none
        | _, _, _, _, _ => none
      | _, _ => none
  | _ => none
noncomputable def ai_l2i (E : ai_E) (x : ai_X) : ai_X × ai_E := match ai_iv E x with
  | (lo, hi) => match ai_le ai_lo32 lo with
    | true => match ai_le hi ai_hi32 with
      | true => (x, E)
      | false => ai_new E (ai_lo32, ai_hi32)
    | false => ai_new E (ai_lo32, ai_hi32)
noncomputable def ai_fin (bud : Nat × Nat) (G : ai_G) (x : ai_R) : Option ai_S := match G with
  | (_, _, c, s) => match Nat.ble c bud.1, Nat.ble s bud.2 with
    | true, true => some (.inr (.inr x))
    | _, _ => none
noncomputable def ai_room (bud : Nat × Nat) (S : List ai_V) (G : ai_G) : Bool := match G with
  | (_, _, c, s) => match Nat.ble (ai_words S) 40, Nat.ble c bud.1, Nat.ble s bud.2 with
    | true, true, true => true
    | _, _, _ => false
noncomputable def ai_step (i : ClassFile.Instr) : (Nat × Nat) → (Nat → List ai_V) → (Nat → Nat → Nat) → Nat → Nat → Nat → Nat → List ai_V → List ai_V → ai_G → Option ai_S := match i with
  | .iconst n => fun bud dflt kind pc nx a b L S G => ai_go nx L (.inl (0, n) :: S) G
  | .bipush n => fun bud dflt kind pc nx a b L S G => ai_go nx L (.inl (0, n) :: S) G
  | .sipush n => fun bud dflt kind pc nx a b L S G => ai_go nx L (.inl (0, n) :: S) G
  | .lconst n => fun bud dflt kind pc nx a b L S G => ai_go nx L (.inr (.inl (0, .ofNat n.val)) :: S) G
  | .ldc _ => fun bud dflt kind pc nx a b L S G => match a with
    | 0 => ai_go nx L (.inl (0, Int.ofNat b - 2147483648) :: S) G
    | _ + 1 => ai_go nx L (.inr (.inr (some (some b))) :: S) G
  | .ldc_w _ => fun bud dflt kind pc nx a b L S G => match a with
    | 0 => ai_go nx L (.inl (0, Int.ofNat b - 2147483648) :: S) G
    | _ + 1 => none
  | .iload n => fun bud dflt kind pc nx a b L S G => ai_load ai_int n nx L S G
  | .iload_n n => fun bud dflt kind pc nx a b L S G => ai_load ai_int n.val nx L S G
  | .lload n => fun bud dflt kind pc nx a b L S G => ai_load ai_lng n nx L S G
  | .lload_n n => fun bud dflt kind pc nx a b L S G => ai_load ai_lng n.val nx L S G
  | .aload n => fun bud dflt kind pc nx a b L S G => ai_load ai_ref n nx L S G
  | .aload_n n => fun bud dflt kind pc nx a b L S G => ai_load ai_ref n.val nx L S G
  | .istore n => fun bud dflt kind pc nx a b L S G => ai_stor ai_int n nx L S G
  | .istore_n n => fun bud dflt kind pc nx a b L S G => ai_stor ai_int n.val nx L S G
  | .astore n => fun bud dflt kind pc nx a b L S G => ai_stor ai_ref n nx L S G
  | .astore_n n => fun bud dflt kind pc nx a b L S G => ai_stor ai_ref n.val nx L S G
  | .lstore n => fun bud dflt kind pc nx a b L S G => ai_stol n nx L S G
  | .lstore_n n => fun bud dflt kind pc nx a b L S G => ai_stol n.val nx L S G
  | .iinc n k => fun bud dflt kind pc nx a b L S G => match ai_lget L n with
    | .inl x => match G with
      | (E, h, c, s) => match ai_bin E 0 x (0, k) with
        | (z, E) => match Nat.blt n L.length with
          | true => ai_go nx (ai_lset L n (.inl z)) S (E, h, c, s)
          | false => none
    | _ => none
  | .iadd => fun bud dflt kind pc nx a b L S G => ai_s2 0 nx L S G
  | .isub => fun bud dflt kind pc nx a b L S G => ai_s2 1 nx L S G
  | .imul => fun bud dflt kind pc nx a b L S G => ai_s2 2 nx L S G
  | .idiv => fun bud dflt kind pc nx a b L S G => match S with
    | .inl y :: _ => match ai_nz G.1 y with
      | true => ai_s2 3 nx L S G
      | false => none
    | _ => none
  | .irem => fun bud dflt kind pc nx a b L S G => match S with
    | .inl y :: _ => match ai_nz G.1 y with
      | true => ai_s2 4 nx L S G
      | false => none
    | _ => none
  | .iand => fun bud dflt kind pc nx a b L S G => ai_s2 5 nx L S G
  | .ior => fun bud dflt kind pc nx a b L S G => ai_s2 6 nx L S G
  | .ixor => fun bud dflt kind pc nx a b L S G => ai_s2 7 nx L S G
  | .ishl => fun bud dflt kind pc nx a b L S G => ai_s2 8 nx L S G
  | .ishr => fun bud dflt kind pc nx a b L S G => ai_s2 9 nx L S G
  | .iushr => fun bud dflt kind pc nx a b L S G => ai_s2 10 nx L S G
  | .ineg => fun bud dflt kind pc nx a b L S G => match S with
    | .inl y :: S => ai_s2 1 nx L (.inl y :: .inl (0, 0) :: S) G
    | _ => none
  | .ladd => fun bud dflt kind pc nx a b L S G => ai_l2 20 nx L S G
  | .lsub => fun bud dflt kind pc nx a b L S G => ai_l2 21 nx L S G
  | .lmul => fun bud dflt kind pc nx a b L S G => ai_l2 22 nx L S G
  | .ldiv => fun bud dflt kind pc nx a b L S G => match S with
    | .inr (.inl y) :: _ => match ai_nz G.1 y with
      | true => ai_l2 23 nx L S G
      | false => none
    | _ => none
  | .lrem => fun bud dflt kind pc nx a b L S G => match S with
    | .inr (.inl y) :: _ => match ai_nz G.1 y with
      | true => ai_l2 24 nx L S G
      | false => none
    | _ => none
  | .lneg => fun bud dflt kind pc nx a b L S G => match S with
    | .inr (.inl y) :: S => ai_l2 21 nx L (.inr (.inl y) :: .inr (.inl (0, 0)) :: S) G
    | _ => none
  | .lcmp => fun bud dflt kind pc nx a b L S G => match S with
    | .inr (.inl y) :: .inr (.inl x) :: S => match G with
      | (E, h, c, s) => match ai_bin E 25 x y with
        | (z, E) => ai_go nx L (.inl z :: S) (E, h, c, s)
    | _ => none
  | .i2l => fun bud dflt kind pc nx a b L S G => match S with
    | .inl x :: S => ai_go nx L (.inr (.inl x) :: S) G
    | _ => none
  | .l2i => fun bud dflt kind pc nx a b L S G => match S with
    | .inr (.inl x) :: S => match G with
      | (E, h, c, s) => match ai_l2i E x with
        | (z, E) => ai_go nx L (.inl z :: S) (E, h, c, s)
    | _ => none
  | .dup => fun bud dflt kind pc nx a b L S G => match S with
    | v :: S => match ai_one v with
      | false => none
      | true => ai_go nx L (v :: v :: S) G
    | _ => none
  | .dup2 => fun bud dflt kind pc nx a b L S G => match S with
    | v :: S => match ai_lng v with
      | true => ai_go nx L (v :: v :: S) G
      | false => match S with
        | w :: S => match ai_one v, ai_one w with
          | true, true => ai_go nx L (v :: w :: v :: w :: S) G
          | _, _ => none
        | _ => none
    | _ => none
  | .pop => fun bud dflt kind pc nx a b L S G => match S with
    | v :: S => match ai_one v with
      | false => none
      | true => ai_go nx L S G
    | _ => none
  | .goto _ => fun bud dflt kind pc nx a b L S G => ai_go a L S G
  | .ifCond o _ => fun bud dflt kind pc nx a b L S G => match S with
    | .inl x :: S => ai_branch (ai_cno o) a nx x (0, 0) L S G
    | _ => none
  | .if_icmp o _ => fun bud dflt kind pc nx a b L S G => match S with
    | .inl y :: .inl x :: S => ai_branch (ai_cno o) a nx x y L S G
    | _ => none
  | .tableswitch d lo hi offs => fun bud dflt kind pc nx a b L S G => ai_tsw d lo hi offs.toList pc L S G
  | .getfield _ => fun bud dflt kind pc nx a b L S G => ai_getf a b nx L S G
  | .putfield _ => fun bud dflt kind pc nx a b L S G => ai_putf kind a b nx L S G
  | .iaload => fun bud dflt kind pc nx a b L S G => ai_read 0 nx L S G
  | .laload => fun bud dflt kind pc nx a b L S G => ai_read 1 nx L S G
  | .baload => fun bud dflt kind pc nx a b L S G => ai_read 2 nx L S G
  | .iastore => fun bud dflt kind pc nx a b L S G => ai_writ 0 nx L S G
  | .lastore => fun bud dflt kind pc nx a b L S G => ai_writ 1 nx L S G
  | .bastore => fun bud dflt kind pc nx a b L S G => ai_writ 2 nx L S G
  | .aaload => fun bud dflt kind pc nx a b L S G => ai_aget nx L S G
  | .aastore => fun bud dflt kind pc nx a b L S G => ai_aput nx L S G
  | .arraylength => fun bud dflt kind pc nx a b L S G => ai_alen nx L S G
  | .new _ => fun bud dflt kind pc nx a b L S G => match Nat.ble 2000 a with
    | true => match S with
      | [] => match G with
        | (_, _, c, s) => match Nat.ble (c + 1) bud.1, Nat.ble (s + 6) bud.2 with
          | true, true => some (.inr (.inr (.inl (Nat.sub a 2000))))
          | _, _ => none
      | _ :: _ => none
    | false => match dflt a with
      | fs => ai_make bud (.inl (a, fs)) fs.length nx L S G
  | .newarray _ => fun bud dflt kind pc nx a b L S G => match S with
    | .inl (0, .ofNat n) :: S => match Nat.blt n 1000000 with
      | true => ai_make bud (.inr (.inl (a, n, 0, 0, []))) n nx L S G
      | false => none
    | _ => none
  | .anewarray _ => fun bud dflt kind pc nx a b L S G => match S with
    | .inl (0, .ofNat n) :: S => match Nat.blt n 1000000 with
      | true => ai_make bud (.inr (.inr (a, List.replicate n none))) n nx L S G
      | false => none
    | _ => none
  | .multianewarray _ _ => fun bud dflt kind pc nx a b L S G => ai_mult bud nx L S G
  | .invokevirtual _ => fun bud dflt kind pc nx a b L S G => match Nat.blt a 1000 with
    | true => ai_vcall a (Nat.mod b 64) (Nat.div b 64) nx S G.2.1
    | false => none
  | .invokespecial _ => fun bud dflt kind pc nx a b L S G => match Nat.beq a 1004 with
    | true => match S with
      | .inr (.inr (some (some _))) :: S => match Nat.ble (ai_words S) 40 with
        | true => ai_go nx L S G
        | false => none
      | _ => none
    | false => match Nat.blt a 1000 with
      | true => ai_icall a b nx S
      | false => none
  | .invokestatic _ => fun bud dflt kind pc nx a b L S G => match Nat.blt a 1000 with
    | true => ai_call a b nx S
    | false => match ai_room bud S G with
      | true => match Nat.sub a 1000 with
        | 0 => ai_s2 11 nx L S G
        | 1 => ai_s2 12 nx L S G
        | 2 => match S with
          | .inl x :: S => ai_s2 13 nx L (.inl (0, 0) :: .inl x :: S) G
          | _ => none
        | 3 => match S with
          | .inr (.inl x) :: S => ai_l2 26 nx L (.inr (.inl (0, 0)) :: .inr (.inl x) :: S) G
          | _ => none
        | 5 => ai_copy nx L S G
        | _ => none
      | false => none
  | .ireturn => fun bud dflt kind pc nx a b L S G => match S with
    | [.inl x] => match a with
      | 2 => match ai_bit G.1 x with
        | true => ai_fin bud G (.inr (some (.inl x)))
        | false => none
      | _ => ai_fin bud G (.inr (some (.inl x)))
    | _ => none
  | .lreturn => fun bud dflt kind pc nx a b L S G => match S with
    | [.inr (.inl x)] => ai_fin bud G (.inr (some (.inr (.inl x))))
    | _ => none
  | .areturn => fun bud dflt kind pc nx a b L S G => match S with
    | [.inr (.inr (some (some r)))] => ai_fin bud G (.inr (some (.inr (.inr (some (some r))))))
    | _ => none
  | .return_ => fun bud dflt kind pc nx a b L S G => match S with
    | [] => ai_fin bud G (.inr none)
    | _ => none
  | _ => fun _ _ _ _ _ _ _ _ _ _ => none
/-! RUNNING: a state may be made wider at a marked place (the head of a loop); behind it a state at the same place must be within the wider one, its measure nearer the end -/
/-- what is made wider: locals (place, bounds), locals that are forgotten, fields (cell, place, bounds), arrays (cell, bounds); the measure: a local, whether it grows -/
abbrev ai_A : Type := List (Nat × Int × Int) × List Nat × List (Nat × Nat × Int × Int) × List (Nat × Int × Int × List (Nat × Int)) × Nat × Bool
/-- a loop that is under way: its place, the first of its own symbols, the measure's symbol, whether it grows, the wider state -/
abbrev ai_P : Type := Nat × Nat × Nat × Bool × List ai_V × List ai_V × ai_G
abbrev ai_Q : Type := Option (List (ai_R × ai_G))
noncomputable def ai_genL : List (Nat × Int × Int) → ai_E → List ai_V → ai_E × List ai_V
  | [], E, L => (E, L)
  | (i, lo, hi) :: l, E, L => match ai_new E (lo, hi) with
    | (z, E) => ai_genL l E (ai_lset L i (.inl z))
noncomputable def ai_genU : List Nat → List ai_V → List ai_V
  | [], L => L
  | i :: l, L => ai_genU l (ai_lset L i (.inr (.inr none)))
noncomputable def ai_genF : List (Nat × Nat × Int × Int) → ai_E → ai_H → Option (ai_E × ai_H)
  | [], E, h => some (E, h)
  | (r, k, lo, hi) :: l, E, h => match ai_new E (lo, hi) with
    | (z, E) => match ai_cell h r with
      | some (.inl (ci, fs)) => match ai_put h r (.inl (ci, ai_setv fs k (.inl z))) with
        | some h => ai_genF l E h
        | none => none
      | _ => none
noncomputable def ai_kp : List (Nat × Int) → List (ai_X × ai_X)
  | [] => []
  | (j, v) :: l => ((0, .ofNat j), (0, v)) :: ai_kp l
noncomputable def ai_genA : List (Nat × Int × Int × List (Nat × Int)) → ai_H → Option ai_H
  | [], h => some h
  | (r, lo, hi, kp) :: l, h => match ai_cell h r with
    | some (.inr (.inl (ty, n, _))) => match ai_put h r (.inr (.inl (ty, n, lo, hi, ai_kp kp))) with
      | some h => ai_genA l h
      | none => none
    | _ => none
noncomputable def ai_gen (A : ai_A) (L : List ai_V) (G : ai_G) : Option (List ai_V × ai_G) := match G with
  | (E, h, c, s) => match ai_genL A.1 E L with
    | (E, L) => match ai_genF A.2.2.1 E h with
      | none => none
      | some (E, h) => match ai_genA A.2.2.2.1 h with
        | none => none
        | some h => some (ai_genU A.2.1 L, (E, h, c, s))
abbrev ai_Y : Type := List (Nat × ai_X)
noncomputable def ai_ylook : ai_Y → Nat → Option ai_X
  | [], _ => none
  | (t, x) :: l, u => match Nat.beq t u with
    | true => some x
    | false => ai_ylook l u
/-- a number within the wider state's: old symbols are the same, new ones stand for what is there now -/
noncomputable def ai_mx (base : Nat) (E : ai_E) (B : List (Nat × Int × Int)) (y : ai_Y) (x w : ai_X) : Option ai_Y := match Nat.blt w.1 base with
  | true => match ai_xeq x w with
    | true => some y
    | false => none
  | false => match ai_eq w.2 0 with
    | false => none
    | true => match ai_ylook y w.1 with
      | some z => match ai_xeq x z with
        | true => some y
        | false => none
      | none => match ai_iv E x, ai_look B w.1 with
        | (a, b), (c, d) => match ai_le c a, ai_le b d, ai_le ai_lo64 a, ai_le b ai_hi64, Nat.blt x.1 E.1 with
          | true, true, true, true, true => some ((w.1, x) :: y)
          | _, _, _, _, _ => none
noncomputable def ai_mv (base : Nat) (E : ai_E) (B : List (Nat × Int × Int)) (y : ai_Y) (v w : ai_V) : Option ai_Y := match w with
  | .inr (.inr none) => some y
  | .inl u => match v with
    | .inl x => ai_mx base E B y x u
    | _ => none
  | .inr (.inl u) => match v with
    | .inr (.inl x) => ai_mx base E B y x u
    | _ => none
  | .inr (.inr (some none)) => match v with
    | .inr (.inr (some none)) => some y
    | _ => none
  | .inr (.inr (some (some r))) => match v with
    | .inr (.inr (some (some q))) => match Nat.beq q r with
      | true => some y
      | false => none
    | _ => none
noncomputable def ai_mvs (base : Nat) (E : ai_E) (B : List (Nat × Int × Int)) : ai_Y → List ai_V → List ai_V → Option ai_Y
  | y, [], [] => some y
  | y, v :: l, w :: m => match ai_mv base E B y v w with
    | some y => ai_mvs base E B y l m
    | none => none
  | _, _, _ => none
noncomputable def ai_mos (base : Nat) (E : ai_E) (B : List (Nat × Int × Int)) : ai_Y → List (ai_X × ai_X) → List (ai_X × ai_X) → Option ai_Y
  | y, [], [] => some y
  | y, (i, v) :: l, (j, w) :: m => match ai_mx base E B y i j with
    | none => none
    | some y => match ai_mx base E B y v w with
      | some y => ai_mos base E B y l m
      | none => none
  | _, _, _ => none
noncomputable def ai_within (E : ai_E) (lo hi : Int) : List (ai_X × ai_X) → Bool
  | [] => true
  | (_, v) :: l => match ai_iv E v with
    | (a, b) => match ai_le lo a, ai_le b hi with
      | true, true => ai_within E lo hi l
      | _, _ => false
noncomputable def ai_mrs : List (Option Nat) → List (Option Nat) → Bool
  | [], [] => true
  | none :: l, none :: m => ai_mrs l m
  | some a :: l, some b :: m => match Nat.beq a b with
    | true => ai_mrs l m
    | false => false
  | _, _ => false
/-- places of an array whose numbers are known, and stay -/
noncomputable def ai_keeps (E : ai_E) (lo hi : Int) (l : List (ai_X × ai_X)) : List (ai_X × ai_X) → Bool
  | [] => true
  | ((0, .ofNat k), (0, w)) :: m => match ai_kget E lo hi (0, .ofNat k) l with
    | .inl z => match ai_xeq z (0, w) with
      | true => ai_keeps E lo hi l m
      | false => false
    | .inr _ => false
  | _ :: _ => false
noncomputable def ai_mc (base : Nat) (E : ai_E) (B : List (Nat × Int × Int)) (y : ai_Y) : Option ai_C → Option ai_C → Option ai_Y
  | none, none => some y
  | some (.inl (ci, fs)), some (.inl (cj, gs)) => match Nat.beq ci cj with
    | true => ai_mvs base E B y fs gs
    | false => none
  | some (.inr (.inl (ty, n, lo, hi, l))), some (.inr (.inl (tz, k, lo', hi', m))) => match Nat.beq ty tz, Nat.beq n k, ai_le lo' lo, ai_le hi hi' with
    | true, true, true, true => match m with
      | [] => match ai_within E lo' hi' l with
        | true => some y
        | false => none
      | _ :: _ => match ai_mos base E B y l m with
        | some y => some y
        | none => match Nat.blt 0 base, ai_keeps E lo hi l m, ai_within E lo' hi' l with
          | true, true, true => some y
          | _, _, _ => none
    | _, _, _, _ => none
  | some (.inr (.inr (ty, l))), some (.inr (.inr (tz, m))) => match Nat.beq ty tz, ai_mrs l m with
    | true, true => some y
    | _, _ => none
  | _, _ => none
noncomputable def ai_mt (base : Nat) (E : ai_E) (B : List (Nat × Int × Int)) : (d : Nat) → ai_Y → ai_T (Option ai_C) d → ai_T (Option ai_C) d → Option ai_Y
  | 0, y, a, b => ai_mc base E B y a b
  | d + 1, y, a, b => match ai_mt base E B d y a.1 b.1 with
    | some y => ai_mt base E B d y a.2 b.2
    | none => none
noncomputable def ai_in (base : Nat) (L S : List ai_V) (G : ai_G) (L' S' : List ai_V) (G' : ai_G) : Option ai_Y := match G, G' with
  | (E, (n, t), c, s), (E', (n', t'), c', s') => match Nat.beq n n', Nat.beq c c', Nat.beq s s' with
    | true, true, true => match ai_mvs base E E'.2.1 [] L L' with
      | none => none
      | some y => match ai_mvs base E E'.2.1 y S S' with
        | none => none
        | some y => ai_mt base E E'.2.1 9 y t t'
    | _, _, _ => none
noncomputable def ai_act : List ai_P → Nat → Option ai_P
  | [], _ => none
  | a :: l, pc => match Nat.beq a.1 pc with
    | true => some a
    | false => ai_act l pc
noncomputable def ai_near (up : Bool) (t : Nat) (y : ai_Y) : Bool := match ai_ylook y t with
  | some (u, c) => match Nat.beq u t with
    | true => match up with
      | true => ai_le 1 c
      | false => ai_le c (-1)
    | false => false
  | none => false
noncomputable def ai_many (go : ai_F → ai_Q) : List ai_F → ai_Q
  | [] => some []
  | f :: l => match l with
    | [] => go f
    | _ :: _ => match go f with
      | none => none
      | some a => match ai_many go l with
        | none => none
        | some b => some (a ++ b)
noncomputable def ai_each (go : ai_R × ai_G → ai_Q) : List (ai_R × ai_G) → ai_Q
  | [] => some []
  | f :: l => match l with
    | [] => go f
    | _ :: _ => match go f with
      | none => none
      | some a => match ai_each go l with
        | none => none
        | some b => some (a ++ b)
/-- every symbol of the wider state stands for something -/
noncomputable def ai_cov (y : ai_Y) (t : Nat) : Nat → Bool
  | 0 => true
  | k + 1 => match ai_ylook y t with
    | some _ => ai_cov y (t + 1) k
    | none => false
noncomputable def ai_mild : List (ai_R × ai_G) → Bool
  | [] => true
  | (x, _) :: l => match x with
    | .inl _ => false
    | .inr _ => ai_mild l
/-- a call that may be: one of a method of an object may throw, others not -/
noncomputable def ai_calm (i : ClassFile.Instr) (outs : List (ai_R × ai_G)) : Bool := match i with
  | .invokevirtual _ => true
  | .invokespecial _ => ai_mild outs
  | .invokestatic _ => ai_mild outs
  | _ => false
noncomputable def ai_ends (i : ClassFile.Instr) : Bool := match i with
  | .ireturn => true
  | .lreturn => true
  | .areturn => true
  | .return_ => true
  | .new _ => true
  | _ => false
noncomputable def ai_base (G : ai_G) : Nat := G.1.1
/-- a mark: what is made wider there; a local that is cut off at a number (behind it the mark is passed by); locals that must hold certain cells, else it is passed by -/
abbrev ai_AA : Type := ai_A × Option (Nat × Int) × List (Nat × Nat) × List (Nat × Int)
noncomputable def ai_guard (L : List ai_V) : List (Nat × Nat) → Bool
  | [] => true
  | (i, r) :: l => match ai_lget L i with
    | .inr (.inr (some (some q))) => match Nat.beq q r with
      | true => ai_guard L l
      | false => false
    | _ => false
/-- none of these locals is that number -/
noncomputable def ai_nots (L : List ai_V) : List (Nat × Int) → Bool
  | [] => true
  | (i, v) :: l => match ai_lget L i with
    | .inl (0, c) => match ai_eq c v with
      | true => false
      | false => ai_nots L l
    | _ => ai_nots L l
noncomputable def ai_past (act : List ai_P) (pc : Nat) (L : List ai_V) (cut : Option (Nat × Int)) : Bool := match cut with
  | none => false
  | some (i, _) => match ai_lget L i with
    | .inl (0, _) => match ai_act act pc with
      | some _ => true
      | none => false
    | _ => false
noncomputable def ai_pick (o : Option ai_AA) (skip : Bool) (act : List ai_P) (pc : Nat) (L : List ai_V) : Option ai_AA := match o with
  | none => none
  | some q => match skip with
    | true => none
    | false => match ai_guard L q.2.2.1, ai_nots L q.2.2.2 with
      | true, true => match ai_past act pc L q.2.1 with
        | true => none
        | false => some q
      | _, _ => none
noncomputable def ai_again (act : List ai_P) (pc : Nat) (L S : List ai_V) (G : ai_G) : Bool := match ai_act act pc with
  | none => false
  | some (_, base, t, up, L', S', G') => match ai_in base L S G L' S' G' with
    | some y => ai_near up t y
    | none => false
noncomputable def ai_opt (o : Option ai_E) (pc : Nat) (L S : List ai_V) (h : ai_H × Nat × Nat) : List ai_F := match o with
  | some E => [(pc, L, S, (E, h))]
  | none => []
noncomputable def ai_slit (cut : Option (Nat × Int)) (pc : Nat) (L S : List ai_V) (G : ai_G) : List ai_F := match cut with
  | none => [(pc, L, S, G)]
  | some (i, v) => match ai_getv L i with
    | some (.inl x) => match G with
      | (E, h) => ai_opt (ai_same E x (0, v)) pc (ai_setv L i (.inl (0, v))) S h ++ ai_opt (ai_differ E x (0, v)) pc L S h
    | _ => [(pc, L, S, G)]
noncomputable def ai_run (code : Nat → Option (ClassFile.Instr × Nat × Nat × Nat)) (hand : Nat → Nat → Option (Nat × Nat)) (bud : Nat × Nat) (cbud : Nat → Nat × Nat) (dflt : Nat → List ai_V) (kind : Nat → Nat → Nat) (callee : Nat → List ai_V → ai_G → ai_Q) (ann : Nat → Option ai_AA) : Nat → List ai_P → Bool → Nat → List ai_V → List ai_V → ai_G → ai_Q
  | 0, _, _, _, _, _, _ => none
  | n + 1, act, skip, pc, L, S, G => match ai_pick (ann pc) skip act pc L with
    | some (A, cut, _) => match ai_again act pc L S G with
      | true => some []
      | false => match ai_gen A L G with
        | none => none
        | some (L', G') => match ai_in (ai_base G) L S G L' S G' with
          | none => none
          | some y => match ai_cov y (ai_base G) (Nat.sub G'.1.1 (ai_base G)) with
            | false => none
            | true => match ai_lget L' A.2.2.2.2.1 with
              | .inl (t, 0) => ai_many (fun f => ai_run code hand bud cbud dflt kind callee ann n ((pc, ai_base G, t, A.2.2.2.2.2, L', S, G') :: act) true f.1 f.2.1 f.2.2.1 f.2.2.2) (ai_slit cut pc L' S G')
              | _ => none
    | none => match code pc with
      | none => none
      | some (i, len, a, b) => match ai_step i bud dflt kind pc (pc + len) a b L S G with
        | none => none
        | some (.inl fs) => ai_many (fun f => ai_run code hand bud cbud dflt kind callee ann n act false f.1 f.2.1 f.2.2.1 f.2.2.2) fs
        | some (.inr (.inl (mi, args, S', pc'))) => match G with
          | (E, h, c, s) => match cbud mi with
            | (bc, bs) => match Nat.ble (c + bc) bud.1, Nat.ble (s + bs) bud.2 with
              | true, true => match callee mi args (E, h, 0, 0) with
                | none => none
                | some outs => match ai_calm i outs with
                  | false => none
                  | true => ai_each (fun f => match f with
                    | (r, (E, h, _, _)) => match r with
                      | .inr none => ai_run code hand bud cbud dflt kind callee ann n act false pc' L S' (E, h, c + bc, s + bs)
                      | .inr (some v) => ai_run code hand bud cbud dflt kind callee ann n act false pc' L (v :: S') (E, h, c + bc, s + bs)
                      | .inl e => match hand pc e with
                        | some (k, pcn) => ai_run code hand bud cbud dflt kind callee ann n act false pcn (ai_lset L k (.inr (.inr none))) [] (E, h, c + bc, s + bs)
                        | none => some [(.inl e, (E, h, c + bc, s + bs))]) outs
              | _, _ => none
        | some (.inr (.inr r)) => match ai_ends i with
          | true => some [(r, G)]
          | false => none
/-- a method: its number of locals, code, handlers, room, marked places -/
abbrev ai_M : Type := Nat × (Nat → Option (ClassFile.Instr × Nat × Nat × Nat)) × (Nat → Nat → Option (Nat × Nat)) × (Nat × Nat) × (Nat → Option ai_AA)
noncomputable def ai_pad : Nat → List ai_V → Option (List ai_V)
  | 0, [] => some []
  | 0, _ :: _ => none
  | n + 1, [] => match ai_pad n [] with
    | some l => some (.inr (.inr none) :: l)
    | none => none
  | n + 1, v :: l => match ai_pad n l, ai_one v with
    | some l, true => some (v :: l)
    | _, _ => none
noncomputable def ai_meth (prog : Nat → Option ai_M) (cbud : Nat → Nat × Nat) (dflt : Nat → List ai_V) (kind : Nat → Nat → Nat) (fuel : Nat) : Nat → Nat → List ai_V → ai_G → ai_Q
  | 0, _, _, _ => none
  | d + 1, mi, args, G => match prog mi with
    | none => none
    | some (nl, code, hand, bud, ann) => match ai_pad nl args with
      | none => none
      | some L => ai_run code hand bud cbud dflt kind (ai_meth prog cbud dflt kind fuel d) ann fuel [] false 0 L [] G
noncomputable def ai_seek (pc : Nat) : List ai_I → Option (ClassFile.Instr × Nat × Nat × Nat)
  | [] => none
  | (q, i) :: l => match Nat.beq q pc with
    | true => some i
    | false => ai_seek pc l
noncomputable def ai_code (d : Nat) (t : ai_T (List ai_I) d) (pc : Nat) : Option (ClassFile.Instr × Nat × Nat × Nat) := ai_seek pc (ai_tget d t (Nat.div pc 16))
noncomputable def ai_hand (l : List (Nat × Nat × Nat × Nat × Nat)) (pc e : Nat) : Option (Nat × Nat) := match l with
  | [] => none
  | (a, b, x, k, q) :: l => match Nat.ble a pc, Nat.blt pc b, Nat.beq x e with
    | true, true, true => some (k, q)
    | _, _, _ => ai_hand l pc e
noncomputable def ai_mark (l : List (Nat × ai_AA)) (pc : Nat) : Option ai_AA := match l with
  | [] => none
  | (q, A) :: l => match Nat.beq q pc with
    | true => some A
    | false => ai_mark l pc
end
section
/-! WHAT THE DOMAIN SAYS: pure rows -/
theorem ai_tget_set {α : Type} (v : α) : ∀ (d : Nat) (t : ai_T α d) (k j : Nat), k < 2 ^ d → j < 2 ^ d → ai_tget d (ai_tset d t k v) j = if j = k then v else ai_tget d t j := by
  intro d
  induction d with
  | zero =>
    intro t k j hk hj
    have h1 : k = 0 := by omega
    have h2 : j = 0 := by omega
    subst h1; subst h2
    simp [ai_tget, ai_tset]
  | succ d ih =>
    intro t k j hk hj
    obtain ⟨a, b⟩ := t
    have hk' : k / 2 < 2 ^ d := by omega
    have hj' : j / 2 < 2 ^ d := by omega
    have ek : Nat.mod k 2 = k % 2 := rfl
    have ej : Nat.mod j 2 = j % 2 := rfl
    have dk : Nat.div k 2 = k / 2 := rfl
    have dj : Nat.div j 2 = j / 2 := rfl
    rcases Nat.mod_two_eq_zero_or_one k with hk2 | hk2 <;> rcases Nat.mod_two_eq_zero_or_one j with hj2 | hj2 <;>
      simp only [ai_tget, ai_tset, ek, ej, dk, dj, hk2, hj2]
    · rw [ih a (k / 2) (j / 2) hk' hj']
      by_cases e : j = k
      · subst e; simp
      · rw [if_neg e, if_neg (by omega)]
    · rw [if_neg (by omega)]
    · rw [if_neg (by omega)]
    · rw [ih b (k / 2) (j / 2) hk' hj']
      by_cases e : j = k
      · subst e; simp
      · rw [if_neg e, if_neg (by omega)]
theorem ai_tall_get {α : Type} (p : α → Bool) : ∀ (d : Nat) (t : ai_T α d) (k : Nat), ai_tall p d t = true → p (ai_tget d t k) = true := by
  intro d
  induction d with
  | zero => intro t k h; exact h
  | succ d ih =>
    intro t k h
    have h1 : ai_tall p d t.1 = true ∧ ai_tall p d t.2 = true := by
      unfold ai_tall at h
      cases e : ai_tall p d t.1 with
      | true => rw [e] at h; exact ⟨rfl, h⟩
      | false => rw [e] at h; cases h
    unfold ai_tget
    cases Nat.mod k 2 with
    | zero => exact ih _ _ h1.1
    | succ n => exact ih _ _ h1.2
theorem ai_le_iff {a b : Int} : ai_le a b = true ↔ a ≤ b := by
  unfold ai_le
  constructor
  · intro h
    cases e : b - a with
    | ofNat n => have : b - a = (n : Int) := e; omega
    | negSucc n => rw [e] at h; cases h
  · intro h
    cases e : b - a with
    | ofNat n => rfl
    | negSucc n => have : b - a = Int.negSucc n := e; omega
theorem ai_le_not {a b : Int} : ai_le a b = false ↔ b < a := by
  cases e : ai_le a b with
  | true => have := ai_le_iff.mp e; constructor <;> intro h; cases h; omega
  | false =>
    constructor
    · intro _
      by_cases h : b < a
      · exact h
      · rw [ai_le_iff.mpr (by omega)] at e; cases e
    · intro _; rfl
theorem ai_eq_iff {a b : Int} : ai_eq a b = true ↔ a = b := by
  cases a with
  | ofNat a => cases b with
    | ofNat b =>
      show Nat.beq a b = true ↔ _
      rw [Nat.beq_eq]
      exact ⟨fun h => by rw [h], fun h => Int.ofNat.inj h⟩
    | negSucc b =>
      refine ⟨?_, ?_⟩
      · intro h; cases h
      · intro h; cases h
  | negSucc a => cases b with
    | ofNat b =>
      refine ⟨?_, ?_⟩
      · intro h; cases h
      · intro h; cases h
    | negSucc b =>
      show Nat.beq a b = true ↔ _
      rw [Nat.beq_eq]
      exact ⟨fun h => by rw [h], fun h => Int.negSucc.inj h⟩
theorem ai_eq_not {a b : Int} : ai_eq a b = false ↔ a ≠ b := by
  cases e : ai_eq a b with
  | true => have := ai_eq_iff.mp e; simp [this]
  | false => constructor
             · intro _ h; rw [ai_eq_iff.mpr h] at e; cases e
             · intro _; rfl
theorem ai_xeq_iff {x y : ai_X} : ai_xeq x y = true ↔ x = y := by
  obtain ⟨t, c⟩ := x
  obtain ⟨u, d⟩ := y
  show (match Nat.beq t u with | true => ai_eq c d | false => false) = true ↔ _
  cases e : Nat.beq t u with
  | true =>
    have h := Nat.eq_of_beq_eq_true e
    subst h
    show ai_eq c d = true ↔ _
    rw [ai_eq_iff]
    simp
  | false =>
    have h := Nat.ne_of_beq_eq_false e
    show false = true ↔ _
    simp [h]
theorem ai_min_le {a b : Int} : ai_min a b ≤ a ∧ ai_min a b ≤ b ∧ (ai_min a b = a ∨ ai_min a b = b) := by
  unfold ai_min
  cases e : ai_le a b with
  | true => have := ai_le_iff.mp e; exact ⟨Int.le_refl _, this, Or.inl rfl⟩
  | false => have := ai_le_not.mp e; exact ⟨Int.le_of_lt this, Int.le_refl _, Or.inr rfl⟩
theorem ai_max_ge {a b : Int} : a ≤ ai_max a b ∧ b ≤ ai_max a b ∧ (ai_max a b = a ∨ ai_max a b = b) := by
  unfold ai_max
  cases e : ai_le a b with
  | true => have := ai_le_iff.mp e; exact ⟨this, Int.le_refl _, Or.inr rfl⟩
  | false => have := ai_le_not.mp e; exact ⟨Int.le_refl _, Int.le_of_lt this, Or.inl rfl⟩
/-! numbers -/
noncomputable def ai_vx (r : Nat → Int) (x : ai_X) : Int := r x.1 + x.2
/-- the symbols' bounds hold, and what is said of how they came to be -/
noncomputable def ai_gE (r : Nat → Int) (E : ai_E) : Prop := r 0 = 0 ∧ 0 < E.1 ∧ (∀ t, t < E.1 → ai_lo64 ≤ r t ∧ r t ≤ ai_hi64) ∧ (∀ q ∈ E.2.1, q.1 < E.1 ∧ q.2.1 ≤ r q.1 ∧ r q.1 ≤ q.2.2) ∧ ∀ q ∈ E.2.2, q.2.1 < E.1 ∧ q.2.2.1.1 < E.1 ∧ q.2.2.2.1 < E.1 ∧ r q.2.1 = ai_op q.1 (ai_vx r q.2.2.1) (ai_vx r q.2.2.2)
noncomputable def ai_ext {α : Type} (N : Nat) (r r' : Nat → α) : Prop := ∀ t, t < N → r' t = r t
theorem ai_ext.rfl' {α : Type} {N : Nat} {r : Nat → α} : ai_ext N r r := fun _ _ => rfl
theorem ai_ext.trans {α : Type} {N M : Nat} {a b c : Nat → α} (h : ai_ext N a b) (g : ai_ext M b c) (hN : N ≤ M) : ai_ext N a c := fun t ht => (g t (by omega)).trans (h t ht)
theorem ai_ext.mono {α : Type} {N M : Nat} {a b : Nat → α} (h : ai_ext M a b) (hN : N ≤ M) : ai_ext N a b := fun t ht => h t (by omega)
theorem ai_ext.vx {N : Nat} {r r' : Nat → Int} (h : ai_ext N r r') {x : ai_X} (hx : x.1 < N) : ai_vx r' x = ai_vx r x := by
  unfold ai_vx
  rw [h _ hx]
theorem ai_look_ok {r : Nat → Int} {l : List (Nat × Int × Int)} (h : ∀ q ∈ l, q.2.1 ≤ r q.1 ∧ r q.1 ≤ q.2.2) (t : Nat) (hr : ai_lo64 ≤ r t ∧ r t ≤ ai_hi64) : (ai_look l t).1 ≤ r t ∧ r t ≤ (ai_look l t).2 := by
  induction l with
  | nil => exact hr
  | cons q l ih =>
    obtain ⟨u, lo, hi⟩ := q
    unfold ai_look
    cases e : Nat.beq u t with
    | true =>
      have e := Nat.eq_of_beq_eq_true e
      subst e
      exact h _ List.mem_cons_self
    | false => exact ih (fun q hq => h q (List.mem_cons_of_mem _ hq))
theorem ai_iv_ok {r : Nat → Int} {E : ai_E} (hE : ai_gE r E) {x : ai_X} (hx : x.1 < E.1) : (ai_iv E x).1 ≤ ai_vx r x ∧ ai_vx r x ≤ (ai_iv E x).2 := by
  obtain ⟨t, c⟩ := x
  cases t with
  | zero =>
    have h0 : ai_vx r (0, c) = c := by
      show r 0 + c = c
      rw [hE.1]; omega
    rw [h0]
    exact ⟨Int.le_refl _, Int.le_refl _⟩
  | succ t =>
    have h := ai_look_ok (r := r) (l := E.2.1) (fun q hq => (hE.2.2.2.1 q hq).2) (t + 1) (hE.2.2.1 _ hx)
    show (ai_look E.2.1 (t + 1)).1 + c ≤ r (t + 1) + c ∧ r (t + 1) + c ≤ (ai_look E.2.1 (t + 1)).2 + c
    omega
/-- a new symbol's number -/
noncomputable def ai_upd (r : Nat → Int) (N : Nat) (v : Int) : Nat → Int := fun t => if t = N then v else r t
theorem ai_upd_ext (r : Nat → Int) (N : Nat) (v : Int) : ai_ext N r (ai_upd r N v) := fun t ht => if_neg (by omega)
theorem ai_upd_at (r : Nat → Int) (N : Nat) (v : Int) : ai_upd r N v N = v := if_pos rfl
theorem ai_gE.push {r : Nat → Int} {N : Nat} {l : List (Nat × Int × Int)} {ds : List ai_D} (hE : ai_gE r (N, l, ds)) {v lo hi : Int} (h1 : lo ≤ v) (h2 : v ≤ hi) (hv : ai_lo64 ≤ v ∧ v ≤ ai_hi64) : ai_gE (ai_upd r N v) (N + 1, (N, lo, hi) :: l, ds) := by
  obtain ⟨e0, e1, e2, e3, e4⟩ := hE
  have e1 : 0 < N := e1
  have hx := ai_upd_ext r N v
  refine ⟨?_, Nat.succ_pos _, ?_, ?_, ?_⟩
  · rw [hx 0 e1]; exact e0
  · intro t ht
    by_cases e : t = N
    · subst e; rw [ai_upd_at]; exact hv
    · have ht : t < N + 1 := ht
      rw [hx t (by omega)]; exact e2 t (by omega)
  · intro q hq
    rcases List.mem_cons.mp hq with rfl | hq
    · refine ⟨Nat.lt_succ_self _, ?_⟩
      show lo ≤ ai_upd r N v N ∧ ai_upd r N v N ≤ hi
      rw [ai_upd_at]; exact ⟨h1, h2⟩
    · obtain ⟨g1, g2⟩ := e3 q hq
      have g1 : q.1 < N := g1
      refine ⟨Nat.lt_succ_of_lt g1, ?_⟩
      rw [hx _ g1]; exact g2
  · intro q hq
    obtain ⟨g1, g2, g3, g4⟩ := e4 q hq
    refine ⟨Nat.lt_succ_of_lt g1, Nat.lt_succ_of_lt g2, Nat.lt_succ_of_lt g3, ?_⟩
    rw [hx _ g1, hx.vx g2, hx.vx g3]; exact g4
theorem ai_gE.def' {r : Nat → Int} {N : Nat} {l : List (Nat × Int × Int)} {ds : List ai_D} (hE : ai_gE r (N, l, ds)) {d : ai_D} (h : d.2.1 < N ∧ d.2.2.1.1 < N ∧ d.2.2.2.1 < N ∧ r d.2.1 = ai_op d.1 (ai_vx r d.2.2.1) (ai_vx r d.2.2.2)) : ai_gE r (N, l, d :: ds) := by
  obtain ⟨e0, e1, e2, e3, e4⟩ := hE
  refine ⟨e0, e1, e2, e3, fun q hq => ?_⟩
  rcases List.mem_cons.mp hq with rfl | hq
  · exact h
  · exact e4 q hq
theorem ai_find_ok {o : Nat} {x y : ai_X} {t : Nat} : ∀ {l : List ai_D}, ai_find o x y l = some t → (o, t, x, y) ∈ l
  | [], h => by cases h
  | (q, u, a, b) :: l, h => by
    unfold ai_find at h
    cases e1 : Nat.beq o q with
    | false => rw [e1] at h; exact List.mem_cons_of_mem _ (ai_find_ok h)
    | true => cases e2 : ai_xeq x a with
      | false => rw [e1, e2] at h; exact List.mem_cons_of_mem _ (ai_find_ok h)
      | true => cases e3 : ai_xeq y b with
        | false => rw [e1, e2, e3] at h; exact List.mem_cons_of_mem _ (ai_find_ok h)
        | true =>
          rw [e1, e2, e3] at h
          have := Nat.eq_of_beq_eq_true e1
          have h2 := ai_xeq_iff.mp e2
          have h3 := ai_xeq_iff.mp e3
          cases h
          subst this; subst h2; subst h3
          exact List.mem_cons_self
/-- a number that an instruction gives is within -/
noncomputable def ai_small (v : Int) : Prop := ai_lo64 ≤ v ∧ v ≤ ai_hi64
theorem ai_def_ok {r : Nat → Int} {E : ai_E} (hE : ai_gE r E) {o : Nat} {x y : ai_X} (hx : x.1 < E.1) (hy : y.1 < E.1) {b : Int × Int} (hb : b.1 ≤ ai_op o (ai_vx r x) (ai_vx r y) ∧ ai_op o (ai_vx r x) (ai_vx r y) ≤ b.2) (hs : ai_small (ai_op o (ai_vx r x) (ai_vx r y))) {z : ai_X} {E' : ai_E} (h : ai_def E o x y b = (z, E')) :
    ∃ r', ai_ext E.1 r r' ∧ E.1 ≤ E'.1 ∧ ai_gE r' E' ∧ z.1 < E'.1 ∧ ai_vx r' z = ai_op o (ai_vx r x) (ai_vx r y) := by
  unfold ai_def at h
  cases e : ai_find o x y E.2.2 with
  | some t =>
    rw [e] at h
    cases h
    have hm := ai_find_ok e
    obtain ⟨g1, -, -, g4⟩ := hE.2.2.2.2 _ hm
    refine ⟨r, ai_ext.rfl', Nat.le_refl _, hE, g1, ?_⟩
    show r t + 0 = _
    rw [g4]; exact Int.add_zero _
  | none =>
    rw [e] at h
    dsimp only at h
    cases eb : ai_eq b.1 b.2 with
    | true =>
      rw [eb] at h
      cases h
      have eb := ai_eq_iff.mp eb
      refine ⟨r, ai_ext.rfl', Nat.le_refl _, hE, hE.2.1, ?_⟩
      show r 0 + b.1 = _
      rw [hE.1]
      omega
    | false =>
    rw [eb] at h
    obtain ⟨N, l, ds⟩ := E
    cases h
    have hxe := ai_upd_ext r N (ai_op o (ai_vx r x) (ai_vx r y))
    have hp := hE.push hb.1 hb.2 hs
    refine ⟨_, hxe, Nat.le_succ _, hp.def' (d := (o, N, x, y)) ⟨Nat.lt_succ_self _, Nat.lt_succ_of_lt hx, Nat.lt_succ_of_lt hy, ?_⟩, Nat.lt_succ_self _, ?_⟩
    · show ai_upd r N _ N = ai_op o (ai_vx _ x) (ai_vx _ y)
      rw [ai_upd_at, hxe.vx hx, hxe.vx hy]
    · show ai_upd r N _ N + 0 = _
      rw [ai_upd_at]; exact Int.add_zero _
theorem ai_new_ok {r : Nat → Int} {E : ai_E} (hE : ai_gE r E) {b : Int × Int} {v : Int} (hb : b.1 ≤ v ∧ v ≤ b.2) (hs : ai_small v) {z : ai_X} {E' : ai_E} (h : ai_new E b = (z, E')) :
    ∃ r', ai_ext E.1 r r' ∧ E.1 ≤ E'.1 ∧ ai_gE r' E' ∧ z.1 < E'.1 ∧ ai_vx r' z = v := by
  obtain ⟨N, l, ds⟩ := E
  cases h
  refine ⟨_, ai_upd_ext r N v, Nat.le_succ _, hE.push hb.1 hb.2 hs, Nat.lt_succ_self _, ?_⟩
  show ai_upd r N _ N + 0 = _
  rw [ai_upd_at]; exact Int.add_zero _
end
section
/-! WHAT AN INSTRUCTION DOES: on the machine's numbers, on whole numbers, and its bounds -/
theorem ai_bm32 (u : Int) : ai_lo32 ≤ u.bmod 4294967296 ∧ u.bmod 4294967296 ≤ ai_hi32 := by
  have h1 := Int.le_bmod (x := u) (m := 4294967296) (by decide)
  have h2 := Int.bmod_lt (x := u) (m := 4294967296) (by decide)
  unfold ai_lo32 ai_hi32
  omega
theorem ai_bm64 (u : Int) : ai_lo64 ≤ u.bmod 18446744073709551616 ∧ u.bmod 18446744073709551616 ≤ ai_hi64 := by
  have h1 := Int.le_bmod (x := u) (m := 18446744073709551616) (by decide)
  have h2 := Int.bmod_lt (x := u) (m := 18446744073709551616) (by decide)
  unfold ai_lo64 ai_hi64
  omega
theorem ai_bm32_id {u : Int} (h1 : ai_lo32 ≤ u) (h2 : u ≤ ai_hi32) : u.bmod 4294967296 = u := by
  unfold ai_lo32 at h1
  unfold ai_hi32 at h2
  exact Int.bmod_eq_of_le (by omega) (by omega)
theorem ai_bm64_id {u : Int} (h1 : ai_lo64 ≤ u) (h2 : u ≤ ai_hi64) : u.bmod 18446744073709551616 = u := by
  unfold ai_lo64 at h1
  unfold ai_hi64 at h2
  exact Int.bmod_eq_of_le (by omega) (by omega)
theorem ai_fit32 {lo hi u : Int} (h1 : lo ≤ u) (h2 : u ≤ hi) : (ai_fit false lo hi).1 ≤ u.bmod 4294967296 ∧ u.bmod 4294967296 ≤ (ai_fit false lo hi).2 := by
  have hb := ai_bm32 u
  unfold ai_fit
  cases e1 : ai_le ai_lo32 lo with
  | false => exact hb
  | true => cases e2 : ai_le hi ai_hi32 with
    | false => exact hb
    | true =>
      have e1 := ai_le_iff.mp e1
      have e2 := ai_le_iff.mp e2
      show lo ≤ _ ∧ _ ≤ hi
      rw [ai_bm32_id (by omega) (by omega)]
      exact ⟨h1, h2⟩
theorem ai_fit64 {lo hi u : Int} (h1 : lo ≤ u) (h2 : u ≤ hi) : (ai_fit true lo hi).1 ≤ u.bmod 18446744073709551616 ∧ u.bmod 18446744073709551616 ≤ (ai_fit true lo hi).2 := by
  have hb := ai_bm64 u
  unfold ai_fit
  cases e1 : ai_le ai_lo64 lo with
  | false => exact hb
  | true => cases e2 : ai_le hi ai_hi64 with
    | false => exact hb
    | true =>
      have e1 := ai_le_iff.mp e1
      have e2 := ai_le_iff.mp e2
      show lo ≤ _ ∧ _ ≤ hi
      rw [ai_bm64_id (by omega) (by omega)]
      exact ⟨h1, h2⟩
/-- a product lies between the products of the ends -/
theorem ai_between {a b c d x y : Int} (h1 : a ≤ x) (h2 : x ≤ b) (h3 : c ≤ y) (h4 : y ≤ d) : (a * c ≤ x * y ∨ a * d ≤ x * y ∨ b * c ≤ x * y ∨ b * d ≤ x * y) ∧ (x * y ≤ a * c ∨ x * y ≤ a * d ∨ x * y ≤ b * c ∨ x * y ≤ b * d) := by
  have key : ∀ {p q z w : Int}, p ≤ z → z ≤ q → (p * w ≤ z * w ∨ q * w ≤ z * w) ∧ (z * w ≤ p * w ∨ z * w ≤ q * w) := by
    intro p q z w hp hq
    rcases Int.le_total 0 w with hw | hw
    · exact ⟨Or.inl (Int.mul_le_mul_of_nonneg_right hp hw), Or.inr (Int.mul_le_mul_of_nonneg_right hq hw)⟩
    · exact ⟨Or.inr (Int.mul_le_mul_of_nonpos_right hq hw), Or.inl (Int.mul_le_mul_of_nonpos_right hp hw)⟩
  have kx := key (w := y) h1 h2
  have ka := key (w := a) h3 h4
  have kb := key (w := b) h3 h4
  rw [Int.mul_comm c a, Int.mul_comm y a, Int.mul_comm d a] at ka
  rw [Int.mul_comm c b, Int.mul_comm y b, Int.mul_comm d b] at kb
  obtain ⟨x1, x2⟩ := kx
  obtain ⟨a1, a2⟩ := ka
  obtain ⟨b1, b2⟩ := kb
  constructor
  · rcases x1 with x1 | x1
    · rcases a1 with a1 | a1
      · exact Or.inl (Int.le_trans a1 x1)
      · exact Or.inr (Or.inl (Int.le_trans a1 x1))
    · rcases b1 with b1 | b1
      · exact Or.inr (Or.inr (Or.inl (Int.le_trans b1 x1)))
      · exact Or.inr (Or.inr (Or.inr (Int.le_trans b1 x1)))
  · rcases x2 with x2 | x2
    · rcases a2 with a2 | a2
      · exact Or.inl (Int.le_trans x2 a2)
      · exact Or.inr (Or.inl (Int.le_trans x2 a2))
    · rcases b2 with b2 | b2
      · exact Or.inr (Or.inr (Or.inl (Int.le_trans x2 b2)))
      · exact Or.inr (Or.inr (Or.inr (Int.le_trans x2 b2)))
theorem ai_min4 {p q r s u : Int} (h : p ≤ u ∨ q ≤ u ∨ r ≤ u ∨ s ≤ u) : ai_min (ai_min p q) (ai_min r s) ≤ u := by
  have h1 := ai_min_le (a := p) (b := q)
  have h2 := ai_min_le (a := r) (b := s)
  have h3 := ai_min_le (a := ai_min p q) (b := ai_min r s)
  omega
theorem ai_max4 {p q r s u : Int} (h : u ≤ p ∨ u ≤ q ∨ u ≤ r ∨ u ≤ s) : u ≤ ai_max (ai_max p q) (ai_max r s) := by
  have h1 := ai_max_ge (a := p) (b := q)
  have h2 := ai_max_ge (a := r) (b := s)
  have h3 := ai_max_ge (a := ai_max p q) (b := ai_max r s)
  omega
theorem ai_rmul32 {a b c d x y : Int} (h1 : a ≤ x) (h2 : x ≤ b) (h3 : c ≤ y) (h4 : y ≤ d) : (ai_rmul false a b c d).1 ≤ (x * y).bmod 4294967296 ∧ (x * y).bmod 4294967296 ≤ (ai_rmul false a b c d).2 := by
  obtain ⟨k1, k2⟩ := ai_between h1 h2 h3 h4
  exact ai_fit32 (ai_min4 k1) (ai_max4 k2)
theorem ai_rmul64 {a b c d x y : Int} (h1 : a ≤ x) (h2 : x ≤ b) (h3 : c ≤ y) (h4 : y ≤ d) : (ai_rmul true a b c d).1 ≤ (x * y).bmod 18446744073709551616 ∧ (x * y).bmod 18446744073709551616 ≤ (ai_rmul true a b c d).2 := by
  obtain ⟨k1, k2⟩ := ai_between h1 h2 h3 h4
  exact ai_fit64 (ai_min4 k1) (ai_max4 k2)
theorem ai_abs_of (a : Int) : ai_abs a = (a.natAbs : Int) := by
  cases a with
  | ofNat n => rfl
  | negSucc n => rfl
theorem ai_tdiv_abs (x y : Int) : (x.tdiv y).natAbs ≤ x.natAbs := by
  rw [Int.natAbs_tdiv]
  exact Nat.div_le_self _ _
theorem ai_tdiv_bd {a b x y : Int} (h1 : a ≤ x) (h2 : x ≤ b) : -(ai_max (ai_abs a) (ai_abs b)) ≤ x.tdiv y ∧ x.tdiv y ≤ ai_max (ai_abs a) (ai_abs b) := by
  have h := ai_tdiv_abs x y
  have g := ai_max_ge (a := ai_abs a) (b := ai_abs b)
  rw [ai_abs_of, ai_abs_of] at g ⊢
  omega
theorem ai_rdiv32 {a b c x y : Int} (h1 : a ≤ x) (h2 : x ≤ b) (h3 : c ≤ y) (hb : x ≤ ai_hi32) : (ai_rdiv false a b c).1 ≤ (x.tdiv y).bmod 4294967296 ∧ (x.tdiv y).bmod 4294967296 ≤ (ai_rdiv false a b c).2 := by
  have h := ai_tdiv_bd (y := y) h1 h2
  unfold ai_rdiv
  cases e1 : ai_le 0 a with
  | false => exact ai_fit32 h.1 h.2
  | true => cases e2 : ai_le 1 c with
    | false => exact ai_fit32 h.1 h.2
    | true =>
      have e1 := ai_le_iff.mp e1
      have e2 := ai_le_iff.mp e2
      have k1 : 0 ≤ x.tdiv y := Int.tdiv_nonneg (by omega) (by omega)
      have k2 : x.tdiv y ≤ x := Int.tdiv_le_self _ (by omega)
      show 0 ≤ _ ∧ _ ≤ b
      rw [ai_bm32_id (by unfold ai_lo32; omega) (by omega)]
      omega
theorem ai_rdiv64 {a b c x y : Int} (h1 : a ≤ x) (h2 : x ≤ b) (h3 : c ≤ y) (hb : x ≤ ai_hi64) : (ai_rdiv true a b c).1 ≤ (x.tdiv y).bmod 18446744073709551616 ∧ (x.tdiv y).bmod 18446744073709551616 ≤ (ai_rdiv true a b c).2 := by
  have h := ai_tdiv_bd (y := y) h1 h2
  unfold ai_rdiv
  cases e1 : ai_le 0 a with
  | false => exact ai_fit64 h.1 h.2
  | true => cases e2 : ai_le 1 c with
    | false => exact ai_fit64 h.1 h.2
    | true =>
      have e1 := ai_le_iff.mp e1
      have e2 := ai_le_iff.mp e2
      have k1 : 0 ≤ x.tdiv y := Int.tdiv_nonneg (by omega) (by omega)
      have k2 : x.tdiv y ≤ x := Int.tdiv_le_self _ (by omega)
      show 0 ≤ _ ∧ _ ≤ b
      rw [ai_bm64_id (by unfold ai_lo64; omega) (by omega)]
      omega
theorem ai_sub_tdiv (x y : Int) : x - x.tdiv y * y = x.tmod y := by
  have h := Int.tmod_add_mul_tdiv x y
  rw [Int.mul_comm] at h
  omega
theorem ai_tmod_nn {x y : Int} (h : 0 ≤ x) : 0 ≤ x.tmod y ∧ x.tmod y ≤ x := by
  refine ⟨Int.tmod_nonneg _ h, ?_⟩
  have h1 := Int.natAbs_tmod x y
  have h2 := Nat.mod_le x.natAbs y.natAbs
  omega
theorem ai_tmod_lt {x y : Int} (h : 1 ≤ y) : 1 - y ≤ x.tmod y ∧ x.tmod y ≤ y - 1 := by
  have h1 := Int.natAbs_tmod x y
  have h2 := Nat.mod_lt x.natAbs (show y.natAbs > 0 by omega)
  omega
theorem ai_tmod_abs (x y : Int) : (x.tmod y).natAbs ≤ x.natAbs := by
  rw [Int.natAbs_tmod]
  exact Nat.mod_le _ _
theorem ai_rrem32 {a b c d x y : Int} (h1 : a ≤ x) (h2 : x ≤ b) (h3 : c ≤ y) (h4 : y ≤ d) (hb : x ≤ ai_hi32) : (ai_rrem false a b c d).1 ≤ (x - x.tdiv y * y).bmod 4294967296 ∧ (x - x.tdiv y * y).bmod 4294967296 ≤ (ai_rrem false a b c d).2 := by
  rw [ai_sub_tdiv]
  unfold ai_rrem
  cases e1 : ai_le 0 a with
  | true =>
    have e1 := ai_le_iff.mp e1
    have k := ai_tmod_nn (x := x) (y := y) (by omega)
    rw [ai_bm32_id (by unfold ai_lo32; omega) (by omega)]
    cases e2 : ai_le 1 c with
    | true =>
      have e2 := ai_le_iff.mp e2
      have k2 := ai_tmod_lt (x := x) (y := y) (by omega)
      have k3 := ai_min_le (a := b) (b := d - 1)
      show 0 ≤ _ ∧ _ ≤ ai_min b (d - 1)
      omega
    | false =>
      show 0 ≤ _ ∧ _ ≤ b
      omega
  | false => cases e2 : ai_le 1 c with
    | true =>
      have e2 := ai_le_iff.mp e2
      have k2 := ai_tmod_lt (x := x) (y := y) (by omega)
      exact ai_fit32 (by omega) (by omega)
    | false => exact ai_bm32 _
theorem ai_rrem64 {a b c d x y : Int} (h1 : a ≤ x) (h2 : x ≤ b) (h3 : c ≤ y) (h4 : y ≤ d) (hb : x ≤ ai_hi64) : (ai_rrem true a b c d).1 ≤ (x - x.tdiv y * y).bmod 18446744073709551616 ∧ (x - x.tdiv y * y).bmod 18446744073709551616 ≤ (ai_rrem true a b c d).2 := by
  rw [ai_sub_tdiv]
  unfold ai_rrem
  cases e1 : ai_le 0 a with
  | true =>
    have e1 := ai_le_iff.mp e1
    have k := ai_tmod_nn (x := x) (y := y) (by omega)
    rw [ai_bm64_id (by unfold ai_lo64; omega) (by omega)]
    cases e2 : ai_le 1 c with
    | true =>
      have e2 := ai_le_iff.mp e2
      have k2 := ai_tmod_lt (x := x) (y := y) (by omega)
      have k3 := ai_min_le (a := b) (b := d - 1)
      show 0 ≤ _ ∧ _ ≤ ai_min b (d - 1)
      omega
    | false =>
      show 0 ≤ _ ∧ _ ≤ b
      omega
  | false => cases e2 : ai_le 1 c with
    | true =>
      have e2 := ai_le_iff.mp e2
      have k2 := ai_tmod_lt (x := x) (y := y) (by omega)
      exact ai_fit64 (by omega) (by omega)
    | false => exact ai_bm64 _
end
section
/-! BITS, and all instructions of two numbers -/
theorem ai_i32 (x : Int32) : ai_lo32 ≤ x.toInt ∧ x.toInt ≤ ai_hi32 := by
  have h1 := x.le_toInt
  have h2 := x.toInt_lt
  unfold ai_lo32 ai_hi32
  omega
theorem ai_i64 (x : Int64) : ai_lo64 ≤ x.toInt ∧ x.toInt ≤ ai_hi64 := by
  have h1 := x.le_toInt
  have h2 := x.toInt_lt
  unfold ai_lo64 ai_hi64
  omega
theorem ai_small32 {v : Int} (h : ai_lo32 ≤ v ∧ v ≤ ai_hi32) : ai_small v := by
  unfold ai_lo32 ai_hi32 at h
  unfold ai_small ai_lo64 ai_hi64
  omega
/-- no less than 0: the number is that of the bits -/
theorem ai_nn {x : Int32} (h : 0 ≤ x.toInt) : x.toInt = (x.toBitVec.toNat : Int) ∧ x.toBitVec.toNat < 2147483648 := by
  have h1 : x.toInt = x.toBitVec.toInt := rfl
  rw [h1, BitVec.toInt_eq_toNat_cond] at h ⊢
  have h2 := x.toBitVec.isLt
  split
  · refine ⟨rfl, by omega⟩
  · rename_i hh
    rw [if_neg hh] at h
    omega
theorem ai_of_nat {x : Int32} (h : x.toBitVec.toNat < 2147483648) : x.toInt = (x.toBitVec.toNat : Int) := by
  show x.toBitVec.toInt = _
  rw [BitVec.toInt_eq_toNat_cond, if_pos (by omega)]
theorem ai_and_bits (x y : Int32) : (x &&& y).toBitVec.toNat = x.toBitVec.toNat &&& y.toBitVec.toNat := by
  rw [Int32.toBitVec_and, BitVec.toNat_and]
theorem ai_or_bits (x y : Int32) : (x ||| y).toBitVec.toNat = x.toBitVec.toNat ||| y.toBitVec.toNat := by
  rw [Int32.toBitVec_or, BitVec.toNat_or]
theorem ai_xor_bits (x y : Int32) : (x ^^^ y).toBitVec.toNat = x.toBitVec.toNat ^^^ y.toBitVec.toNat := by
  rw [Int32.toBitVec_xor, BitVec.toNat_xor]
theorem ai_and_l {x y : Int32} (h : 0 ≤ x.toInt) : 0 ≤ (x &&& y).toInt ∧ (x &&& y).toInt ≤ x.toInt := by
  obtain ⟨h1, h2⟩ := ai_nn h
  have h3 := ai_and_bits x y
  have h4 := Nat.and_le_left (n := x.toBitVec.toNat) (m := y.toBitVec.toNat)
  have h5 := ai_of_nat (x := x &&& y) (by omega)
  omega
theorem ai_and_r {x y : Int32} (h : 0 ≤ y.toInt) : 0 ≤ (x &&& y).toInt ∧ (x &&& y).toInt ≤ y.toInt := by
  obtain ⟨h1, h2⟩ := ai_nn h
  have h3 := ai_and_bits x y
  have h4 := Nat.and_le_right (n := x.toBitVec.toNat) (m := y.toBitVec.toNat)
  have h5 := ai_of_nat (x := x &&& y) (by omega)
  omega
theorem ai_full_lt {n : Nat} {m : Int} (h : (n : Int) ≤ m) (hm : m ≤ ai_hi32) : ∃ k, k ≤ 31 ∧ ai_full m = ((2 ^ k - 1 : Nat) : Int) ∧ n < 2 ^ k ∧ m ≤ ai_full m := by
  cases m with
  | negSucc q => omega
  | ofNat q =>
    have h : n ≤ q := Int.ofNat_le.mp h
    have hq : q < 2147483648 := by
      have : (q : Int) ≤ ai_hi32 := hm
      unfold ai_hi32 at this
      omega
    have h1 : q < 2 ^ (Nat.log2 q + 1) := Nat.lt_log2_self
    have h2 : Nat.log2 q < 31 := by
      by_cases e : q = 0
      · subst e; decide
      · exact (Nat.log2_lt e).mpr (by omega)
    refine ⟨Nat.log2 q + 1, by omega, rfl, by omega, ?_⟩
    show (q : Int) ≤ ((2 ^ (Nat.log2 q + 1) - 1 : Nat) : Int)
    omega
theorem ai_two_le {k : Nat} (h : k ≤ 31) : 2 ^ k ≤ 2147483648 := by
  have := Nat.pow_le_pow_right (show 2 > 0 by decide) h
  exact this
theorem ai_or_bd {x y : Int32} {m : Int} (hx : 0 ≤ x.toInt) (hy : 0 ≤ y.toInt) (h1 : x.toInt ≤ m) (h2 : y.toInt ≤ m) : (0 ≤ (x ||| y).toInt ∧ (x ||| y).toInt ≤ ai_full m) ∧ 0 ≤ (x ^^^ y).toInt ∧ (x ^^^ y).toInt ≤ ai_full m := by
  obtain ⟨x1, x2⟩ := ai_nn hx
  obtain ⟨y1, y2⟩ := ai_nn hy
  by_cases hm : m ≤ ai_hi32
  · obtain ⟨k, k1, k2, k3, -⟩ := ai_full_lt (n := x.toBitVec.toNat) (m := m) (by omega) hm
    obtain ⟨k', -, k2', k3', -⟩ := ai_full_lt (n := y.toBitVec.toNat) (m := m) (by omega) hm
    have hk : 2 ^ k' = 2 ^ k := by
      have a1 := Nat.two_pow_pos k
      have a2 := Nat.two_pow_pos k'
      omega
    have hk2 := ai_two_le k1
    have o1 := Nat.or_lt_two_pow k3 (by rw [hk] at k3'; exact k3')
    have o2 := Nat.xor_lt_two_pow k3 (by rw [hk] at k3'; exact k3')
    have b1 := ai_or_bits x y
    have b2 := ai_xor_bits x y
    have c1 := ai_of_nat (x := x ||| y) (by omega)
    have c2 := ai_of_nat (x := x ^^^ y) (by omega)
    rw [k2]
    omega
  · have hf : ai_hi32 ≤ ai_full m := by
      cases m with
      | negSucc q => exact absurd (show Int.negSucc q ≤ ai_hi32 by unfold ai_hi32; omega) hm
      | ofNat q =>
        have h1 : q < 2 ^ (Nat.log2 q + 1) := Nat.lt_log2_self
        show ai_hi32 ≤ ((2 ^ (Nat.log2 q + 1) - 1 : Nat) : Int)
        have : ¬ (q : Int) ≤ ai_hi32 := hm
        omega
    have o1 := Nat.or_lt_two_pow (n := 31) (x := x.toBitVec.toNat) (y := y.toBitVec.toNat) (by omega) (by omega)
    have o2 := Nat.xor_lt_two_pow (n := 31) (x := x.toBitVec.toNat) (y := y.toBitVec.toNat) (by omega) (by omega)
    have b1 := ai_or_bits x y
    have b2 := ai_xor_bits x y
    have c1 := ai_of_nat (x := x ||| y) (by omega)
    have c2 := ai_of_nat (x := x ^^^ y) (by omega)
    have d1 := ai_i32 (x ||| y)
    have d2 := ai_i32 (x ^^^ y)
    omega
theorem ai_shr_k {a s : Int32} {k : Nat} (hk : k < 32) (hs : s.toInt = (k : Int)) : (a >>> (s &&& 31)).toInt = a.toInt >>> k := by
  have e : s = nI k := by
    apply Int32.toInt_inj.mp
    rw [hs, nI_toInt (by omega)]
  subst e
  refine pk_shr a _ k ?_
  have key : ∀ n, n < 32 → ((nI n &&& 31).toBitVec.smod 32).toNat = n := by decide +kernel
  exact key k hk
theorem ai_shr_mono {a b : Int} (h : a ≤ b) (k : Nat) : a >>> k ≤ b >>> k := by
  rw [Int.shiftRight_eq_div_pow, Int.shiftRight_eq_div_pow]
  exact Int.ediv_le_ediv (by exact_mod_cast Nat.two_pow_pos k) h
/-- the machine's instruction of two ints -/
noncomputable def ai_op32 (o : Nat) (x y : Int32) : Int32 := match o with
  | 0 => x + y
  | 1 => x - y
  | 2 => x * y
  | 3 => x / y
  | 4 => x - x / y * y
  | 5 => x &&& y
  | 6 => x ||| y
  | 7 => x ^^^ y
  | 8 => x <<< (y &&& 31)
  | 9 => x >>> (y &&& 31)
  | 10 => (x.toUInt32 >>> (y.toUInt32 &&& Int32.toUInt32 31)).toInt32
  | 11 => if x < y then y else x
  | 12 => if x < y then x else y
  | 13 => if 0 ≤ x then x else 0 - x
  | _ => 0
noncomputable def ai_op64 (o : Nat) (x y : Int64) : Int64 := match o with
  | 20 => x + y
  | 21 => x - y
  | 22 => x * y
  | 23 => x / y
  | 24 => x - x / y * y
  | 26 => if 0 < x then x else -x
  | _ => 0
theorem ai_op32_ok {o : Nat} (ho : o < 14) (x y : Int32) : (ai_op32 o x y).toInt = ai_op o x.toInt y.toInt := by
  have e2 : (2 : Nat) ^ 32 = 4294967296 := by decide
  match o, ho with
  | 0, _ => simp [ai_op32, ai_op]
  | 1, _ => simp [ai_op32, ai_op]
  | 2, _ => simp [ai_op32, ai_op]
  | 3, _ => simp [ai_op32, ai_op]
  | 4, _ => simp [ai_op32, ai_op]
  | 5, _ => simp [ai_op32, ai_op]
  | 6, _ => simp [ai_op32, ai_op]
  | 7, _ => simp [ai_op32, ai_op]
  | 8, _ => simp [ai_op32, ai_op]
  | 9, _ => simp [ai_op32, ai_op]
  | 10, _ => simp [ai_op32, ai_op]
  | 11, _ =>
    show (if x < y then y else x).toInt = ai_max x.toInt y.toInt
    unfold ai_max
    by_cases h : x < y
    · rw [if_pos h]
      rw [Int32.lt_iff_toInt_lt] at h
      rw [ai_le_iff.mpr (by omega)]
    · rw [if_neg h]
      rw [Int32.lt_iff_toInt_lt] at h
      cases e : ai_le x.toInt y.toInt with
      | true => have := ai_le_iff.mp e; show x.toInt = y.toInt; omega
      | false => rfl
  | 12, _ =>
    show (if x < y then x else y).toInt = ai_min x.toInt y.toInt
    unfold ai_min
    by_cases h : x < y
    · rw [if_pos h]
      rw [Int32.lt_iff_toInt_lt] at h
      rw [ai_le_iff.mpr (by omega)]
    · rw [if_neg h]
      rw [Int32.lt_iff_toInt_lt] at h
      cases e : ai_le x.toInt y.toInt with
      | true => have := ai_le_iff.mp e; show y.toInt = x.toInt; omega
      | false => rfl
  | 13, _ =>
    show (if 0 ≤ x then x else 0 - x).toInt = (ai_abs x.toInt).bmod 4294967296
    rw [ai_abs_of]
    have hx := ai_i32 x
    by_cases h : 0 ≤ x
    · rw [if_pos h]
      rw [Int32.le_iff_toInt_le, Int32.toInt_zero] at h
      rw [ai_bm32_id (by unfold ai_lo32; omega) (by omega)]
      omega
    · rw [if_neg h]
      rw [Int32.le_iff_toInt_le, Int32.toInt_zero] at h
      rw [Int32.toInt_sub, Int32.toInt_zero]
      show (0 - x.toInt).bmod 4294967296 = _
      congr 1
      omega
theorem ai_op64_ok {o : Nat} (ho : 20 ≤ o ∧ o ≤ 24 ∨ o = 26) (x y : Int64) : (ai_op64 o x y).toInt = ai_op o x.toInt y.toInt := by
  have ho : o = 20 ∨ o = 21 ∨ o = 22 ∨ o = 23 ∨ o = 24 ∨ o = 26 := by omega
  rcases ho with rfl | rfl | rfl | rfl | rfl | rfl
  · simp [ai_op64, ai_op]
  · simp [ai_op64, ai_op]
  · simp [ai_op64, ai_op]
  · simp [ai_op64, ai_op]
  · simp [ai_op64, ai_op]
  · show (if 0 < x then x else -x).toInt = (ai_abs x.toInt).bmod 18446744073709551616
    rw [ai_abs_of]
    have hx := ai_i64 x
    by_cases h : 0 < x
    · rw [if_pos h]
      rw [Int64.lt_iff_toInt_lt, Int64.toInt_zero] at h
      rw [ai_bm64_id (by unfold ai_lo64; omega) (by omega)]
      omega
    · rw [if_neg h]
      rw [Int64.lt_iff_toInt_lt, Int64.toInt_zero] at h
      rw [Int64.toInt_neg]
      show (-x.toInt).bmod 18446744073709551616 = _
      congr 1
      omega
/-- the bounds that the domain gives hold -/
theorem ai_rng32 {o : Nat} (ho : o < 14) {x y : Int32} {a b c d : Int} (h1 : a ≤ x.toInt) (h2 : x.toInt ≤ b) (h3 : c ≤ y.toInt) (h4 : y.toInt ≤ d) : (ai_rng o (a, b) (c, d)).1 ≤ ai_op o x.toInt y.toInt ∧ ai_op o x.toInt y.toInt ≤ (ai_rng o (a, b) (c, d)).2 := by
  have hx := ai_i32 x
  have hy := ai_i32 y
  have full : ai_lo32 ≤ ai_op o x.toInt y.toInt ∧ ai_op o x.toInt y.toInt ≤ ai_hi32 := by
    rw [← ai_op32_ok ho]; exact ai_i32 _
  match o, ho, full with
  | 0, _, _ => exact ai_fit32 (by omega) (by omega)
  | 1, _, _ => exact ai_fit32 (by omega) (by omega)
  | 2, _, _ => exact ai_rmul32 h1 h2 h3 h4
  | 3, _, _ => exact ai_rdiv32 h1 h2 h3 hx.2
  | 4, _, _ => exact ai_rrem32 h1 h2 h3 h4 hx.2
  | 5, _, full =>
    have e : ai_op 5 x.toInt y.toInt = (x &&& y).toInt := by rw [← ai_op32_ok (by decide)]; rfl
    rw [e] at full ⊢
    show (ai_rand a b c d).1 ≤ _ ∧ _ ≤ (ai_rand a b c d).2
    unfold ai_rand
    cases e1 : ai_le 0 a with
    | true =>
      have e1 := ai_le_iff.mp e1
      have g1 := ai_and_l (x := x) (y := y) (by omega)
      cases e2 : ai_le 0 c with
      | true =>
        have e2 := ai_le_iff.mp e2
        have g2 := ai_and_r (x := x) (y := y) (by omega)
        have g3 := ai_min_le (a := b) (b := d)
        show 0 ≤ _ ∧ _ ≤ ai_min b d
        omega
      | false =>
        show 0 ≤ _ ∧ _ ≤ b
        omega
    | false => cases e2 : ai_le 0 c with
      | true =>
        have e2 := ai_le_iff.mp e2
        have g2 := ai_and_r (x := x) (y := y) (by omega)
        show 0 ≤ _ ∧ _ ≤ d
        omega
      | false => exact full
  | 6, _, full =>
    have e : ai_op 6 x.toInt y.toInt = (x ||| y).toInt := by rw [← ai_op32_ok (by decide)]; rfl
    rw [e] at full ⊢
    show (ai_ror a b c d).1 ≤ _ ∧ _ ≤ (ai_ror a b c d).2
    unfold ai_ror
    cases e1 : ai_le 0 a with
    | true => cases e2 : ai_le 0 c with
      | true =>
        have e1 := ai_le_iff.mp e1
        have e2 := ai_le_iff.mp e2
        have g3 := ai_max_ge (a := b) (b := d)
        exact (ai_or_bd (x := x) (y := y) (m := ai_max b d) (by omega) (by omega) (by omega) (by omega)).1
      | false => exact full
    | false => exact full
  | 7, _, full =>
    have e : ai_op 7 x.toInt y.toInt = (x ^^^ y).toInt := by rw [← ai_op32_ok (by decide)]; rfl
    rw [e] at full ⊢
    show (ai_ror a b c d).1 ≤ _ ∧ _ ≤ (ai_ror a b c d).2
    unfold ai_ror
    cases e1 : ai_le 0 a with
    | true => cases e2 : ai_le 0 c with
      | true =>
        have e1 := ai_le_iff.mp e1
        have e2 := ai_le_iff.mp e2
        have g3 := ai_max_ge (a := b) (b := d)
        exact (ai_or_bd (x := x) (y := y) (m := ai_max b d) (by omega) (by omega) (by omega) (by omega)).2
      | false => exact full
    | false => exact full
  | 8, _, full => exact full
  | 9, _, full =>
    have e : ai_op 9 x.toInt y.toInt = (x >>> (y &&& 31)).toInt := by rw [← ai_op32_ok (by decide)]; rfl
    rw [e] at full ⊢
    show (ai_rshr a b c d).1 ≤ _ ∧ _ ≤ (ai_rshr a b c d).2
    unfold ai_rshr
    cases e1 : ai_eq c d with
    | false => exact full
    | true =>
      have e1 := ai_eq_iff.mp e1
      cases c with
      | negSucc k => exact full
      | ofNat k =>
        cases e2 : Nat.blt k 32 with
        | false =>
          show (match Nat.blt k 32 with | true => (a >>> k, b >>> k) | false => (ai_lo32, ai_hi32)).1 ≤ _ ∧ _ ≤ (match Nat.blt k 32 with | true => (a >>> k, b >>> k) | false => (ai_lo32, ai_hi32)).2
          rw [e2]; exact full
        | true =>
          have hk : k < 32 := by
            have : Nat.ble (k + 1) 32 = true := e2
            exact Nat.le_of_ble_eq_true this
          have hyk : y.toInt = (k : Int) := by
            have h3 : (k : Int) ≤ y.toInt := h3
            have e1 : (k : Int) = d := e1
            omega
          show (match Nat.blt k 32 with | true => (a >>> k, b >>> k) | false => (ai_lo32, ai_hi32)).1 ≤ _ ∧ _ ≤ (match Nat.blt k 32 with | true => (a >>> k, b >>> k) | false => (ai_lo32, ai_hi32)).2
          rw [e2, ai_shr_k hk hyk]
          exact ⟨ai_shr_mono h1 k, ai_shr_mono h2 k⟩
  | 10, _, full => exact full
  | 11, _, _ =>
    have g1 := ai_max_ge (a := a) (b := c)
    have g2 := ai_max_ge (a := b) (b := d)
    have g3 := ai_max_ge (a := x.toInt) (b := y.toInt)
    show ai_max a c ≤ ai_max x.toInt y.toInt ∧ ai_max x.toInt y.toInt ≤ ai_max b d
    omega
  | 12, _, _ =>
    have g1 := ai_min_le (a := a) (b := c)
    have g2 := ai_min_le (a := b) (b := d)
    have g3 := ai_min_le (a := x.toInt) (b := y.toInt)
    show ai_min a c ≤ ai_min x.toInt y.toInt ∧ ai_min x.toInt y.toInt ≤ ai_min b d
    omega
  | 13, _, full => exact full
theorem ai_rng64 {o : Nat} (ho : 20 ≤ o ∧ o ≤ 24 ∨ o = 26) {x y : Int64} {a b c d : Int} (h1 : a ≤ x.toInt) (h2 : x.toInt ≤ b) (h3 : c ≤ y.toInt) (h4 : y.toInt ≤ d) : (ai_rng o (a, b) (c, d)).1 ≤ ai_op o x.toInt y.toInt ∧ ai_op o x.toInt y.toInt ≤ (ai_rng o (a, b) (c, d)).2 := by
  have hx := ai_i64 x
  have hy := ai_i64 y
  have full : ai_lo64 ≤ ai_op o x.toInt y.toInt ∧ ai_op o x.toInt y.toInt ≤ ai_hi64 := by
    rw [← ai_op64_ok ho]; exact ai_i64 _
  have ho : o = 20 ∨ o = 21 ∨ o = 22 ∨ o = 23 ∨ o = 24 ∨ o = 26 := by omega
  rcases ho with rfl | rfl | rfl | rfl | rfl | rfl
  · exact ai_fit64 (by omega) (by omega)
  · exact ai_fit64 (by omega) (by omega)
  · exact ai_rmul64 h1 h2 h3 h4
  · exact ai_rdiv64 h1 h2 h3 hx.2
  · exact ai_rrem64 h1 h2 h3 h4 hx.2
  · exact full
/-- an instruction of two numbers that the domain does: on ints -/
theorem ai_bin_ok {r : Nat → Int} {E E' : ai_E} {o : Nat} {x y z : ai_X} {v : Int} (hE : ai_gE r E) (hx : x.1 < E.1) (hy : y.1 < E.1) (hv : v = ai_op o (ai_vx r x) (ai_vx r y)) (hs : ai_small v)
    (hid : (o = 0 → ∀ u, u = ai_vx r x + ai_vx r y → ai_lo32 ≤ u → u ≤ ai_hi32 → v = u) ∧ (o = 1 → ∀ u, u = ai_vx r x - ai_vx r y → ai_lo32 ≤ u → u ≤ ai_hi32 → v = u))
    (hr : ∀ a b c d : Int, a ≤ ai_vx r x → ai_vx r x ≤ b → c ≤ ai_vx r y → ai_vx r y ≤ d → (ai_rng o (a, b) (c, d)).1 ≤ v ∧ v ≤ (ai_rng o (a, b) (c, d)).2) (h : ai_bin E o x y = (z, E')) :
    ∃ r', ai_ext E.1 r r' ∧ E.1 ≤ E'.1 ∧ ai_gE r' E' ∧ z.1 < E'.1 ∧ ai_vx r' z = v := by
  have v0 : ∀ c : Int, ai_vx r (0, c) = c := fun c => by
    show r 0 + c = c
    rw [hE.1]; omega
  have gen : ∀ {w : ai_X} {F : ai_E}, ai_def E o x y (ai_rng o (ai_iv E x) (ai_iv E y)) = (w, F) → ∃ r', ai_ext E.1 r r' ∧ E.1 ≤ F.1 ∧ ai_gE r' F ∧ w.1 < F.1 ∧ ai_vx r' w = v := by
    intro w F hd
    obtain ⟨a1, a2⟩ := ai_iv_ok hE hx
    obtain ⟨b1, b2⟩ := ai_iv_ok hE hy
    have hb := hr _ _ _ _ a1 a2 b1 b2
    rw [hv] at hb hs ⊢
    exact ai_def_ok hE hx hy hb hs hd
  obtain ⟨t, c⟩ := x
  obtain ⟨u, d⟩ := y
  unfold ai_bin at h
  cases t with
  | zero => cases u with
    | zero =>
      cases h
      refine ⟨r, ai_ext.rfl', Nat.le_refl _, hE, hE.2.1, ?_⟩
      rw [v0, hv, v0, v0]
    | succ u =>
      dsimp only at h
      split at h
      · rename_i h1
        have h1 := Nat.eq_of_beq_eq_true h1
        subst h1
        have hz : (u + 1, d + c).1 < E.1 := hy
        have hvz : ai_vx r (u + 1, d + c) = ai_vx r (0, c) + ai_vx r (u + 1, d) := by
          rw [v0]; show r (u + 1) + (d + c) = c + (r (u + 1) + d); omega
        have hb := ai_iv_ok hE hz
        cases e : ai_iv E (u + 1, d + c) with
        | mk lo hi =>
          rw [e] at h hb
          dsimp only at h hb
          split at h
          · rename_i e1 e2
            cases h
            have e1 := ai_le_iff.mp e1
            have e2 := ai_le_iff.mp e2
            exact ⟨r, ai_ext.rfl', Nat.le_refl _, hE, hz, (hid.1 rfl _ hvz (by omega) (by omega)).symm⟩
          · exact gen h
      · exact gen h
  | succ t => cases u with
    | zero =>
      dsimp only at h
      split at h
      · rename_i h1
        have h1 := Nat.le_of_ble_eq_true h1
        generalize he : ai_pm o c d = e' at h
        have hz : (t + 1, e').1 < E.1 := hx
        have hb := ai_iv_ok hE hz
        cases e : ai_iv E (t + 1, e') with
        | mk lo hi =>
          rw [e] at h hb
          dsimp only at h hb
          split at h
          · rename_i e1 e2
            cases h
            have e1 := ai_le_iff.mp e1
            have e2 := ai_le_iff.mp e2
            refine ⟨r, ai_ext.rfl', Nat.le_refl _, hE, hz, ?_⟩
            have ho : o = 0 ∨ o = 1 := by omega
            rcases ho with rfl | rfl
            · have he : c + d = e' := he
              refine (hid.1 rfl _ ?_ (by omega) (by omega)).symm
              rw [v0]; show r (t + 1) + e' = r (t + 1) + c + d; omega
            · have he : c - d = e' := he
              refine (hid.2 rfl _ ?_ (by omega) (by omega)).symm
              rw [v0]; show r (t + 1) + e' = r (t + 1) + c - d; omega
          · exact gen h
      · exact gen h
    | succ u => exact gen h
theorem ai_bin32 {r : Nat → Int} {E E' : ai_E} {o : Nat} (ho : o < 14) {x y z : ai_X} {p q : Int32} (hE : ai_gE r E) (hx : x.1 < E.1) (hy : y.1 < E.1) (hp : p.toInt = ai_vx r x) (hq : q.toInt = ai_vx r y) (h : ai_bin E o x y = (z, E')) :
    ∃ r', ai_ext E.1 r r' ∧ E.1 ≤ E'.1 ∧ ai_gE r' E' ∧ z.1 < E'.1 ∧ (ai_op32 o p q).toInt = ai_vx r' z := by
  have hv := ai_op32_ok ho p q
  obtain ⟨r', h1, h2, h3, h4, h5⟩ := ai_bin_ok (v := (ai_op32 o p q).toInt) hE hx hy (by rw [hv, hp, hq]) (ai_small32 (ai_i32 _))
    ⟨fun e u hu l1 l2 => by subst e; rw [hv, hp, hq, hu]; show (_ : Int).bmod 4294967296 = _; rw [ai_bm32_id (by omega) (by omega)], fun e u hu l1 l2 => by subst e; rw [hv, hp, hq, hu]; show (_ : Int).bmod 4294967296 = _; rw [ai_bm32_id (by omega) (by omega)]⟩
    (fun a b c d l1 l2 l3 l4 => by rw [hv]; exact ai_rng32 ho (by omega) (by omega) (by omega) (by omega)) h
  exact ⟨r', h1, h2, h3, h4, h5.symm⟩
theorem ai_bin64 {r : Nat → Int} {E E' : ai_E} {o : Nat} (ho : 20 ≤ o ∧ o ≤ 24 ∨ o = 26) {x y z : ai_X} {p q : Int64} (hE : ai_gE r E) (hx : x.1 < E.1) (hy : y.1 < E.1) (hp : p.toInt = ai_vx r x) (hq : q.toInt = ai_vx r y) (h : ai_bin E o x y = (z, E')) :
    ∃ r', ai_ext E.1 r r' ∧ E.1 ≤ E'.1 ∧ ai_gE r' E' ∧ z.1 < E'.1 ∧ (ai_op64 o p q).toInt = ai_vx r' z := by
  have hv := ai_op64_ok ho p q
  obtain ⟨r', h1, h2, h3, h4, h5⟩ := ai_bin_ok (v := (ai_op64 o p q).toInt) hE hx hy (by rw [hv, hp, hq]) (ai_i64 _)
    ⟨fun e u hu l1 l2 => absurd e (by omega), fun e u hu l1 l2 => absurd e (by omega)⟩
    (fun a b c d l1 l2 l3 l4 => by rw [hv]; exact ai_rng64 ho (by omega) (by omega) (by omega) (by omega)) h
  exact ⟨r', h1, h2, h3, h4, h5.symm⟩
/-- the comparison of two longs -/
theorem ai_cmp64 {r : Nat → Int} {E E' : ai_E} {x y z : ai_X} {p q : Int64} (hE : ai_gE r E) (hx : x.1 < E.1) (hy : y.1 < E.1) (hp : p.toInt = ai_vx r x) (hq : q.toInt = ai_vx r y) (h : ai_bin E 25 x y = (z, E')) :
    ∃ r', ai_ext E.1 r r' ∧ E.1 ≤ E'.1 ∧ ai_gE r' E' ∧ z.1 < E'.1 ∧ (lg_cmp p q).toInt = ai_vx r' z := by
  have hv : (lg_cmp p q).toInt = ai_op 25 p.toInt q.toInt := by
    show _ = (match ai_eq p.toInt q.toInt with | true => (0 : Int) | false => match ai_le p.toInt q.toInt with | true => -1 | false => 1)
    by_cases e : p.toInt = q.toInt
    · rw [ai_eq_iff.mpr e]
      have e2 := Int64.toInt_inj.mp e
      subst e2
      simp [lg_cmp]
    · rw [ai_eq_not.mpr e]
      by_cases g : q < p
      · have g2 := Int64.lt_iff_toInt_lt.mp g
        have e1 : lg_cmp p q = 1 := by simp [lg_cmp, g]
        rw [e1, ai_le_not.mpr g2]; rfl
      · have g2 : ¬ q.toInt < p.toInt := fun q => g (Int64.lt_iff_toInt_lt.mpr q)
        have g3 : ¬ p = q := fun h => e (by rw [h])
        have e1 : lg_cmp p q = -1 := by simp [lg_cmp, g, g3]
        rw [e1, ai_le_iff.mpr (by omega)]; rfl
  have hb : -1 ≤ ai_op 25 p.toInt q.toInt ∧ ai_op 25 p.toInt q.toInt ≤ 1 := by
    show (-1 : Int) ≤ (match ai_eq p.toInt q.toInt with | true => 0 | false => match ai_le p.toInt q.toInt with | true => -1 | false => 1) ∧ (match ai_eq p.toInt q.toInt with | true => (0 : Int) | false => match ai_le p.toInt q.toInt with | true => -1 | false => 1) ≤ 1
    cases ai_eq p.toInt q.toInt with
    | true => exact ⟨show (-1 : Int) ≤ 0 by decide, show (0 : Int) ≤ 1 by decide⟩
    | false => cases ai_le p.toInt q.toInt with
      | true => exact ⟨Int.le_refl _, by decide⟩
      | false => exact ⟨by decide, Int.le_refl _⟩
  obtain ⟨r', h1, h2, h3, h4, h5⟩ := ai_bin_ok (v := (lg_cmp p q).toInt) hE hx hy (by rw [hv, hp, hq]) (ai_small32 (ai_i32 _))
    ⟨fun e u hu l1 l2 => absurd e (by omega), fun e u hu l1 l2 => absurd e (by omega)⟩
    (fun a b c d l1 l2 l3 l4 => by rw [hv]; exact hb) h
  exact ⟨r', h1, h2, h3, h4, h5.symm⟩
end
section
/-! COMPARISONS: what holds is still known behind them -/
theorem ai_cap_ok {r : Nat → Int} {E : ai_E} (hE : ai_gE r E) {t : Nat} {lo hi : Int} (ht : t < E.1) (h1 : lo ≤ r t) (h2 : r t ≤ hi) : ∃ E', ai_cap E t lo hi = some E' ∧ ai_gE r E' ∧ E'.1 = E.1 := by
  cases t with
  | zero =>
    rw [hE.1] at h1 h2
    refine ⟨E, ?_, hE, rfl⟩
    unfold ai_cap
    rw [ai_le_iff.mpr h1, ai_le_iff.mpr h2]
  | succ t =>
    have hb := ai_look_ok (r := r) (l := E.2.1) (fun q hq => (hE.2.2.2.1 q hq).2) (t + 1) (hE.2.2.1 _ ht)
    unfold ai_cap
    cases e : ai_look E.2.1 (t + 1) with
    | mk a b =>
      rw [e] at hb
      have g1 := ai_max_ge (a := a) (b := lo)
      have g2 := ai_min_le (a := b) (b := hi)
      have hb1 : a ≤ r (t + 1) := hb.1
      have hb2 : r (t + 1) ≤ b := hb.2
      have g : ai_le (ai_max a lo) (ai_min b hi) = true := ai_le_iff.mpr (by omega)
      dsimp only
      rw [g]
      refine ⟨_, rfl, ⟨hE.1, hE.2.1, hE.2.2.1, fun q hq => ?_, hE.2.2.2.2⟩, rfl⟩
      rcases List.mem_cons.mp hq with rfl | hq
      · exact ⟨ht, show ai_max a lo ≤ r (t + 1) by omega, show r (t + 1) ≤ ai_min b hi by omega⟩
      · exact hE.2.2.2.1 q hq
theorem ai_leq_ok {r : Nat → Int} {E : ai_E} (hE : ai_gE r E) {x y : ai_X} {k : Int} (hx : x.1 < E.1) (hy : y.1 < E.1) (h : ai_vx r x ≤ ai_vx r y + k) : ∃ E', ai_leq E x y k = some E' ∧ ai_gE r E' ∧ E'.1 = E.1 := by
  obtain ⟨a1, a2⟩ := ai_iv_ok hE hx
  obtain ⟨b1, b2⟩ := ai_iv_ok hE hy
  unfold ai_leq
  cases e : Nat.beq x.1 y.1 with
  | true =>
    have e := Nat.eq_of_beq_eq_true e
    have h2 : x.2 ≤ y.2 + k := by
      unfold ai_vx at h
      rw [e] at h
      omega
    dsimp only
    rw [ai_le_iff.mpr h2]
    exact ⟨E, rfl, hE, rfl⟩
  | false =>
    dsimp only
    cases e1 : ai_iv E x with
    | mk a b => cases e2 : ai_iv E y with
      | mk c d =>
        rw [e1] at a1 a2
        rw [e2] at b1 b2
        dsimp only at a1 a2 b1 b2 ⊢
        cases e3 : ai_le b (c + k) with
        | true => exact ⟨E, rfl, hE, rfl⟩
        | false =>
          have hx2 : ai_vx r x = r x.1 + x.2 := rfl
          have hy2 : ai_vx r y = r y.1 + y.2 := rfl
          obtain ⟨E1, f1, f2, f3⟩ := ai_cap_ok (lo := ai_lo64) (hi := d + k - x.2) hE hx (hE.2.2.1 _ hx).1 (by omega)
          obtain ⟨E2, f4, f5, f6⟩ := ai_cap_ok (E := E1) (t := y.1) (lo := a - k - y.2) (hi := ai_hi64) f2 (by omega) (by omega) (f2.2.2.1 _ (by omega)).2
          dsimp only
          rw [f1]
          exact ⟨E2, f4, f5, f6.trans f3⟩
theorem ai_same_ok {r : Nat → Int} {E : ai_E} (hE : ai_gE r E) {x y : ai_X} (hx : x.1 < E.1) (hy : y.1 < E.1) (h : ai_vx r x = ai_vx r y) : ∃ E', ai_same E x y = some E' ∧ ai_gE r E' ∧ E'.1 = E.1 := by
  obtain ⟨E1, f1, f2, f3⟩ := ai_leq_ok (k := 0) hE hx hy (by omega)
  obtain ⟨E2, f4, f5, f6⟩ := ai_leq_ok (k := 0) f2 (x := y) (y := x) (by omega) (by omega) (by omega)
  refine ⟨E2, ?_, f5, f6.trans f3⟩
  unfold ai_same
  rw [f1]
  exact f4
theorem ai_off_ok {r : Nat → Int} {E : ai_E} (hE : ai_gE r E) {t : Nat} {v : Int} (ht : t < E.1) (h : r t ≠ v) : ∃ E', ai_off E t v = some E' ∧ ai_gE r E' ∧ E'.1 = E.1 := by
  cases t with
  | zero =>
    rw [hE.1] at h
    refine ⟨E, ?_, hE, rfl⟩
    unfold ai_off
    rw [ai_eq_not.mpr (Ne.symm h)]
  | succ t =>
    have hb := ai_look_ok (r := r) (l := E.2.1) (fun q hq => (hE.2.2.2.1 q hq).2) (t + 1) (hE.2.2.1 _ ht)
    unfold ai_off
    cases e : ai_look E.2.1 (t + 1) with
    | mk a b =>
      rw [e] at hb
      have hb1 : a ≤ r (t + 1) := hb.1
      have hb2 : r (t + 1) ≤ b := hb.2
      dsimp only
      cases e1 : ai_eq a v with
      | true =>
        have e1 := ai_eq_iff.mp e1
        exact ai_cap_ok hE ht (by omega) (hE.2.2.1 _ ht).2
      | false => cases e2 : ai_eq b v with
        | true =>
          have e2 := ai_eq_iff.mp e2
          exact ai_cap_ok hE ht (hE.2.2.1 _ ht).1 (by omega)
        | false => exact ⟨E, rfl, hE, rfl⟩
theorem ai_differ_ok {r : Nat → Int} {E : ai_E} (hE : ai_gE r E) {x y : ai_X} (hx : x.1 < E.1) (hy : y.1 < E.1) (h : ai_vx r x ≠ ai_vx r y) : ∃ E', ai_differ E x y = some E' ∧ ai_gE r E' ∧ E'.1 = E.1 := by
  unfold ai_differ
  cases e : Nat.beq x.1 y.1 with
  | true =>
    have e := Nat.eq_of_beq_eq_true e
    have h2 : x.2 ≠ y.2 := by
      intro g
      apply h
      unfold ai_vx
      rw [e, g]
    dsimp only
    rw [ai_eq_not.mpr h2]
    exact ⟨E, rfl, hE, rfl⟩
  | false =>
    dsimp only
    obtain ⟨t, c⟩ := x
    obtain ⟨u, d⟩ := y
    have h : r t + c ≠ r u + d := h
    cases t with
    | zero =>
      rw [hE.1] at h
      exact ai_off_ok hE hy (by omega)
    | succ t => cases u with
      | zero =>
        rw [hE.1] at h
        exact ai_off_ok hE hx (by omega)
      | succ u => exact ⟨E, rfl, hE, rfl⟩
/-- which comparison -/
noncomputable def ai_holds (o : Nat) (a b : Int) : Prop := match o with
  | 0 => a = b
  | 1 => a ≠ b
  | 2 => a < b
  | 3 => b ≤ a
  | 4 => b < a
  | _ => a ≤ b
theorem ai_cmp_ok {r : Nat → Int} {E : ai_E} (hE : ai_gE r E) {o : Nat} {x y : ai_X} (hx : x.1 < E.1) (hy : y.1 < E.1) (h : ai_holds o (ai_vx r x) (ai_vx r y)) : ∃ E', ai_cmp E o x y = some E' ∧ ai_gE r E' ∧ E'.1 = E.1 := by
  match o, h with
  | 0, h => exact ai_same_ok hE hx hy h
  | 1, h => exact ai_differ_ok hE hx hy h
  | 2, h => exact ai_leq_ok hE hx hy (by have h : ai_vx r x < ai_vx r y := h; omega)
  | 3, h => exact ai_leq_ok hE hy hx (by have h : ai_vx r y ≤ ai_vx r x := h; omega)
  | 4, h => exact ai_leq_ok hE hy hx (by have h : ai_vx r y < ai_vx r x := h; omega)
  | n + 5, h => exact ai_leq_ok hE hx hy (by have h : ai_vx r x ≤ ai_vx r y := h; omega)
theorem ai_inv_ok {o : Nat} (ho : o < 6) {a b : Int} (h : ¬ ai_holds o a b) : ai_holds (ai_inv o) a b := by
  match o, ho, h with
  | 0, _, h => exact h
  | 1, _, h =>
    show a = b
    exact Decidable.of_not_not h
  | 2, _, h => exact Int.not_lt.mp h
  | 3, _, h => exact Int.not_le.mp h
  | 4, _, h => exact Int.not_lt.mp h
  | 5, _, h => exact Int.not_le.mp h
theorem ai_lcmp_ok {t : Nat} {p : ai_X × ai_X} : ∀ {l : List ai_D}, ai_lcmp t l = some p → (25, t, p.1, p.2) ∈ l
  | [], h => by cases h
  | (o, u, x, y) :: l, h => by
    unfold ai_lcmp at h
    cases e1 : Nat.beq u t with
    | false => rw [e1] at h; exact List.mem_cons_of_mem _ (ai_lcmp_ok h)
    | true => cases e2 : Nat.beq o 25 with
      | false => rw [e1, e2] at h; exact List.mem_cons_of_mem _ (ai_lcmp_ok h)
      | true =>
        rw [e1, e2] at h
        have e1 := Nat.eq_of_beq_eq_true e1
        have e2 := Nat.eq_of_beq_eq_true e2
        cases h
        subst e1; subst e2
        exact List.mem_cons_self
/-- the sign of a comparison -/
theorem ai_op25 (o : Nat) (a b : Int) : ai_holds o (ai_op 25 a b) 0 ↔ ai_holds o a b := by
  have key : (ai_op 25 a b = 0 ∧ a = b) ∨ (ai_op 25 a b = -1 ∧ a < b) ∨ (ai_op 25 a b = 1 ∧ b < a) := by
    show ((match ai_eq a b with | true => (0 : Int) | false => match ai_le a b with | true => -1 | false => 1) = 0 ∧ a = b) ∨ ((match ai_eq a b with | true => (0 : Int) | false => match ai_le a b with | true => -1 | false => 1) = -1 ∧ a < b) ∨ ((match ai_eq a b with | true => (0 : Int) | false => match ai_le a b with | true => -1 | false => 1) = 1 ∧ b < a)
    cases e1 : ai_eq a b with
    | true => exact Or.inl ⟨rfl, ai_eq_iff.mp e1⟩
    | false => cases e2 : ai_le a b with
      | true => exact Or.inr (Or.inl ⟨rfl, by have h1 := ai_eq_not.mp e1; have h2 := ai_le_iff.mp e2; omega⟩)
      | false => exact Or.inr (Or.inr ⟨rfl, ai_le_not.mp e2⟩)
  match o with
  | 0 => show _ = (0 : Int) ↔ a = b; omega
  | 1 => show _ ≠ (0 : Int) ↔ a ≠ b; omega
  | 2 => show _ < (0 : Int) ↔ a < b; omega
  | 3 => show (0 : Int) ≤ _ ↔ b ≤ a; omega
  | 4 => show (0 : Int) < _ ↔ b < a; omega
  | n + 5 => show _ ≤ (0 : Int) ↔ a ≤ b; omega
/-! ARRAYS -/
/-- what stands at a place -/
noncomputable def ai_ov (r : Nat → Int) (lo hi : Int) : List (ai_X × ai_X) → Nat → Int → Prop
  | [], _, v => lo ≤ v ∧ v ≤ hi
  | (i, x) :: l, j, v => (ai_vx r i = (j : Int) → v = ai_vx r x) ∧ (ai_vx r i ≠ (j : Int) → ai_ov r lo hi l j v)
noncomputable def ai_lw (N : Nat) (l : List (ai_X × ai_X)) : Prop := ∀ q ∈ l, q.1.1 < N ∧ q.2.1 < N
noncomputable def ai_gK (r : Nat → Int) (N : Nat) (lo hi : Int) (l : List (ai_X × ai_X)) (n : Nat) (g : Nat → Int) : Prop := ai_lw N l ∧ ∀ j, j < n → ai_ov r lo hi l j (g j)
theorem ai_ov_ext {r r' : Nat → Int} {N : Nat} (h : ai_ext N r r') {lo hi : Int} {j : Nat} {v : Int} : ∀ {l : List (ai_X × ai_X)}, ai_lw N l → ai_ov r lo hi l j v → ai_ov r' lo hi l j v
  | [], _, g => g
  | (i, x) :: l, hl, g => by
    have h1 := hl _ List.mem_cons_self
    unfold ai_ov at g ⊢
    rw [h.vx h1.1, h.vx h1.2]
    exact ⟨g.1, fun q => ai_ov_ext h (fun z hz => hl z (List.mem_cons_of_mem _ hz)) (g.2 q)⟩
theorem ai_kget_ok {r : Nat → Int} {E : ai_E} (hE : ai_gE r E) {lo hi : Int} {i : ai_X} (hi' : i.1 < E.1) {j : Nat} (hj : ai_vx r i = (j : Int)) {v : Int} : ∀ {l : List (ai_X × ai_X)}, ai_lw E.1 l → ai_ov r lo hi l j v → (match ai_kget E lo hi i l with | .inl z => z.1 < E.1 ∧ v = ai_vx r z | .inr b => b.1 ≤ v ∧ v ≤ b.2)
  | [], _, g => by
    unfold ai_kget
    obtain ⟨g1, g2⟩ : lo ≤ v ∧ v ≤ hi := g
    cases e : ai_eq lo hi with
    | true =>
      have e := ai_eq_iff.mp e
      refine ⟨hE.2.1, ?_⟩
      show v = r 0 + lo
      rw [hE.1]; omega
    | false => exact ⟨g1, g2⟩
  | (k, x) :: l, hl, g => by
    have h1 := hl _ List.mem_cons_self
    have hl' : ai_lw E.1 l := fun z hz => hl z (List.mem_cons_of_mem _ hz)
    obtain ⟨g1, g2⟩ := g
    unfold ai_kget
    cases e : ai_xeq i k with
    | true =>
      have e := ai_xeq_iff.mp e
      subst e
      exact ⟨h1.2, g1 hj⟩
    | false =>
      obtain ⟨a1, a2⟩ := ai_iv_ok hE hi'
      obtain ⟨b1, b2⟩ := ai_iv_ok hE h1.1
      obtain ⟨x1, x2⟩ := ai_iv_ok hE h1.2
      have rk := fun q => ai_kget_ok (lo := lo) (hi := hi) hE hi' hj hl' (g2 q)
      dsimp only
      cases e1 : ai_iv E i with
      | mk a b => cases e2 : ai_iv E k with
        | mk c d =>
          rw [e1] at a1 a2
          rw [e2] at b1 b2
          dsimp only at a1 a2 b1 b2 ⊢
          cases e3 : (Nat.beq i.1 k.1 || !(ai_le a d) || !(ai_le c b)) with
          | true =>
            refine rk ?_
            intro q
            rw [Bool.or_eq_true, Bool.or_eq_true] at e3
            rcases e3 with (e3 | e3) | e3
            · have e3 := Nat.eq_of_beq_eq_true e3
              have hne : i ≠ k := fun h => by
                have := ai_xeq_iff.mpr h
                rw [e] at this; cases this
              apply hne
              obtain ⟨t, c'⟩ := i
              obtain ⟨u, d'⟩ := k
              have e3 : t = u := e3
              subst e3
              have q : r t + d' = (j : Int) := q
              have hj : r t + c' = (j : Int) := hj
              rw [show c' = d' by omega]
            · have e3 : ai_le a d = false := by simpa using e3
              have := ai_le_not.mp e3
              omega
            · have e3 : ai_le c b = false := by simpa using e3
              have := ai_le_not.mp e3
              omega
          | false =>
            dsimp only
            by_cases q : ai_vx r k = (j : Int)
            · have hv := g1 q
              cases e4 : ai_kget E lo hi i l with
              | inl w =>
                dsimp only
                cases e5 : ai_iv E x with
                | mk p1 p2 => cases e6 : ai_iv E w with
                  | mk p3 p4 =>
                    rw [e5] at x1 x2
                    have g3 := ai_min_le (a := p1) (b := p3)
                    have g4 := ai_max_ge (a := p2) (b := p4)
                    dsimp only at x1 x2 ⊢
                    omega
              | inr w =>
                obtain ⟨p3, p4⟩ := w
                dsimp only
                cases e5 : ai_iv E x with
                | mk p1 p2 =>
                  rw [e5] at x1 x2
                  have g3 := ai_min_le (a := p1) (b := p3)
                  have g4 := ai_max_ge (a := p2) (b := p4)
                  dsimp only at x1 x2 ⊢
                  omega
            · have rr := rk q
              cases e4 : ai_kget E lo hi i l with
              | inl w =>
                rw [e4] at rr
                obtain ⟨w1, w2⟩ := ai_iv_ok hE rr.1
                have hv : v = ai_vx r w := rr.2
                dsimp only
                cases e5 : ai_iv E x with
                | mk p1 p2 => cases e6 : ai_iv E w with
                  | mk p3 p4 =>
                    rw [e6] at w1 w2
                    have g3 := ai_min_le (a := p1) (b := p3)
                    have g4 := ai_max_ge (a := p2) (b := p4)
                    dsimp only at w1 w2 ⊢
                    omega
              | inr w =>
                rw [e4] at rr
                obtain ⟨p3, p4⟩ := w
                have r1 : p3 ≤ v := rr.1
                have r2 : v ≤ p4 := rr.2
                dsimp only
                cases e5 : ai_iv E x with
                | mk p1 p2 =>
                  have g3 := ai_min_le (a := p1) (b := p3)
                  have g4 := ai_max_ge (a := p2) (b := p4)
                  dsimp only
                  omega
theorem ai_kdrop_sub {i : ai_X} : ∀ {l : List (ai_X × ai_X)} {q : ai_X × ai_X}, q ∈ ai_kdrop i l → q ∈ l
  | [], q, h => by cases h
  | (k, x) :: l, q, h => by
    unfold ai_kdrop at h
    cases e : ai_xeq i k with
    | true => rw [e] at h; exact List.mem_cons_of_mem _ h
    | false =>
      rw [e] at h
      rcases List.mem_cons.mp h with h | h
      · rw [h]; exact List.mem_cons_self
      · exact List.mem_cons_of_mem _ (ai_kdrop_sub h)
theorem ai_kdrop_ok {r : Nat → Int} {lo hi : Int} {i : ai_X} {j : Nat} (hj : ai_vx r i ≠ (j : Int)) {v : Int} : ∀ {l : List (ai_X × ai_X)}, ai_ov r lo hi l j v → ai_ov r lo hi (ai_kdrop i l) j v
  | [], g => g
  | (k, x) :: l, g => by
    unfold ai_kdrop
    cases e : ai_xeq i k with
    | true =>
      have e := ai_xeq_iff.mp e
      subst e
      exact g.2 hj
    | false => exact ⟨g.1, fun q => ai_kdrop_ok hj (g.2 q)⟩
theorem ai_kput_ok {r : Nat → Int} {N : Nat} {lo hi : Int} {l : List (ai_X × ai_X)} {n : Nat} {g : Nat → Int} (h : ai_gK r N lo hi l n g) {i z : ai_X} (hi' : i.1 < N) (hz : z.1 < N) {k : Nat} (hk : ai_vx r i = (k : Int)) {g' : Nat → Int} (hg1 : g' k = ai_vx r z) (hg2 : ∀ j, j ≠ k → g' j = g j) : ai_gK r N lo hi ((i, z) :: ai_kdrop i l) n g' := by
  refine ⟨fun q hq => ?_, fun j hj => ⟨fun e => ?_, fun e => ?_⟩⟩
  · rcases List.mem_cons.mp hq with rfl | hq
    · exact ⟨hi', hz⟩
    · exact h.1 q (ai_kdrop_sub hq)
  · have : j = k := by omega
    subst this
    exact hg1
  · have : j ≠ k := by intro q; subst q; exact e hk
    rw [hg2 j this]
    exact ai_kdrop_ok e (h.2 j hj)
theorem ai_inb_ok {r : Nat → Int} {E : ai_E} (hE : ai_gE r E) {i : ai_X} (hi' : i.1 < E.1) {n : Nat} (h : ai_inb E i n = true) : ∃ j : Nat, j < n ∧ ai_vx r i = (j : Int) := by
  obtain ⟨a1, a2⟩ := ai_iv_ok hE hi'
  unfold ai_inb at h
  cases e : ai_iv E i with
  | mk a b =>
    rw [e] at h a1 a2
    dsimp only at h a1 a2
    cases e1 : ai_le 0 a with
    | false => rw [e1] at h; cases h
    | true =>
      rw [e1] at h
      have e1 := ai_le_iff.mp e1
      have h := ai_le_iff.mp h
      have h : b ≤ (n : Int) - 1 := h
      exact ⟨(ai_vx r i).toNat, by omega, by omega⟩
end
section
/-! THE MACHINE'S WORLD AND THE DOMAIN'S -/
noncomputable def ai_tyOf : Nat → FieldType
  | 0 => .int
  | 1 => .long
  | 2 => .boolean
  | 3 => .array .int
  | 4 => .object RX4
  | _ => .object "java/lang/String"
noncomputable def ai_tys (tyc : Nat → ClassId) : List (ClassId × FieldType) := [(tyc 0, .int), (tyc 1, .long), (tyc 2, .boolean), (tyc 3, .array .int), (tyc 4, .object RX4), (tyc 5, .object "java/lang/String")]
noncomputable def ai_gV (r : Nat → Int) (ad : Nat → Nat) (N n : Nat) (a : ai_V) (v : Value) : Prop := match a with
  | .inl x => x.1 < N ∧ ∃ i : Int32, v = .int i ∧ i.toInt = ai_vx r x
  | .inr (.inl x) => x.1 < N ∧ ∃ i : Int64, v = .long i ∧ i.toInt = ai_vx r x
  | .inr (.inr none) => True
  | .inr (.inr (some none)) => v = .null
  | .inr (.inr (some (some q))) => q < n ∧ v = .ref (ad q)
theorem ai_gV.mono {r r' : Nat → Int} {ad ad' : Nat → Nat} {N N' n n' : Nat} (hr : ai_ext N r r') (ha : ai_ext n ad ad') (hN : N ≤ N') (hn : n ≤ n') {a : ai_V} {v : Value} (h : ai_gV r ad N n a v) : ai_gV r' ad' N' n' a v := by
  rcases a with x | x | _ | _ | q
  · obtain ⟨h1, i, h2, h3⟩ := h
    exact ⟨Nat.lt_of_lt_of_le h1 hN, i, h2, by rw [hr.vx h1]; exact h3⟩
  · obtain ⟨h1, i, h2, h3⟩ := h
    exact ⟨Nat.lt_of_lt_of_le h1 hN, i, h2, by rw [hr.vx h1]; exact h3⟩
  · trivial
  · exact h
  · obtain ⟨h1, h2⟩ := h
    exact ⟨Nat.lt_of_lt_of_le h1 hn, by rw [ha q h1]; exact h2⟩
/-- fields -/
noncomputable def ai_gF (r : Nat → Int) (ad : Nat → Nat) (N n : Nat) : List ai_V → List Value → Prop
  | [], [] => True
  | a :: l, v :: m => ai_gV r ad N n a v ∧ ai_gF r ad N n l m
  | _, _ => False
theorem ai_gF.mono {r r' : Nat → Int} {ad ad' : Nat → Nat} {N N' n n' : Nat} (hr : ai_ext N r r') (ha : ai_ext n ad ad') (hN : N ≤ N') (hn : n ≤ n') : ∀ {l : List ai_V} {m : List Value}, ai_gF r ad N n l m → ai_gF r' ad' N' n' l m
  | [], [], _ => trivial
  | _ :: _, _ :: _, h => ⟨h.1.mono hr ha hN hn, ai_gF.mono hr ha hN hn h.2⟩
  | [], _ :: _, h => h.elim
  | _ :: _, [], h => h.elim
theorem ai_gF.get {r : Nat → Int} {ad : Nat → Nat} {N n : Nat} : ∀ {l : List ai_V} {m : List Value} {k : Nat} {a : ai_V}, ai_gF r ad N n l m → ai_getv l k = some a → ∃ v, m[k]? = some v ∧ ai_gV r ad N n a v
  | [], _, _, _, _, h => by cases h
  | _ :: _, [], _, _, h, _ => h.elim
  | a :: l, v :: m, 0, b, h, e => by
    cases e
    exact ⟨v, rfl, h.1⟩
  | a :: l, v :: m, k + 1, b, h, e => by
    obtain ⟨w, h1, h2⟩ := ai_gF.get (k := k) h.2 e
    exact ⟨w, by rw [List.getElem?_cons_succ]; exact h1, h2⟩
theorem ai_gF.set {r : Nat → Int} {ad : Nat → Nat} {N n : Nat} {a : ai_V} {v : Value} (ha : ai_gV r ad N n a v) : ∀ {l : List ai_V} {m : List Value} {k : Nat}, ai_gF r ad N n l m → ai_gF r ad N n (ai_setv l k a) (m.set k v)
  | [], [], _, _ => trivial
  | [], _ :: _, _, h => h.elim
  | _ :: _, [], _, h => h.elim
  | _ :: _, _ :: _, 0, h => ⟨ha, h.2⟩
  | _ :: _, _ :: _, k + 1, h => ⟨h.1, ai_gF.set (k := k) ha h.2⟩
theorem ai_gF.len {r : Nat → Int} {ad : Nat → Nat} {N n : Nat} : ∀ {l : List ai_V} {m : List Value}, ai_gF r ad N n l m → l.length = m.length
  | [], [], _ => rfl
  | [], _ :: _, h => h.elim
  | _ :: _, [], h => h.elim
  | _ :: _, _ :: _, h => by
    rw [List.length_cons, List.length_cons, ai_gF.len h.2]
/-- references in an array -/
noncomputable def ai_gR (ad : Nat → Nat) (n : Nat) (l : List (Option Nat)) (f : Nat → Option Nat) : Prop := ∀ k q, l[k]? = some q → (q = none → f k = none) ∧ ∀ a, q = some a → a < n ∧ f k = some (ad a)
noncomputable def ai_gC (tyc : Nat → ClassId) (r : Nat → Int) (ad : Nat → Nat) (N n : Nat) (c : ai_C) (e : va_E) : Prop := match c with
  | .inl (ci, fs) => ∃ vs, e = .inr (ci, vs) ∧ ai_gF r ad N n fs vs
  | .inr (.inl (ty, m, lo, hi, l)) => (ty = 1 ∧ ∃ f : Nat → Int64, e = .inl (tyc 1, m, .inr (.inl f)) ∧ ai_gK r N lo hi l m (fun j => (f j).toInt)) ∨ ((ty = 0 ∨ ty = 2) ∧ ∃ f : Nat → Int32, e = .inl (tyc ty, m, .inl f) ∧ ai_gK r N lo hi l m (fun j => (f j).toInt))
  | .inr (.inr (ty, l)) => (ty = 3 ∨ ty = 4 ∨ ty = 5) ∧ ∃ f : Nat → Option Nat, e = .inl (tyc ty, l.length, .inr (.inr (.inr (.inr f)))) ∧ ai_gR ad n l f
theorem ai_gK.mono {r r' : Nat → Int} {N N' : Nat} (hr : ai_ext N r r') (hN : N ≤ N') {lo hi : Int} {l : List (ai_X × ai_X)} {m : Nat} {g : Nat → Int} (h : ai_gK r N lo hi l m g) : ai_gK r' N' lo hi l m g :=
  ⟨fun q hq => ⟨Nat.lt_of_lt_of_le (h.1 q hq).1 hN, Nat.lt_of_lt_of_le (h.1 q hq).2 hN⟩, fun j hj => ai_ov_ext hr h.1 (h.2 j hj)⟩
theorem ai_gC.mono {tyc : Nat → ClassId} {r r' : Nat → Int} {ad ad' : Nat → Nat} {N N' n n' : Nat} (hr : ai_ext N r r') (ha : ai_ext n ad ad') (hN : N ≤ N') (hn : n ≤ n') {c : ai_C} {e : va_E} (h : ai_gC tyc r ad N n c e) : ai_gC tyc r' ad' N' n' c e := by
  rcases c with ⟨ci, fs⟩ | ⟨ty, m, lo, hi, l⟩ | ⟨ty, l⟩
  · obtain ⟨vs, h1, h2⟩ := h
    exact ⟨vs, h1, h2.mono hr ha hN hn⟩
  · rcases h with ⟨h1, f, h2, h3⟩ | ⟨h1, f, h2, h3⟩
    · exact Or.inl ⟨h1, f, h2, h3.mono hr hN⟩
    · exact Or.inr ⟨h1, f, h2, h3.mono hr hN⟩
  · obtain ⟨h1, f, h2, h3⟩ := h
    exact ⟨h1, f, h2, fun k q hk => ⟨(h3 k q hk).1, fun a e => ⟨Nat.lt_of_lt_of_le ((h3 k q hk).2 a e).1 hn, by rw [ha a ((h3 k q hk).2 a e).1]; exact ((h3 k q hk).2 a e).2⟩⟩⟩
/-- the heap; cells that the domain doesn't speak of are as they were -/
noncomputable def ai_gH (tyc : Nat → ClassId) (r : Nat → Int) (ad : Nat → Nat) (N : Nat) (ws0 : va_W) (h : ai_H) (ws : va_W) : Prop :=
  (16 ≤ h.1 ∧ h.1 ≤ 512 ∧ ws.length + 16 = h.1) ∧ (∀ k q, ws[k]? = some q → q.1 = ad (k + 16)) ∧ (∀ k, k + 16 < h.1 → ∀ c, ai_cell h (k + 16) = some c → ∃ e, ws[k]? = some (ad (k + 16), e) ∧ ai_gC tyc r ad N h.1 c e) ∧ ∀ k, k + 16 < h.1 → ai_cell h (k + 16) = none → ws[k]? = ws0[k]?
theorem ai_gH.mono {tyc : Nat → ClassId} {r r' : Nat → Int} {ad : Nat → Nat} {N N' : Nat} (hr : ai_ext N r r') (hN : N ≤ N') {ws0 ws : va_W} {h : ai_H} (g : ai_gH tyc r ad N ws0 h ws) : ai_gH tyc r' ad N' ws0 h ws :=
  ⟨g.1, g.2.1, fun k hk c hc => by
    obtain ⟨e, h1, h2⟩ := g.2.2.1 k hk c hc
    exact ⟨e, h1, h2.mono hr ai_ext.rfl' hN (Nat.le_refl _)⟩, g.2.2.2⟩
/-- a cell that stands in the domain's heap, by its number -/
theorem ai_gH.at {tyc : Nat → ClassId} {r : Nat → Int} {ad : Nat → Nat} {N : Nat} {ws0 ws : va_W} {h : ai_H} (g : ai_gH tyc r ad N ws0 h ws) {q : Nat} (hq : 16 ≤ q) (hn : q < h.1) {c : ai_C} (hc : ai_cell h q = some c) : ∃ e, ws[q - 16]? = some (ad q, e) ∧ ai_gC tyc r ad N h.1 c e := by
  obtain ⟨k, rfl⟩ : ∃ k, q = k + 16 := ⟨q - 16, by omega⟩
  rw [Nat.add_sub_cancel]
  exact g.2.2.1 k hn c hc
theorem ai_put_ok {h h' : ai_H} {q : Nat} {c : ai_C} (e : ai_put h q c = some h') : 16 ≤ q ∧ q < h.1 ∧ h'.1 = h.1 ∧ (h.1 ≤ 512 → ∀ k, k < 512 → ai_cell h' k = if k = q then some c else ai_cell h k) := by
  obtain ⟨n, t⟩ := h
  unfold ai_put at e
  dsimp only at e
  split at e
  · rename_i e1 e2
    have e1 := Nat.le_of_ble_eq_true e1
    have e2 := Nat.le_of_ble_eq_true e2
    cases e
    refine ⟨e1, e2, rfl, fun hn k hk => ?_⟩
    have hn : n ≤ 512 := hn
    exact ai_tget_set (some c) 9 t q k (show q < 512 by omega) hk
  · cases e
theorem ai_push_ok {h h' : ai_H} {c : ai_C} (e : ai_push h c = some h') : h.1 < 512 ∧ h'.1 = h.1 + 1 ∧ ∀ k, k < 512 → ai_cell h' k = if k = h.1 then some c else ai_cell h k := by
  obtain ⟨n, t⟩ := h
  unfold ai_push at e
  dsimp only at e
  split at e
  · rename_i e1
    cases e
    have e1 : n < 512 := by
      by_cases g : 512 ≤ n
      · rw [Nat.ble_eq_true_of_le g] at e1; cases e1
      · omega
    exact ⟨e1, rfl, fun k hk => ai_tget_set (some c) 9 t n k e1 hk⟩
  · cases e
theorem ai_gH.put {tyc : Nat → ClassId} {r : Nat → Int} {ad : Nat → Nat} {N : Nat} {ws0 ws : va_W} {h h' : ai_H} (g : ai_gH tyc r ad N ws0 h ws) {q : Nat} {c : ai_C} (e : ai_put h q c = some h') {x : va_E} (hx : ai_gC tyc r ad N h.1 c x) : ai_gH tyc r ad N ws0 h' (ws.set (q - 16) (ad q, x)) := by
  obtain ⟨p1, p2, p3, p4⟩ := ai_put_ok e
  obtain ⟨⟨g1, g2, g3⟩, g4, g5, g6⟩ := g
  have p4 := p4 g2
  refine ⟨⟨by omega, by omega, by rw [List.length_set]; omega⟩, fun k z hk => ?_, fun k hk d hd => ?_, fun k hk hd => ?_⟩
  · by_cases ek : k = q - 16
    · subst ek
      rw [List.getElem?_set_self (by omega)] at hk
      cases hk
      show ad q = ad (q - 16 + 16)
      rw [show q - 16 + 16 = q by omega]
    · rw [List.getElem?_set_ne (Ne.symm ek)] at hk
      exact g4 k z hk
  · rw [p3] at hk ⊢
    rw [p4 _ (by omega)] at hd
    by_cases ek : k + 16 = q
    · rw [if_pos ek] at hd
      cases hd
      subst ek
      exact ⟨x, by rw [Nat.add_sub_cancel, List.getElem?_set_self (by omega)], hx⟩
    · rw [if_neg ek] at hd
      obtain ⟨x2, h1, h2⟩ := g5 k hk d hd
      exact ⟨x2, by rw [List.getElem?_set_ne (by omega)]; exact h1, h2⟩
  · rw [p3] at hk
    rw [p4 _ (by omega)] at hd
    by_cases ek : k + 16 = q
    · rw [if_pos ek] at hd; cases hd
    · rw [if_neg ek] at hd
      rw [List.getElem?_set_ne (by omega)]
      exact g6 k hk hd
noncomputable def ai_updA (ad : Nat → Nat) (n a : Nat) : Nat → Nat := fun t => if t = n then a else ad t
theorem ai_updA_ext (ad : Nat → Nat) (n a : Nat) : ai_ext n ad (ai_updA ad n a) := fun t ht => if_neg (by omega)
theorem ai_updA_at (ad : Nat → Nat) (n a : Nat) : ai_updA ad n a n = a := if_pos rfl
theorem ai_gH.push {tyc : Nat → ClassId} {r : Nat → Int} {ad : Nat → Nat} {N : Nat} {ws0 ws : va_W} {h h' : ai_H} (g : ai_gH tyc r ad N ws0 h ws) {c : ai_C} (e : ai_push h c = some h') {x : va_E} {a : Nat} (hx : ai_gC tyc r (ai_updA ad h.1 a) N h'.1 c x) : ai_gH tyc r (ai_updA ad h.1 a) N ws0 h' (ws ++ [(a, x)]) := by
  obtain ⟨p1, p2, p3⟩ := ai_push_ok e
  obtain ⟨⟨g1, g2, g3⟩, g4, g5, g6⟩ := g
  have ext := ai_updA_ext ad h.1 a
  refine ⟨⟨by omega, by omega, by rw [List.length_append]; show _ + 1 + 16 = _; omega⟩, fun k z hk => ?_, fun k hk d hd => ?_, fun k hk hd => ?_⟩
  · by_cases el : k < ws.length
    · rw [List.getElem?_append_left el] at hk
      rw [g4 k z hk]
      exact (ext _ (by omega)).symm
    · rw [List.getElem?_append_right (by omega)] at hk
      have h0 : k - ws.length < 1 := (List.getElem?_eq_some_iff.mp hk).1
      have h1 : k = ws.length := by omega
      subst h1
      rw [Nat.sub_self] at hk
      cases hk
      rw [g3, ai_updA_at]
  · rw [p3 _ (by omega)] at hd
    by_cases ek : k + 16 = h.1
    · rw [if_pos ek] at hd
      cases hd
      have h1 : k = ws.length := by omega
      subst h1
      refine ⟨x, ?_, hx⟩
      rw [List.getElem?_append_right (Nat.le_refl _), Nat.sub_self, g3, ai_updA_at]
      rfl
    · rw [if_neg ek] at hd
      obtain ⟨x2, h1, h2⟩ := g5 k (by omega) d hd
      have el : k < ws.length := (List.getElem?_eq_some_iff.mp h1).1
      refine ⟨x2, ?_, h2.mono ai_ext.rfl' ext (Nat.le_refl _) (by omega)⟩
      rw [List.getElem?_append_left el, h1, ext _ (by omega)]
  · rw [p3 _ (by omega)] at hd
    by_cases ek : k + 16 = h.1
    · rw [if_pos ek] at hd; cases hd
    · rw [if_neg ek] at hd
      rw [List.getElem?_append_left (by omega)]
      exact g6 k (by omega) hd
/-- old cells: the script -/
abbrev ai_B : Type := (Nat → Nat) × List (Nat × Nat × Nat × (Nat → Int32))
noncomputable def ai_Xo (xo : List (Nat × Nat × Nat × (Nat → Int32))) (A : Nat → Prop) (s : State) : Prop := ∀ z ∈ xo, va_X z.2.1 z.2.2.1 z.2.2.2 s s.heap ∧ z.2.1 < s.heap.size ∧ ¬ A z.2.1
noncomputable def ai_gO (xo : List (Nat × Nat × Nat × (Nat → Int32))) (r : Nat → Int) (ad : Nat → Nat) (N : Nat) (h : ai_H) : Prop := ∀ q, q < 16 → ∀ c, ai_cell h q = some c → ∃ z ∈ xo, ∃ (lo hi : Int) (l : List (ai_X × ai_X)), c = .inr (.inl (0, z.2.2.1, lo, hi, l)) ∧ ad q = z.2.1 ∧ ai_gK r N lo hi l z.2.2.1 (fun j => (z.2.2.2 j).toInt)
theorem ai_gO.mono {xo : List (Nat × Nat × Nat × (Nat → Int32))} {r r' : Nat → Int} {ad ad' : Nat → Nat} {N N' n : Nat} (hn : 16 ≤ n) (hr : ai_ext N r r') (ha : ai_ext n ad ad') (hN : N ≤ N') {h : ai_H} (g : ai_gO xo r ad N h) : ai_gO xo r' ad' N' h := fun q hq c hc => by
  obtain ⟨z, hz, lo, hi, l, h1, h2, h5⟩ := g q hq c hc
  have e := ha q (by omega)
  exact ⟨z, hz, lo, hi, l, h1, by rw [e]; exact h2, h5.mono hr hN⟩
theorem ai_gO.heap {xo : List (Nat × Nat × Nat × (Nat → Int32))} {r : Nat → Int} {ad : Nat → Nat} {N : Nat} {h h' : ai_H} (g : ai_gO xo r ad N h) (e : ∀ k, k < 16 → ai_cell h' k = ai_cell h k) : ai_gO xo r ad N h' := fun q hq c hc => g q hq c (by rw [← e q hq]; exact hc)
/-- what the script is, as the domain has it -/
theorem ai_gO.use {xo : List (Nat × Nat × Nat × (Nat → Int32))} {A : Nat → Prop} {s : State} {r : Nat → Int} {ad : Nat → Nat} {N : Nat} {h : ai_H} (g : ai_gO xo r ad N h) (hX : ai_Xo xo A s) : ∀ q, q < 16 → ∀ c, ai_cell h q = some c → ∃ (m : Nat) (lo hi : Int) (l : List (ai_X × ai_X)) (xs : Nat → Int32), c = .inr (.inl (0, m, lo, hi, l)) ∧ va_X (ad q) m xs s s.heap ∧ ad q < s.heap.size ∧ ¬ A (ad q) ∧ ai_gK r N lo hi l m (fun j => (xs j).toInt) := fun q hq c hc => by
  obtain ⟨z, hz, lo, hi, l, h1, h2, h5⟩ := g q hq c hc
  obtain ⟨x1, x2, x3⟩ := hX z hz
  exact ⟨_, lo, hi, l, _, h1, by rw [h2]; exact x1, by rw [h2]; exact x2, by rw [h2]; exact x3, h5⟩
/-- locals and the operand stack -/
noncomputable def ai_gL (r : Nat → Int) (ad : Nat → Nat) (N n nL : Nat) (L : List ai_V) (ls : Array Slot) : Prop := L.length = nL ∧ ls.size = nL ∧ lv_wf ls ∧ ∀ i, ai_lget L i ≠ .inr (.inr none) → ∃ v, ls[i]? = some (.val v) ∧ ai_gV r ad N n (ai_lget L i) v
theorem ai_gL.mono {r r' : Nat → Int} {ad ad' : Nat → Nat} {N N' n n' nL : Nat} (hr : ai_ext N r r') (ha : ai_ext n ad ad') (hN : N ≤ N') (hn : n ≤ n') {L : List ai_V} {ls : Array Slot} (h : ai_gL r ad N n nL L ls) : ai_gL r' ad' N' n' nL L ls :=
  ⟨h.1, h.2.1, h.2.2.1, fun i hi => by
    obtain ⟨v, h1, h2⟩ := h.2.2.2 i hi
    exact ⟨v, h1, h2.mono hr ha hN hn⟩⟩
theorem ai_gV.cat {r : Nat → Int} {ad : Nat → Nat} {N n : Nat} {a : ai_V} {v : Value} (h : ai_gV r ad N n a v) : (ai_one a = true → v.category = 1) ∧ (ai_lng a = true → v.category = 2) := by
  rcases a with x | x | _ | _ | q
  · obtain ⟨-, i, rfl, -⟩ := h
    exact ⟨fun _ => rfl, fun e => by cases e⟩
  · obtain ⟨-, i, rfl, -⟩ := h
    exact ⟨fun e => (by cases e), fun _ => rfl⟩
  · exact ⟨fun e => (by cases e), fun e => by cases e⟩
  · have h : v = .null := h
    subst h
    exact ⟨fun _ => rfl, fun e => by cases e⟩
  · obtain ⟨-, rfl⟩ := h
    exact ⟨fun _ => rfl, fun e => by cases e⟩
theorem ai_lget_len : ∀ {L : List ai_V} {i : Nat}, ai_lget L i ≠ .inr (.inr none) → i < L.length
  | [], _, h => absurd rfl h
  | _ :: _, 0, _ => Nat.succ_pos _
  | _ :: L, i + 1, h => Nat.succ_lt_succ (ai_lget_len (L := L) (i := i) h)
theorem ai_lset_len : ∀ (L : List ai_V) (i : Nat) (v : ai_V), (ai_lset L i v).length = L.length
  | [], _, _ => rfl
  | _ :: _, 0, _ => rfl
  | _ :: L, 1, v => congrArg Nat.succ (ai_lset_len L 0 v)
  | _ :: L, i + 2, v => congrArg Nat.succ (ai_lset_len L (i + 1) v)
theorem ai_lget_set : ∀ (L : List ai_V) (i : Nat) (v : ai_V), i < L.length → ∀ j, ai_lget (ai_lset L i v) j = if j = i then v else if j + 1 = i then ai_kill (ai_lget L j) else ai_lget L j
  | [], i, v, h, j => by cases h
  | w :: L, 0, v, h, j => by
    cases j with
    | zero => rfl
    | succ j => simp [ai_lset, ai_lget]
  | w :: L, 1, v, h, j => by
    have h : 0 < L.length := Nat.lt_of_succ_lt_succ h
    cases j with
    | zero => simp [ai_lset, ai_lget]
    | succ j =>
      have := ai_lget_set L 0 v h j
      simp only [ai_lset, ai_lget]
      rw [this]
      simp
  | w :: L, i + 2, v, h, j => by
    have h : i + 1 < L.length := Nat.lt_of_succ_lt_succ h
    cases j with
    | zero => simp [ai_lset, ai_lget]
    | succ j =>
      have := ai_lget_set L (i + 1) v h j
      simp only [ai_lset, ai_lget]
      rw [this]
      simp
/-- the pairs that the kit's rows speak of -/
noncomputable def ai_unk (a : ai_V) : Bool := match a with
  | .inr (.inr none) => true
  | _ => false
theorem ai_unk_iff {a : ai_V} : ai_unk a = false ↔ a ≠ .inr (.inr none) := by
  rcases a with x | x | _ | x
  · exact ⟨fun _ q => (by cases q), fun _ => rfl⟩
  · exact ⟨fun _ q => (by cases q), fun _ => rfl⟩
  · exact ⟨fun h => (by cases h), fun h => absurd rfl h⟩
  · exact ⟨fun _ q => (by cases q), fun _ => rfl⟩
noncomputable def ai_pair (ls : Array Slot) (L : List ai_V) (i : Nat) : Option (Nat × Value) := match ai_unk (ai_lget L i) with
  | true => none
  | false => match ls[i]? with
    | some (.val v) => some (i, v)
    | _ => none
theorem ai_pair_some {ls : Array Slot} {L : List ai_V} {i : Nat} {q : Nat × Value} (h : ai_pair ls L i = some q) : q.1 = i ∧ ls[i]? = some (.val q.2) := by
  unfold ai_pair at h
  cases e : ai_unk (ai_lget L i) with
  | true => rw [e] at h; cases h
  | false =>
    rw [e] at h
    cases e2 : ls[i]? with
    | none => rw [e2] at h; cases h
    | some x => cases x with
      | unset => rw [e2] at h; cases h
      | second => rw [e2] at h; cases h
      | val v => rw [e2] at h; cases h; exact ⟨rfl, rfl⟩
noncomputable def ai_pairs (ls : Array Slot) (L : List ai_V) : List (Nat × Value) := (List.range L.length).filterMap (ai_pair ls L)
theorem ai_pairs_has {r : Nat → Int} {ad : Nat → Nat} {N n nL : Nat} {L : List ai_V} {ls : Array Slot} (h : ai_gL r ad N n nL L ls) : lv_has ls nL (ai_pairs ls L) := by
  refine ⟨h.2.1, h.2.2.1, fun q hq => ?_⟩
  obtain ⟨i, -, hi⟩ := List.mem_filterMap.mp hq
  obtain ⟨e1, e2⟩ := ai_pair_some hi
  rw [e1]; exact e2
theorem ai_pairs_mem {r : Nat → Int} {ad : Nat → Nat} {N n nL : Nat} {L : List ai_V} {ls : Array Slot} (h : ai_gL r ad N n nL L ls) {i : Nat} (hi : ai_lget L i ≠ .inr (.inr none)) : ∃ v, (i, v) ∈ ai_pairs ls L ∧ ai_gV r ad N n (ai_lget L i) v := by
  obtain ⟨v, h1, h2⟩ := h.2.2.2 i hi
  refine ⟨v, List.mem_filterMap.mpr ⟨i, List.mem_range.mpr (ai_lget_len hi), ?_⟩, h2⟩
  unfold ai_pair
  rw [ai_unk_iff.mpr hi, h1]
/-- behind a store of one word -/
theorem ai_gL.set' {r : Nat → Int} {ad : Nat → Nat} {N n nL : Nat} {L : List ai_V} {ls ls' : Array Slot} (h : ai_gL r ad N n nL L ls) {i : Nat} (hi : i < nL) {a : ai_V} {v : Value} (ha : ai_gV r ad N n a v) (g : lv_has ls' nL ((i, v) :: (ai_pairs ls L).filter (fun q => !(q.1 == i) && !(q.1 + 1 == i && q.2.category == 2)))) : ai_gL r ad N n nL (ai_lset L i a) ls' := by
  refine ⟨(ai_lset_len _ _ _).trans h.1, g.1, g.2.1, fun j hj => ?_⟩
  rw [ai_lget_set L i a (by rw [h.1]; exact hi)] at hj ⊢
  by_cases e : j = i
  · subst e
    rw [if_pos rfl]
    exact ⟨v, g.2.2 _ List.mem_cons_self, ha⟩
  · rw [if_neg e] at hj ⊢
    by_cases e2 : j + 1 = i
    · rw [if_pos e2] at hj ⊢
      have hk : ai_lget L j ≠ .inr (.inr none) ∧ ai_kill (ai_lget L j) = ai_lget L j ∧ ai_lng (ai_lget L j) = false := by
        cases e3 : ai_lget L j with
        | inl x => exact ⟨fun q => (by cases q), rfl, rfl⟩
        | inr x => cases x with
          | inl x => rw [e3] at hj; exact absurd rfl hj
          | inr x => cases x with
            | none => rw [e3] at hj; exact absurd rfl hj
            | some x => exact ⟨fun q => (by cases q), rfl, rfl⟩
      obtain ⟨w, k1, k2⟩ := ai_pairs_mem h hk.1
      rw [hk.2.1]
      refine ⟨w, g.2.2 (j, w) (List.mem_cons_of_mem _ (List.mem_filter.mpr ⟨k1, ?_⟩)), k2⟩
      have c1 : ai_one (ai_lget L j) = true := by
        cases e3 : ai_lget L j with
        | inl x => rfl
        | inr x => cases x with
          | inl x => rw [e3] at hk; exact absurd hk.2.2 (by simp [ai_lng])
          | inr x => cases x with
            | none => exact absurd e3 hk.1
            | some x => rfl
      have c2 := k2.cat.1 c1
      simp [e, c2]
    · rw [if_neg e2] at hj ⊢
      obtain ⟨w, k1, k2⟩ := ai_pairs_mem h hj
      refine ⟨w, g.2.2 (j, w) (List.mem_cons_of_mem _ (List.mem_filter.mpr ⟨k1, ?_⟩)), k2⟩
      simp [e, e2]
theorem ai_gL.set {r : Nat → Int} {ad : Nat → Nat} {N n nL : Nat} {L : List ai_V} {ls ls' : Array Slot} (h : ai_gL r ad N n nL L ls) {i : Nat} (hi : i < nL) {a : ai_V} {v : Value} (ha : ai_gV r ad N n a v) (_ : ai_one a = true) (g : lv_has ls' nL ((i, v) :: (ai_pairs ls L).filter (fun q => !(q.1 == i) && !(q.1 + 1 == i && q.2.category == 2)))) : ai_gL r ad N n nL (ai_lset L i a) ls' := h.set' hi ha g
noncomputable def ai_gS (r : Nat → Int) (ad : Nat → Nat) (N n : Nat) (S : List ai_V) (st : List Value) : Prop := ai_gF r ad N n S st
/-- the machine's frame and world, as the domain has them -/
noncomputable def ai_Rel (D : va_G) (tyc : Nat → ClassId) (A : Nat → Prop) (s : State) (sa : ai_B) (ws0 : va_W) (nL : Nat) (r : Nat → Int) (ad : Nat → Nat) (L S : List ai_V) (G : ai_G) (H : Heap) (locs : List Loc) (ls : Array Slot) (st : List Value) : Prop :=
  ∃ ws, va_P D vwCl ws H ∧ va_D A ws ∧ va_S A s.heap H locs ∧ ai_gE r G.1 ∧ ai_gH tyc r ad G.1.1 ws0 G.2.1 ws ∧ ai_gO sa.2 r ad G.1.1 G.2.1 ∧ (∀ i, i < 10 → ad (i + 1) = sa.1 i) ∧ ai_gL r ad G.1.1 G.2.1.1 nL L ls ∧ ai_gS r ad G.1.1 G.2.1.1 S st
end
section
/-! ONE INSTRUCTION -/
noncomputable def ai_Cn (p : Program) (l : Launch) (e : Env) (R : Room) (s : State) (m : MethodId) (args : Array Value) (below : List Frame) (meth : Method) (c : Code) (Q : State → Prop) (D : va_G) (tyc : Nat → ClassId) (A : Nat → Prop) (sa : ai_B) (ws0 : va_W) (nL : Nat) (r : Nat → Int) (ad : Nat → Nat) (G0 : ai_G) (f : ai_F) : Prop :=
  ∀ (r' : Nat → Int) (ad' : Nat → Nat), ai_ext G0.1.1 r r' → ai_ext G0.2.1.1 ad ad' → G0.1.1 ≤ f.2.2.2.1.1 → G0.2.1.1 ≤ f.2.2.2.2.1.1 → ∀ (H : Heap) (locs : List Loc) (ls : Array Slot) (st : List Value), ai_Rel D tyc A s sa ws0 nL r' ad' f.2.1 f.2.2.1 f.2.2.2 H locs ls st → W p l e R s m args below meth c H locs f.2.2.2.2.2.1 f.2.2.2.2.2.2 Q (F0 m f.1 ls st)
theorem ai_gF.cons {r : Nat → Int} {ad : Nat → Nat} {N n : Nat} {a : ai_V} {l : List ai_V} {m : List Value} (h : ai_gF r ad N n (a :: l) m) : ∃ v t, m = v :: t ∧ ai_gV r ad N n a v ∧ ai_gF r ad N n l t := by
  cases m with
  | nil => exact h.elim
  | cons v t => exact ⟨v, t, rfl, h.1, h.2⟩
theorem ai_gF.int {r : Nat → Int} {ad : Nat → Nat} {N n : Nat} {x : ai_X} {l : List ai_V} {m : List Value} (h : ai_gF r ad N n (.inl x :: l) m) : ∃ (i : Int32) (t : List Value), m = .int i :: t ∧ x.1 < N ∧ i.toInt = ai_vx r x ∧ ai_gF r ad N n l t := by
  obtain ⟨v, t, rfl, ⟨h1, i, rfl, h2⟩, h3⟩ := h.cons
  exact ⟨i, t, rfl, h1, h2, h3⟩
theorem ai_gF.long {r : Nat → Int} {ad : Nat → Nat} {N n : Nat} {x : ai_X} {l : List ai_V} {m : List Value} (h : ai_gF r ad N n (.inr (.inl x) :: l) m) : ∃ (i : Int64) (t : List Value), m = .long i :: t ∧ x.1 < N ∧ i.toInt = ai_vx r x ∧ ai_gF r ad N n l t := by
  obtain ⟨v, t, rfl, ⟨h1, i, rfl, h2⟩, h3⟩ := h.cons
  exact ⟨i, t, rfl, h1, h2, h3⟩
theorem ai_gF.ref {r : Nat → Int} {ad : Nat → Nat} {N n q : Nat} {l : List ai_V} {m : List Value} (h : ai_gF r ad N n (.inr (.inr (some (some q))) :: l) m) : ∃ (t : List Value), m = .ref (ad q) :: t ∧ q < n ∧ ai_gF r ad N n l t := by
  obtain ⟨v, t, rfl, ⟨h1, rfl⟩, h3⟩ := h.cons
  exact ⟨t, rfl, h1, h3⟩
section ST
variable {p : Program} {l : Launch} {e : Env} {R : Room} {s : State} {m : MethodId} {args : Array Value} {below : List Frame} {meth : Method} {c : Code} {Q : State → Prop}
variable {D : va_G} {tyc : Nat → ClassId} {A : Nat → Prop} {sa : ai_B} {ws0 : va_W} {nL : Nat} {cc : ByteArray} {own : String} {Ts : List Cond}
variable {r : Nat → Int} {ad : Nat → Nat} {L S : List ai_V} {G : ai_G} {H : Heap} {locs : List Loc} {ls : Array Slot} {st : List Value} {pc nx : Nat} {fs : List ai_F}
theorem ai_Rel.re {E' : ai_E} {r' : Nat → Int} {S' : List ai_V} {st' : List Value} (hR : ai_Rel D tyc A s sa ws0 nL r ad L S G H locs ls st) (hx : ai_ext G.1.1 r r') (hN : G.1.1 ≤ E'.1) (hE' : ai_gE r' E') (hS' : ai_gF r' ad E'.1 G.2.1.1 S' st') : ai_Rel D tyc A s sa ws0 nL r' ad L S' (E', G.2) H locs ls st' := by
  obtain ⟨ws, hP, hD, hS, hE, hH, hO, hsa, hL, hSt⟩ := hR
  exact ⟨ws, hP, hD, hS, hE', hH.mono hx hN, hO.mono (hH.1.1) hx ai_ext.rfl' hN, hsa, hL.mono hx ai_ext.rfl' hN (Nat.le_refl _), hS'⟩
theorem ai_Rel.st' {S' : List ai_V} {st' : List Value} (hR : ai_Rel D tyc A s sa ws0 nL r ad L S G H locs ls st) (hS' : ai_gF r ad G.1.1 G.2.1.1 S' st') : ai_Rel D tyc A s sa ws0 nL r ad L S' G H locs ls st' := by
  obtain ⟨ws, hP, hD, hS, hE, hH, hO, hsa, hL, hSt⟩ := hR
  exact ⟨ws, hP, hD, hS, hE, hH, hO, hsa, hL, hS'⟩
theorem ai_Rel.stk (hR : ai_Rel D tyc A s sa ws0 nL r ad L S G H locs ls st) : ai_gF r ad G.1.1 G.2.1.1 S st := by
  obtain ⟨ws, hP, hD, hS, hE, hH, hO, hsa, hL, hSt⟩ := hR
  exact hSt
theorem ai_Rel.env (hR : ai_Rel D tyc A s sa ws0 nL r ad L S G H locs ls st) : ai_gE r G.1 := by
  obtain ⟨ws, hP, hD, hS, hE, hH, hO, hsa, hL, hSt⟩ := hR
  exact hE
theorem ai_Cn.use {f : ai_F} (k : ai_Cn p l e R s m args below meth c Q D tyc A sa ws0 nL r ad G f) {r' : Nat → Int} {ad' : Nat → Nat} (h1 : ai_ext G.1.1 r r') (h2 : ai_ext G.2.1.1 ad ad') (h3 : G.1.1 ≤ f.2.2.2.1.1) (h4 : G.2.1.1 ≤ f.2.2.2.2.1.1) (hR : ai_Rel D tyc A s sa ws0 nL r' ad' f.2.1 f.2.2.1 f.2.2.2 H locs ls st) : W p l e R s m args below meth c H locs f.2.2.2.2.2.1 f.2.2.2.2.2.2 Q (F0 m f.1 ls st) := k r' ad' h1 h2 h3 h4 H locs ls st hR
/-- nothing but the stack changes, and the symbols -/
theorem ai_Cn.re {E' : ai_E} {S' : List ai_V} (k : ai_Cn p l e R s m args below meth c Q D tyc A sa ws0 nL r ad G (nx, L, S', (E', G.2))) {r' : Nat → Int} {st' : List Value} (hR : ai_Rel D tyc A s sa ws0 nL r ad L S G H locs ls st) (hx : ai_ext G.1.1 r r') (hN : G.1.1 ≤ E'.1) (hE' : ai_gE r' E') (hS' : ai_gF r' ad E'.1 G.2.1.1 S' st') : W p l e R s m args below meth c H locs G.2.2.1 G.2.2.2 Q (F0 m nx ls st') :=
  k r' ad hx ai_ext.rfl' hN (Nat.le_refl _) H locs ls st' (hR.re hx hN hE' hS')
theorem ai_Cn.st' {S' : List ai_V} (k : ai_Cn p l e R s m args below meth c Q D tyc A sa ws0 nL r ad G (nx, L, S', G)) {st' : List Value} (hR : ai_Rel D tyc A s sa ws0 nL r ad L S G H locs ls st) (hS' : ai_gF r ad G.1.1 G.2.1.1 S' st') : W p l e R s m args below meth c H locs G.2.2.1 G.2.2.2 Q (F0 m nx ls st') :=
  k r ad ai_ext.rfl' ai_ext.rfl' (Nat.le_refl _) (Nat.le_refl _) H locs ls st' (hR.st' hS')
theorem ai_go_eq {nx : Nat} {L S : List ai_V} {G : ai_G} (h : ai_go nx L S G = some (.inl fs)) : fs = [(nx, L, S, G)] := by
  cases h; rfl
theorem ai_s2_Z {o : Nat} (ho : o < 14) {Z : Prop} (row : ∀ (x y : Int32) (rest : List Value), st = .int y :: .int x :: rest → W p l e R s m args below meth c H locs G.2.2.1 G.2.2.2 Q (F0 m nx ls (.int (ai_op32 o x y) :: rest)) → Z)
    (h : ai_s2 o nx L S G = some (.inl fs)) (hR : ai_Rel D tyc A s sa ws0 nL r ad L S G H locs ls st) (k : ∀ f ∈ fs, ai_Cn p l e R s m args below meth c Q D tyc A sa ws0 nL r ad G f) : Z := by
  unfold ai_s2 at h
  split at h
  · rename_i y x S'
    obtain ⟨E, hh, cs, sl⟩ := G
    obtain ⟨j, t1, rfl, hy, ey, h1⟩ := hR.stk.int
    obtain ⟨i, t, rfl, hx, ex, h2⟩ := h1.int
    dsimp only at h
    cases eb : ai_bin E o x y with
    | mk z E' =>
      rw [eb] at h
      have hf := ai_go_eq h
      subst hf
      obtain ⟨r', g1, g2, g3, g4, g5⟩ := ai_bin32 ho hR.env hx hy ex ey eb
      exact row i j t rfl ((k _ List.mem_cons_self).re (G := (E, hh, cs, sl)) hR g1 g2 g3 ⟨⟨g4, _, rfl, g5⟩, h2.mono g1 ai_ext.rfl' g2 (Nat.le_refl _)⟩)
  · cases h
theorem ai_s2_ok {o : Nat} (ho : o < 14) (row : ∀ (x y : Int32) (rest : List Value), st = .int y :: .int x :: rest → W p l e R s m args below meth c H locs G.2.2.1 G.2.2.2 Q (F0 m nx ls (.int (ai_op32 o x y) :: rest)) → W p l e R s m args below meth c H locs G.2.2.1 G.2.2.2 Q (F0 m pc ls (.int y :: .int x :: rest)))
    (h : ai_s2 o nx L S G = some (.inl fs)) (hR : ai_Rel D tyc A s sa ws0 nL r ad L S G H locs ls st) (k : ∀ f ∈ fs, ai_Cn p l e R s m args below meth c Q D tyc A sa ws0 nL r ad G f) : W p l e R s m args below meth c H locs G.2.2.1 G.2.2.2 Q (F0 m pc ls st) :=
  ai_s2_Z ho (fun x y rest e hw => by subst e; exact row x y rest rfl hw) h hR k
theorem ai_l2_Z {o : Nat} (ho : 20 ≤ o ∧ o ≤ 24 ∨ o = 26) {Z : Prop} (row : ∀ (x y : Int64) (rest : List Value), st = .long y :: .long x :: rest → W p l e R s m args below meth c H locs G.2.2.1 G.2.2.2 Q (F0 m nx ls (.long (ai_op64 o x y) :: rest)) → Z)
    (h : ai_l2 o nx L S G = some (.inl fs)) (hR : ai_Rel D tyc A s sa ws0 nL r ad L S G H locs ls st) (k : ∀ f ∈ fs, ai_Cn p l e R s m args below meth c Q D tyc A sa ws0 nL r ad G f) : Z := by
  unfold ai_l2 at h
  split at h
  · rename_i y x S'
    obtain ⟨E, hh, cs, sl⟩ := G
    obtain ⟨j, t1, rfl, hy, ey, h1⟩ := hR.stk.long
    obtain ⟨i, t, rfl, hx, ex, h2⟩ := h1.long
    dsimp only at h
    cases eb : ai_bin E o x y with
    | mk z E' =>
      rw [eb] at h
      have hf := ai_go_eq h
      subst hf
      obtain ⟨r', g1, g2, g3, g4, g5⟩ := ai_bin64 ho hR.env hx hy ex ey eb
      exact row i j t rfl ((k _ List.mem_cons_self).re (G := (E, hh, cs, sl)) hR g1 g2 g3 ⟨⟨g4, _, rfl, g5⟩, h2.mono g1 ai_ext.rfl' g2 (Nat.le_refl _)⟩)
  · cases h
theorem ai_l2_ok {o : Nat} (ho : 20 ≤ o ∧ o ≤ 24 ∨ o = 26) (row : ∀ (x y : Int64) (rest : List Value), st = .long y :: .long x :: rest → W p l e R s m args below meth c H locs G.2.2.1 G.2.2.2 Q (F0 m nx ls (.long (ai_op64 o x y) :: rest)) → W p l e R s m args below meth c H locs G.2.2.1 G.2.2.2 Q (F0 m pc ls (.long y :: .long x :: rest)))
    (h : ai_l2 o nx L S G = some (.inl fs)) (hR : ai_Rel D tyc A s sa ws0 nL r ad L S G H locs ls st) (k : ∀ f ∈ fs, ai_Cn p l e R s m args below meth c Q D tyc A sa ws0 nL r ad G f) : W p l e R s m args below meth c H locs G.2.2.1 G.2.2.2 Q (F0 m pc ls st) :=
  ai_l2_Z ho (fun x y rest e hw => by subst e; exact row x y rest rfl hw) h hR k
/-- a branch: what holds of the numbers is known on each side -/
theorem ai_branch_ok {o tgt : Nat} (ho : o < 6) {x y : ai_X} {S' : List ai_V} {st' : List Value} (hx : x.1 < G.1.1) (hy : y.1 < G.1.1)
    (row : (ai_holds o (ai_vx r x) (ai_vx r y) → W p l e R s m args below meth c H locs G.2.2.1 G.2.2.2 Q (F0 m tgt ls st')) → (¬ ai_holds o (ai_vx r x) (ai_vx r y) → W p l e R s m args below meth c H locs G.2.2.1 G.2.2.2 Q (F0 m nx ls st')) → W p l e R s m args below meth c H locs G.2.2.1 G.2.2.2 Q (F0 m pc ls st))
    (h : ai_branch o tgt nx x y L S' G = some (.inl fs)) (hR : ai_Rel D tyc A s sa ws0 nL r ad L S G H locs ls st) (hS' : ai_gF r ad G.1.1 G.2.1.1 S' st') (k : ∀ f ∈ fs, ai_Cn p l e R s m args below meth c Q D tyc A sa ws0 nL r ad G f) : W p l e R s m args below meth c H locs G.2.2.1 G.2.2.2 Q (F0 m pc ls st) := by
  obtain ⟨E, hh, cs, sl⟩ := G
  have hE : ai_gE r E := hR.env
  unfold ai_branch at h
  dsimp only at h
  cases hp : ai_bxy E x y with
  | mk x' y' =>
  rw [hp] at h
  dsimp only at h
  have h : ai_fork (ai_cmp E o x' y') (ai_cmp E (ai_inv o) x' y') tgt nx L S' hh cs sl = fs := by cases h; rfl
  have key : x'.1 < E.1 ∧ y'.1 < E.1 ∧ (ai_holds o (ai_vx r x) (ai_vx r y) ↔ ai_holds o (ai_vx r x') (ai_vx r y')) := by
    unfold ai_bxy at hp
    split at hp
    · rename_i t
      split at hp
      · rename_i q eq
        subst hp
        have hm := hE.2.2.2.2 _ (ai_lcmp_ok eq)
        refine ⟨hm.2.1, hm.2.2.1, ?_⟩
        have e1 : ai_vx r (t + 1, 0) = ai_op 25 (ai_vx r x') (ai_vx r y') := by
          have := hm.2.2.2
          show r (t + 1) + 0 = _
          rw [Int.add_zero]; exact this
        have e2 : ai_vx r (0, 0) = 0 := by
          show r 0 + 0 = 0
          rw [hE.1]; rfl
        rw [e1, e2]
        exact ai_op25 _ _ _
      · cases hp
        exact ⟨hx, hy, Iff.rfl⟩
    · cases hp
      exact ⟨hx, hy, Iff.rfl⟩
  obtain ⟨hx', hy', hiff⟩ := key
  refine row (fun hc => ?_) (fun hc => ?_)
  · obtain ⟨E1, e1, g1, g2⟩ := ai_cmp_ok hE hx' hy' (hiff.mp hc)
    rw [e1] at h
    have hm : (tgt, L, S', (E1, hh, cs, sl)) ∈ fs := by
      rw [← h]
      cases ai_cmp E (ai_inv o) x' y' with
      | none => exact List.mem_cons_self
      | some E2 => exact List.mem_cons_self
    refine (k _ hm).re (G := (E, hh, cs, sl)) hR ai_ext.rfl' (by rw [g2]; exact Nat.le_refl _) g1 ?_
    show ai_gF r ad E1.1 hh.1 S' st'
    rw [g2]; exact hS'
  · obtain ⟨E1, e1, g1, g2⟩ := ai_cmp_ok hE hx' hy' (ai_inv_ok ho (fun q => hc (hiff.mpr q)))
    rw [e1] at h
    have hm : (nx, L, S', (E1, hh, cs, sl)) ∈ fs := by
      rw [← h]
      cases ai_cmp E o x' y' with
      | none => exact List.mem_cons_self
      | some E2 => exact List.mem_cons_of_mem _ List.mem_cons_self
    refine (k _ hm).re (G := (E, hh, cs, sl)) hR ai_ext.rfl' (by rw [g2]; exact Nat.le_refl _) g1 ?_
    show ai_gF r ad E1.1 hh.1 S' st'
    rw [g2]; exact hS'
theorem ai_load_ok {q : ai_V → Bool} {i : Nat} (hq : ∀ a, q a = true → a ≠ .inr (.inr none)) (row : ∀ (v : Value), ls[i]? = some (.val v) → ai_gV r ad G.1.1 G.2.1.1 (ai_lget L i) v → q (ai_lget L i) = true → W p l e R s m args below meth c H locs G.2.2.1 G.2.2.2 Q (F0 m nx ls (v :: st)) → W p l e R s m args below meth c H locs G.2.2.1 G.2.2.2 Q (F0 m pc ls st))
    (h : ai_load q i nx L S G = some (.inl fs)) (hR : ai_Rel D tyc A s sa ws0 nL r ad L S G H locs ls st) (k : ∀ f ∈ fs, ai_Cn p l e R s m args below meth c Q D tyc A sa ws0 nL r ad G f) : W p l e R s m args below meth c H locs G.2.2.1 G.2.2.2 Q (F0 m pc ls st) := by
  have hR0 := hR
  obtain ⟨ws, hP, hD, hS, hE, hH, hO, hsa, hL, hSt⟩ := hR
  unfold ai_load at h
  dsimp only at h
  split at h
  · rename_i e1
    have hf := ai_go_eq h
    subst hf
    obtain ⟨v, g1, g2⟩ := hL.2.2.2 i (hq _ e1)
    exact row v g1 g2 e1 ((k _ List.mem_cons_self).st' hR0 ⟨g2, hSt⟩)
  · cases h
theorem ai_stor_ok {q : ai_V → Bool} {i : Nat} (hq : ∀ a, q a = true → ai_one a = true) (row : ∀ (a : ai_V) (v : Value) (rest : List Value) (lv' : List (Nat × Value)), ai_gV r ad G.1.1 G.2.1.1 a v → q a = true → i < nL → (i, v) :: (ai_pairs ls L).filter (fun q => !(q.1 == i) && !(q.1 + 1 == i && q.2.category == 2)) = lv' → lv_has ls nL (ai_pairs ls L) → (∀ ls' : Array Slot, lv_has ls' nL lv' → W p l e R s m args below meth c H locs G.2.2.1 G.2.2.2 Q (F0 m nx ls' rest)) → W p l e R s m args below meth c H locs G.2.2.1 G.2.2.2 Q (F0 m pc ls (v :: rest)))
    (h : ai_stor q i nx L S G = some (.inl fs)) (hR : ai_Rel D tyc A s sa ws0 nL r ad L S G H locs ls st) (k : ∀ f ∈ fs, ai_Cn p l e R s m args below meth c Q D tyc A sa ws0 nL r ad G f) : W p l e R s m args below meth c H locs G.2.2.1 G.2.2.2 Q (F0 m pc ls st) := by
  obtain ⟨ws, hP, hD, hS, hE, hH, hO, hsa, hL, hSt⟩ := hR
  unfold ai_stor at h
  split at h
  · rename_i a S'
    obtain ⟨v, t, rfl, g1, g2⟩ := hSt.cons
    split at h
    · rename_i e1 e2
      have hf := ai_go_eq h
      subst hf
      have hi : i < L.length := Nat.le_of_ble_eq_true e2
      rw [hL.1] at hi
      refine row a v t _ g1 e1 hi rfl (ai_pairs_has hL) (fun ls' hl' => ?_)
      exact k _ List.mem_cons_self r ad ai_ext.rfl' ai_ext.rfl' (Nat.le_refl _) (Nat.le_refl _) H locs ls' t ⟨ws, hP, hD, hS, hE, hH, hO, hsa, hL.set hi g1 (hq _ e1) hl', g2⟩
    · cases h
  · cases h
end ST
end
section
/-! ONE INSTRUCTION, on the heap -/
theorem ai_clamp (x : Int32) : x.toNatClampNeg = x.toInt.toNat := rfl
theorem ai_vpin {i : Int32} {j n : Nat} (h : i.toInt = (j : Int)) (hj : j < n) : vp_in i n ∧ i.toNatClampNeg = j := by
  refine ⟨vp_in_iff.mpr (by omega), ?_⟩
  rw [ai_clamp, h]; rfl
theorem ai_read_inv {ty nx : Nat} {L S : List ai_V} {G : ai_G} {fs : List ai_F} (h : ai_read ty nx L S G = some (.inl fs)) : ∃ i q S' E hh cs sl n lo hi l, S = .inl i :: .inr (.inr (some (some q))) :: S' ∧ G = (E, hh, cs, sl) ∧ ai_cell hh q = some (.inr (.inl (ty, n, lo, hi, l))) ∧ ai_inb E i n = true ∧
    ((∃ z, ai_kget E lo hi i l = .inl z ∧ fs = [(nx, L, ai_num ty z :: S', (E, hh, cs, sl))]) ∨ ∃ b z E', ai_kget E lo hi i l = .inr b ∧ ai_new E b = (z, E') ∧ fs = [(nx, L, ai_num ty z :: S', (E', hh, cs, sl))]) := by
  unfold ai_read at h
  split at h
  · rename_i i q S'
    obtain ⟨E, hh, cs, sl⟩ := G
    dsimp only at h
    split at h
    · rename_i w n lo hi l ec
      split at h
      · rename_i e1 e2
        have e1 := Nat.eq_of_beq_eq_true e1
        subst e1
        refine ⟨i, q, S', E, hh, cs, sl, n, lo, hi, l, rfl, rfl, ec, e2, ?_⟩
        cases eg : ai_kget E lo hi i l with
        | inl z =>
          rw [eg] at h
          exact Or.inl ⟨z, rfl, ai_go_eq h⟩
        | inr b =>
          rw [eg] at h
          dsimp only at h
          cases en : ai_new E b with
          | mk z E' =>
            rw [en] at h
            exact Or.inr ⟨b, z, E', rfl, en, ai_go_eq h⟩
      · cases h
    · cases h
  · cases h
/-- the number that stands there, as a symbol -/
theorem ai_read_val {r : Nat → Int} {E : ai_E} (hE : ai_gE r E) {i : ai_X} (hi' : i.1 < E.1) {lo hi : Int} {l : List (ai_X × ai_X)} {n j : Nat} {g : Nat → Int} (hg : ai_gK r E.1 lo hi l n g) (hj : j < n) (hij : ai_vx r i = (j : Int)) (hs : ai_small (g j)) {ty nx : Nat} {L S' : List ai_V} {F : ai_H × Nat × Nat} {fs : List ai_F}
    (h : (∃ z, ai_kget E lo hi i l = .inl z ∧ fs = [(nx, L, ai_num ty z :: S', (E, F))]) ∨ ∃ b z E', ai_kget E lo hi i l = .inr b ∧ ai_new E b = (z, E') ∧ fs = [(nx, L, ai_num ty z :: S', (E', F))]) :
    ∃ r' z E', fs = [(nx, L, ai_num ty z :: S', (E', F))] ∧ ai_ext E.1 r r' ∧ E.1 ≤ E'.1 ∧ ai_gE r' E' ∧ z.1 < E'.1 ∧ g j = ai_vx r' z := by
  have hk := ai_kget_ok (lo := lo) (hi := hi) hE hi' hij hg.1 (hg.2 j hj)
  rcases h with ⟨z, e1, e2⟩ | ⟨b, z, E', e1, e2, e3⟩
  · rw [e1] at hk
    exact ⟨r, z, E, e2, ai_ext.rfl', Nat.le_refl _, hE, hk.1, hk.2⟩
  · rw [e1] at hk
    obtain ⟨r', g1, g2, g3, g4, g5⟩ := ai_new_ok hE hk hs e2
    exact ⟨r', z, E', e3, g1, g2, g3, g4, g5.symm⟩
theorem ai_writ_inv {ty nx : Nat} {L S : List ai_V} {G : ai_G} {fs : List ai_F} (h : ai_writ ty nx L S G = some (.inl fs)) : ∃ v z i q S' E hh cs sl n lo hi l h', S = v :: .inl i :: .inr (.inr (some (some q))) :: S' ∧ ai_cut ty v = some z ∧ G = (E, hh, cs, sl) ∧ ai_cell hh q = some (.inr (.inl (ty, n, lo, hi, l))) ∧ ai_inb E i n = true ∧ (ty = 2 → ai_bit E z = true) ∧ ai_put hh q (.inr (.inl (ty, n, lo, hi, (i, z) :: ai_kdrop i l))) = some h' ∧ fs = [(nx, L, S', (E, h', cs, sl))] := by
  unfold ai_writ at h
  split at h
  · rename_i v i q S'
    cases ec : ai_cut ty v with
    | none => rw [ec] at h; cases h
    | some z =>
      rw [ec] at h
      obtain ⟨E, hh, cs, sl⟩ := G
      dsimp only at h
      split at h
      · rename_i w n lo hi l ecell
        split at h
        · rename_i e1 e2 e3
          have e1 := Nat.eq_of_beq_eq_true e1
          subst e1
          split at h
          · rename_i h' ep
            refine ⟨v, z, i, q, S', E, hh, cs, sl, n, lo, hi, l, h', rfl, ec, rfl, ecell, e2, fun e => ?_, ep, ai_go_eq h⟩
            subst e
            exact e3
          · cases h
        · cases h
      · cases h
  · cases h
theorem ai_bit_ok {r : Nat → Int} {E : ai_E} (hE : ai_gE r E) {z : ai_X} (hz : z.1 < E.1) (h : ai_bit E z = true) {x : Int32} (hx : x.toInt = ai_vx r z) : x = 0 ∨ x = 1 := by
  obtain ⟨a1, a2⟩ := ai_iv_ok hE hz
  unfold ai_bit at h
  cases e : ai_iv E z with
  | mk a b =>
    rw [e] at h a1 a2
    dsimp only at h a1 a2
    cases e1 : ai_le 0 a with
    | false => rw [e1] at h; cases h
    | true =>
      rw [e1] at h
      have e1 := ai_le_iff.mp e1
      have h := ai_le_iff.mp h
      have hh : x.toInt = 0 ∨ x.toInt = 1 := by omega
      rcases hh with hh | hh
      · exact Or.inl (Int32.toInt_inj.mp hh)
      · exact Or.inr (Int32.toInt_inj.mp hh)
section SH
variable {p : Program} {l : Launch} {e : Env} {R : Room} {s : State} {m : MethodId} {args : Array Value} {below : List Frame} {meth : Method} {c : Code} {Q : State → Prop}
variable {D : va_G} {tyc : Nat → ClassId} {A : Nat → Prop} {sa : ai_B} {ws0 : va_W} {nL : Nat} {cc : ByteArray} {own : String} {Ts : List Cond}
variable {r : Nat → Int} {ad : Nat → Nat} {L S : List ai_V} {G : ai_G} {H : Heap} {locs : List Loc} {ls : Array Slot} {st : List Value} {pc nx : Nat} {fs : List ai_F}
/-- a read of an int array, or of the script -/
theorem ai_iald_ok (hx : p.tables.exec = Jvm.exec) (hb : c.code = cc) (hK : va_K D vwCl (ai_tys tyc) s) (hxo : ai_Xo sa.2 A s) (hdg : decode cc pc = .ok (.iaload, 1))
    (h : ai_read 0 (pc + 1) L S G = some (.inl fs)) (hR : ai_Rel D tyc A s sa ws0 nL r ad L S G H locs ls st) (k : ∀ f ∈ fs, ai_Cn p l e R s m args below meth c Q D tyc A sa ws0 nL r ad G f) : W p l e R s m args below meth c H locs G.2.2.1 G.2.2.2 Q (F0 m pc ls st) := by
  obtain ⟨i, q, S', E, hh, cs, sl, n, lo, hi, ov, rfl, rfl, hc, hin, hfs⟩ := ai_read_inv h
  have hR0 := hR
  obtain ⟨ws, hP, hD, hS, hE, hH, hO, hsa, hL, hSt⟩ := hR
  obtain ⟨ix, t1, rfl, hi1, hi2, h1⟩ := ai_gF.int hSt
  obtain ⟨t, rfl, hq, h2⟩ := h1.ref
  obtain ⟨j, hj, hij⟩ := ai_inb_ok hE hi1 hin
  obtain ⟨hvp, hcl⟩ := ai_vpin (i := ix) (j := j) (n := n) (by rw [hi2]; exact hij) hj
  by_cases h16 : 16 ≤ q
  · obtain ⟨x, hw, hg⟩ := hH.at h16 hq hc
    rcases hg with ⟨e0, -⟩ | ⟨-, f, rfl, hg⟩
    · cases e0
    · obtain ⟨r', z, E', rfl, g1, g2, g3, g4, g5⟩ := ai_read_val hE hi1 hg hj hij (ai_small32 (ai_i32 _)) hfs
      refine va_iald hx hb hK hP (q - 16) 0 hw rfl hvp hdg ?_
      rw [hcl]
      exact (k _ List.mem_cons_self).re (G := (E, hh, cs, sl)) hR0 g1 g2 g3 ⟨⟨g4, _, rfl, g5⟩, h2.mono g1 ai_ext.rfl' g2 (Nat.le_refl _)⟩
  · obtain ⟨m', lo', hi', l', xs, ec, hX, hl1, hl2, hg⟩ := hO.use hxo q (by omega) _ hc
    cases ec
    obtain ⟨r', z, E', rfl, g1, g2, g3, g4, g5⟩ := ai_read_val hE hi1 hg hj hij (ai_small32 (ai_i32 _)) hfs
    refine va_sld hx hb hX hl1 hl2 hS hvp hdg ?_
    rw [hcl]
    exact (k _ List.mem_cons_self).re (G := (E, hh, cs, sl)) hR0 g1 g2 g3 ⟨⟨g4, _, rfl, g5⟩, h2.mono g1 ai_ext.rfl' g2 (Nat.le_refl _)⟩
theorem ai_lald_ok (hx : p.tables.exec = Jvm.exec) (hb : c.code = cc) (hK : va_K D vwCl (ai_tys tyc) s) (hdg : decode cc pc = .ok (.laload, 1))
    (h : ai_read 1 (pc + 1) L S G = some (.inl fs)) (hR : ai_Rel D tyc A s sa ws0 nL r ad L S G H locs ls st) (k : ∀ f ∈ fs, ai_Cn p l e R s m args below meth c Q D tyc A sa ws0 nL r ad G f) : W p l e R s m args below meth c H locs G.2.2.1 G.2.2.2 Q (F0 m pc ls st) := by
  obtain ⟨i, q, S', E, hh, cs, sl, n, lo, hi, ov, rfl, rfl, hc, hin, hfs⟩ := ai_read_inv h
  have hR0 := hR
  obtain ⟨ws, hP, hD, hS, hE, hH, hO, hsa, hL, hSt⟩ := hR
  obtain ⟨ix, t1, rfl, hi1, hi2, h1⟩ := ai_gF.int hSt
  obtain ⟨t, rfl, hq, h2⟩ := h1.ref
  obtain ⟨j, hj, hij⟩ := ai_inb_ok hE hi1 hin
  obtain ⟨hvp, hcl⟩ := ai_vpin (i := ix) (j := j) (n := n) (by rw [hi2]; exact hij) hj
  by_cases h16 : 16 ≤ q
  · obtain ⟨x, hw, hg⟩ := hH.at h16 hq hc
    rcases hg with ⟨-, f, rfl, hg⟩ | ⟨e0, -⟩
    · obtain ⟨r', z, E', rfl, g1, g2, g3, g4, g5⟩ := ai_read_val hE hi1 hg hj hij (ai_i64 _) hfs
      refine va_lald hx hb hK hP (q - 16) 1 hw rfl hvp hdg ?_
      rw [hcl]
      exact (k _ List.mem_cons_self).re (G := (E, hh, cs, sl)) hR0 g1 g2 g3 ⟨⟨g4, _, rfl, g5⟩, h2.mono g1 ai_ext.rfl' g2 (Nat.le_refl _)⟩
    · rcases e0 with e0 | e0 <;> cases e0
  · obtain ⟨z9, -, lo', hi', l', ec, -⟩ := hO q (by omega) _ hc
    cases ec
theorem ai_bald_ok (hx : p.tables.exec = Jvm.exec) (hb : c.code = cc) (hK : va_K D vwCl (ai_tys tyc) s) (hdg : decode cc pc = .ok (.baload, 1))
    (h : ai_read 2 (pc + 1) L S G = some (.inl fs)) (hR : ai_Rel D tyc A s sa ws0 nL r ad L S G H locs ls st) (k : ∀ f ∈ fs, ai_Cn p l e R s m args below meth c Q D tyc A sa ws0 nL r ad G f) : W p l e R s m args below meth c H locs G.2.2.1 G.2.2.2 Q (F0 m pc ls st) := by
  obtain ⟨i, q, S', E, hh, cs, sl, n, lo, hi, ov, rfl, rfl, hc, hin, hfs⟩ := ai_read_inv h
  have hR0 := hR
  obtain ⟨ws, hP, hD, hS, hE, hH, hO, hsa, hL, hSt⟩ := hR
  obtain ⟨ix, t1, rfl, hi1, hi2, h1⟩ := ai_gF.int hSt
  obtain ⟨t, rfl, hq, h2⟩ := h1.ref
  obtain ⟨j, hj, hij⟩ := ai_inb_ok hE hi1 hin
  obtain ⟨hvp, hcl⟩ := ai_vpin (i := ix) (j := j) (n := n) (by rw [hi2]; exact hij) hj
  by_cases h16 : 16 ≤ q
  · obtain ⟨x, hw, hg⟩ := hH.at h16 hq hc
    rcases hg with ⟨e0, -⟩ | ⟨-, f, rfl, hg⟩
    · cases e0
    · obtain ⟨r', z, E', rfl, g1, g2, g3, g4, g5⟩ := ai_read_val hE hi1 hg hj hij (ai_small32 (ai_i32 _)) hfs
      refine va_zald hx hb hK hP (q - 16) 2 hw rfl hvp hdg ?_
      rw [hcl]
      exact (k _ List.mem_cons_self).re (G := (E, hh, cs, sl)) hR0 g1 g2 g3 ⟨⟨g4, _, rfl, g5⟩, h2.mono g1 ai_ext.rfl' g2 (Nat.le_refl _)⟩
  · obtain ⟨z9, -, lo', hi', l', ec, -⟩ := hO q (by omega) _ hc
    cases ec
/-- behind a write to a cell of the world -/
theorem ai_Cn.put {S' : List ai_V} {st' : List Value} {E : ai_E} {hh h' : ai_H} {cs sl q : Nat} {d : ai_C} {x : va_E} {ws : va_W} {H1 : Heap} {locs1 : List Loc} (k : ai_Cn p l e R s m args below meth c Q D tyc A sa ws0 nL r ad (E, hh, cs, sl) (nx, L, S', (E, h', cs, sl))) (ep : ai_put hh q d = some h')
    (hE : ai_gE r E) (hH : ai_gH tyc r ad E.1 ws0 hh ws) (hO : ai_gO sa.2 r ad E.1 hh) (hsa : ∀ i, i < 10 → ad (i + 1) = sa.1 i) (hL : ai_gL r ad E.1 hh.1 nL L ls) (hSt : ai_gF r ad E.1 hh.1 S' st') (hx : ai_gC tyc r ad E.1 hh.1 d x)
    (hP : va_P D vwCl (ws.set (q - 16) (ad q, x)) H1) (hD : va_D A (ws.set (q - 16) (ad q, x))) (hS : va_S A s.heap H1 locs1) : W p l e R s m args below meth c H1 locs1 cs sl Q (F0 m nx ls st') := by
  obtain ⟨p1, p2, p3, p4⟩ := ai_put_ok ep
  have p4 := p4 hH.1.2.1
  refine k r ad ai_ext.rfl' ai_ext.rfl' (Nat.le_refl _) (by show hh.1 ≤ h'.1; omega) H1 locs1 ls st' ⟨_, hP, hD, hS, hE, hH.put ep hx, hO.heap (fun j hj => by rw [p4 j (by omega), if_neg (by omega)]), hsa, ?_, ?_⟩
  · show ai_gL r ad E.1 h'.1 nL L ls
    rw [p3]; exact hL
  · show ai_gF r ad E.1 h'.1 S' st'
    rw [p3]; exact hSt
theorem ai_cut_ok {ty : Nat} {v : ai_V} {z : ai_X} (h : ai_cut ty v = some z) : v = ai_num ty z := by
  rcases v with x | x | x
  · unfold ai_cut at h
    dsimp only at h
    split at h
    · cases h
    · rename_i hn
      cases h
      unfold ai_num
      split
      · exact absurd rfl hn
      · rfl
  · unfold ai_cut at h
    dsimp only at h
    split at h
    · cases h; rfl
    · cases h
  · cases h
theorem ai_iast_ok (hx : p.tables.exec = Jvm.exec) (hb : c.code = cc) (hK : va_K D vwCl (ai_tys tyc) s) (hdg : decode cc pc = .ok (.iastore, 1))
    (h : ai_writ 0 (pc + 1) L S G = some (.inl fs)) (hR : ai_Rel D tyc A s sa ws0 nL r ad L S G H locs ls st) (k : ∀ f ∈ fs, ai_Cn p l e R s m args below meth c Q D tyc A sa ws0 nL r ad G f) : W p l e R s m args below meth c H locs G.2.2.1 G.2.2.2 Q (F0 m pc ls st) := by
  obtain ⟨v, z, i, q, S', E, hh, cs, sl, n, lo, hi, ov, h', rfl, ev, rfl, hc, hin, -, ep, rfl⟩ := ai_writ_inv h
  obtain ⟨ws, hP, hD, hS, hE, hH, hO, hsa, hL, hSt⟩ := hR
  have ev := ai_cut_ok ev
  subst ev
  obtain ⟨vx, t0, rfl, hz1, hz2, h0⟩ := ai_gF.int (x := z) hSt
  obtain ⟨ix, t1, rfl, hi1, hi2, h1⟩ := h0.int
  obtain ⟨t, rfl, hq, h2⟩ := h1.ref
  obtain ⟨j, hj, hij⟩ := ai_inb_ok hE hi1 hin
  obtain ⟨hvp, hcl⟩ := ai_vpin (i := ix) (j := j) (n := n) (by rw [hi2]; exact hij) hj
  have h16 := (ai_put_ok ep).1
  obtain ⟨x, hw, hg⟩ := hH.at h16 hq hc
  rcases hg with ⟨e0, -⟩ | ⟨-, f, rfl, hg⟩
  · cases e0
  · refine va_iast hx hb hK hP hD hS (q - 16) 0 hw rfl hvp hdg (fun H1 locs1 hP1 hD1 hS1 => ?_)
    rw [hcl] at hP1 hD1
    exact (k _ List.mem_cons_self).put ep hE hH hO hsa hL h2 (Or.inr ⟨Or.inl rfl, _, rfl, ai_kput_ok hg hi1 hz1 hij (by simp [upd, hz2]) (fun a ha => by simp [upd, ha])⟩) hP1 hD1 hS1
theorem ai_last_ok (hx : p.tables.exec = Jvm.exec) (hb : c.code = cc) (hK : va_K D vwCl (ai_tys tyc) s) (hdg : decode cc pc = .ok (.lastore, 1))
    (h : ai_writ 1 (pc + 1) L S G = some (.inl fs)) (hR : ai_Rel D tyc A s sa ws0 nL r ad L S G H locs ls st) (k : ∀ f ∈ fs, ai_Cn p l e R s m args below meth c Q D tyc A sa ws0 nL r ad G f) : W p l e R s m args below meth c H locs G.2.2.1 G.2.2.2 Q (F0 m pc ls st) := by
  obtain ⟨v, z, i, q, S', E, hh, cs, sl, n, lo, hi, ov, h', rfl, ev, rfl, hc, hin, -, ep, rfl⟩ := ai_writ_inv h
  obtain ⟨ws, hP, hD, hS, hE, hH, hO, hsa, hL, hSt⟩ := hR
  have ev := ai_cut_ok ev
  subst ev
  obtain ⟨vx, t0, rfl, hz1, hz2, h0⟩ := ai_gF.long (x := z) hSt
  obtain ⟨ix, t1, rfl, hi1, hi2, h1⟩ := h0.int
  obtain ⟨t, rfl, hq, h2⟩ := h1.ref
  obtain ⟨j, hj, hij⟩ := ai_inb_ok hE hi1 hin
  obtain ⟨hvp, hcl⟩ := ai_vpin (i := ix) (j := j) (n := n) (by rw [hi2]; exact hij) hj
  have h16 := (ai_put_ok ep).1
  obtain ⟨x, hw, hg⟩ := hH.at h16 hq hc
  rcases hg with ⟨-, f, rfl, hg⟩ | ⟨e0, -⟩
  · refine va_last hx hb hK hP hD hS (q - 16) 1 hw rfl hvp hdg (fun H1 locs1 hP1 hD1 hS1 => ?_)
    rw [hcl] at hP1 hD1
    exact (k _ List.mem_cons_self).put ep hE hH hO hsa hL h2 (Or.inl ⟨rfl, _, rfl, ai_kput_ok hg hi1 hz1 hij (by simp [vp_updL, hz2]) (fun a ha => by simp [vp_updL, ha])⟩) hP1 hD1 hS1
  · rcases e0 with e0 | e0 <;> cases e0
theorem ai_bast_ok (hx : p.tables.exec = Jvm.exec) (hb : c.code = cc) (hK : va_K D vwCl (ai_tys tyc) s) (hdg : decode cc pc = .ok (.bastore, 1))
    (h : ai_writ 2 (pc + 1) L S G = some (.inl fs)) (hR : ai_Rel D tyc A s sa ws0 nL r ad L S G H locs ls st) (k : ∀ f ∈ fs, ai_Cn p l e R s m args below meth c Q D tyc A sa ws0 nL r ad G f) : W p l e R s m args below meth c H locs G.2.2.1 G.2.2.2 Q (F0 m pc ls st) := by
  obtain ⟨v, z, i, q, S', E, hh, cs, sl, n, lo, hi, ov, h', rfl, ev, rfl, hc, hin, hbit, ep, rfl⟩ := ai_writ_inv h
  obtain ⟨ws, hP, hD, hS, hE, hH, hO, hsa, hL, hSt⟩ := hR
  have ev := ai_cut_ok ev
  subst ev
  obtain ⟨vx, t0, rfl, hz1, hz2, h0⟩ := ai_gF.int (x := z) hSt
  obtain ⟨ix, t1, rfl, hi1, hi2, h1⟩ := h0.int
  obtain ⟨t, rfl, hq, h2⟩ := h1.ref
  obtain ⟨j, hj, hij⟩ := ai_inb_ok hE hi1 hin
  obtain ⟨hvp, hcl⟩ := ai_vpin (i := ix) (j := j) (n := n) (by rw [hi2]; exact hij) hj
  have h16 := (ai_put_ok ep).1
  obtain ⟨x, hw, hg⟩ := hH.at h16 hq hc
  have hnar : vp_nar .boolean vx = vx := by
    rcases ai_bit_ok hE hz1 (hbit rfl) hz2 with rfl | rfl <;> decide
  rcases hg with ⟨e0, -⟩ | ⟨-, f, rfl, hg⟩
  · cases e0
  · refine va_zast hx hb hK hP hD hS (q - 16) 2 hw rfl hvp hdg (fun H1 locs1 hP1 hD1 hS1 => ?_)
    rw [hcl, hnar] at hP1 hD1
    exact (k _ List.mem_cons_self).put ep hE hH hO hsa hL h2 (Or.inr ⟨Or.inr rfl, _, rfl, ai_kput_ok hg hi1 hz1 hij (by simp [upd, hz2]) (fun a ha => by simp [upd, ha])⟩) hP1 hD1 hS1
end SH
end
section
/-! ONE INSTRUCTION, on objects and references; what is made -/
/-- what a field begins with, and its kind -/
noncomputable def ai_dv (ty : FieldType) : Option ai_V := match ty with
  | .int => some (.inl (0, 0))
  | .boolean => some (.inl (0, 0))
  | .long => some (.inr (.inl (0, 0)))
  | .object _ => some (.inr (.inr (some none)))
  | .array _ => some (.inr (.inr (some none)))
  | _ => none
noncomputable def ai_kd (ty : FieldType) : Nat := match ty with
  | .int => 0
  | .boolean => 2
  | .long => 1
  | .object _ => 3
  | .array _ => 3
  | _ => 9
/-- what the tables say of a class -/
noncomputable def ai_cls (Ts : List Cond) (dflt : Nat → List ai_V) (kind : Nat → Nat → Nat) (ci : Nat) : Prop := ∃ (C : String) (T : u_T) (N : Nat) (ty : Nat → FieldType), vwCl[ci]? = some (C, T, N) ∧ (∀ w ∈ u_ws C T N, w ∈ Ts) ∧ (∀ k, k < N → parseFieldDescriptor (T k).2.2.1 = some (ty k)) ∧ (∀ a, a < N → ∀ b, b < N → a ≠ b → (T a).2.1 ≠ (T b).2.1) ∧ Cond.instantiable C N ∈ Ts ∧ Cond.initialized C ∈ Ts ∧ (dflt ci).length = N ∧ (∀ k, k < N → ai_getv (dflt ci) k = ai_dv (ty k)) ∧ ∀ k, k < N → kind ci k = ai_kd (ty k)
theorem ai_gF_of {r : Nat → Int} {ad : Nat → Nat} {N n : Nat} : ∀ {l : List ai_V} {m : List Value}, l.length = m.length → (∀ k a v, ai_getv l k = some a → m[k]? = some v → ai_gV r ad N n a v) → ai_gF r ad N n l m
  | [], [], _, _ => trivial
  | [], _ :: _, h, _ => by cases h
  | _ :: _, [], h, _ => by cases h
  | a :: l, v :: m, h, g => ⟨g 0 a v rfl rfl, ai_gF_of (Nat.succ.inj h) (fun k b w hb hw => g (k + 1) b w hb (by rw [List.getElem?_cons_succ]; exact hw))⟩
theorem ai_dv_ok {r : Nat → Int} {ad : Nat → Nat} {N n : Nat} (h0 : r 0 = 0) (hN : 0 < N) {ty : FieldType} {a : ai_V} (h : ai_dv ty = some a) : ai_gV r ad N n a (defaultValue ty) := by
  have hz : (0 : Int32).toInt = ai_vx r (0, 0) := by
    show (0 : Int32).toInt = r 0 + 0
    rw [h0]; rfl
  have hzl : (0 : Int64).toInt = ai_vx r (0, 0) := by
    show (0 : Int64).toInt = r 0 + 0
    rw [h0]; rfl
  cases ty <;> first
    | (cases h; exact ⟨hN, 0, rfl, hz⟩)
    | (cases h; exact ⟨hN, 0, rfl, hzl⟩)
    | (cases h; rfl)
    | cases h
theorem ai_fits {r : Nat → Int} {ad : Nat → Nat} {N n : Nat} {E : ai_E} (hE : ai_gE r E) (hN : N = E.1) {ty : FieldType} {a : ai_V} {v : Value} (ha : ai_gV r ad N n a v) (h : ai_okf E (ai_kd ty) a = true) : narrow ty v = v ∧ fits ty v = true := by
  rcases a with x | x | _ | _ | q
  · obtain ⟨hx, i, rfl, hi⟩ := ha
    cases ty with
    | int => exact ⟨rfl, rfl⟩
    | boolean =>
      rw [hN] at hx
      rcases ai_bit_ok hE hx h hi with rfl | rfl
      · exact ⟨rfl, rfl⟩
      · exact ⟨rfl, rfl⟩
    | _ => cases h
  · obtain ⟨hx, i, rfl, hi⟩ := ha
    cases ty with
    | long => exact ⟨rfl, rfl⟩
    | _ => cases h
  · cases h
  · have ha : v = .null := ha
    subst ha
    cases ty with
    | object C => exact ⟨rfl, rfl⟩
    | array t => exact ⟨rfl, rfl⟩
    | _ => cases h
  · obtain ⟨-, rfl⟩ := ha
    cases ty with
    | object C => exact ⟨rfl, rfl⟩
    | array t => exact ⟨rfl, rfl⟩
    | _ => cases h
theorem ai_getf_inv {ci j nx : Nat} {L S : List ai_V} {G : ai_G} {fs : List ai_F} (h : ai_getf ci j nx L S G = some (.inl fs)) : ∃ q S' E hh cs sl xs v, S = .inr (.inr (some (some q))) :: S' ∧ G = (E, hh, cs, sl) ∧ ai_cell hh q = some (.inl (ci, xs)) ∧ ai_getv xs j = some v ∧ fs = [(nx, L, v :: S', G)] := by
  unfold ai_getf at h
  split at h
  · rename_i q S'
    obtain ⟨E, hh, cs, sl⟩ := G
    dsimp only at h
    split at h
    · rename_i cj xs ec
      split at h
      · rename_i v e1 e2
        have e1 := Nat.eq_of_beq_eq_true e1
        subst e1
        exact ⟨q, S', E, hh, cs, sl, xs, v, rfl, rfl, ec, e2, ai_go_eq h⟩
      · cases h
    · cases h
  · cases h
theorem ai_putf_inv {kind : Nat → Nat → Nat} {ci j nx : Nat} {L S : List ai_V} {G : ai_G} {fs : List ai_F} (h : ai_putf kind ci j nx L S G = some (.inl fs)) : ∃ v q S' E hh cs sl xs h', S = v :: .inr (.inr (some (some q))) :: S' ∧ G = (E, hh, cs, sl) ∧ ai_cell hh q = some (.inl (ci, xs)) ∧ j < xs.length ∧ ai_okf E (kind ci j) v = true ∧ ai_put hh q (.inl (ci, ai_setv xs j v)) = some h' ∧ fs = [(nx, L, S', (E, h', cs, sl))] := by
  unfold ai_putf at h
  split at h
  · rename_i v q S'
    obtain ⟨E, hh, cs, sl⟩ := G
    dsimp only at h
    split at h
    · rename_i cj xs ec
      split at h
      · rename_i e1 e2 e3
        have e1 := Nat.eq_of_beq_eq_true e1
        subst e1
        split at h
        · rename_i h' ep
          exact ⟨v, q, S', E, hh, cs, sl, xs, h', rfl, rfl, ec, Nat.le_of_ble_eq_true e2, e3, ep, ai_go_eq h⟩
        · cases h
      · cases h
    · cases h
  · cases h
theorem ai_geta_ok : ∀ {l : List (Option Nat)} {k : Nat} {v : Option Nat}, ai_geta l k = some v → l[k]? = some v
  | [], _, _, h => by cases h
  | _ :: _, 0, _, h => h
  | _ :: l, k + 1, v, h => by
    rw [List.getElem?_cons_succ]
    exact ai_geta_ok (l := l) (k := k) h
theorem ai_seta_ok : ∀ {l : List (Option Nat)} {k : Nat} {v : Option Nat}, ai_seta l k v = l.set k v
  | [], _, _ => rfl
  | _ :: _, 0, _ => rfl
  | _ :: l, k + 1, v => by
    show _ :: ai_seta l k v = _
    rw [ai_seta_ok (l := l)]; rfl
/-- a reference, as the domain has it -/
theorem ai_gR.val {r : Nat → Int} {ad : Nat → Nat} {N n : Nat} {l : List (Option Nat)} {f : Nat → Option Nat} (h : ai_gR ad n l f) {k : Nat} {q : Option Nat} (hk : l[k]? = some q) : ai_gV r ad N n (.inr (.inr (some q))) (va_rf (f k)) := by
  obtain ⟨h1, h2⟩ := h k q hk
  cases q with
  | none =>
    rw [h1 rfl]; rfl
  | some a =>
    obtain ⟨g1, g2⟩ := h2 a rfl
    rw [g2]
    exact ⟨g1, rfl⟩
theorem ai_aall_mem {E : ai_E} {i : ai_X} {rs : List (Option Nat)} {nx : Nat} {L S : List ai_V} {h : ai_H} {cs sl : Nat} : ∀ {l : List (Option Nat)} {j0 j : Nat} {q : Option Nat} {E1 : ai_E}, l[j]? = some q → ai_same E i (0, .ofNat (j0 + j)) = some E1 → (nx, L, .inr (.inr (some q)) :: S, (E1, h, cs, sl)) ∈ ai_aall E i rs nx L S h cs sl j0 l
  | [], _, _, _, _, h, _ => by cases h
  | w :: l, j0, 0, q, E1, hq, e => by
    cases hq
    unfold ai_aall
    rw [Nat.add_zero] at e
    rw [e]
    exact List.mem_cons_self
  | w :: l, j0, j + 1, q, E1, hq, e => by
    rw [List.getElem?_cons_succ] at hq
    rw [show j0 + (j + 1) = (j0 + 1) + j by omega] at e
    have ih := ai_aall_mem (rs := rs) (nx := nx) (L := L) (S := S) (h := h) (cs := cs) (sl := sl) (j0 := j0 + 1) hq e
    unfold ai_aall
    split
    · exact List.mem_cons_of_mem _ ih
    · exact ih
theorem ai_asg (vm : Vm) (a : ClassId) : vm.assignable a a = true := by
  show Vm.assignableAux vm (255 + 1) a a = true
  unfold Vm.assignableAux
  rw [beq_self_eq_true, Bool.true_or]
section SO
variable {p : Program} {l : Launch} {e : Env} {R : Room} {s : State} {m : MethodId} {args : Array Value} {below : List Frame} {meth : Method} {c : Code} {Q : State → Prop}
variable {D : va_G} {tyc : Nat → ClassId} {A : Nat → Prop} {sa : ai_B} {ws0 : va_W} {nL : Nat} {cc : ByteArray} {own : String} {Ts : List Cond}
variable {r : Nat → Int} {ad : Nat → Nat} {L S : List ai_V} {G : ai_G} {H : Heap} {locs : List Loc} {ls : Array Slot} {st : List Value} {pc nx : Nat} {fs : List ai_F} {dflt : Nat → List ai_V} {kind : Nat → Nat → Nat}
theorem ai_old {hh : ai_H} {E : ai_E} {q : Nat} {d : ai_C} (hO : ai_gO sa.2 r ad E.1 hh) (hc : ai_cell hh q = some d) (hd : ∀ x, d ≠ .inr (.inl x)) : 16 ≤ q := by
  by_cases h : 16 ≤ q
  · exact h
  · obtain ⟨z9, -, lo', hi', l', ec, -⟩ := hO q (by omega) _ hc
    exact absurd ec (hd _)
theorem ai_getf_ok {ci j idx : Nat} (hx : p.tables.exec = Jvm.exec) (hb : c.code = cc) (hts : ∀ w ∈ Ts, w.before args s = true) (hown : s.vm.findClass own = some m.cls) (hK : va_K D vwCl (ai_tys tyc) s) (hcl : ai_cls Ts dflt kind ci)
    (hlink : ∀ C T N, vwCl[ci]? = some (C, T, N) → j < N ∧ Cond.fieldLink own idx (T j).1 (T j).2.1 (T j).2.2.1 ∈ Ts) (hdg : decode cc pc = .ok (.getfield idx, 3))
    (h : ai_getf ci j (pc + 3) L S G = some (.inl fs)) (hR : ai_Rel D tyc A s sa ws0 nL r ad L S G H locs ls st) (k : ∀ f ∈ fs, ai_Cn p l e R s m args below meth c Q D tyc A sa ws0 nL r ad G f) : W p l e R s m args below meth c H locs G.2.2.1 G.2.2.2 Q (F0 m pc ls st) := by
  obtain ⟨q, S', E, hh, cs, sl, xs, a, rfl, rfl, hc, ha, rfl⟩ := ai_getf_inv h
  obtain ⟨C, T, N, ty, k1, k2, k3, k4, k5, k6, k7, k8, k9⟩ := hcl
  obtain ⟨g1, g2⟩ := hlink C T N k1
  have hR0 := hR
  obtain ⟨ws, hP, hD, hS, hE, hH, hO, hsa, hL, hSt⟩ := hR
  obtain ⟨t, rfl, hq, h2⟩ := ai_gF.ref hSt
  have h16 := ai_old hO hc (fun x q => by cases q)
  obtain ⟨x, hw, hg⟩ := hH.at h16 hq hc
  obtain ⟨vs, rfl, hvs⟩ := hg
  obtain ⟨v, e1, e2⟩ := hvs.get ha
  exact va_get (C := C) (T := T) (N := N) (ref := (T j).1) hx hb hts k2 hown hK hP (q - 16) hw k1 j g1 (hts _ g2) (fun _ h => h) e1 hdg ((k _ List.mem_cons_self).st' (G := (E, hh, cs, sl)) hR0 ⟨e2, h2⟩)
theorem ai_setv_len : ∀ (l : List ai_V) (k : Nat) (v : ai_V), (ai_setv l k v).length = l.length
  | [], _, _ => rfl
  | _ :: _, 0, _ => rfl
  | _ :: l, k + 1, v => congrArg Nat.succ (ai_setv_len l k v)
theorem ai_putf_ok {ci j idx : Nat} (hx : p.tables.exec = Jvm.exec) (hb : c.code = cc) (hts : ∀ w ∈ Ts, w.before args s = true) (hown : s.vm.findClass own = some m.cls) (hK : va_K D vwCl (ai_tys tyc) s) (hcl : ai_cls Ts dflt kind ci)
    (hlink : ∀ C T N, vwCl[ci]? = some (C, T, N) → j < N ∧ Cond.fieldLink own idx (T j).1 (T j).2.1 (T j).2.2.1 ∈ Ts ∧ ((T j).2.2.2 = true → meth.name = "<init>" ∧ (T j).1 = own)) (hdg : decode cc pc = .ok (.putfield idx, 3))
    (h : ai_putf kind ci j (pc + 3) L S G = some (.inl fs)) (hR : ai_Rel D tyc A s sa ws0 nL r ad L S G H locs ls st) (k : ∀ f ∈ fs, ai_Cn p l e R s m args below meth c Q D tyc A sa ws0 nL r ad G f) : W p l e R s m args below meth c H locs G.2.2.1 G.2.2.2 Q (F0 m pc ls st) := by
  obtain ⟨a, q, S', E, hh, cs, sl, xs, h', rfl, rfl, hc, hj, hok, ep, rfl⟩ := ai_putf_inv h
  obtain ⟨C, T, N, ty, k1, k2, k3, k4, k5, k6, k7, k8, k9⟩ := hcl
  obtain ⟨g1, g2, g3⟩ := hlink C T N k1
  obtain ⟨ws, hP, hD, hS, hE, hH, hO, hsa, hL, hSt⟩ := hR
  obtain ⟨v, t0, rfl, hv, h0⟩ := ai_gF.cons hSt
  obtain ⟨t, rfl, hq, h2⟩ := h0.ref
  have h16 := (ai_put_ok ep).1
  obtain ⟨x, hw, hg⟩ := hH.at h16 hq hc
  obtain ⟨vs, rfl, hvs⟩ := hg
  rw [k9 j g1] at hok
  obtain ⟨f1, f2⟩ := ai_fits hE rfl hv hok
  have hlen := hvs.len
  have kk : ∀ (H1 : Heap) (locs1 : List Loc), va_P D vwCl (ws.set (q - 16) (ad q, .inr (ci, vs.set j v))) H1 → va_D A (ws.set (q - 16) (ad q, .inr (ci, vs.set j v))) → va_S A s.heap H1 locs1 → W p l e R s m args below meth c H1 locs1 cs sl Q (F0 m (pc + 3) ls t) := fun H1 locs1 hP1 hD1 hS1 =>
    (k _ List.mem_cons_self).put ep hE hH hO hsa hL h2 ⟨_, rfl, hvs.set hv⟩ hP1 hD1 hS1
  cases hf : (T j).2.2.2 with
  | false => exact va_put (C := C) (T := T) (N := N) (ref := (T j).1) hx hb hts k2 ty k3 k4 hown hK hP hD hS (q - 16) hw k1 j g1 (hts _ g2) (fun _ h => h) hf (k3 j g1) f1 f2 (by omega) hdg kk
  | true =>
    obtain ⟨i1, i2⟩ := g3 hf
    exact va_putF (C := C) (T := T) (N := N) (ref := (T j).1) hx hb hts k2 ty k3 k4 hown hK hP hD hS (q - 16) hw k1 j g1 (hts _ g2) (fun _ h => h) hf i1 i2 (k3 j g1) f1 f2 (by omega) hdg kk
/-- a reference out of an array -/
theorem ai_ald (hx : p.tables.exec = Jvm.exec) (hb : c.code = cc) (hK : va_K D vwCl (ai_tys tyc) s) {ws : va_W} (hP : va_P D vwCl ws H) {q0 a n ty : Nat} (hty : ty = 3 ∨ ty = 4 ∨ ty = 5) {f : Nat → Option Nat} (ha : ws[q0]? = some (a, .inl (tyc ty, n, .inr (.inr (.inr (.inr f)))))) {i : Int32} (hin : vp_in i n) {rest : List Value} {cells slots : Nat} (hdg : decode cc pc = .ok (.aaload, 1))
    (kk : W p l e R s m args below meth c H locs cells slots Q (F0 m (pc + 1) ls (va_rf (f i.toNatClampNeg) :: rest))) : W p l e R s m args below meth c H locs cells slots Q (F0 m pc ls (.int i :: .ref a :: rest)) := by
  have hlt : i.toNatClampNeg < n := Nat.not_le.mp fun q => hin (Or.inr q)
  have harr : ∃ t : FieldType, t.isReference = true ∧ ArrOfT s (tyc ty) t := by
    rcases hty with rfl | rfl | rfl
    · exact ⟨.array .int, rfl, (hK.2 3 _ rfl).1⟩
    · exact ⟨.object RX4, rfl, (hK.2 4 _ rfl).1⟩
    · exact ⟨.object "java/lang/String", rfl, (hK.2 5 _ rfl).1⟩
  obtain ⟨t, ht, har⟩ := harr
  exact W.aald (v := va_rf (f i.toNatClampNeg)) (ty := t) hx hb (hP q0 _ ha) (har n (fun j => va_rf (f j))) ht (fun q => by cases q) (by show ¬ (i < 0 ∨ (arrV _ _ _).slots.size ≤ _); rw [arrV_size]; exact hin) (by show (arrV _ _ _).slots[_]? = _; rw [arrV_read _ _ hlt]) rfl rfl hdg kk
theorem ai_aget_ok (hx : p.tables.exec = Jvm.exec) (hb : c.code = cc) (hK : va_K D vwCl (ai_tys tyc) s) (hdg : decode cc pc = .ok (.aaload, 1))
    (h : ai_aget (pc + 1) L S G = some (.inl fs)) (hR : ai_Rel D tyc A s sa ws0 nL r ad L S G H locs ls st) (k : ∀ f ∈ fs, ai_Cn p l e R s m args below meth c Q D tyc A sa ws0 nL r ad G f) : W p l e R s m args below meth c H locs G.2.2.1 G.2.2.2 Q (F0 m pc ls st) := by
  unfold ai_aget at h
  split at h
  · rename_i i q S'
    obtain ⟨E, hh, cs, sl⟩ := G
    have hR0 := hR
    obtain ⟨ws, hP, hD, hS, hE, hH, hO, hsa, hL, hSt⟩ := hR
    obtain ⟨ix, t1, rfl, hi1, hi2, h1⟩ := ai_gF.int hSt
    obtain ⟨t, rfl, hq, h2⟩ := h1.ref
    dsimp only at h
    split at h
    · rename_i ty rs hc
      have h16 := ai_old hO hc (fun x q => by cases q)
      obtain ⟨x, hw, hg⟩ := hH.at h16 hq hc
      obtain ⟨hty, f, rfl, hg⟩ := hg
      split at h
      · rename_i k0
        split at h
        · rename_i v ev
          have hf := ai_go_eq h
          subst hf
          have ev := ai_geta_ok ev
          have hj : k0 < rs.length := (List.getElem?_eq_some_iff.mp ev).1
          have hij : ix.toInt = (k0 : Int) := by
            rw [hi2]
            show r 0 + (k0 : Int) = k0
            rw [hE.1]; omega
          obtain ⟨hvp, hcl⟩ := ai_vpin hij hj
          refine ai_ald hx hb hK hP hty hw hvp hdg ?_
          rw [hcl]
          exact (k _ List.mem_cons_self).st' (G := (E, hh, cs, sl)) hR0 ⟨hg.val ev, h2⟩
        · cases h
      · split at h
        · rename_i ein
          cases h
          obtain ⟨j, hj, hij⟩ := ai_inb_ok hE hi1 ein
          obtain ⟨hvp, hcl⟩ := ai_vpin (i := ix) (by rw [hi2]; exact hij) hj
          refine ai_ald hx hb hK hP hty hw hvp hdg ?_
          rw [hcl]
          have hv : ai_vx r (0, Int.ofNat j) = (j : Int) := by
            show r 0 + (j : Int) = j
            rw [hE.1]; omega
          obtain ⟨E1, f1, f2, f3⟩ := ai_same_ok hE (x := i) (y := (0, .ofNat j)) hi1 hE.2.1 (by rw [hv]; exact hij)
          have el : rs[j]? = some rs[j] := List.getElem?_eq_getElem hj
          have hm := ai_aall_mem (E := E) (i := i) (rs := rs) (nx := pc + 1) (L := L) (S := S') (h := hh) (cs := cs) (sl := sl) (j0 := 0) (E1 := E1) el (by rw [Nat.zero_add]; exact f1)
          refine (k _ hm).re (G := (E, hh, cs, sl)) hR0 ai_ext.rfl' (by rw [f3]; exact Nat.le_refl _) f2 ?_
          rw [f3]
          exact ⟨hg.val el, h2⟩
        · cases h
    · cases h
  · cases h
theorem ai_alen_ok (hx : p.tables.exec = Jvm.exec) (hb : c.code = cc) (hK : va_K D vwCl (ai_tys tyc) s) (hxo : ai_Xo sa.2 A s) (hdg : decode cc pc = .ok (.arraylength, 1))
    (h : ai_alen (pc + 1) L S G = some (.inl fs)) (hR : ai_Rel D tyc A s sa ws0 nL r ad L S G H locs ls st) (k : ∀ f ∈ fs, ai_Cn p l e R s m args below meth c Q D tyc A sa ws0 nL r ad G f) : W p l e R s m args below meth c H locs G.2.2.1 G.2.2.2 Q (F0 m pc ls st) := by
  unfold ai_alen at h
  split at h
  · rename_i q S'
    obtain ⟨E, hh, cs, sl⟩ := G
    have hR0 := hR
    obtain ⟨ws, hP, hD, hS, hE, hH, hO, hsa, hL, hSt⟩ := hR
    obtain ⟨t, rfl, hq, h2⟩ := ai_gF.ref hSt
    dsimp only at h
    split at h
    · rename_i n en
      split at h
      · rename_i e1
        have hn : n < 1000000 := Nat.le_of_ble_eq_true e1
        have hf := ai_go_eq h
        subst hf
        have hv : (Int32.ofNat n).toInt = ai_vx r (0, Int.ofNat n) := by
          show (nI n).toInt = r 0 + (n : Int)
          rw [nI_toInt (by omega), hE.1]; omega
        have fin := (k _ List.mem_cons_self).st' (G := (E, hh, cs, sl)) hR0 (st' := .int (Int32.ofNat n) :: t) ⟨⟨hE.2.1, _, rfl, hv⟩, h2⟩
        unfold ai_size at en
        split at en
        · rename_i ty n' rst hc
          cases en
          by_cases h16 : 16 ≤ q
          · obtain ⟨x, hw, hg⟩ := hH.at h16 hq hc
            rcases hg with ⟨rfl, f, rfl, -⟩ | ⟨rfl | rfl, f, rfl, -⟩
            · exact va_alen hx hb hK hP (q - 16) 1 hw rfl rfl hdg fin
            · exact va_alen hx hb hK hP (q - 16) 0 hw rfl rfl hdg fin
            · exact va_alen hx hb hK hP (q - 16) 2 hw rfl rfl hdg fin
          · obtain ⟨m', lo', hi', l', xs, ec, hX, hl1, hl2, -⟩ := hO.use hxo q (by omega) _ hc
            cases ec
            exact va_slen hx hb hX hl1 hl2 hS hdg fin
        · rename_i ty rs hc
          cases en
          have h16 := ai_old hO hc (fun x q => by cases q)
          obtain ⟨x, hw, hg⟩ := hH.at h16 hq hc
          obtain ⟨rfl | rfl | rfl, f, rfl, -⟩ := hg
          · exact va_alen hx hb hK hP (q - 16) 3 hw rfl rfl hdg fin
          · exact va_alen hx hb hK hP (q - 16) 4 hw rfl rfl hdg fin
          · exact va_alen hx hb hK hP (q - 16) 5 hw rfl rfl hdg fin
        · cases en
      · cases h
    · cases h
  · cases h
theorem ai_aput_ok (hx : p.tables.exec = Jvm.exec) (hb : c.code = cc) (hK : va_K D vwCl (ai_tys tyc) s) (hstr : ∀ i, i < 10 → va_O "java/lang/String" (sa.1 i) A s s.heap) (hdg : decode cc pc = .ok (.aastore, 1))
    (h : ai_aput (pc + 1) L S G = some (.inl fs)) (hR : ai_Rel D tyc A s sa ws0 nL r ad L S G H locs ls st) (k : ∀ f ∈ fs, ai_Cn p l e R s m args below meth c Q D tyc A sa ws0 nL r ad G f) : W p l e R s m args below meth c H locs G.2.2.1 G.2.2.2 Q (F0 m pc ls st) := by
  unfold ai_aput at h
  split at h
  · rename_i v k0 q S'
    obtain ⟨E, hh, cs, sl⟩ := G
    obtain ⟨ws, hP, hD, hS, hE, hH, hO, hsa, hL, hSt⟩ := hR
    obtain ⟨t0, rfl, hv, h0⟩ := ai_gF.ref hSt
    obtain ⟨ix, t1, rfl, hi1, hi2, h1⟩ := h0.int
    obtain ⟨t, rfl, hq, h2⟩ := h1.ref
    dsimp only at h
    split at h
    · rename_i ty rs hc
      split at h
      · rename_i e1 e2
        split at h
        · rename_i h' ep
          have hf := ai_go_eq h
          subst hf
          have hj : k0 < rs.length := Nat.le_of_ble_eq_true e1
          have hij : ix.toInt = (k0 : Int) := by
            rw [hi2]
            show r 0 + (k0 : Int) = k0
            rw [hE.1]; omega
          obtain ⟨hvp, hcl⟩ := ai_vpin hij hj
          have h16 := (ai_put_ok ep).1
          obtain ⟨x, hw, hg⟩ := hH.at h16 hq hc
          obtain ⟨hty, f, rfl, hg⟩ := hg
          have hlen : (ai_seta rs k0 (some v)).length = rs.length := by rw [ai_seta_ok, List.length_set]
          have hnew : ai_gC tyc r ad E.1 hh.1 (.inr (.inr (ty, ai_seta rs k0 (some v)))) (.inl (tyc ty, rs.length, .inr (.inr (.inr (.inr (va_up f k0 (some (ad v)))))))) := by
            refine ⟨hty, _, by rw [hlen], fun a b hb => ?_⟩
            rw [ai_seta_ok] at hb
            by_cases e : a = k0
            · subst e
              rw [List.getElem?_set_self hj] at hb
              cases hb
              exact ⟨fun h => (by cases h), fun z hz => by cases hz; exact ⟨hv, by simp [va_up]⟩⟩
            · rw [List.getElem?_set_ne (Ne.symm e)] at hb
              obtain ⟨g1, g2⟩ := hg a b hb
              have eu : va_up f k0 (some (ad v)) a = f a := by simp [va_up, e]
              rw [eu]
              exact ⟨g1, g2⟩
          have fin : ∀ (H1 : Heap) (locs1 : List Loc), va_P D vwCl (ws.set (q - 16) (ad q, .inl (tyc ty, rs.length, .inr (.inr (.inr (.inr (va_up f ix.toNatClampNeg (some (ad v))))))))) H1 → va_D A (ws.set (q - 16) (ad q, .inl (tyc ty, rs.length, .inr (.inr (.inr (.inr (va_up f ix.toNatClampNeg (some (ad v))))))))) → va_S A s.heap H1 locs1 → W p l e R s m args below meth c H1 locs1 cs sl Q (F0 m (pc + 1) ls t) := fun H1 locs1 hP1 hD1 hS1 => by
            rw [hcl] at hP1 hD1
            exact (k _ List.mem_cons_self).put ep hE hH hO hsa hL h2 hnew hP1 hD1 hS1
          unfold ai_oka at e2
          split at e2
          · split at e2
            · rename_i xs hcv
              have hv16 := Nat.le_of_ble_eq_true e2
              obtain ⟨x2, hw2, hg2⟩ := hH.at hv16 hv hcv
              obtain ⟨vs, rfl, -⟩ := hg2
              exact va_astq hx hb hK hP hD hS (q - 16) 4 (v - 16) 4 (r := (RX4, TX4, 15)) hw rfl hw2 rfl hvp hdg fin
            · cases e2
          · split at e2
            · rename_i e3
              have e3 := Nat.le_of_ble_eq_true e3
              have e2 := Nat.le_of_ble_eq_true e2
              have es : ad v = sa.1 (v - 1) := by
                have := hsa (v - 1) (by omega)
                rw [show v - 1 + 1 = v by omega] at this
                exact this
              have hany : va_Any "java/lang/String" s H (ad v) := by
                rw [es]
                obtain ⟨cell, c1, c2, c3, c4⟩ := hstr (v - 1) (by omega)
                obtain ⟨kC, hk1, -⟩ := Vm.findClass_spec c3
                refine ⟨cell, ?_, c2, ⟨kC, hk1⟩, fun comp hcomp => ?_⟩
                · rw [hS.2.1 _ (Array.getElem?_eq_some_iff.mp c1).1 c4]; exact c1
                · have : comp = cell.cls := Option.some.inj (hcomp.symm.trans c3)
                  subst this
                  exact ai_asg _ _
              exact va_astqM hx hb hK hP hD hS (q - 16) 5 hw rfl hany hvp hdg fin
            · cases e2
          · cases e2
        · cases h
      · cases h
    · cases h
  · cases h
end SO
end
section
/-! ONE INSTRUCTION that makes cells -/
theorem ai_make_inv {bud : Nat × Nat} {d : ai_C} {n nx : Nat} {L S : List ai_V} {G : ai_G} {fs : List ai_F} (h : ai_make bud d n nx L S G = some (.inl fs)) : ∃ E hh cs sl h', G = (E, hh, cs, sl) ∧ cs + 1 ≤ bud.1 ∧ sl + n ≤ bud.2 ∧ ai_push hh d = some h' ∧ fs = [(nx, L, .inr (.inr (some (some hh.1))) :: S, (E, h', cs + 1, sl + n))] := by
  obtain ⟨E, hh, cs, sl⟩ := G
  unfold ai_make at h
  dsimp only at h
  split at h
  · rename_i h1 e1 e2 e3
    exact ⟨E, hh, cs, sl, h1, rfl, Nat.le_of_ble_eq_true e1, Nat.le_of_ble_eq_true e2, e3, ai_go_eq h⟩
  · cases h
section SM
variable {p : Program} {l : Launch} {e : Env} {R : Room} {s : State} {m : MethodId} {args : Array Value} {below : List Frame} {meth : Method} {c : Code} {Q : State → Prop}
variable {D : va_G} {tyc : Nat → ClassId} {A : Nat → Prop} {sa : ai_B} {ws0 : va_W} {nL : Nat} {cc : ByteArray} {own : String} {Ts : List Cond}
variable {r : Nat → Int} {ad : Nat → Nat} {L S : List ai_V} {G : ai_G} {H : Heap} {locs : List Loc} {ls : Array Slot} {st : List Value} {pc nx : Nat} {fs : List ai_F} {dflt : Nat → List ai_V} {kind : Nat → Nat → Nat}
/-- behind a new cell -/
theorem ai_Cn.push {S' : List ai_V} {st' : List Value} {E : ai_E} {hh h' : ai_H} {cs sl c' s' a : Nat} {d : ai_C} {x : va_E} {ws : va_W} {H1 : Heap} {locs1 : List Loc} (k : ai_Cn p l e R s m args below meth c Q D tyc A sa ws0 nL r ad (E, hh, cs, sl) (nx, L, .inr (.inr (some (some hh.1))) :: S', (E, h', c', s'))) (ep : ai_push hh d = some h')
    (hE : ai_gE r E) (hH : ai_gH tyc r ad E.1 ws0 hh ws) (hO : ai_gO sa.2 r ad E.1 hh) (hsa : ∀ i, i < 10 → ad (i + 1) = sa.1 i) (hL : ai_gL r ad E.1 hh.1 nL L ls) (hSt : ai_gF r ad E.1 hh.1 S' st') (hx : ai_gC tyc r (ai_updA ad hh.1 a) E.1 h'.1 d x)
    (hP : va_P D vwCl (ws ++ [(a, x)]) H1) (hD : va_D A (ws ++ [(a, x)])) (hS : va_S A s.heap H1 locs1) : W p l e R s m args below meth c H1 locs1 c' s' Q (F0 m nx ls (.ref a :: st')) := by
  obtain ⟨p1, p2, p3⟩ := ai_push_ok ep
  have hx16 := hH.1.1
  have ext := ai_updA_ext ad hh.1 a
  have hn : hh.1 ≤ h'.1 := by omega
  refine k r (ai_updA ad hh.1 a) ai_ext.rfl' ext (Nat.le_refl _) hn H1 locs1 ls (.ref a :: st') ⟨_, hP, hD, hS, hE, hH.push ep hx, ?_, fun i hi => ?_, hL.mono ai_ext.rfl' ext (Nat.le_refl _) hn, ⟨?_, ?_⟩, hSt.mono ai_ext.rfl' ext (Nat.le_refl _) hn⟩
  · exact (hO.mono hx16 ai_ext.rfl' ext (Nat.le_refl _)).heap (fun j hj => by rw [p3 j (by omega), if_neg (by omega)])
  · rw [ext _ (by omega)]; exact hsa i hi
  · show hh.1 < h'.1
    omega
  · rw [ai_updA_at]
/-- the class of an array of a kind is one -/
theorem ai_tyc_num (hK : va_K D vwCl (ai_tys tyc) s) {cA : ClassId} {ty : Nat} (hty : ty = 0 ∨ ty = 1 ∨ ty = 2) (hK2 : va_K D vwCl (ai_tys tyc ++ [(cA, ai_tyOf ty)]) s) : cA = tyc ty := by
  have h1 := (hK2.2 6 (cA, ai_tyOf ty) rfl).2
  rcases hty with rfl | rfl | rfl
  · exact Option.some.inj (h1.symm.trans (hK.2 0 _ rfl).2)
  · exact Option.some.inj (h1.symm.trans (hK.2 1 _ rfl).2)
  · exact Option.some.inj (h1.symm.trans (hK.2 2 _ rfl).2)
theorem ai_tyc_ref (hK : va_K D vwCl (ai_tys tyc) s) {cA : ClassId} {ty : Nat} (hty : ty = 3 ∨ ty = 4 ∨ ty = 5) (hK2 : va_K D vwCl (ai_tys tyc ++ [(cA, ai_tyOf ty)]) s) : cA = tyc ty := by
  have h1 := (hK2.2 6 (cA, ai_tyOf ty) rfl).2
  rcases hty with rfl | rfl | rfl
  · exact Option.some.inj (h1.symm.trans (hK.2 3 _ rfl).2)
  · obtain ⟨_, _, _, _, _, g1⟩ := h1
    obtain ⟨_, _, _, _, _, g2⟩ := (hK.2 4 _ rfl).2
    exact Option.some.inj (g1.symm.trans g2)
  · obtain ⟨_, _, _, _, _, g1⟩ := h1
    obtain ⟨_, _, _, _, _, g2⟩ := (hK.2 5 _ rfl).2
    exact Option.some.inj (g1.symm.trans g2)
theorem ai_new_obj {bud : Nat × Nat} {ci idx : Nat} (hx : p.tables.exec = Jvm.exec) (hb : c.code = cc) (hts : ∀ w ∈ Ts, w.before args s = true) (hown : s.vm.findClass own = some m.cls) (hK : va_K D vwCl (ai_tys tyc) s) (hA : ∀ q, s.heap.size ≤ q → A q) (hbud : bud.1 = R.cells ∧ bud.2 = R.slots) (hcl : ai_cls Ts dflt kind ci)
    (hlink : ∀ C T N, vwCl[ci]? = some (C, T, N) → Cond.classLink own idx C ∈ Ts) (hdg : decode cc pc = .ok (.new idx, 3))
    (h : ai_make bud (.inl (ci, dflt ci)) (dflt ci).length (pc + 3) L S G = some (.inl fs)) (hR : ai_Rel D tyc A s sa ws0 nL r ad L S G H locs ls st) (k : ∀ f ∈ fs, ai_Cn p l e R s m args below meth c Q D tyc A sa ws0 nL r ad G f) : W p l e R s m args below meth c H locs G.2.2.1 G.2.2.2 Q (F0 m pc ls st) := by
  obtain ⟨E, hh, cs, sl, h', rfl, b1, b2, ep, rfl⟩ := ai_make_inv h
  obtain ⟨C, T, N, ty, k1, k2, k3, k4, k5, k6, k7, k8, k9⟩ := hcl
  obtain ⟨ws, hP, hD, hS, hE, hH, hO, hsa, hL, hSt⟩ := hR
  rw [k7] at b2
  have hfs : ∀ j, j < N → defaultValue (ty j) = vp_V ((List.range N).map fun j => defaultValue (ty j)) j := fun j hj => by simp [vp_V, hj]
  refine va_new (C := C) (T := T) (N := N) (fs := (List.range N).map fun j => defaultValue (ty j)) hx hb hts k2 ty k3 hown (hts _ (hlink C T N k1)) (hts _ k5) (hts _ k6) hK hP hD hS hA k1 hfs (by show cs + 1 ≤ R.cells; omega) (by show sl + N ≤ R.slots; omega) hdg (fun q H1 hP1 hD1 hS1 => ?_)
  have kk := k _ List.mem_cons_self
  rw [k7] at kk
  refine kk.push ep hE hH hO hsa hL hSt ⟨_, rfl, ai_gF_of (by rw [k7]; simp) (fun j a v ha hv => ?_)⟩ hP1 hD1 hS1
  have hj : j < N := by
    have := (List.getElem?_eq_some_iff.mp hv).1
    simpa using this
  have hv2 : v = defaultValue (ty j) := by
    rw [List.getElem?_map, List.getElem?_range hj] at hv
    exact (Option.some.inj hv).symm
  rw [k8 j hj] at ha
  rw [hv2]
  exact ai_dv_ok hE.1 hE.2.1 ha
theorem ai_newa_ok {bud : Nat × Nat} {at' : ArrayType} {ty n : Nat} {S' : List ai_V} (hx : p.tables.exec = Jvm.exec) (hb : c.code = cc) (hts : ∀ w ∈ Ts, w.before args s = true) (hK : va_K D vwCl (ai_tys tyc) s) (hA : ∀ q, s.heap.size ≤ q → A q) (hbud : bud.1 = R.cells ∧ bud.2 = R.slots)
    (hat : newarray.typeOf at' = ai_tyOf ty ∧ (ty = 0 ∨ ty = 1 ∨ ty = 2) ∧ Cond.arrayClass (ai_tyOf ty) ∈ Ts) (hn : n < 1000000) (hdg : decode cc pc = .ok (.newarray at', 2)) (hS0 : S = .inl (0, .ofNat n) :: S')
    (h : ai_make bud (.inr (.inl (ty, n, 0, 0, []))) n (pc + 2) L S' G = some (.inl fs)) (hR : ai_Rel D tyc A s sa ws0 nL r ad L S G H locs ls st) (k : ∀ f ∈ fs, ai_Cn p l e R s m args below meth c Q D tyc A sa ws0 nL r ad G f) : W p l e R s m args below meth c H locs G.2.2.1 G.2.2.2 Q (F0 m pc ls st) := by
  obtain ⟨E, hh, cs, sl, h', rfl, b1, b2, ep, rfl⟩ := ai_make_inv h
  obtain ⟨ws, hP, hD, hS, hE, hH, hO, hsa, hL, hSt⟩ := hR
  subst hS0
  obtain ⟨ix, t, rfl, hi1, hi2, h2⟩ := ai_gF.int hSt
  have hij : ix.toInt = (n : Int) := by
    rw [hi2]
    show r 0 + (n : Int) = n
    rw [hE.1]; omega
  obtain ⟨hat, hty, hac⟩ := hat
  have hneg : ¬ ix < 0 := by
    rw [Int32.lt_iff_toInt_lt, Int32.toInt_zero]; omega
  have hN : ix.toNatClampNeg = n := by rw [ai_clamp, hij]; rfl
  have h0 : (0 : Int32).toInt = 0 := rfl
  have h0l : (0 : Int64).toInt = 0 := rfl
  have kk := k _ List.mem_cons_self
  rcases hty with rfl | rfl | rfl
  · refine va_newa (a0 := (n, .inl (fun _ => 0))) (ty := .int) hx hb (by rw [hat]; exact hts _ hac) hat hK hP hD hS hA (fun cA => rfl) hneg hN (by show n * 4 ≤ _; omega) (by show cs + 1 ≤ R.cells; omega) (by show sl + n ≤ R.slots; omega) hdg (fun q cA H1 hK1 hP1 hD1 hS1 => ?_)
    have ecA := ai_tyc_num hK (Or.inl rfl) hK1
    subst ecA
    exact kk.push ep hE hH hO hsa hL h2 (Or.inr ⟨Or.inl rfl, _, rfl, fun q hq => (by cases hq), fun j hj => ⟨by rw [h0]; exact Int.le_refl _, by rw [h0]; exact Int.le_refl _⟩⟩) hP1 hD1 hS1
  · refine va_newa (a0 := (n, .inr (.inl (fun _ => 0)))) (ty := .long) hx hb (by rw [hat]; exact hts _ hac) hat hK hP hD hS hA (fun cA => rfl) hneg hN (by show n * 8 ≤ _; omega) (by show cs + 1 ≤ R.cells; omega) (by show sl + n ≤ R.slots; omega) hdg (fun q cA H1 hK1 hP1 hD1 hS1 => ?_)
    have ecA := ai_tyc_num hK (Or.inr (Or.inl rfl)) hK1
    subst ecA
    exact kk.push ep hE hH hO hsa hL h2 (Or.inl ⟨rfl, _, rfl, fun q hq => (by cases hq), fun j hj => ⟨by rw [h0l]; exact Int.le_refl _, by rw [h0l]; exact Int.le_refl _⟩⟩) hP1 hD1 hS1
  · refine va_newa (a0 := (n, .inl (fun _ => 0))) (ty := .boolean) hx hb (by rw [hat]; exact hts _ hac) hat hK hP hD hS hA (fun cA => rfl) hneg hN (by show n * 1 ≤ _; omega) (by show cs + 1 ≤ R.cells; omega) (by show sl + n ≤ R.slots; omega) hdg (fun q cA H1 hK1 hP1 hD1 hS1 => ?_)
    have ecA := ai_tyc_num hK (Or.inr (Or.inr rfl)) hK1
    subst ecA
    exact kk.push ep hE hH hO hsa hL h2 (Or.inr ⟨Or.inr rfl, _, rfl, fun q hq => (by cases hq), fun j hj => ⟨by rw [h0]; exact Int.le_refl _, by rw [h0]; exact Int.le_refl _⟩⟩) hP1 hD1 hS1
theorem ai_anew_ok {bud : Nat × Nat} {idx ty n : Nat} {S' : List ai_V} (hx : p.tables.exec = Jvm.exec) (hb : c.code = cc) (hts : ∀ w ∈ Ts, w.before args s = true) (hown : s.vm.findClass own = some m.cls) (hK : va_K D vwCl (ai_tys tyc) s) (hAO : va_AO RX4 s ∧ va_AO "java/lang/String" s) (hA : ∀ q, s.heap.size ≤ q → A q) (hbud : bud.1 = R.cells ∧ bud.2 = R.slots)
    (hat : (ty = 4 ∧ Cond.classLink own idx RX4 ∈ Ts) ∨ (ty = 5 ∧ Cond.classLink own idx "java/lang/String" ∈ Ts)) (hn : n < 1000000) (hdg : decode cc pc = .ok (.anewarray idx, 3)) (hS0 : S = .inl (0, .ofNat n) :: S')
    (h : ai_make bud (.inr (.inr (ty, List.replicate n none))) n (pc + 3) L S' G = some (.inl fs)) (hR : ai_Rel D tyc A s sa ws0 nL r ad L S G H locs ls st) (k : ∀ f ∈ fs, ai_Cn p l e R s m args below meth c Q D tyc A sa ws0 nL r ad G f) : W p l e R s m args below meth c H locs G.2.2.1 G.2.2.2 Q (F0 m pc ls st) := by
  obtain ⟨E, hh, cs, sl, h', rfl, b1, b2, ep, rfl⟩ := ai_make_inv h
  obtain ⟨ws, hP, hD, hS, hE, hH, hO, hsa, hL, hSt⟩ := hR
  subst hS0
  obtain ⟨ix, t, rfl, hi1, hi2, h2⟩ := ai_gF.int hSt
  have hij : ix.toInt = (n : Int) := by
    rw [hi2]
    show r 0 + (n : Int) = n
    rw [hE.1]; omega
  have hneg : ¬ ix < 0 := by
    rw [Int32.lt_iff_toInt_lt, Int32.toInt_zero]; omega
  have hN : ix.toNatClampNeg = n := by rw [ai_clamp, hij]; rfl
  have kk := k _ List.mem_cons_self
  have hg : ∀ {ty' : Nat} {q : Nat}, ty' = 3 ∨ ty' = 4 ∨ ty' = 5 → ai_gC tyc r (ai_updA ad hh.1 q) E.1 h'.1 (.inr (.inr (ty', List.replicate n none))) (.inl (tyc ty', n, .inr (.inr (.inr (.inr (fun _ => none)))))) := fun ht => ⟨ht, _, by rw [List.length_replicate], fun a b hb => ⟨fun _ => rfl, fun z hz => by
    have := List.eq_of_mem_replicate (List.mem_of_getElem? hb)
    rw [this] at hz; cases hz⟩⟩
  rcases hat with ⟨rfl, hl⟩ | ⟨rfl, hl⟩
  · refine va_newq hx hb hown (hts _ hl) hAO.1 hK hP hD hS hA hneg hN (by omega) (by show cs + 1 ≤ R.cells; omega) (by show sl + n ≤ R.slots; omega) hdg (fun q cA H1 hK1 hP1 hD1 hS1 => ?_)
    have ecA := ai_tyc_ref hK (Or.inr (Or.inl rfl)) hK1
    subst ecA
    exact kk.push ep hE hH hO hsa hL h2 (hg (Or.inr (Or.inl rfl))) hP1 hD1 hS1
  · refine va_newq hx hb hown (hts _ hl) hAO.2 hK hP hD hS hA hneg hN (by omega) (by show cs + 1 ≤ R.cells; omega) (by show sl + n ≤ R.slots; omega) hdg (fun q cA H1 hK1 hP1 hD1 hS1 => ?_)
    have ecA := ai_tyc_ref hK (Or.inr (Or.inr rfl)) hK1
    subst ecA
    exact kk.push ep hE hH hO hsa hL h2 (hg (Or.inr (Or.inr rfl))) hP1 hD1 hS1
end SM
end
section
/-! NEW ARRAYS OF ARRAYS, COPIES, SWITCHES -/
/-- the heap while cells come one after the other: addresses and what is new as at the end -/
noncomputable def ai_gX (tyc : Nat → ClassId) (r : Nat → Int) (ad : Nat → Nat) (N n : Nat) (ws0 : va_W) (h : ai_H) (ws : va_W) : Prop :=
  (16 ≤ h.1 ∧ h.1 ≤ n ∧ n ≤ 512 ∧ ws.length + 16 = h.1) ∧ (∀ k q, ws[k]? = some q → q.1 = ad (k + 16)) ∧ (∀ k, k + 16 < h.1 → ∀ c, ai_cell h (k + 16) = some c → ∃ e, ws[k]? = some (ad (k + 16), e) ∧ ai_gC tyc r ad N n c e) ∧ ∀ k, k + 16 < h.1 → ai_cell h (k + 16) = none → ws[k]? = ws0[k]?
theorem ai_gH.gx {tyc : Nat → ClassId} {r : Nat → Int} {ad ad' : Nat → Nat} {N n : Nat} {ws0 ws : va_W} {h : ai_H} (g : ai_gH tyc r ad N ws0 h ws) (ha : ai_ext h.1 ad ad') (hn : h.1 ≤ n) (hn2 : n ≤ 512) : ai_gX tyc r ad' N n ws0 h ws := by
  obtain ⟨⟨g1, g2, g3⟩, g4, g5, g6⟩ := g
  refine ⟨⟨g1, hn, hn2, g3⟩, fun k q hk => ?_, fun k hk c hc => ?_, g6⟩
  · have : k < ws.length := (List.getElem?_eq_some_iff.mp hk).1
    rw [g4 k q hk, ha _ (by omega)]
  · obtain ⟨e, h1, h2⟩ := g5 k hk c hc
    exact ⟨e, by rw [ha _ (by omega)]; exact h1, h2.mono ai_ext.rfl' ha (Nat.le_refl _) hn⟩
theorem ai_gX.gh {tyc : Nat → ClassId} {r : Nat → Int} {ad : Nat → Nat} {N : Nat} {ws0 ws : va_W} {h : ai_H} (g : ai_gX tyc r ad N h.1 ws0 h ws) : ai_gH tyc r ad N ws0 h ws := ⟨⟨g.1.1, g.1.2.2.1, g.1.2.2.2⟩, g.2⟩
theorem ai_gX.push {tyc : Nat → ClassId} {r : Nat → Int} {ad : Nat → Nat} {N n : Nat} {ws0 ws : va_W} {h h' : ai_H} (g : ai_gX tyc r ad N n ws0 h ws) {c : ai_C} (e : ai_push h c = some h') (hn : h'.1 ≤ n) {x : va_E} (hx : ai_gC tyc r ad N n c x) : ai_gX tyc r ad N n ws0 h' (ws ++ [(ad h.1, x)]) := by
  obtain ⟨p1, p2, p3⟩ := ai_push_ok e
  obtain ⟨⟨g1, g2, g2', g3⟩, g4, g5, g6⟩ := g
  refine ⟨⟨by omega, hn, g2', by rw [List.length_append]; show _ + 1 + 16 = _; omega⟩, fun k z hk => ?_, fun k hk d hd => ?_, fun k hk hd => ?_⟩
  · by_cases el : k < ws.length
    · rw [List.getElem?_append_left el] at hk
      exact g4 k z hk
    · rw [List.getElem?_append_right (by omega)] at hk
      have h0 : k - ws.length < 1 := (List.getElem?_eq_some_iff.mp hk).1
      have h1 : k = ws.length := by omega
      subst h1
      rw [Nat.sub_self] at hk
      cases hk
      rw [g3]
  · rw [p3 _ (by omega)] at hd
    by_cases ek : k + 16 = h.1
    · rw [if_pos ek] at hd
      cases hd
      have h1 : k = ws.length := by omega
      subst h1
      refine ⟨x, ?_, hx⟩
      rw [List.getElem?_append_right (Nat.le_refl _), Nat.sub_self, g3]
      rfl
    · rw [if_neg ek] at hd
      obtain ⟨x2, h1, h2⟩ := g5 k (by omega) d hd
      have el : k < ws.length := (List.getElem?_eq_some_iff.mp h1).1
      exact ⟨x2, by rw [List.getElem?_append_left el]; exact h1, h2⟩
  · rw [p3 _ (by omega)] at hd
    by_cases ek : k + 16 = h.1
    · rw [if_pos ek] at hd; cases hd
    · rw [if_neg ek] at hd
      rw [List.getElem?_append_left (by omega)]
      exact g6 k (by omega) hd
theorem ai_pushes_le : ∀ {l : List ai_C} {h h' : ai_H}, ai_pushes h l = some h' → h'.1 = h.1 + l.length ∧ (∀ k, k < h.1 → k < 512 → ai_cell h' k = ai_cell h k) ∧ (h.1 ≤ 512 → h'.1 ≤ 512)
  | [], h, h', e => by
    cases e
    exact ⟨rfl, fun _ _ _ => rfl, fun h => h⟩
  | c :: l, h, h', e => by
    unfold ai_pushes at e
    cases ep : ai_push h c with
    | none => rw [ep] at e; cases e
    | some h1 =>
      rw [ep] at e
      obtain ⟨p1, p2, p3⟩ := ai_push_ok ep
      obtain ⟨g1, g2, g3⟩ := ai_pushes_le (l := l) e
      refine ⟨by rw [g1, p2, List.length_cons]; omega, fun k hk hk2 => ?_, fun _ => g3 (by omega)⟩
      rw [g2 k (by omega) hk2, p3 k hk2, if_neg (by omega)]
theorem ai_gX.pushes {tyc : Nat → ClassId} {r : Nat → Int} {ad : Nat → Nat} {N n : Nat} {ws0 : va_W} : ∀ {l : List ai_C} {h h' : ai_H} {ws : va_W} (xs : List va_E), ai_gX tyc r ad N n ws0 h ws → ai_pushes h l = some h' → h'.1 ≤ n → xs.length = l.length → (∀ (i : Nat) (c : ai_C) (x : va_E), l[i]? = some c → xs[i]? = some x → ai_gC tyc r ad N n c x) → ∀ ys : va_W, ys.length = l.length → (∀ (i : Nat) (y : Nat × va_E), ys[i]? = some y → y.1 = ad (h.1 + i) ∧ xs[i]? = some y.2) → ai_gX tyc r ad N n ws0 h' (ws ++ ys)
  | [], h, h', ws, xs, g, e, _, _, _, ys, hy, _ => by
    cases e
    have : ys = [] := List.length_eq_zero_iff.mp hy
    subst this
    rw [List.append_nil]; exact g
  | c :: l, h, h', ws, xs, g, e, hn, hlen, hc, ys, hy, hys => by
    unfold ai_pushes at e
    cases ep : ai_push h c with
    | none => rw [ep] at e; cases e
    | some h1 =>
      rw [ep] at e
      obtain ⟨p1, p2, p3⟩ := ai_push_ok ep
      cases xs with
      | nil => cases hlen
      | cons x xs => cases ys with
        | nil => cases hy
        | cons y ys =>
          have hle := (ai_pushes_le e).1
          obtain ⟨y1, y2⟩ := hys 0 y rfl
          cases y2
          have g1 := g.push ep (by omega) (hc 0 c y.2 rfl rfl)
          have g2 := ai_gX.pushes (l := l) xs g1 e hn (Nat.succ.inj hlen) (fun i d z hd hz => hc (i + 1) d z (by rw [List.getElem?_cons_succ]; exact hd) (by rw [List.getElem?_cons_succ]; exact hz)) ys (Nat.succ.inj hy) (fun i z hz => by
            obtain ⟨k1, k2⟩ := hys (i + 1) z (by rw [List.getElem?_cons_succ]; exact hz)
            rw [List.getElem?_cons_succ] at k2
            exact ⟨by rw [k1, p2]; congr 1; omega, k2⟩)
          rw [List.append_assoc] at g2
          have ey : (ad h.1, y.2) = y := by
            rw [Nat.add_zero] at y1
            rw [← y1]
          rw [ey] at g2
          exact g2
theorem ai_ids_get : ∀ {n a k : Nat} {q : Option Nat}, (ai_ids a n)[k]? = some q → q = some (a + k) ∧ k < n
  | 0, _, _, _, h => by cases h
  | n + 1, a, 0, q, h => by
    cases h
    exact ⟨rfl, Nat.succ_pos _⟩
  | n + 1, a, k + 1, q, h => by
    have h : (ai_ids (a + 1) n)[k]? = some q := h
    obtain ⟨h1, h2⟩ := ai_ids_get h
    exact ⟨by rw [h1]; congr 1; omega, Nat.succ_lt_succ h2⟩
theorem ai_ids_len : ∀ (n a : Nat), (ai_ids a n).length = n
  | 0, _ => rfl
  | n + 1, a => congrArg Nat.succ (ai_ids_len n (a + 1))
section SMU
variable {p : Program} {l : Launch} {e : Env} {R : Room} {s : State} {m : MethodId} {args : Array Value} {below : List Frame} {meth : Method} {c : Code} {Q : State → Prop}
variable {D : va_G} {tyc : Nat → ClassId} {A : Nat → Prop} {sa : ai_B} {ws0 : va_W} {nL : Nat} {cc : ByteArray} {own : String} {Ts : List Cond}
variable {r : Nat → Int} {ad : Nat → Nat} {L S : List ai_V} {G : ai_G} {H : Heap} {locs : List Loc} {ls : Array Slot} {st : List Value} {pc nx : Nat} {fs : List ai_F} {dflt : Nat → List ai_V} {kind : Nat → Nat → Nat}
theorem ai_mult_ok {bud : Nat × Nat} {idx : Nat} (hx : p.tables.exec = Jvm.exec) (hb : c.code = cc) (hts : ∀ w ∈ Ts, w.before args s = true) (hown : s.vm.findClass own = some m.cls) (hK : va_K D vwCl (ai_tys tyc) s) (hAO : va_AOA .int s) (hA : ∀ q, s.heap.size ≤ q → A q) (hbud : bud.1 = R.cells ∧ bud.2 = R.slots)
    (hat : Cond.classLink own idx "[[I" ∈ Ts ∧ Cond.arrayClass .int ∈ Ts) (hdg : decode cc pc = .ok (.multianewarray idx 2, 4))
    (h : ai_mult bud (pc + 4) L S G = some (.inl fs)) (hR : ai_Rel D tyc A s sa ws0 nL r ad L S G H locs ls st) (k : ∀ f ∈ fs, ai_Cn p l e R s m args below meth c Q D tyc A sa ws0 nL r ad G f) : W p l e R s m args below meth c H locs G.2.2.1 G.2.2.2 Q (F0 m pc ls st) := by
  unfold ai_mult at h
  split at h
  · rename_i kk nn S'
    obtain ⟨E, hh, cs, sl⟩ := G
    dsimp only at h
    split at h
    · rename_i e1 e2 e3 e4
      have e1 := Nat.le_of_ble_eq_true e1
      have e2 := Nat.le_of_ble_eq_true e2
      have e3 : nn < 512 := Nat.le_of_ble_eq_true e3
      have e4 : kk < 1000000 := Nat.le_of_ble_eq_true e4
      split at h
      · rename_i h2 ep
        have hf := ai_go_eq h
        subst hf
        obtain ⟨ws, hP, hD, hS, hE, hH, hO, hsa, hL, hSt⟩ := hR
        obtain ⟨kx, t0, rfl, hk1, hk2, h0⟩ := ai_gF.int hSt
        obtain ⟨nxx, t, rfl, hn1, hn2, h1⟩ := h0.int
        have hkk : kx.toInt = (kk : Int) := by
          rw [hk2]
          show r 0 + (kk : Int) = kk
          rw [hE.1]; omega
        have hnn : nxx.toInt = (nn : Int) := by
          rw [hn2]
          show r 0 + (nn : Int) = nn
          rw [hE.1]; omega
        have hkneg : ¬ kx < 0 := by rw [Int32.lt_iff_toInt_lt, Int32.toInt_zero]; omega
        have hnneg : ¬ nxx < 0 := by rw [Int32.lt_iff_toInt_lt, Int32.toInt_zero]; omega
        have hkN : kx.toNatClampNeg = kk := by rw [ai_clamp, hkk]; rfl
        have hnN : nxx.toNatClampNeg = nn := by rw [ai_clamp, hnn]; rfl
        have hle := (ai_pushes_le ep).1
        rw [List.length_cons, List.length_replicate] at hle
        have hpn : va_P D vwCl (ws ++ va_pl [] (fun _ => .inr (0, []))) H := by
          show va_P D vwCl (ws ++ []) H
          rw [List.append_nil]; exact hP
        have hdn : va_D A (ws ++ va_pl [] (fun _ => .inr (0, []))) := by
          show va_D A (ws ++ [])
          rw [List.append_nil]; exact hD
        refine va_mna (X := ws) (L := []) (f := fun _ => .inr (0, [])) (ty := .int) (cy := tyc 0) (z := (kk, .inl (fun _ => 0))) hx hb hown (hts _ hat.1) hAO (hts _ hat.2) (hK.2 0 _ rfl).2 hK hpn hdn hS hA hnneg hkneg hnN hkN (by omega) (by show kk * 4 ≤ _; omega) (by omega) rfl rfl (by show cs + (1 + nn) ≤ R.cells; omega) (by show sl + (nn + nn * kk) ≤ R.slots; omega) (fun cA => ?_) hdg (fun q rr cA H1 hinj hfr hK1 hP1 hD1 hS1 => ?_)
        · first
            | rfl
            | (show Jvm.Free.Multi.innerC cA kk (.int 0) = arrV cA kk (fun _ => .int 0); rw [← arrV_new]; rfl)
            | (show _ = arrV cA kk (fun _ => .int 0); rw [← arrV_new]; rfl)
        · have ecA : cA = tyc 3 := ai_tyc_ref hK (Or.inl rfl) hK1
          subst ecA
          obtain ⟨-, hkeep, h512⟩ := ai_pushes_le ep
          have h512 := h512 hH.1.2.1
          have h16 : 16 ≤ hh.1 := hH.1.1
          obtain ⟨ad', had⟩ : ∃ z : Nat → Nat, z = fun t => if t < hh.1 then ad t else if t = hh.1 then q else rr (t - hh.1 - 1) := ⟨_, rfl⟩
          have ext : ai_ext hh.1 ad ad' := fun t ht => by rw [had]; exact if_pos ht
          have ad0 : ad' hh.1 = q := by rw [had]; simp
          have ad1 : ∀ i, ad' (hh.1 + 1 + i) = rr i := fun i => by
            rw [had]
            show (if hh.1 + 1 + i < hh.1 then _ else if hh.1 + 1 + i = hh.1 then _ else rr (hh.1 + 1 + i - hh.1 - 1)) = _
            rw [if_neg (by omega), if_neg (by omega), show hh.1 + 1 + i - hh.1 - 1 = i by omega]
          have hlen2 : h2.1 = hh.1 + (nn + 1) := hle
          have hnle : hh.1 ≤ h2.1 := by omega
          have gx := hH.gx (ad' := ad') (n := h2.1) ext hnle h512
          generalize hE1 : (Sum.inl (tyc 3, nn, Sum.inr (Sum.inr (Sum.inr (Sum.inr (fun i => if i < nn then some (rr i) else none))))) : va_E) = oe at hP1 hD1
          generalize hE2 : (Sum.inl (tyc 0, kk, Sum.inl (fun _ => (0 : Int32))) : va_E) = ie at hP1 hD1
          rw [List.append_assoc] at hP1 hD1
          generalize hY : [(q, oe)] ++ va_pl ([] ++ (List.range nn).map rr) (vr_up (fun _ => .inr (0, [])) ((List.range nn).map rr) ie) = ys at hP1 hD1
          have hyl : ys.length = nn + 1 := by
            rw [← hY]
            simp [va_pl]
          have hy0 : ∀ (i : Nat) (y : Nat × va_E), ys[i]? = some y → y.1 = ad' (hh.1 + i) ∧ (oe :: List.replicate nn ie)[i]? = some y.2 := by
            intro i y hy
            have hi : i < nn + 1 := by rw [← hyl]; exact (List.getElem?_eq_some_iff.mp hy).1
            rw [← hY] at hy
            cases i with
            | zero =>
              cases hy
              exact ⟨ad0.symm, rfl⟩
            | succ i =>
              have hi : i < nn := by omega
              have hy : (va_pl ([] ++ (List.range nn).map rr) (vr_up (fun _ => .inr (0, [])) ((List.range nn).map rr) ie))[i]? = some y := hy
              unfold va_pl at hy
              rw [List.nil_append, List.getElem?_map, List.getElem?_map, List.getElem?_range hi] at hy
              have hy := Option.some.inj hy
              rw [← hy]
              refine ⟨?_, ?_⟩
              · show rr i = ad' (hh.1 + (i + 1))
                rw [show hh.1 + (i + 1) = hh.1 + 1 + i by omega, ad1]
              · rw [List.getElem?_cons_succ, List.getElem?_replicate, if_pos hi]
                show some ie = some (vr_up (fun _ => (Sum.inr (0, []) : va_E)) (List.map rr (List.range nn)) ie (rr i))
                rw [vr_up_in (List.mem_map.mpr ⟨i, List.mem_range.mpr hi, rfl⟩)]
          have hgc : ∀ (i : Nat) (d : ai_C) (x : va_E), ((Sum.inr (Sum.inr (3, ai_ids (hh.1 + 1) nn)) : ai_C) :: List.replicate nn (Sum.inr (Sum.inl (0, kk, 0, 0, []))))[i]? = some d → (oe :: List.replicate nn ie)[i]? = some x → ai_gC tyc r ad' E.1 h2.1 d x := by
            intro i d x hd hx9
            cases i with
            | zero =>
              cases hd
              cases hx9
              refine ⟨Or.inl rfl, _, by rw [← hE1, ai_ids_len], fun a b hb9 => ?_⟩
              obtain ⟨g1, g2⟩ := ai_ids_get hb9
              subst g1
              refine ⟨fun h => (by cases h), fun z hz => ?_⟩
              cases hz
              refine ⟨by omega, ?_⟩
              show (if a < nn then some (rr a) else none) = _
              rw [if_pos g2, ad1]
            | succ i =>
              rw [List.getElem?_cons_succ] at hd hx9
              have e8 := List.eq_of_mem_replicate (List.mem_of_getElem? hd)
              have e9 := List.eq_of_mem_replicate (List.mem_of_getElem? hx9)
              subst e8; subst e9
              have h0' : (0 : Int32).toInt = 0 := rfl
              exact Or.inr ⟨Or.inl rfl, _, hE2.symm, fun z hz => (by cases hz), fun j hj => ⟨by rw [h0']; exact Int.le_refl _, by rw [h0']; exact Int.le_refl _⟩⟩
          have gx2 := gx.pushes (oe :: List.replicate nn ie) ep (Nat.le_refl _) (by simp) hgc ys (by rw [hyl]; simp) hy0
          refine k _ List.mem_cons_self r ad' ai_ext.rfl' ext (Nat.le_refl _) hnle H1 locs ls (.ref q :: t) ⟨_, hP1, hD1, hS1, hE, gx2.gh, ?_, fun i hi => ?_, hL.mono ai_ext.rfl' ext (Nat.le_refl _) hnle, ⟨?_, ?_⟩, h1.mono ai_ext.rfl' ext (Nat.le_refl _) hnle⟩
          · exact (hO.mono h16 ai_ext.rfl' ext (Nat.le_refl _)).heap (fun j hj => hkeep j (by omega) (by omega))
          · rw [ext _ (by omega)]; exact hsa i hi
          · show hh.1 < h2.1
            omega
          · rw [ad0]
      · cases h
    · cases h
  · cases h
end SMU
end
section
/-! COPIES, SWITCHES AND THE REST -/
theorem ai_words_ok {r : Nat → Int} {ad : Nat → Nat} {N n : Nat} : ∀ {S : List ai_V} {st : List Value}, ai_gF r ad N n S st → (st.map fun v => v.category).sum ≤ ai_words S
  | [], [], _ => Nat.le_refl _
  | [], _ :: _, h => h.elim
  | _ :: _, [], h => h.elim
  | a :: S, v :: st, h => by
    have ih := ai_words_ok h.2
    have hc := h.1.cat
    have h2 : v.category ≤ 2 := by rcases lv_cat v with q | q <;> omega
    unfold ai_words
    rw [List.map_cons, List.sum_cons]
    cases e1 : ai_one a with
    | true =>
      have := hc.1 e1
      show _ ≤ ai_words S + 1
      omega
    | false => cases e2 : ai_lng a with
      | true =>
        show _ ≤ ai_words S + 2
        omega
      | false =>
        show _ ≤ ai_words S + 100
        omega
/-- what lies in a part, taken place by place -/
theorem ai_part_ok {lo hi : Int} {l : List (ai_X × ai_X)} {k : Nat} {g : Nat → Int} (hs : ∀ j, ai_small (g j)) {a0 B : Nat} : ∀ {n sp dp : Nat} {r : Nat → Int} {E E' : ai_E} {a a' : List (ai_X × ai_X)}, ai_gE r E → ai_gK r E.1 lo hi l k g → sp + n ≤ k → a0 ≤ sp → sp + n ≤ B → ai_lw E.1 a → (∀ q ∈ a, ∃ i j : Nat, q.1 = (0, Int.ofNat j) ∧ ai_vx r q.2 = g i ∧ j + sp = dp + i ∧ a0 ≤ i ∧ i < B) → ai_part lo hi l n sp dp E a = (E', a') →
    ∃ r', ai_ext E.1 r r' ∧ E.1 ≤ E'.1 ∧ ai_gE r' E' ∧ ai_lw E'.1 a' ∧ (∀ q ∈ a', ∃ i j : Nat, q.1 = (0, Int.ofNat j) ∧ ai_vx r' q.2 = g i ∧ j + sp = dp + i ∧ a0 ≤ i ∧ i < B) ∧ (∀ q ∈ a, q ∈ a') ∧ ∀ i, i < n → ∃ q ∈ a', q.1 = (0, Int.ofNat (dp + i))
  | 0, sp, dp, r, E, E', a, a', hE, hg, hk, hb0, hb1, ha, hq, h => by
    cases h
    exact ⟨r, ai_ext.rfl', Nat.le_refl _, hE, ha, hq, fun q h => h, fun i hi => absurd hi (Nat.not_lt_zero _)⟩
  | n + 1, sp, dp, r, E, E', a, a', hE, hg, hk, hb0, hb1, ha, hq, h => by
    have h0 : ai_vx r (0, Int.ofNat sp) = (sp : Int) := by
      show r 0 + (sp : Int) = sp
      rw [hE.1]; omega
    have hv := ai_kget_ok (lo := lo) (hi := hi) hE (i := (0, Int.ofNat sp)) hE.2.1 h0 hg.1 (hg.2 sp (by omega))
    have step : ∀ {z : ai_X} {r1 : Nat → Int} {E1 : ai_E}, ai_ext E.1 r r1 → E.1 ≤ E1.1 → ai_gE r1 E1 → z.1 < E1.1 → g sp = ai_vx r1 z → ai_part lo hi l n (sp + 1) (dp + 1) E1 (((0, .ofNat dp), z) :: a) = (E', a') → ∃ r', ai_ext E.1 r r' ∧ E.1 ≤ E'.1 ∧ ai_gE r' E' ∧ ai_lw E'.1 a' ∧ (∀ q ∈ a', ∃ i j : Nat, q.1 = (0, Int.ofNat j) ∧ ai_vx r' q.2 = g i ∧ j + sp = dp + i ∧ a0 ≤ i ∧ i < B) ∧ (∀ q ∈ a, q ∈ a') ∧ ∀ i, i < n + 1 → ∃ q ∈ a', q.1 = (0, Int.ofNat (dp + i)) := by
      intro z r1 E1 x1 x2 x3 x4 x5 hh
      obtain ⟨r', y1, y2, y3, y4, y5, y6, y7⟩ := ai_part_ok hs (a0 := a0) (B := B) (n := n) (sp := sp + 1) (dp := dp + 1) x3 (hg.mono x1 x2) (by omega) (by omega) (by omega) (fun q hq' => by
        rcases List.mem_cons.mp hq' with rfl | hq'
        · exact ⟨x3.2.1, x4⟩
        · exact ⟨Nat.lt_of_lt_of_le (ha q hq').1 x2, Nat.lt_of_lt_of_le (ha q hq').2 x2⟩) (fun q hq' => by
        rcases List.mem_cons.mp hq' with rfl | hq'
        · exact ⟨sp, dp, rfl, x5.symm, by omega, by omega, by omega⟩
        · obtain ⟨i, j, e1, e2, e3, e4⟩ := hq q hq'
          exact ⟨i, j, e1, by rw [x1.vx (ha q hq').2]; exact e2, by omega, e4⟩) hh
      refine ⟨r', x1.trans y1 x2, Nat.le_trans x2 y2, y3, y4, fun q hq' => ?_, fun q hq' => y6 q (List.mem_cons_of_mem _ hq'), fun i hi => ?_⟩
      · obtain ⟨i, j, e1, e2, e3, e4⟩ := y5 q hq'
        exact ⟨i, j, e1, e2, by omega, e4⟩
      · cases i with
        | zero => exact ⟨_, y6 _ List.mem_cons_self, rfl⟩
        | succ i =>
          obtain ⟨q, e1, e2⟩ := y7 i (by omega)
          exact ⟨q, e1, by rw [e2, show dp + 1 + i = dp + (i + 1) by omega]⟩
    unfold ai_part at h
    cases ek : ai_kget E lo hi (0, Int.ofNat sp) l with
    | inl z =>
      rw [ek] at h hv
      exact step ai_ext.rfl' (Nat.le_refl _) hE hv.1 hv.2 h
    | inr b =>
      rw [ek] at h hv
      dsimp only at h
      cases en : ai_new E b with
      | mk z E1 =>
        rw [en] at h
        obtain ⟨r1, x1, x2, x3, x4, x5⟩ := ai_new_ok hE hv (hs sp) en
        exact step x1 x2 x3 x4 x5.symm h
theorem ai_lay_ok {r : Nat → Int} {N : Nat} {lo hi : Int} {m : Nat} {g : Nat → Int} (h0 : r 0 = 0) : ∀ {a l : List (ai_X × ai_X)} {f : Nat → Int}, ai_lw N a → (∀ q ∈ a, ∃ j : Nat, q.1 = (0, Int.ofNat j) ∧ ai_vx r q.2 = g j) → ai_gK r N lo hi l m f → (∀ j, (∃ q ∈ a, q.1 = (0, Int.ofNat j)) ∨ f j = g j) → ai_gK r N lo hi (ai_lay a l) m g
  | [], l, f, _, _, hf, hg => by
    have : ∀ j, f j = g j := fun j => (hg j).elim (fun ⟨q, hq, _⟩ => by cases hq) (fun h => h)
    exact ⟨hf.1, fun j hj => by rw [← this j]; exact hf.2 j hj⟩
  | (i, v) :: a, l, f, hw, hq, hf, hg => by
    obtain ⟨j0, e1, e2⟩ := hq _ List.mem_cons_self
    have e1 : i = (0, Int.ofNat j0) := e1
    have hw0 := hw _ List.mem_cons_self
    have hij : ai_vx r i = (j0 : Int) := by
      rw [e1]
      show r 0 + (j0 : Int) = j0
      rw [h0]; omega
    have h1 : ai_gK r N lo hi ((i, v) :: ai_kdrop i l) m (fun j => if j = j0 then g j0 else f j) := ai_kput_ok hf hw0.1 hw0.2 hij (by rw [if_pos rfl]; exact e2.symm) (fun j hj => by rw [if_neg hj])
    refine ai_lay_ok h0 (a := a) (fun q h => hw q (List.mem_cons_of_mem _ h)) (fun q h => hq q (List.mem_cons_of_mem _ h)) h1 (fun j => ?_)
    by_cases e : j = j0
    · subst e
      exact Or.inr (if_pos rfl)
    · rcases hg j with ⟨q, hqm, hqe⟩ | h
      · rcases List.mem_cons.mp hqm with rfl | hqm
        · have hqe : i = (0, Int.ofNat j) := hqe
          rw [e1] at hqe
          have : (Int.ofNat j0) = Int.ofNat j := (Prod.mk.inj hqe).2
          exact absurd (Int.ofNat.inj this).symm e
        · exact Or.inl ⟨q, hqm, hqe⟩
      · exact Or.inr (by rw [if_neg e]; exact h)
end
section
/-! COPIES, SWITCHES AND THE REST: on the machine -/
theorem ai_gL.set2 {r : Nat → Int} {ad : Nat → Nat} {N n nL : Nat} {L : List ai_V} {ls ls' : Array Slot} (h : ai_gL r ad N n nL L ls) {i : Nat} (hi : i + 1 < nL) {a : ai_V} {v : Value} (ha : ai_gV r ad N n a v) (g : lv_has ls' nL ((i, v) :: (ai_pairs ls L).filter (fun q => !(q.1 == i) && (!(q.1 == i + 1) && !(q.1 + 1 == i && q.2.category == 2))))) : ai_gL r ad N n nL (ai_lset2 L i a) ls' := by
  have hl : (ai_lset L (i + 1) (.inr (.inr none))).length = nL := (ai_lset_len _ _ _).trans h.1
  refine ⟨(ai_lset_len _ _ _).trans hl, g.1, g.2.1, fun j hj => ?_⟩
  unfold ai_lset2 at hj ⊢
  rw [ai_lget_set _ i a (by rw [hl]; omega)] at hj ⊢
  by_cases e : j = i
  · subst e
    rw [if_pos rfl]
    exact ⟨v, g.2.2 _ List.mem_cons_self, ha⟩
  · rw [if_neg e] at hj ⊢
    have hget := ai_lget_set L (i + 1) (.inr (.inr none)) (by rw [h.1]; omega) j
    rw [if_neg (show ¬ j + 1 = i + 1 by omega)] at hget
    rw [hget] at hj ⊢
    by_cases e3 : j = i + 1
    · rw [if_pos e3] at hj ⊢
      rw [if_neg (show ¬ j + 1 = i by omega)] at hj
      exact absurd rfl hj
    · rw [if_neg e3] at hj ⊢
      by_cases e2 : j + 1 = i
      · rw [if_pos e2] at hj ⊢
        have hk : ai_lget L j ≠ .inr (.inr none) ∧ ai_kill (ai_lget L j) = ai_lget L j ∧ ai_one (ai_lget L j) = true := by
          cases e3 : ai_lget L j with
          | inl x => exact ⟨fun q => (by cases q), rfl, rfl⟩
          | inr x => cases x with
            | inl x => rw [e3] at hj; exact absurd rfl hj
            | inr x => cases x with
              | none => rw [e3] at hj; exact absurd rfl hj
              | some x => exact ⟨fun q => (by cases q), rfl, rfl⟩
        obtain ⟨w, k1, k2⟩ := ai_pairs_mem h hk.1
        rw [hk.2.1]
        refine ⟨w, g.2.2 (j, w) (List.mem_cons_of_mem _ (List.mem_filter.mpr ⟨k1, ?_⟩)), k2⟩
        have c2 := k2.cat.1 hk.2.2
        simp [e, e3, c2]
      · rw [if_neg e2] at hj ⊢
        obtain ⟨w, k1, k2⟩ := ai_pairs_mem h hj
        refine ⟨w, g.2.2 (j, w) (List.mem_cons_of_mem _ (List.mem_filter.mpr ⟨k1, ?_⟩)), k2⟩
        simp [e, e2, e3]
theorem ai_sw1_mem {E : ai_E} {x : ai_X} {L S : List ai_V} {h : ai_H} {cs sl pc : Nat} : ∀ {offs : List Int} {v0 : Int} {j : Nat} {off : Int} {E1 : ai_E}, offs[j]? = some off → ai_same E x (0, v0 + (j : Int)) = some E1 → ((Int.ofNat pc + off).toNat, L, S, (E1, h, cs, sl)) ∈ ai_sw1 E x L S h cs sl pc v0 offs
  | [], _, _, _, _, h, _ => by cases h
  | o :: l, v0, 0, off, E1, hq, e => by
    cases hq
    have e : ai_same E x (0, v0) = some E1 := by
      rw [show v0 + ((0 : Nat) : Int) = v0 by omega] at e; exact e
    unfold ai_sw1
    rw [e]
    exact List.mem_cons_self
  | o :: l, v0, j + 1, off, E1, hq, e => by
    rw [List.getElem?_cons_succ] at hq
    have ih := ai_sw1_mem (L := L) (S := S) (h := h) (cs := cs) (sl := sl) (pc := pc) (offs := l) (v0 := v0 + 1) hq (by rw [show v0 + 1 + (j : Int) = v0 + ((j + 1 : Nat) : Int) by omega]; exact e)
    unfold ai_sw1
    split
    · exact List.mem_cons_of_mem _ ih
    · exact ih
section SR
variable {p : Program} {l : Launch} {e : Env} {R : Room} {s : State} {m : MethodId} {args : Array Value} {below : List Frame} {meth : Method} {c : Code} {Q : State → Prop}
variable {D : va_G} {tyc : Nat → ClassId} {A : Nat → Prop} {sa : ai_B} {ws0 : va_W} {nL : Nat} {cc : ByteArray} {own : String} {Ts : List Cond}
variable {r : Nat → Int} {ad : Nat → Nat} {L S : List ai_V} {G : ai_G} {H : Heap} {locs : List Loc} {ls : Array Slot} {st : List Value} {pc nx : Nat} {fs : List ai_F} {dflt : Nat → List ai_V} {kind : Nat → Nat → Nat}
theorem ai_stol_ok {i : Nat} (row : ∀ (x : Int64) (rest : List Value) (lv' : List (Nat × Value)), i + 1 < nL → (i, Value.long x) :: (ai_pairs ls L).filter (fun q => !(q.1 == i) && (!(q.1 == i + 1) && !(q.1 + 1 == i && q.2.category == 2))) = lv' → lv_has ls nL (ai_pairs ls L) → (∀ ls' : Array Slot, lv_has ls' nL lv' → W p l e R s m args below meth c H locs G.2.2.1 G.2.2.2 Q (F0 m nx ls' rest)) → W p l e R s m args below meth c H locs G.2.2.1 G.2.2.2 Q (F0 m pc ls (.long x :: rest)))
    (h : ai_stol i nx L S G = some (.inl fs)) (hR : ai_Rel D tyc A s sa ws0 nL r ad L S G H locs ls st) (k : ∀ f ∈ fs, ai_Cn p l e R s m args below meth c Q D tyc A sa ws0 nL r ad G f) : W p l e R s m args below meth c H locs G.2.2.1 G.2.2.2 Q (F0 m pc ls st) := by
  obtain ⟨ws, hP, hD, hS, hE, hH, hO, hsa, hL, hSt⟩ := hR
  unfold ai_stol at h
  split at h
  · rename_i x S'
    obtain ⟨v, t, rfl, g0, g1, g2⟩ := ai_gF.long hSt
    split at h
    · rename_i e2
      have hf := ai_go_eq h
      subst hf
      have hi : i + 1 < L.length := Nat.le_of_ble_eq_true e2
      rw [hL.1] at hi
      refine row v t _ hi rfl (ai_pairs_has hL) (fun ls' hl' => ?_)
      exact k _ List.mem_cons_self r ad ai_ext.rfl' ai_ext.rfl' (Nat.le_refl _) (Nat.le_refl _) H locs ls' t ⟨ws, hP, hD, hS, hE, hH, hO, hsa, hL.set2 hi (a := .inr (.inl x)) ⟨g0, v, rfl, g1⟩ hl', g2⟩
    · cases h
  · cases h
theorem ai_iinc_ok {i : Nat} {n : Int} (hx : p.tables.exec = Jvm.exec) (hb : c.code = cc) (hn : ai_lo32 ≤ n ∧ n ≤ ai_hi32) (hdg : decode cc pc = .ok (.iinc i n, 3)) {x z : ai_X} {E' : ai_E} (hl : ai_lget L i = .inl x) (hi : i < L.length) (hbin : ai_bin G.1 0 x (0, n) = (z, E')) (hR : ai_Rel D tyc A s sa ws0 nL r ad L S G H locs ls st) (k : ai_Cn p l e R s m args below meth c Q D tyc A sa ws0 nL r ad G (pc + 3, ai_lset L i (.inl z), S, (E', G.2))) : W p l e R s m args below meth c H locs G.2.2.1 G.2.2.2 Q (F0 m pc ls st) := by
  obtain ⟨ws, hP, hD, hS, hE, hH, hO, hsa, hL, hSt⟩ := hR
  obtain ⟨v, g1, g2⟩ := ai_pairs_mem hL (i := i) (by rw [hl]; exact fun q => by cases q)
  rw [hl] at g2
  obtain ⟨hx1, ix, rfl, hx2⟩ := g2
  obtain ⟨kk, hkk⟩ := List.getElem?_of_mem g1
  have hn2 : (Int32.ofInt n).toInt = ai_vx r (0, n) := by
    show _ = r 0 + n
    rw [hE.1, Int32.toInt_ofInt_of_le (by unfold ai_lo32 at hn; omega) (by unfold ai_hi32 at hn; omega)]; omega
  obtain ⟨r', f1, f2, f3, f4, f5⟩ := ai_bin32 (o := 0) (by decide) hE hx1 hE.2.1 hx2 hn2 hbin
  rw [hL.1] at hi
  refine lv_iinc (v := ix + Int32.ofInt n) hx hb hdg (ai_pairs_has hL) hkk rfl hi rfl (fun ls' hl' => ?_)
  refine k r' ad f1 ai_ext.rfl' f2 (Nat.le_refl _) H locs ls' st ⟨ws, hP, hD, hS, f3, hH.mono f1 f2, hO.mono hH.1.1 f1 ai_ext.rfl' f2, hsa, (hL.mono f1 ai_ext.rfl' f2 (Nat.le_refl _)).set hi (a := .inl z) ⟨f4, _, rfl, f5⟩ rfl hl', hSt.mono f1 ai_ext.rfl' f2 (Nat.le_refl _)⟩
theorem ai_tsw_ok {d lo hi : Int} {offs : Array Int} {len : Nat} (hx : p.tables.exec = Jvm.exec) (hb : c.code = cc) (hok : 0 ≤ (pc : Int) + d ∧ (∀ o ∈ offs.toList, 0 ≤ (pc : Int) + o) ∧ offs.toList.length = (hi - lo + 1).toNat) (hdg : decode cc pc = .ok (.tableswitch d lo hi offs, len))
    (h : ai_tsw d lo hi offs.toList pc L S G = some (.inl fs)) (hR : ai_Rel D tyc A s sa ws0 nL r ad L S G H locs ls st) (k : ∀ f ∈ fs, ai_Cn p l e R s m args below meth c Q D tyc A sa ws0 nL r ad G f) : W p l e R s m args below meth c H locs G.2.2.1 G.2.2.2 Q (F0 m pc ls st) := by
  unfold ai_tsw at h
  split at h
  · rename_i x S'
    obtain ⟨E, hh, cs, sl⟩ := G
    have hE : ai_gE r E := hR.env
    obtain ⟨ix, t, rfl, hx1, hx2, h1⟩ := hR.stk.int
    cases h
    have hc : ∀ v : Int, ai_vx r (0, v) = v := fun v => by
      show r 0 + v = v
      rw [hE.1]; omega
    have go : ∀ {E1 : ai_E} {tgt : Nat}, ai_gE r E1 → E1.1 = E.1 → ai_Cn p l e R s m args below meth c Q D tyc A sa ws0 nL r ad (E, hh, cs, sl) (tgt, L, S', (E1, hh, cs, sl)) → W p l e R s m args below meth c H locs cs sl Q (F0 m tgt ls t) := fun {E1} {tgt} g1 g2 kk =>
      kk.re (G := (E, hh, cs, sl)) hR ai_ext.rfl' (by rw [g2]; exact Nat.le_refl _) g1 (by rw [g2]; exact h1)
    by_cases c1 : ix.toInt < lo
    · obtain ⟨E1, f1, f2, f3⟩ := ai_leq_ok hE (x := x) (y := (0, lo)) (k := -1) hx1 hE.2.1 (by rw [hc]; omega)
      refine lv_tableOut (tgt := (Int.ofNat pc + d).toNat) hx hb hdg (Or.inl c1) (by rw [Int.toNat_of_nonneg (by exact hok.1)]; rfl) (go f2 f3 (k _ ?_))
      refine List.mem_append_left _ ?_
      rw [f1]; exact List.mem_cons_self
    · by_cases c2 : hi < ix.toInt
      · obtain ⟨E1, f1, f2, f3⟩ := ai_leq_ok hE (x := (0, hi)) (y := x) (k := -1) hE.2.1 hx1 (by rw [hc]; omega)
        refine lv_tableOut (tgt := (Int.ofNat pc + d).toNat) hx hb hdg (Or.inr c2) (by rw [Int.toNat_of_nonneg (by exact hok.1)]; rfl) (go f2 f3 (k _ ?_))
        refine List.mem_append_right _ (List.mem_append_left _ ?_)
        rw [f1]; exact List.mem_cons_self
      · have hj : (ix.toInt - lo).toNat < offs.toList.length := by rw [hok.2.2]; omega
        obtain ⟨E1, f1, f2, f3⟩ := ai_same_ok hE (x := x) (y := (0, lo + ((ix.toInt - lo).toNat : Int))) hx1 hE.2.1 (by rw [hc]; omega)
        have ho : offs.toList[(ix.toInt - lo).toNat]? = some (offs.toList[(ix.toInt - lo).toNat]) := List.getElem?_eq_getElem hj
        have hm := ai_sw1_mem (L := L) (S := S') (h := hh) (cs := cs) (sl := sl) (pc := pc) ho f1
        refine lv_tableIn (tgt := (Int.ofNat pc + offs.toList[(ix.toInt - lo).toNat]).toNat) (off := offs.toList[(ix.toInt - lo).toNat]) hx hb hdg c1 c2 (by rw [← Array.getElem?_toList]; exact ho) (by rw [Int.toNat_of_nonneg (by exact hok.2.1 _ (List.getElem_mem hj))]; rfl) (go f2 f3 (k _ ?_))
        exact List.mem_append_right _ (List.mem_append_right _ hm)
  · cases h
theorem ai_copy_ok {idx : Nat} (hx : p.tables.exec = Jvm.exec) (hb : c.code = cc) (hml : c.maxLocals = nL) (hts : ∀ w ∈ Ts, w.before args s = true) (hown : s.vm.findClass own = some m.cls) (hK : va_K D vwCl (ai_tys tyc) s)
    (hlink : Cond.methodLink own idx arraycopyName ∈ Ts ∧ Cond.native arraycopyName ∈ Ts ∧ Cond.static arraycopyName ∈ Ts ∧ Cond.initialized "java/lang/System" ∈ Ts) (hroom : 1 ≤ R.frames ∧ 200 ≤ R.locals) (hw : ai_words S ≤ 40) (hdg : decode cc pc = .ok (.invokestatic idx, 3))
    (h : ai_copy (pc + 3) L S G = some (.inl fs)) (hR : ai_Rel D tyc A s sa ws0 nL r ad L S G H locs ls st) (k : ∀ f ∈ fs, ai_Cn p l e R s m args below meth c Q D tyc A sa ws0 nL r ad G f) : W p l e R s m args below meth c H locs G.2.2.1 G.2.2.2 Q (F0 m pc ls st) := by
  unfold ai_copy at h
  split at h
  · rename_i n dp q sp q0 S'
    obtain ⟨E, hh, cs, sl⟩ := G
    obtain ⟨ws, hP, hD, hS, hE, hH, hO, hsa, hL, hSt⟩ := hR
    have hws := ai_words_ok hSt
    obtain ⟨nx', t0, rfl, n1, n2, h0⟩ := ai_gF.int hSt
    obtain ⟨dx, t1, rfl, d1, d2, h1⟩ := h0.int
    obtain ⟨t2, rfl, hq, h2⟩ := h1.ref
    obtain ⟨sx, t3, rfl, s1, s2, h3⟩ := h2.int
    obtain ⟨t4, rfl, hq0, h4⟩ := h3.ref
    have hc : ∀ v : Nat, ai_vx r (0, Int.ofNat v) = (v : Int) := fun v => by
      show r 0 + (v : Int) = v
      rw [hE.1]; omega
    rw [hc] at n2 d2 s2
    dsimp only at h
    split at h
    · rename_i ty kk lo hi ov tz mm lo' hi' ov' hc0 hc1
      split at h
      · rename_i e1 e2 e3 e4 e5
        have h16' := Nat.le_of_ble_eq_true e5
        have e1 := Nat.eq_of_beq_eq_true e1
        have e2 := Nat.eq_of_beq_eq_true e2
        have e3 := Nat.le_of_ble_eq_true e3
        have e4 := Nat.le_of_ble_eq_true e4
        subst e1; subst e2
        cases ep : ai_part lo hi ov n sp dp E [] with
        | mk E1 a =>
          rw [ep] at h
          dsimp only at h
          split at h
          · rename_i h' eput
            have hf := ai_go_eq h
            subst hf
            have h16 := (ai_put_ok eput).1
            obtain ⟨x1, hw1, hg1⟩ := hH.at h16 hq hc1
            rcases hg1 with ⟨z0, -⟩ | ⟨-, g, rfl, hg1⟩
            · cases z0
            have nneg : ∀ {z : Int32} {v : Nat}, z.toInt = (v : Int) → ¬ z < 0 ∧ z.toNatClampNeg = v := fun {z} {v} hz => ⟨by rw [Int32.lt_iff_toInt_lt, Int32.toInt_zero]; omega, by rw [ai_clamp, hz]; rfl⟩
            obtain ⟨a1, a2⟩ := nneg n2
            obtain ⟨b1, b2⟩ := nneg d2
            obtain ⟨c1, c2⟩ := nneg s2
            obtain ⟨x0, hw0, hg0⟩ := hH.at h16' hq0 hc0
            rcases hg0 with ⟨z0, -⟩ | ⟨-, f, rfl, hg0⟩
            · cases z0
            obtain ⟨r', y1, y2, y3, y4, y5, -, y7⟩ := ai_part_ok (a0 := sp) (B := sp + n) (fun j => ai_small32 (ai_i32 (f j))) hE hg0 e3 (Nat.le_refl _) (Nat.le_refl _) (fun q hq => by cases hq) (fun q hq => by cases hq) ep
            refine va_copyi hx hb (by rw [hml, hL.2.1]) hown (hts _ hlink.1) (hts _ hlink.2.1) (hts _ hlink.2.2.1) (hts _ hlink.2.2.2) hK hP hD hS (q0 - 16) (q - 16) 0 0 hw0 hw1 rfl rfl rfl c1 b1 a1 (by rw [c2, a2]; exact e3) (by rw [b2, a2]; exact e4) (fun i hi => rfl) hroom.1 ?_ hdg (fun H1 locs1 hP1 hD1 hS1 => ?_)
            · have : (t4.map fun v => v.category).sum ≤ ((Value.int nx' :: .int dx :: .ref (ad q) :: .int sx :: .ref (ad q0) :: t4).map fun v => v.category).sum := by
                simp only [List.map_cons, List.sum_cons]
                omega
              have hn : nativeFrameWords "java/lang/System" "arraycopy" 5 + 11 ≤ 160 := by decide +kernel
              omega
            · rw [c2, b2, a2] at hP1 hD1
              have hH' := hH.mono y1 y2
              have hcp : ai_gC tyc r' ad E1.1 hh.1 (.inr (.inl (0, mm, lo', hi', ai_lay a ov'))) (.inl (tyc 0, mm, .inl (va_cpy f g sp dp n))) := by
                refine Or.inr ⟨Or.inl rfl, _, rfl, ai_lay_ok (f := fun j => (g j).toInt) y3.1 y4 (fun z hz => ?_) (hg1.mono y1 y2) (fun j => ?_)⟩
                · obtain ⟨i, j, w1, w2, w3, w4, w5⟩ := y5 z hz
                  refine ⟨j, w1, ?_⟩
                  rw [w2]
                  show (f i).toInt = (va_cpy f g sp dp n j).toInt
                  rw [pk_cpy_in (by omega) (by omega), show sp + (j - dp) = i by omega]
                · by_cases hj : dp ≤ j ∧ j < dp + n
                  · obtain ⟨z, w1, w2⟩ := y7 (j - dp) (by omega)
                    exact Or.inl ⟨z, w1, by rw [w2, show dp + (j - dp) = j by omega]⟩
                  · exact Or.inr (by show (g j).toInt = (va_cpy f g sp dp n j).toInt; rw [pk_cpy_out (by omega)])
              obtain ⟨-, -, w3, w4⟩ := ai_put_ok eput
              have w4 := w4 hH.1.2.1
              have hnn : hh.1 ≤ h'.1 := by omega
              exact k _ List.mem_cons_self r' ad y1 ai_ext.rfl' y2 hnn H1 locs1 ls t4 ⟨_, hP1, hD1, hS1, y3, hH'.put eput hcp, (hO.mono hH.1.1 y1 ai_ext.rfl' y2).heap (fun j hj => by rw [w4 j (by omega), if_neg (by omega)]), hsa, hL.mono y1 ai_ext.rfl' y2 hnn, h4.mono y1 ai_ext.rfl' y2 hnn⟩
          · cases h
      · cases h
    · cases h
  · cases h
end SR
end
section
/-! EVERY INSTRUCTION -/
/-- a text constant: class, entry, text, its number -/
abbrev ai_Z : Type := String × Nat × String × Nat
/-- what a program can look at: lengths, targets, numbers -/
noncomputable def ai_chk (pc : Nat) (i : ClassFile.Instr) (len a b : Nat) : Bool := match i with
  | .iconst n => decide (len = 1 ∧ ai_lo32 ≤ n ∧ n ≤ ai_hi32)
  | .bipush n => decide (len = 2 ∧ (Int8.ofInt n).toInt32.toInt = n)
  | .sipush n => decide (len = 3 ∧ (Int16.ofInt n).toInt32.toInt = n)
  | .ldc _ => decide (len = 2 ∧ b < 4294967296)
  | .ldc_w _ => decide (len = 3 ∧ b < 4294967296)
  | .iload _ => decide (len = 2)
  | .lload _ => decide (len = 2)
  | .aload _ => decide (len = 2)
  | .istore _ => decide (len = 2)
  | .lstore _ => decide (len = 2)
  | .astore _ => decide (len = 2)
  | .iinc _ n => decide (len = 3 ∧ ai_lo32 ≤ n ∧ n ≤ ai_hi32)
  | .goto off => decide (len = 3 ∧ (pc : Int) + off = (a : Int))
  | .ifCond _ off => decide (len = 3 ∧ (pc : Int) + off = (a : Int))
  | .if_icmp _ off => decide (len = 3 ∧ (pc : Int) + off = (a : Int))
  | .tableswitch d lo hi offs => decide (0 ≤ (pc : Int) + d) && (offs.toList.all (fun o => decide (0 ≤ (pc : Int) + o)) && decide (offs.toList.length = (hi - lo + 1).toNat))
  | .getfield _ => decide (len = 3)
  | .putfield _ => decide (len = 3)
  | .new _ => decide (len = 3)
  | .newarray _ => decide (len = 2)
  | .anewarray _ => decide (len = 3)
  | .multianewarray _ d => decide (len = 4 ∧ d = 2)
  | .invokevirtual _ => decide (len = 3)
  | .invokespecial _ => decide (len = 3)
  | .invokestatic _ => decide (len = 3)
  | _ => decide (len = 1)
noncomputable def ai_fld (Ts : List Cond) (own : String) (idx ci j : Nat) : Prop := ci < 13 ∧ ∀ C T N, vwCl[ci]? = some (C, T, N) → j < N ∧ Cond.fieldLink own idx (T j).1 (T j).2.1 (T j).2.2.1 ∈ Ts
/-- what the tables say -/
noncomputable def ai_wd (Ts : List Cond) (strs : List ai_Z) (own : String) (ini : Bool) (i : ClassFile.Instr) (a b : Nat) : Prop := match i with
  | .ldc idx => (a = 0 → Cond.constant own idx (Int32.ofInt (Int.ofNat b - 2147483648)) ∈ Ts) ∧ (a ≠ 0 → ∃ tx, (1 ≤ b ∧ b ≤ 10) ∧ (own, idx, tx, b - 1) ∈ strs)
  | .ldc_w idx => a = 0 → Cond.constant own idx (Int32.ofInt (Int.ofNat b - 2147483648)) ∈ Ts
  | .getfield idx => ai_fld Ts own idx a b
  | .putfield idx => ai_fld Ts own idx a b ∧ ∀ C T N, vwCl[a]? = some (C, T, N) → (T b).2.2.2 = true → ini = true ∧ (T b).1 = own
  | .new idx => a < 2000 → a < 13 ∧ ∀ C T N, vwCl[a]? = some (C, T, N) → Cond.classLink own idx C ∈ Ts
  | .newarray at' => newarray.typeOf at' = ai_tyOf a ∧ (a = 0 ∨ a = 1 ∨ a = 2) ∧ Cond.arrayClass (ai_tyOf a) ∈ Ts
  | .anewarray idx => (a = 4 ∧ Cond.classLink own idx RX4 ∈ Ts) ∨ (a = 5 ∧ Cond.classLink own idx "java/lang/String" ∈ Ts)
  | .multianewarray idx _ => Cond.classLink own idx "[[I" ∈ Ts ∧ Cond.arrayClass .int ∈ Ts
  | .invokespecial idx => a = 1004 → Cond.methodLink own idx Lib.objectInit ∈ Ts ∧ Cond.instanceMethod Lib.objectInit ∈ Ts ∧ Cond.code Lib.objectInit ⟨#[0xb1]⟩ 1 none ∈ Ts
  | .invokestatic idx => (a = 1000 → Cond.methodLink own idx Lib.Math.max.name ∈ Ts ∧ Cond.static Lib.Math.max.name ∈ Ts ∧ Cond.initialized "java/lang/Math" ∈ Ts ∧ Cond.code Lib.Math.max.name Lib.Math.max.code 2 (some .int) ∈ Ts) ∧
    (a = 1001 → Cond.methodLink own idx Lib.Math.min.name ∈ Ts ∧ Cond.static Lib.Math.min.name ∈ Ts ∧ Cond.initialized "java/lang/Math" ∈ Ts ∧ Cond.code Lib.Math.min.name Lib.Math.min.code 2 (some .int) ∈ Ts) ∧
    (a = 1002 → Cond.methodLink own idx Lib.Math.abs.name ∈ Ts ∧ Cond.static Lib.Math.abs.name ∈ Ts ∧ Cond.initialized "java/lang/Math" ∈ Ts ∧ Cond.code Lib.Math.abs.name Lib.Math.abs.code 1 (some .int) ∈ Ts) ∧
    (a = 1003 → Cond.methodLink own idx Lib.MathLoose.abs_long.x ∈ Ts ∧ Cond.static Lib.MathLoose.abs_long.x ∈ Ts ∧ Cond.initialized "java/lang/Math" ∈ Ts ∧ Cond.code Lib.MathLoose.abs_long.x Lib.MathLoose.abs_long.code 2 (some .long) ∈ Ts) ∧
    (a = 1005 → Cond.methodLink own idx arraycopyName ∈ Ts ∧ Cond.native arraycopyName ∈ Ts ∧ Cond.static arraycopyName ∈ Ts ∧ Cond.initialized "java/lang/System" ∈ Ts)
  | _ => True
def ai_ncs : List (String × String) := [("java/lang/IllegalArgumentException", "java/util/NoSuchElementException")]
/-- what holds of a state all the while: classes, texts, the script, words that the tables alone decide -/
noncomputable def ai_St (D : va_G) (tyc : Nat → ClassId) (A : Nat → Prop) (sa : ai_B) (strs : List ai_Z) (nws : List Cond) (s : State) : Prop := va_K D vwCl (ai_tys tyc) s ∧ (∀ i, i < 10 → va_O "java/lang/String" (sa.1 i) A s s.heap) ∧ (∀ q ∈ strs, vk_R q.1 q.2.1 q.2.2.1 (sa.1 q.2.2.2) s) ∧ (va_AO RX4 s ∧ va_AO "java/lang/String" s) ∧ va_AOA .int s ∧ ai_Xo sa.2 A s ∧ (∀ w ∈ nws, va_Nw w s) ∧ vx_Zq Bundle.tN "UNASSIGNED_STACK" Bundle.steD A s s.heap ∧ vx_Zq Bundle.tN "SUPPRESSED_SENTINEL" Bundle.listD A s s.heap ∧ ∀ q ∈ ai_ncs, va_Nc q.1 q.2 s
/-- what holds of a frame all the while: the machine, the code, the tables, the room -/
noncomputable def ai_Fr (p : Program) (R : Room) (s : State) (m : MethodId) (args : Array Value) (meth : Method) (c : Code) (D : va_G) (tyc : Nat → ClassId) (A : Nat → Prop) (sa : ai_B) (nL : Nat) (cc : ByteArray) (own : String) (Ts : List Cond) (strs : List ai_Z) (nws : List Cond) (bud : Nat × Nat) (dflt : Nat → List ai_V) (kind : Nat → Nat → Nat) : Prop :=
  p.tables.exec = Jvm.exec ∧ c.code = cc ∧ c.maxLocals = nL ∧ (∀ w ∈ Ts, w.before args s = true) ∧ s.vm.findClass own = some m.cls ∧ ai_St D tyc A sa strs nws s ∧ (∀ q, s.heap.size ≤ q → A q) ∧ (bud.1 = R.cells ∧ bud.2 = R.slots) ∧ (∀ ci, ci < 13 → ai_cls Ts dflt kind ci) ∧ (8 ≤ R.frames ∧ 400 ≤ R.locals) ∧ meth.locks = false
section SS
variable {p : Program} {l : Launch} {e : Env} {R : Room} {s : State} {m : MethodId} {args : Array Value} {below : List Frame} {meth : Method} {c : Code} {Q : State → Prop}
variable {D : va_G} {tyc : Nat → ClassId} {A : Nat → Prop} {sa : ai_B} {ws0 : va_W} {nL : Nat} {cc : ByteArray} {own : String} {Ts : List Cond} {strs : List ai_Z} {nws : List Cond} {bud : Nat × Nat} {dflt : Nat → List ai_V} {kind : Nat → Nat → Nat} {ini : Bool}
variable {r : Nat → Int} {ad : Nat → Nat} {L S : List ai_V} {G : ai_G} {H : Heap} {locs : List Loc} {ls : Array Slot} {st : List Value} {fs : List ai_F}
theorem ai_const {i32 : Int32} {n : Int} (hR : ai_Rel D tyc A s sa ws0 nL r ad L S G H locs ls st) (h : i32.toInt = n) : ai_gV r ad G.1.1 G.2.1.1 (.inl (0, n)) (.int i32) := by
  have hE := hR.env
  refine ⟨hE.2.1, i32, rfl, ?_⟩
  show _ = r 0 + n
  rw [hE.1, h]; omega
theorem ai_nz_ok {r : Nat → Int} {E : ai_E} (hE : ai_gE r E) {x : ai_X} (hx : x.1 < E.1) (h : ai_nz E x = true) : ai_vx r x ≠ 0 := by
  have hv := ai_iv_ok hE hx
  unfold ai_nz at h
  cases e : ai_iv E x with
  | mk a b =>
    rw [e] at h hv
    dsimp only at h
    cases e1 : ai_le 1 a with
    | true =>
      have := ai_le_iff.mp e1
      have h1 : a ≤ ai_vx r x := hv.1
      omega
    | false =>
      rw [e1] at h
      have := ai_le_iff.mp h
      have h2 : ai_vx r x ≤ b := hv.2
      omega
theorem ai_nz32 {y : ai_X} {S' : List ai_V} {y' x' : Int32} {rest : List Value} (hR : ai_Rel D tyc A s sa ws0 nL r ad L (.inl y :: S') G H locs ls st) (h : ai_nz G.1 y = true) (hst : st = .int y' :: .int x' :: rest) : ¬ y' = 0 := by
  obtain ⟨j, t1, e, hy, ey, -⟩ := hR.stk.int
  rw [hst] at e
  cases e
  intro q
  subst q
  exact ai_nz_ok hR.env hy h ey.symm
theorem ai_nz64 {y : ai_X} {S' : List ai_V} {y' x' : Int64} {rest : List Value} (hR : ai_Rel D tyc A s sa ws0 nL r ad L (.inr (.inl y) :: S') G H locs ls st) (h : ai_nz G.1 y = true) (hst : st = .long y' :: .long x' :: rest) : ¬ y' = 0 := by
  obtain ⟨j, t1, e, hy, ey, -⟩ := hR.stk.long
  rw [hst] at e
  cases e
  intro q
  subst q
  exact ai_nz_ok hR.env hy h ey.symm
theorem ai_min_eq (x y : Int32) : (if y < x then y else x) = ai_op32 12 x y := by
  show _ = if x < y then x else y
  by_cases h1 : y < x
  · have h2 : ¬ x < y := by
      rw [Int32.lt_iff_toInt_lt] at h1 ⊢; omega
    rw [if_pos h1, if_neg h2]
  · by_cases h2 : x < y
    · rw [if_neg h1, if_pos h2]
    · rw [if_neg h1, if_neg h2]
      rw [Int32.lt_iff_toInt_lt] at h1 h2
      exact Int32.toInt_inj.mp (by omega)
theorem ai_call_no {mi n q : Nat} {S : List ai_V} (h : ai_call mi n q S = some (.inl fs)) : False := by
  unfold ai_call at h
  split at h
  · split at h <;> cases h
  · cases h
theorem ai_vcall_no {mi n ci q : Nat} {S : List ai_V} {hh : ai_H} (h : ai_vcall mi n ci q S hh = some (.inl fs)) : False := by
  unfold ai_vcall at h
  split at h
  · split at h
    · split at h
      · split at h <;> cases h
      · cases h
    · cases h
  · cases h
theorem ai_icall_no {mi n q : Nat} {S : List ai_V} (h : ai_icall mi n q S = some (.inl fs)) : False := by
  unfold ai_icall at h
  split at h
  · split at h
    · split at h <;> cases h
    · cases h
  · cases h
theorem ai_fin_no {bud : Nat × Nat} {G : ai_G} {x : ai_R} (h : ai_fin bud G x = some (.inl fs)) : False := by
  obtain ⟨E, hh, c, s⟩ := G
  unfold ai_fin at h
  dsimp only at h
  split at h <;> cases h
theorem ai_fin_ok {bud : Nat × Nat} {G : ai_G} {x y : ai_R} (h : ai_fin bud G x = some (.inr (.inr y))) : y = x ∧ G.2.2.1 ≤ bud.1 ∧ G.2.2.2 ≤ bud.2 := by
  obtain ⟨E, hh, c, s⟩ := G
  unfold ai_fin at h
  dsimp only at h
  split at h
  · rename_i e1 e2
    cases h
    exact ⟨rfl, Nat.le_of_ble_eq_true e1, Nat.le_of_ble_eq_true e2⟩
  · cases h
theorem ai_room_ok {bud : Nat × Nat} {S : List ai_V} {G : ai_G} (h : ai_room bud S G = true) : ai_words S ≤ 40 ∧ G.2.2.1 ≤ bud.1 ∧ G.2.2.2 ≤ bud.2 := by
  obtain ⟨E, hh, c, s⟩ := G
  unfold ai_room at h
  dsimp only at h
  split at h
  · rename_i e1 e2 e3
    exact ⟨Nat.le_of_ble_eq_true e1, Nat.le_of_ble_eq_true e2, Nat.le_of_ble_eq_true e3⟩
  · cases h
theorem ai_l2i_ok {r : Nat → Int} {E E' : ai_E} (hE : ai_gE r E) {x z : ai_X} (hx : x.1 < E.1) {v : Int64} (hv : v.toInt = ai_vx r x) (h : ai_l2i E x = (z, E')) : ∃ r', ai_ext E.1 r r' ∧ E.1 ≤ E'.1 ∧ ai_gE r' E' ∧ z.1 < E'.1 ∧ v.toInt32.toInt = ai_vx r' z := by
  have hb := ai_iv_ok hE hx
  have hi := ai_i32 v.toInt32
  unfold ai_l2i at h
  cases e : ai_iv E x with
  | mk lo hi' =>
    rw [e] at h hb
    dsimp only at h
    have new : ai_new E (ai_lo32, ai_hi32) = (z, E') → ∃ r', ai_ext E.1 r r' ∧ E.1 ≤ E'.1 ∧ ai_gE r' E' ∧ z.1 < E'.1 ∧ v.toInt32.toInt = ai_vx r' z := fun h => by
      obtain ⟨r', h1, h2, h3, h4, h5⟩ := ai_new_ok hE (b := (ai_lo32, ai_hi32)) (v := v.toInt32.toInt) hi (ai_small32 hi) h
      exact ⟨r', h1, h2, h3, h4, h5.symm⟩
    cases e1 : ai_le ai_lo32 lo with
    | false => rw [e1] at h; exact new h
    | true => cases e2 : ai_le hi' ai_hi32 with
      | false => rw [e1, e2] at h; exact new h
      | true =>
        rw [e1, e2] at h
        cases h
        have h1 := ai_le_iff.mp e1
        have h2 := ai_le_iff.mp e2
        have h3 : lo ≤ ai_vx r x := hb.1
        have h4 : ai_vx r x ≤ hi' := hb.2
        refine ⟨r, ai_ext.rfl', Nat.le_refl _, hE, hx, ?_⟩
        rw [Int64.toInt_toInt32, hv]
        exact ai_bm32_id (by omega) (by omega)
set_option maxHeartbeats 4000000 in
theorem ai_step_ok {pc len a b : Nat} {i : ClassFile.Instr} (F : ai_Fr p R s m args meth c D tyc A sa nL cc own Ts strs nws bud dflt kind) (hini : ini = true → meth.name = "<init>") (hck : ai_chk pc i len a b = true) (hwd : ai_wd Ts strs own ini i a b) (hdg : decode cc pc = .ok (i, len))
    (h : ai_step i bud dflt kind pc (pc + len) a b L S G = some (.inl fs)) (hR : ai_Rel D tyc A s sa ws0 nL r ad L S G H locs ls st) (k : ∀ f ∈ fs, ai_Cn p l e R s m args below meth c Q D tyc A sa ws0 nL r ad G f) : W p l e R s m args below meth c H locs G.2.2.1 G.2.2.2 Q (F0 m pc ls st) := by
  obtain ⟨hx, hb, hml, hts, hown, ⟨hK, hstr, hstrs, hAO, hAOA, hxo, -⟩, hA, hbud, hcls, hroom, hlocks⟩ := F
  have hls : ls.size = nL := by
    obtain ⟨ws, -, -, -, -, -, -, -, hL, -⟩ := hR
    exact hL.2.1
  cases i
  case iconst n =>
    obtain ⟨rfl, h1, h2⟩ := of_decide_eq_true hck
    have hf := ai_go_eq h
    subst hf
    have hn : (Int32.ofInt n).toInt = n := Int32.toInt_ofInt_of_le (by unfold ai_lo32 at h1; omega) (by unfold ai_hi32 at h2; omega)
    exact lv_iconst hx hb hdg rfl ((k _ List.mem_cons_self).st' hR ⟨ai_const hR hn, hR.stk⟩)
  case bipush n =>
    obtain ⟨rfl, h1⟩ := of_decide_eq_true hck
    have hf := ai_go_eq h
    subst hf
    exact lv_bipush hx hb hdg rfl ((k _ List.mem_cons_self).st' hR ⟨ai_const hR h1, hR.stk⟩)
  case sipush n =>
    obtain ⟨rfl, h1⟩ := of_decide_eq_true hck
    have hf := ai_go_eq h
    subst hf
    exact lv_sipush hx hb hdg rfl ((k _ List.mem_cons_self).st' hR ⟨ai_const hR h1, hR.stk⟩)
  case lconst n =>
    obtain rfl := of_decide_eq_true hck
    have hf := ai_go_eq h
    subst hf
    have hE := hR.env
    refine lv_lconst hx hb hdg rfl ((k _ List.mem_cons_self).st' hR ⟨⟨hE.2.1, _, rfl, ?_⟩, hR.stk⟩)
    show (lN n.val).toInt = r 0 + (n.val : Int)
    have := n.isLt
    rw [lN_toInt (by omega), hE.1]; omega
  case ldc idx =>
    obtain ⟨rfl, h1⟩ := of_decide_eq_true hck
    cases a with
    | zero =>
      have hf := ai_go_eq h
      subst hf
      have hn : (Int32.ofInt (Int.ofNat b - 2147483648)).toInt = Int.ofNat b - 2147483648 := Int32.toInt_ofInt_of_le (by show -2147483648 ≤ (b : Int) - 2147483648; omega) (by show (b : Int) - 2147483648 < 2147483648; omega)
      exact lv_ldc hx hb hown (hts _ (hwd.1 rfl)) hdg ((k _ List.mem_cons_self).st' hR ⟨ai_const hR hn, hR.stk⟩)
    | succ a =>
      have hf := ai_go_eq h
      subst hf
      obtain ⟨tx, hb1, hb2⟩ := hwd.2 (Nat.succ_ne_zero _)
      refine va_ldcS hx hb hown (hstrs _ hb2) hdg ((k _ List.mem_cons_self).st' hR ⟨⟨?_, ?_⟩, hR.stk⟩)
      · obtain ⟨ws, -, -, -, -, hH, -⟩ := hR
        have := hH.1.1
        omega
      · obtain ⟨ws, -, -, -, -, -, -, hsa, -⟩ := hR
        have := hsa (b - 1) (by omega)
        rw [show b - 1 + 1 = b by omega] at this
        rw [this]
  case ldc_w idx =>
    obtain ⟨rfl, h1⟩ := of_decide_eq_true hck
    cases a with
    | zero =>
      have hf := ai_go_eq h
      subst hf
      have hn : (Int32.ofInt (Int.ofNat b - 2147483648)).toInt = Int.ofNat b - 2147483648 := Int32.toInt_ofInt_of_le (by show -2147483648 ≤ (b : Int) - 2147483648; omega) (by show (b : Int) - 2147483648 < 2147483648; omega)
      have kk := (k _ List.mem_cons_self).st' hR (st' := .int (Int32.ofInt (Int.ofNat b - 2147483648)) :: st) ⟨ai_const hR hn, hR.stk⟩
      intro T hT X
      obtain ⟨t, a1, b1⟩ := kk T hT X
      exact ⟨t, va_ldcwI X hx hown (hts _ (hwd rfl)) (g := F0 m pc ls st) rfl (by rw [hb]; exact hdg) t a1, b1⟩
    | succ a => cases h
  case iload n =>
    obtain rfl := of_decide_eq_true hck
    exact ai_load_ok (fun a ha q => by subst q; cases ha) (fun v h1 h2 h3 hw => by
      rcases hv : ai_lget L n with x | x
      · rw [hv] at h2
        obtain ⟨-, ix, rfl, -⟩ := h2
        exact lv_iload hx hb hdg h1 hw
      · rw [hv] at h3; cases h3) h hR k
  case iload_n n =>
    obtain rfl := of_decide_eq_true hck
    exact ai_load_ok (fun a ha q => by subst q; cases ha) (fun v h1 h2 h3 hw => by
      rcases hv : ai_lget L n.val with x | x
      · rw [hv] at h2
        obtain ⟨-, ix, rfl, -⟩ := h2
        exact lv_iload_n hx hb hdg rfl h1 hw
      · rw [hv] at h3; cases h3) h hR k
  case lload n =>
    obtain rfl := of_decide_eq_true hck
    exact ai_load_ok (fun a ha q => by subst q; cases ha) (fun v h1 h2 h3 hw => by
      rcases hv : ai_lget L n with x | x | x
      · rw [hv] at h3; cases h3
      · rw [hv] at h2
        obtain ⟨-, ix, rfl, -⟩ := h2
        exact lv_lload hx hb hdg h1 hw
      · rw [hv] at h3; cases h3) h hR k
  case lload_n n =>
    obtain rfl := of_decide_eq_true hck
    exact ai_load_ok (fun a ha q => by subst q; cases ha) (fun v h1 h2 h3 hw => by
      rcases hv : ai_lget L n.val with x | x | x
      · rw [hv] at h3; cases h3
      · rw [hv] at h2
        obtain ⟨-, ix, rfl, -⟩ := h2
        exact lv_lload_n hx hb hdg rfl h1 hw
      · rw [hv] at h3; cases h3) h hR k
  case aload n =>
    obtain rfl := of_decide_eq_true hck
    exact ai_load_ok (fun a ha q => by subst q; cases ha) (fun v h1 h2 h3 hw => by
      rcases hv : ai_lget L n with x | x | _ | _ | x
      · rw [hv] at h3; cases h3
      · rw [hv] at h3; cases h3
      · rw [hv] at h3; cases h3
      · rw [hv] at h3; cases h3
      · rw [hv] at h2
        obtain ⟨-, rfl⟩ := h2
        exact lv_aload hx hb hdg h1 hw) h hR k
  case aload_n n =>
    obtain rfl := of_decide_eq_true hck
    exact ai_load_ok (fun a ha q => by subst q; cases ha) (fun v h1 h2 h3 hw => by
      rcases hv : ai_lget L n.val with x | x | _ | _ | x
      · rw [hv] at h3; cases h3
      · rw [hv] at h3; cases h3
      · rw [hv] at h3; cases h3
      · rw [hv] at h3; cases h3
      · rw [hv] at h2
        obtain ⟨-, rfl⟩ := h2
        exact lv_aload_n hx hb hdg rfl h1 hw) h hR k
  case istore n =>
    obtain rfl := of_decide_eq_true hck
    exact ai_stor_ok (fun a ha => by rcases a with x | x <;> first | rfl | cases ha) (fun a v rest lv' h1 h2 h3 h4 h5 h6 => by
      rcases a with x | x
      · obtain ⟨-, ix, rfl, -⟩ := h1
        exact lv_istore hx hb hdg h5 h3 h4 h6
      · cases h2) h hR k
  case istore_n n =>
    obtain rfl := of_decide_eq_true hck
    exact ai_stor_ok (fun a ha => by rcases a with x | x <;> first | rfl | cases ha) (fun a v rest lv' h1 h2 h3 h4 h5 h6 => by
      rcases a with x | x
      · obtain ⟨-, ix, rfl, -⟩ := h1
        exact lv_istore_n hx hb hdg rfl h5 h3 h4 h6
      · cases h2) h hR k
  case astore n =>
    obtain rfl := of_decide_eq_true hck
    exact ai_stor_ok (fun a ha => by rcases a with x | x | _ | _ | x <;> first | rfl | cases ha) (fun a v rest lv' h1 h2 h3 h4 h5 h6 => by
      rcases a with x | x | _ | _ | x
      · cases h2
      · cases h2
      · cases h2
      · cases h2
      · obtain ⟨-, rfl⟩ := h1
        exact lv_astore hx hb hdg h5 h3 h4 h6) h hR k
  case astore_n n =>
    obtain rfl := of_decide_eq_true hck
    exact ai_stor_ok (fun a ha => by rcases a with x | x | _ | _ | x <;> first | rfl | cases ha) (fun a v rest lv' h1 h2 h3 h4 h5 h6 => by
      rcases a with x | x | _ | _ | x
      · cases h2
      · cases h2
      · cases h2
      · cases h2
      · obtain ⟨-, rfl⟩ := h1
        exact lv_astore_n hx hb hdg rfl h5 h3 h4 h6) h hR k
  case lstore n =>
    obtain rfl := of_decide_eq_true hck
    exact ai_stol_ok (fun x rest lv' h3 h4 h5 h6 => lv_lstore hx hb hdg h5 h3 h4 h6) h hR k
  case lstore_n n =>
    obtain rfl := of_decide_eq_true hck
    exact ai_stol_ok (fun x rest lv' h3 h4 h5 h6 => lv_lstore_n hx hb hdg rfl h5 h3 h4 h6) h hR k
  case iadd =>
    obtain rfl := of_decide_eq_true hck
    exact ai_s2_ok (o := 0) (by decide) (fun x y rest _ hw => lv_iadd hx hb hdg hw) h hR k
  case isub =>
    obtain rfl := of_decide_eq_true hck
    exact ai_s2_ok (o := 1) (by decide) (fun x y rest _ hw => lv_isub hx hb hdg hw) h hR k
  case imul =>
    obtain rfl := of_decide_eq_true hck
    exact ai_s2_ok (o := 2) (by decide) (fun x y rest _ hw => lv_imul hx hb hdg hw) h hR k
  case iand =>
    obtain rfl := of_decide_eq_true hck
    exact ai_s2_ok (o := 5) (by decide) (fun x y rest _ hw => lv_iand hx hb hdg hw) h hR k
  case ior =>
    obtain rfl := of_decide_eq_true hck
    exact ai_s2_ok (o := 6) (by decide) (fun x y rest _ hw => lv_ior hx hb hdg hw) h hR k
  case ixor =>
    obtain rfl := of_decide_eq_true hck
    exact ai_s2_ok (o := 7) (by decide) (fun x y rest _ hw => lv_ixor hx hb hdg hw) h hR k
  case ishl =>
    obtain rfl := of_decide_eq_true hck
    exact ai_s2_ok (o := 8) (by decide) (fun x y rest _ hw => lv_ishl hx hb hdg hw) h hR k
  case ishr =>
    obtain rfl := of_decide_eq_true hck
    exact ai_s2_ok (o := 9) (by decide) (fun x y rest _ hw => lv_ishr hx hb hdg hw) h hR k
  case iushr =>
    obtain rfl := of_decide_eq_true hck
    exact ai_s2_ok (o := 10) (by decide) (fun x y rest _ hw => lv_iushr hx hb hdg rfl hw) h hR k
  case ladd =>
    obtain rfl := of_decide_eq_true hck
    exact ai_l2_ok (o := 20) (by decide) (fun x y rest _ hw => lv_ladd hx hb hdg hw) h hR k
  case lsub =>
    obtain rfl := of_decide_eq_true hck
    exact ai_l2_ok (o := 21) (by decide) (fun x y rest _ hw => lv_lsub hx hb hdg hw) h hR k
  case lmul =>
    obtain rfl := of_decide_eq_true hck
    exact ai_l2_ok (o := 22) (by decide) (fun x y rest _ hw => lv_lmul hx hb hdg hw) h hR k
  case iaload =>
    obtain rfl := of_decide_eq_true hck
    exact ai_iald_ok hx hb hK hxo hdg h hR k
  case laload =>
    obtain rfl := of_decide_eq_true hck
    exact ai_lald_ok hx hb hK hdg h hR k
  case baload =>
    obtain rfl := of_decide_eq_true hck
    exact ai_bald_ok hx hb hK hdg h hR k
  case iastore =>
    obtain rfl := of_decide_eq_true hck
    exact ai_iast_ok hx hb hK hdg h hR k
  case lastore =>
    obtain rfl := of_decide_eq_true hck
    exact ai_last_ok hx hb hK hdg h hR k
  case bastore =>
    obtain rfl := of_decide_eq_true hck
    exact ai_bast_ok hx hb hK hdg h hR k
  case aaload =>
    obtain rfl := of_decide_eq_true hck
    exact ai_aget_ok hx hb hK hdg h hR k
  case aastore =>
    obtain rfl := of_decide_eq_true hck
    exact ai_aput_ok hx hb hK hstr hdg h hR k
  case arraylength =>
    obtain rfl := of_decide_eq_true hck
    exact ai_alen_ok hx hb hK hxo hdg h hR k
  case getfield idx =>
    obtain rfl := of_decide_eq_true hck
    exact ai_getf_ok hx hb hts hown hK (hcls a hwd.1) hwd.2 hdg h hR k
  case putfield idx =>
    obtain rfl := of_decide_eq_true hck
    exact ai_putf_ok hx hb hts hown hK (hcls a hwd.1.1) (fun C T N hc => ⟨(hwd.1.2 C T N hc).1, (hwd.1.2 C T N hc).2, fun hf => ⟨hini (hwd.2 C T N hc hf).1, (hwd.2 C T N hc hf).2⟩⟩) hdg h hR k
  case multianewarray idx d =>
    obtain ⟨rfl, rfl⟩ := of_decide_eq_true hck
    exact ai_mult_ok hx hb hts hown hK hAOA hA hbud hwd hdg h hR k
  case tableswitch d lo hi offs =>
    have hck : (decide (0 ≤ (pc : Int) + d) && (offs.toList.all (fun o => decide (0 ≤ (pc : Int) + o)) && decide (offs.toList.length = (hi - lo + 1).toNat))) = true := hck
    rw [Bool.and_eq_true, Bool.and_eq_true] at hck
    exact ai_tsw_ok hx hb ⟨of_decide_eq_true hck.1, fun o ho => of_decide_eq_true (List.all_eq_true.mp hck.2.1 o ho), of_decide_eq_true hck.2.2⟩ hdg h hR k
  case iinc n kk =>
    obtain ⟨rfl, h1, h2⟩ := of_decide_eq_true hck
    delta ai_step at h
    dsimp only at h
    split at h
    · rename_i x hl
      obtain ⟨E, hh, cs, sl⟩ := G
      dsimp only at h
      cases eb : ai_bin E 0 x (0, kk) with
      | mk z E' =>
        rw [eb] at h
        dsimp only at h
        split at h
        · rename_i hlt
          have hf := ai_go_eq h
          subst hf
          exact ai_iinc_ok hx hb ⟨h1, h2⟩ hdg hl (Nat.le_of_ble_eq_true hlt) eb hR (k _ List.mem_cons_self)
        · cases h
    · cases h
  case idiv =>
    obtain rfl := of_decide_eq_true hck
    delta ai_step at h
    dsimp only at h
    split at h
    · split at h
      · rename_i hz
        exact ai_s2_ok (o := 3) (by decide) (fun x y rest e hw => lv_idiv hx hb hdg (ai_nz32 hR hz e) hw) h hR k
      · cases h
    · cases h
  case irem =>
    obtain rfl := of_decide_eq_true hck
    delta ai_step at h
    dsimp only at h
    split at h
    · split at h
      · rename_i hz
        exact ai_s2_ok (o := 4) (by decide) (fun x y rest e hw => lv_irem hx hb hdg (ai_nz32 hR hz e) hw) h hR k
      · cases h
    · cases h
  case ldiv =>
    obtain rfl := of_decide_eq_true hck
    delta ai_step at h
    dsimp only at h
    split at h
    · split at h
      · rename_i hz
        exact ai_l2_ok (o := 23) (by decide) (fun x y rest e hw => lv_ldiv hx hb hdg (ai_nz64 hR hz e) hw) h hR k
      · cases h
    · cases h
  case lrem =>
    obtain rfl := of_decide_eq_true hck
    delta ai_step at h
    dsimp only at h
    split at h
    · split at h
      · rename_i hz
        exact ai_l2_ok (o := 24) (by decide) (fun x y rest e hw => lv_lrem hx hb hdg (ai_nz64 hR hz e) hw) h hR k
      · cases h
    · cases h
  case ineg =>
    obtain rfl := of_decide_eq_true hck
    delta ai_step at h
    dsimp only at h
    split at h
    · rename_i y S'
      obtain ⟨j, t, rfl, hy, ey, h1⟩ := hR.stk.int
      have hE := hR.env
      refine ai_s2_Z (st := .int j :: .int 0 :: t) (o := 1) (by decide) (fun x y' rest e hw => ?_) h (hR.st' ⟨⟨hy, j, rfl, ey⟩, ⟨hE.2.1, 0, rfl, ?_⟩, h1⟩) k
      · cases e
        refine lv_ineg hx hb hdg ?_
        rw [← Int32.zero_sub]
        exact hw
      · show (0 : Int) = r 0 + 0
        rw [hE.1]; rfl
    · cases h
  case lneg =>
    obtain rfl := of_decide_eq_true hck
    delta ai_step at h
    dsimp only at h
    split at h
    · rename_i y S'
      obtain ⟨j, t, rfl, hy, ey, h1⟩ := hR.stk.long
      have hE := hR.env
      refine ai_l2_Z (st := .long j :: .long 0 :: t) (o := 21) (by decide) (fun x y' rest e hw => ?_) h (hR.st' ⟨⟨hy, j, rfl, ey⟩, ⟨hE.2.1, 0, rfl, ?_⟩, h1⟩) k
      · cases e
        refine lv_lneg hx hb hdg ?_
        rw [← Int64.zero_sub]
        exact hw
      · show (0 : Int) = r 0 + 0
        rw [hE.1]; rfl
    · cases h
  case lcmp =>
    obtain rfl := of_decide_eq_true hck
    delta ai_step at h
    dsimp only at h
    split at h
    · rename_i y x S'
      obtain ⟨E, hh, cs, sl⟩ := G
      obtain ⟨j, t1, rfl, hy, ey, h1⟩ := hR.stk.long
      obtain ⟨i, t, rfl, hx', ex, h2⟩ := h1.long
      dsimp only at h
      cases eb : ai_bin E 25 x y with
      | mk z E' =>
        rw [eb] at h
        have hf := ai_go_eq h
        subst hf
        obtain ⟨r', g1, g2, g3, g4, g5⟩ := ai_cmp64 hR.env hx' hy ex ey eb
        exact W.lcmp hx hb hdg ((k _ List.mem_cons_self).re (G := (E, hh, cs, sl)) hR g1 g2 g3 ⟨⟨g4, _, rfl, g5⟩, h2.mono g1 ai_ext.rfl' g2 (Nat.le_refl _)⟩)
    · cases h
  case i2l =>
    obtain rfl := of_decide_eq_true hck
    delta ai_step at h
    dsimp only at h
    split at h
    · rename_i x S'
      obtain ⟨j, t, rfl, hy, ey, h1⟩ := hR.stk.int
      have hf := ai_go_eq h
      subst hf
      exact lv_i2l hx hb hdg rfl ((k _ List.mem_cons_self).st' hR ⟨⟨hy, _, rfl, by rw [Int32.toInt_toInt64]; exact ey⟩, h1⟩)
    · cases h
  case l2i =>
    obtain rfl := of_decide_eq_true hck
    delta ai_step at h
    dsimp only at h
    split at h
    · rename_i x S'
      obtain ⟨E, hh, cs, sl⟩ := G
      obtain ⟨j, t, rfl, hy, ey, h1⟩ := hR.stk.long
      dsimp only at h
      cases eb : ai_l2i E x with
      | mk z E' =>
        rw [eb] at h
        have hf := ai_go_eq h
        subst hf
        obtain ⟨r', g1, g2, g3, g4, g5⟩ := ai_l2i_ok hR.env hy ey eb
        exact lv_l2i hx hb hdg rfl ((k _ List.mem_cons_self).re (G := (E, hh, cs, sl)) hR g1 g2 g3 ⟨⟨g4, _, rfl, g5⟩, h1.mono g1 ai_ext.rfl' g2 (Nat.le_refl _)⟩)
    · cases h
  case dup =>
    obtain rfl := of_decide_eq_true hck
    delta ai_step at h
    dsimp only at h
    split at h
    · rename_i v S'
      obtain ⟨v', t, rfl, g1, g2⟩ := hR.stk.cons
      split at h
      · cases h
      · rename_i e1
        have hf := ai_go_eq h
        subst hf
        exact lv_dup hx hb hdg (g1.cat.1 e1) ((k _ List.mem_cons_self).st' hR ⟨g1, g1, g2⟩)
    · cases h
  case pop =>
    obtain rfl := of_decide_eq_true hck
    delta ai_step at h
    dsimp only at h
    split at h
    · rename_i v S'
      obtain ⟨v', t, rfl, g1, g2⟩ := hR.stk.cons
      split at h
      · cases h
      · rename_i e1
        have hf := ai_go_eq h
        subst hf
        exact lv_pop hx hb hdg (g1.cat.1 e1) ((k _ List.mem_cons_self).st' hR g2)
    · cases h
  case dup2 =>
    obtain rfl := of_decide_eq_true hck
    delta ai_step at h
    dsimp only at h
    split at h
    · rename_i v S'
      obtain ⟨v', t, rfl, g1, g2⟩ := hR.stk.cons
      split at h
      · rename_i e1
        have hf := ai_go_eq h
        subst hf
        exact lv_dup2_2 hx hb hdg (g1.cat.2 e1) ((k _ List.mem_cons_self).st' hR ⟨g1, g1, g2⟩)
      · split at h
        · rename_i w S''
          obtain ⟨w', t', rfl, f1, f2⟩ := g2.cons
          split at h
          · rename_i e1 e2
            have hf := ai_go_eq h
            subst hf
            exact lv_dup2_11 hx hb hdg (g1.cat.1 e1) (f1.cat.1 e2) ((k _ List.mem_cons_self).st' hR ⟨g1, f1, g1, f1, f2⟩)
          · cases h
        · cases h
    · cases h
  case goto off =>
    obtain ⟨rfl, h1⟩ := of_decide_eq_true hck
    have hf := ai_go_eq h
    subst hf
    exact lv_goto hx hb hdg h1 ((k _ List.mem_cons_self).st' hR hR.stk)
  case ifCond o off =>
    obtain ⟨rfl, h1⟩ := of_decide_eq_true hck
    delta ai_step at h
    dsimp only at h
    split at h
    · rename_i x S'
      obtain ⟨j, t, rfl, hy, ey, g1⟩ := hR.stk.int
      have hE := hR.env
      have h0 : ai_vx r (0, 0) = 0 := by
        show r 0 + 0 = 0
        rw [hE.1]; rfl
      refine ai_branch_ok (st' := t) (by cases o <;> decide) hy hE.2.1 (fun kt kf => ?_) h hR g1 k
      rw [← ey, h0] at kt kf
      have e0 : (0 : Int) = (0 : Int32).toInt := rfl
      rw [e0] at kt kf
      cases o
      · exact lv_if_eq hx hb hdg h1 (fun q => kt (by rw [q]; rfl)) (fun q => kf (fun q2 => q (Int32.toInt_inj.mp q2)))
      · exact lv_if_ne hx hb hdg h1 (fun q => kt (fun q2 => q (Int32.toInt_inj.mp q2))) (fun q => kf (fun q2 => q2 (by rw [q])))
      · exact lv_if_lt hx hb hdg h1 (fun q => kt (Int32.lt_iff_toInt_lt.mp q)) (fun q => kf (fun q2 => q (Int32.lt_iff_toInt_lt.mpr q2)))
      · exact lv_if_ge hx hb hdg h1 (fun q => kt (Int32.le_iff_toInt_le.mp q)) (fun q => kf (fun q2 => q (Int32.le_iff_toInt_le.mpr q2)))
      · exact lv_if_gt hx hb hdg h1 (fun q => kt (Int32.lt_iff_toInt_lt.mp q)) (fun q => kf (fun q2 => q (Int32.lt_iff_toInt_lt.mpr q2)))
      · exact lv_if_le hx hb hdg h1 (fun q => kt (Int32.le_iff_toInt_le.mp q)) (fun q => kf (fun q2 => q (Int32.le_iff_toInt_le.mpr q2)))
    · cases h
  case if_icmp o off =>
    obtain ⟨rfl, h1⟩ := of_decide_eq_true hck
    delta ai_step at h
    dsimp only at h
    split at h
    · rename_i y x S'
      obtain ⟨j, t1, rfl, hy, ey, g0⟩ := hR.stk.int
      obtain ⟨i, t, rfl, hx', ex, g1⟩ := g0.int
      refine ai_branch_ok (st' := t) (by cases o <;> decide) hx' hy (fun kt kf => ?_) h hR g1 k
      rw [← ey, ← ex] at kt kf
      cases o
      · exact lv_icmp_eq hx hb hdg h1 (fun q => kt (by rw [q]; rfl)) (fun q => kf (fun q2 => q (Int32.toInt_inj.mp q2)))
      · exact lv_icmp_ne hx hb hdg h1 (fun q => kt (fun q2 => q (Int32.toInt_inj.mp q2))) (fun q => kf (fun q2 => q2 (by rw [q])))
      · exact lv_icmp_lt hx hb hdg h1 (fun q => kt (Int32.lt_iff_toInt_lt.mp q)) (fun q => kf (fun q2 => q (Int32.lt_iff_toInt_lt.mpr q2)))
      · exact lv_icmp_ge hx hb hdg h1 (fun q => kt (Int32.le_iff_toInt_le.mp q)) (fun q => kf (fun q2 => q (Int32.le_iff_toInt_le.mpr q2)))
      · exact lv_icmp_gt hx hb hdg h1 (fun q => kt (Int32.lt_iff_toInt_lt.mp q)) (fun q => kf (fun q2 => q (Int32.lt_iff_toInt_lt.mpr q2)))
      · exact lv_icmp_le hx hb hdg h1 (fun q => kt (Int32.le_iff_toInt_le.mp q)) (fun q => kf (fun q2 => q (Int32.le_iff_toInt_le.mpr q2)))
    · cases h
  case new idx =>
    obtain rfl := of_decide_eq_true hck
    delta ai_step at h
    dsimp only at h
    split at h
    · split at h
      · obtain ⟨E, hh, cs, sl⟩ := G
        dsimp only at h
        split at h <;> cases h
      · cases h
    · rename_i e1
      have ha : a < 2000 := by
        by_cases q : 2000 ≤ a
        · rw [Nat.ble_eq_true_of_le q] at e1; cases e1
        · omega
      obtain ⟨w1, w2⟩ := hwd ha
      exact ai_new_obj hx hb hts hown hK hA hbud (hcls a w1) w2 hdg h hR k
  case newarray at' =>
    obtain rfl := of_decide_eq_true hck
    delta ai_step at h
    dsimp only at h
    split at h
    · rename_i n S'
      split at h
      · rename_i e1
        exact ai_newa_ok hx hb hts hK hA hbud hwd (Nat.le_of_ble_eq_true e1) hdg rfl h hR k
      · cases h
    · cases h
  case anewarray idx =>
    obtain rfl := of_decide_eq_true hck
    delta ai_step at h
    dsimp only at h
    split at h
    · rename_i n S'
      split at h
      · rename_i e1
        exact ai_anew_ok hx hb hts hown hK hAO hA hbud hwd (Nat.le_of_ble_eq_true e1) hdg rfl h hR k
      · cases h
    · cases h
  case invokevirtual idx =>
    delta ai_step at h
    dsimp only at h
    split at h
    · exact (ai_vcall_no h).elim
    · cases h
  case invokespecial idx =>
    obtain rfl := of_decide_eq_true hck
    delta ai_step at h
    dsimp only at h
    split at h
    · rename_i e1
      split at h
      · rename_i q S'
        split at h
        · rename_i e2
          have hf := ai_go_eq h
          subst hf
          obtain ⟨t, rfl, hq, g1⟩ := hR.stk.ref
          obtain ⟨w1, w2, w3⟩ := hwd (Nat.eq_of_beq_eq_true e1)
          have hw := ai_words_ok g1
          have e2 := Nat.le_of_ble_eq_true e2
          exact W.objInit hx hb hown (hts _ w1) (hts _ w2) (hts _ w3) (g := F0 m pc ls (.ref (ad q) :: t)) rfl (by show ls.size = c.maxLocals; rw [hls, hml]) rfl hdg (by omega) (by show 2 * 0 + _ + 12 ≤ _; omega) ((k _ List.mem_cons_self).st' hR g1)
        · cases h
      · cases h
    · split at h
      · exact (ai_icall_no h).elim
      · cases h
  case invokestatic idx =>
    obtain rfl := of_decide_eq_true hck
    delta ai_step at h
    dsimp only at h
    split at h
    · exact (ai_call_no h).elim
    · rename_i eb
      have ha : 1000 ≤ a := by
        by_cases q : a < 1000
        · have q2 : Nat.blt a 1000 = true := Nat.ble_eq_true_of_le q
          rw [q2] at eb; cases eb
        · omega
      split at h
      · rename_i er
        obtain ⟨r1, r2, r3⟩ := ai_room_ok er
        have hsz : c.maxLocals = ls.size := by rw [hls, hml]
        have hwS := ai_words_ok hR.stk
        have hrest : ∀ {v w : Value} {rest : List Value}, st = v :: w :: rest → (rest.map fun v => v.category).sum + 13 ≤ R.locals := fun {v w rest} e => by
          rw [e, List.map_cons, List.map_cons, List.sum_cons, List.sum_cons] at hwS
          omega
        have hrest1 : ∀ {v : Value} {rest : List Value}, st = v :: rest → (rest.map fun v => v.category).sum + 13 ≤ R.locals := fun {v rest} e => by
          rw [e, List.map_cons, List.sum_cons] at hwS
          omega
        split at h
        · rename_i ea
          obtain ⟨w1, w2, w3, w4⟩ := hwd.1 (by have : a - 1000 = 0 := ea; omega)
          exact ai_s2_ok (o := 11) (by decide) (fun x y rest e hw => va_mmax hx hb hsz hown (hts _ w1) (hts _ w2) (hts _ w3) (hts _ w4) (by omega) (hrest e) (by omega) (by omega) hdg hw) h hR k
        · rename_i ea
          obtain ⟨w1, w2, w3, w4⟩ := hwd.2.1 (by have : a - 1000 = 1 := ea; omega)
          exact ai_s2_ok (o := 12) (by decide) (fun x y rest e hw => va_mmin hx hb hsz hown (hts _ w1) (hts _ w2) (hts _ w3) (hts _ w4) (by omega) (hrest e) (by omega) (by omega) hdg (by rw [ai_min_eq]; exact hw)) h hR k
        · rename_i ea
          obtain ⟨w1, w2, w3, w4⟩ := hwd.2.2.1 (by have : a - 1000 = 2 := ea; omega)
          split at h
          · rename_i x S'
            obtain ⟨j, t, rfl, hy, ey, h1⟩ := hR.stk.int
            have hE := hR.env
            refine ai_s2_Z (st := .int 0 :: .int j :: t) (o := 13) (by decide) (fun x y' rest e hw => ?_) h (hR.st' ⟨⟨hE.2.1, 0, rfl, ?_⟩, ⟨hy, j, rfl, ey⟩, h1⟩) k
            · cases e
              exact va_mabs hx hb hsz hown (hts _ w1) (hts _ w2) (hts _ w3) (hts _ w4) (by omega) (hrest1 rfl) (by omega) (by omega) hdg hw
            · show (0 : Int) = r 0 + 0
              rw [hE.1]; rfl
          · cases h
        · rename_i ea
          obtain ⟨w1, w2, w3, w4⟩ := hwd.2.2.2.1 (by have : a - 1000 = 3 := ea; omega)
          split at h
          · rename_i x S'
            obtain ⟨j, t, rfl, hy, ey, h1⟩ := hR.stk.long
            have hE := hR.env
            refine ai_l2_Z (st := .long 0 :: .long j :: t) (o := 26) (by decide) (fun x y' rest e hw => ?_) h (hR.st' ⟨⟨hE.2.1, 0, rfl, ?_⟩, ⟨hy, j, rfl, ey⟩, h1⟩) k
            · cases e
              exact va_mabs_long hx hb hsz hown (hts _ w1) (hts _ w2) (hts _ w3) (hts _ w4) (by omega) (hrest1 rfl) (by omega) (by omega) hdg hw
            · show (0 : Int) = r 0 + 0
              rw [hE.1]; rfl
          · cases h
        · rename_i ea
          exact ai_copy_ok hx hb hml hts hown hK (hwd.2.2.2.2 (by have : a - 1000 = 5 := ea; omega)) ⟨by omega, by omega⟩ r1 hdg h hR k
        · cases h
      · cases h
  case ireturn =>
    delta ai_step at h
    dsimp only at h
    split at h
    · split at h
      · split at h
        · exact (ai_fin_no h).elim
        · cases h
      · exact (ai_fin_no h).elim
    · cases h
  case lreturn =>
    delta ai_step at h
    dsimp only at h
    split at h
    · exact (ai_fin_no h).elim
    · cases h
  case areturn =>
    delta ai_step at h
    dsimp only at h
    split at h
    · exact (ai_fin_no h).elim
    · cases h
  case return_ =>
    delta ai_step at h
    dsimp only at h
    split at h
    · exact (ai_fin_no h).elim
    · cases h
  all_goals cases h
end SS
end
section
/-! CALLS, RETURNS, THROWS -/
noncomputable def ai_Wd (D : va_G) (tyc : Nat → ClassId) (A : Nat → Prop) (sa : ai_B) (ws0 : va_W) (r : Nat → Int) (ad : Nat → Nat) (G : ai_G) (H : Heap) : Prop :=
  ∃ ws, va_P D vwCl ws H ∧ va_D A ws ∧ ai_gE r G.1 ∧ ai_gH tyc r ad G.1.1 ws0 G.2.1 ws ∧ ai_gO sa.2 r ad G.1.1 G.2.1 ∧ (∀ i, i < 10 → ad (i + 1) = sa.1 i)
noncomputable def ai_exn : Nat → String
  | 0 => "java/util/NoSuchElementException"
  | _ => "java/lang/IllegalArgumentException"
/-- where a method has come to, as one of the domain's ends has it -/
noncomputable def ai_At (D : va_G) (tyc : Nat → ClassId) (A : Nat → Prop) (sa : ai_B) (ws0 : va_W) (r0 : Nat → Int) (ad0 : Nat → Nat) (N0 n0 : Nat) (f : ai_R × ai_G) (P : (Nat → Int) → (Nat → Nat) → Prop) (st t : State) : Prop :=
  ∃ r' ad', ai_ext N0 r0 r' ∧ ai_ext n0 ad0 ad' ∧ N0 ≤ f.2.1.1 ∧ n0 ≤ f.2.2.1.1 ∧ ai_Wd D tyc A sa ws0 r' ad' f.2 t.heap ∧ va_F A st t ∧ P r' ad'
noncomputable def ai_gR' (r : Nat → Int) (ad : Nat → Nat) (N n : Nat) (x : Option ai_V) (v : Option Value) : Prop := match x with
  | none => v = none
  | some a => ∃ w, v = some w ∧ ai_gV r ad N n a w
noncomputable def ai_Qc (D : va_G) (tyc : Nat → ClassId) (A : Nat → Prop) (sa : ai_B) (ws0 : va_W) (r0 : Nat → Int) (ad0 : Nat → Nat) (N0 n0 : Nat) (outs : List (ai_R × ai_G)) : Array Value → State → Outcome → State → Prop := fun _ st o t =>
  ∃ f ∈ outs, ∃ x v, f.1 = .inr x ∧ o = .returned v ∧ ai_At D tyc A sa ws0 r0 ad0 N0 n0 f (fun r' ad' => ai_gR' r' ad' f.2.1.1 f.2.2.1.1 x v) st t
noncomputable def ai_XC (D : va_G) (tyc : Nat → ClassId) (A : Nat → Prop) (sa : ai_B) (ws0 : va_W) (r0 : Nat → Int) (ad0 : Nat → Nat) (N0 n0 : Nat) (outs : List (ai_R × ai_G)) : String → State → State → Prop := fun E st t =>
  ∃ f ∈ outs, ∃ e, f.1 = .inl e ∧ E = ai_exn e ∧ ai_At D tyc A sa ws0 r0 ad0 N0 n0 f (fun _ _ => True) st t
/-- what the ends of a method rest on -/
noncomputable def ai_we (Ts nws : List Cond) (own : String) (ret : Option FieldType) (cc : ByteArray) (tb : List (Nat × Nat × Nat × Nat)) (pc : Nat) (i : ClassFile.Instr) (len a b : Nat) : Prop := match i with
  | .ireturn => len = 1 ∧ (a = 2 → ret = some .boolean) ∧ (a ≠ 2 → ret = some .int)
  | .lreturn => len = 1 ∧ ret = some .long
  | .areturn => len = 1 ∧ ∃ rt, ret = some rt ∧ ((∃ n, rt = .object n) ∨ ∃ t, rt = .array t)
  | .return_ => len = 1 ∧ ret = none
  | .new ik => 2000 ≤ a → len = 3 ∧ tb = [] ∧ ∃ ic, decode cc (pc + 3) = .ok (.dup, 1) ∧ decode cc (pc + 4) = .ok (.invokespecial ic, 3) ∧ decode cc (pc + 7) = .ok (.athrow, 1) ∧
      Cond.classLink own ik (ai_exn (a - 2000)) ∈ Ts ∧ Cond.initialized (ai_exn (a - 2000)) ∈ Ts ∧ (∀ w ∈ vx_at0 own ic (ai_exn (a - 2000)) ["java/lang/RuntimeException", "java/lang/Exception"], w ∈ Ts ∨ w ∈ nws) ∧
      (∀ w ∈ Cond.classLink own ik (ai_exn (a - 2000)) :: Cond.initialized (ai_exn (a - 2000)) :: vx_at0 own ic (ai_exn (a - 2000)) ["java/lang/RuntimeException", "java/lang/Exception"], vx_ot w = true)
  | _ => True
theorem ai_make_no {bud : Nat × Nat} {d : ai_C} {n nx : Nat} {L S : List ai_V} {G : ai_G} {y : (Nat × List ai_V × List ai_V × Nat) ⊕ ai_R} (h : ai_make bud d n nx L S G = some (.inr y)) : False := by
  obtain ⟨E, hh, cs, sl⟩ := G
  unfold ai_make at h
  dsimp only at h
  split at h
  · cases h
  · cases h
section SC
variable {p : Program} {l : Launch} {e : Env} {R : Room} {s : State} {m : MethodId} {args : Array Value} {below : List Frame} {meth : Method} {c : Code} {Q : State → Prop}
variable {D : va_G} {tyc : Nat → ClassId} {A : Nat → Prop} {sa : ai_B} {ws0 : va_W} {nL : Nat} {cc : ByteArray} {own : String} {Ts : List Cond} {strs : List ai_Z} {nws : List Cond} {bud : Nat × Nat} {dflt : Nat → List ai_V} {kind : Nat → Nat → Nat}
variable {r r0 : Nat → Int} {ad ad0 : Nat → Nat} {L S : List ai_V} {G : ai_G} {H : Heap} {locs : List Loc} {ls : Array Slot} {st : List Value} {N0 n0 : Nat} {outs : List (ai_R × ai_G)} {tb : List (Nat × Nat × Nat × Nat)} {ret : Option FieldType}
theorem ai_Rel.wd (h : ai_Rel D tyc A s sa ws0 nL r ad L S G H locs ls st) : ai_Wd D tyc A sa ws0 r ad G H ∧ va_S A s.heap H locs ∧ ai_gL r ad G.1.1 G.2.1.1 nL L ls ∧ ai_gF r ad G.1.1 G.2.1.1 S st := by
  obtain ⟨ws, hP, hD, hS, hE, hH, hO, hsa, hL, hSt⟩ := h
  exact ⟨⟨ws, hP, hD, hE, hH, hO, hsa⟩, hS, hL, hSt⟩
theorem ai_Wd.rel (h : ai_Wd D tyc A sa ws0 r ad G H) (hS : va_S A s.heap H locs) (hL : ai_gL r ad G.1.1 G.2.1.1 nL L ls) (hSt : ai_gF r ad G.1.1 G.2.1.1 S st) : ai_Rel D tyc A s sa ws0 nL r ad L S G H locs ls st := by
  obtain ⟨ws, hP, hD, hE, hH, hO, hsa⟩ := h
  exact ⟨ws, hP, hD, hS, hE, hH, hO, hsa, hL, hSt⟩
theorem ai_Wd.kept {H1 : Heap} (h : ai_Wd D tyc A sa ws0 r ad G H) (hq : ∀ q : Nat, q < H.size → H1[q]? = H[q]?) : ai_Wd D tyc A sa ws0 r ad G H1 := by
  obtain ⟨ws, hP, hD, hE, hH, hO, hsa⟩ := h
  exact ⟨ws, hP.kept (fun k q hk => hq _ (vx_lt hP hk)), hD, hE, hH, hO, hsa⟩
/-- a method comes to its end -/
theorem ai_end_ok {pc len a b : Nat} {i : ClassFile.Instr} {x : ai_R} {mc ms : Nat} (F : ai_Fr p R s m args meth c D tyc A sa nL cc own Ts strs nws bud dflt kind) (hl : l.stackTraces = false) (hret : meth.sig.returnType = ret) (htb : tb = [] → ∀ x ∈ c.exceptionTable.toList, False) (hwe : ai_we Ts nws own ret cc tb pc i len a b) (hnw : ∀ w ∈ nws, w.onTables = true) (hdg : decode cc pc = .ok (i, len)) (hen : ai_ends i = true)
    (h : ai_step i bud dflt kind pc (pc + len) a b L S G = some (.inr (.inr x))) (hR : ai_Rel D tyc A s sa ws0 nL r ad L S G H locs ls st) (ho : (x, G) ∈ outs) (h1 : ai_ext N0 r0 r) (h2 : ai_ext n0 ad0 ad) (h3 : N0 ≤ G.1.1) (h4 : n0 ≤ G.2.1.1) (hm : bud.1 ≤ mc ∧ bud.2 ≤ ms) :
    W p l e R s m args below meth c H locs G.2.2.1 G.2.2.2 (vx_MQ below (ai_Qc D tyc A sa ws0 r0 ad0 N0 n0 outs) (ai_XC D tyc A sa ws0 r0 ad0 N0 n0 outs) args s mc ms A) (F0 m pc ls st) := by
  obtain ⟨hx, hb, hml, hts, hown, hSt0, hA, hbud, hcls, hroom, hlocks⟩ := F
  obtain ⟨hWd, hS, hL, hSt⟩ := hR.wd
  have hfree : ∀ q ∈ locs, A q.base := hS.2.2
  have done : ∀ {y : Option ai_V} {v : Option Value}, x = .inr y → ai_gR' r ad G.1.1 G.2.1.1 y v → ∀ t : State, t.heap = H → s.WarmedH t.vm → ai_Qc D tyc A sa ws0 r0 ad0 N0 n0 outs args s (.returned v) t := fun {y v} e g t ht hw =>
    ⟨(x, G), ho, y, v, e, rfl, r, ad, h1, h2, h3, h4, by rw [ht]; exact hWd, hS.F ht, g⟩
  cases i
  case ireturn =>
    obtain ⟨rfl, w1, w2⟩ := hwe
    delta ai_step at h
    dsimp only at h
    split at h
    · rename_i z
      obtain ⟨ix, t, rfl, i1, i2, i3⟩ := ai_gF.int hSt
      have ht : t = [] := by
        cases t with
        | nil => rfl
        | cons w t => exact i3.elim
      subst ht
      split at h
      · split at h
        · rename_i eb
          obtain ⟨rfl, c1, c2⟩ := ai_fin_ok h
          have hE : ai_gE r G.1 := hR.env
          rcases ai_bit_ok hE i1 eb i2 with hz | hz
          · refine W.widen (by omega) (by omega) (vx_ret (W.zret hx hb (hret.trans (w1 rfl)) (by rw [hz]; rfl) (done rfl ⟨_, rfl, i1, _, rfl, i2⟩) hfree hdg hlocks))
          · refine W.widen (by omega) (by omega) (vx_ret (W.zret hx hb (hret.trans (w1 rfl)) (by rw [hz]; rfl) (done rfl ⟨_, rfl, i1, _, rfl, i2⟩) hfree hdg hlocks))
        · cases h
      · rename_i ne
        obtain ⟨rfl, c1, c2⟩ := ai_fin_ok h
        exact W.widen (by omega) (by omega) (vx_ret (W.iret hx hb (hret.trans (w2 (fun q => ne q))) (done rfl ⟨_, rfl, i1, _, rfl, i2⟩) hfree hdg hlocks))
    · cases h
  case lreturn =>
    obtain ⟨rfl, w1⟩ := hwe
    delta ai_step at h
    dsimp only at h
    split at h
    · rename_i z
      obtain ⟨ix, t, rfl, i1, i2, i3⟩ := ai_gF.long hSt
      have ht : t = [] := by
        cases t with
        | nil => rfl
        | cons w t => exact i3.elim
      subst ht
      obtain ⟨rfl, c1, c2⟩ := ai_fin_ok h
      exact W.widen (by omega) (by omega) (vx_ret (W.lret hx hb (hret.trans w1) (done rfl ⟨_, rfl, i1, _, rfl, i2⟩) hfree hdg hlocks))
    · cases h
  case areturn =>
    obtain ⟨rfl, rt, w1, w2⟩ := hwe
    delta ai_step at h
    dsimp only at h
    split at h
    · rename_i z
      obtain ⟨t, rfl, i1, i3⟩ := ai_gF.ref hSt
      have ht : t = [] := by
        cases t with
        | nil => rfl
        | cons w t => exact i3.elim
      subst ht
      obtain ⟨rfl, c1, c2⟩ := ai_fin_ok h
      exact W.widen (by omega) (by omega) (vx_ret (W.aret hx hb (hret.trans w1) w2 (Or.inr ⟨_, rfl⟩) (done rfl ⟨_, rfl, i1, rfl⟩) hfree hdg hlocks))
    · cases h
  case return_ =>
    obtain ⟨rfl, w1⟩ := hwe
    delta ai_step at h
    dsimp only at h
    split at h
    · have ht : st = [] := by
        cases st with
        | nil => rfl
        | cons w t => exact hSt.elim
      subst ht
      obtain ⟨rfl, c1, c2⟩ := ai_fin_ok h
      exact W.widen (by omega) (by omega) (vx_ret (W.vret hx hb (hret.trans w1) (done rfl rfl) hfree hdg hlocks))
    · cases h
  case new ik =>
    delta ai_step at h
    dsimp only at h
    split at h
    · rename_i e1
      obtain ⟨rfl, etb, ic, d3, d4, d7, k1, k2, k3, k4⟩ := hwe (Nat.le_of_ble_eq_true e1)
      split at h
      · obtain ⟨E, hh, cs, sl⟩ := G
        dsimp only at h
        split at h
        · rename_i e2 e3
          have e2 := Nat.le_of_ble_eq_true e2
          have e3 := Nat.le_of_ble_eq_true e3
          cases h
          have ht : st = [] := by
            cases st with
            | nil => rfl
            | cons w t => exact hSt.elim
          subst ht
          refine vx_throw0 (names := ["java/lang/RuntimeException", "java/lang/Exception"]) (A := A) hx hb hl hown (by have := Nat.sub a 2000; unfold ai_exn; split <;> decide) (by decide) (hts _ k1) (hts _ k2) (fun w hw => (k3 w hw).elim (fun q => hts _ q) (fun q => va_Nw.use (hnw w q) (hSt0.2.2.2.2.2.2.1 w q))) k4 hSt0.2.2.2.2.2.2.2.1 hSt0.2.2.2.2.2.2.2.2.1 hS (by rw [hL.2.1, hml]) hdg d3 d4 d7 (fun x hx => (htb etb x hx).elim) (by show 2 + 3 < R.frames; omega) (by show 0 + (13 * (2 + 1) + 42) ≤ R.locals; omega) (by show cs + 1 ≤ R.cells; omega) (by show sl + 6 ≤ R.slots; omega) hlocks ?_ hfree (by show cs + 1 ≤ mc; omega) (by show sl + 6 ≤ ms; omega)
          intro t hal hsz hk
          refine ⟨_, ho, _, rfl, rfl, r, ad, h1, h2, h3, h4, hWd.kept hk, ⟨Nat.le_trans hS.1 hsz, fun q g1 g2 => ?_⟩, trivial⟩
          rw [hk q (Nat.lt_of_lt_of_le g1 hS.1)]
          exact hS.2.1 q g1 g2
        · cases h
      · cases h
    · exact (ai_make_no h).elim
  all_goals cases hen
end SC
end
section
/-! BEHIND A CALL -/
noncomputable def ai_Run (p : Program) (l : Launch) (e : Env) (R : Room) (s : State) (m : MethodId) (args : Array Value) (below : List Frame) (meth : Method) (c : Code) (H : Heap) (locs : List Loc) (cells slots mc ms : Nat) (g : JFrame) (rest : List Value) (Qa : State → Outcome → State → Prop) (XC : String → State → State → Prop) (free : Addr → Prop) : Prop :=
  ∀ T : State, T.heap = H → Stand p l e R s m args below meth c T locs cells slots →
    (∃ (v : Option Value) (st₀ t T' : State) (L : List Loc), st₀.heap = H ∧ Stand p l e R s m args below meth c T' (locs ++ L) (cells + mc) (slots + ms) ∧ (∀ q ∈ L, free q.base) ∧ T'.heap = t.heap ∧ Qa st₀ (.returned v) t ∧
      Goes p e below T g T' { g with pc := g.pc + 3, stack := v.toList ++ rest }) ∨
    (∃ (q : Addr) (st₀ t T' : State) (L : List Loc) (E : String) (ce : Cell), st₀.heap = H ∧ Stand p l e R s m args below meth c T' (locs ++ L) (cells + mc) (slots + ms) ∧ (∀ z ∈ L, free z.base) ∧ T'.heap = t.heap ∧ XC E st₀ t ∧ t.heap[q]? = some ce ∧ ce.vm = .none ∧ s.vm.findClass E = some ce.cls ∧
      Steps p.tables e below (T.setTop g) ((T'.setTop { g with stack := rest }).pushFrame (.throwing q)))
section SB
variable {p : Program} {l : Launch} {e : Env} {R : Room} {s : State} {m : MethodId} {args : Array Value} {below : List Frame} {meth : Method} {c : Code} {Q : State → Prop}
variable {D : va_G} {tyc : Nat → ClassId} {A : Nat → Prop} {sa : ai_B} {ws0 : va_W}
variable {r : Nat → Int} {ad : Nat → Nat} {H : Heap} {locs : List Loc} {ls : Array Slot} {st rest : List Value} {N n : Nat} {outs : List (ai_R × ai_G)} {cells slots mc ms pc : Nat} {g : JFrame} {Qa : State → Outcome → State → Prop} {XC : String → State → State → Prop} {free : Addr → Prop}
theorem ai_Run.ofX (h : vx_Run p l e R s m args below meth c H locs cells slots mc ms g rest Qa XC free) : ai_Run p l e R s m args below meth c H locs cells slots mc ms g rest Qa XC free := fun T hT X => by
  rcases h T hT X with ⟨v, st₀, t, T', L, h0, X', hL, e1, e2, hq, st⟩ | ⟨q, st₀, t, T', L, E, ce, h0, X', hL, e1, e2, hx, hce, hcv, hcl, st⟩
  · exact Or.inl ⟨v, st₀, t, T', L, h0, X', hL, e1, hq, st⟩
  · exact Or.inr ⟨q, st₀, t, T', L, E, ce, h0, X', hL, e1, hx, hce, hcv, hcl, st⟩
theorem ai_Run.ofC (h : CallRun p l e R s m args below meth c H locs cells slots mc ms g rest Qa free) : ai_Run p l e R s m args below meth c H locs cells slots mc ms g rest Qa XC free := fun T hT X => Or.inl (h T hT X)
theorem ai_Run.ofA (h : va_Run p l e R s m args below meth c H locs cells slots mc ms g rest Qa free) : ai_Run p l e R s m args below meth c H locs cells slots mc ms g rest Qa XC free := fun T hT X => by
  obtain ⟨v, st₀, t, T', L, h0, X', hL, e1, e2, hq, st⟩ := h T hT X
  exact Or.inl ⟨v, st₀, t, T', L, h0, X', hL, e1, hq, st⟩
theorem ai_keep {st₀ t T' : State} {L : List Loc} (h0 : st₀.heap = H) (e1 : T'.heap = t.heap) (hS : va_S A s.heap H locs) (hL : ∀ q ∈ L, A q.base) (hF : va_F A st₀ t) : va_S A s.heap T'.heap (locs ++ L) := by
  obtain ⟨hz, hk⟩ := hF
  rw [h0] at hz hk
  exact ⟨Nat.le_trans hS.1 (by rw [e1]; exact hz), fun q h1 h2 => by rw [e1, hk q (Nat.lt_of_lt_of_le h1 hS.1) h2]; exact hS.2.1 q h1 h2, fun q hq => by
      rcases List.mem_append.mp hq with h | h
      · exact hS.2.2 q h
      · exact hL q h⟩
theorem ai_back_ok {a : Array Value} (hr : ai_Run p l e R s m args below meth c H locs cells slots mc ms (F0 m pc ls st) rest (ai_Qc D tyc A sa ws0 r ad N n outs a) (ai_XC D tyc A sa ws0 r ad N n outs) A) (hS : va_S A s.heap H locs)
    (kk : ∀ f ∈ outs, ∀ x, f.1 = .inr x → ∀ (r' : Nat → Int) (ad' : Nat → Nat), ai_ext N r r' → ai_ext n ad ad' → N ≤ f.2.1.1 → n ≤ f.2.2.1.1 → ∀ (H1 : Heap) (locs1 : List Loc) (v : Option Value), ai_Wd D tyc A sa ws0 r' ad' f.2 H1 → va_S A s.heap H1 locs1 → ai_gR' r' ad' f.2.1.1 f.2.2.1.1 x v → W p l e R s m args below meth c H1 locs1 (cells + mc) (slots + ms) Q (F0 m (pc + 3) ls (v.toList ++ rest)))
    (kx : ∀ f ∈ outs, ∀ z, f.1 = .inl z → ∀ (r' : Nat → Int) (ad' : Nat → Nat), ai_ext N r r' → ai_ext n ad ad' → N ≤ f.2.1.1 → n ≤ f.2.2.1.1 → ∀ (H1 : Heap) (locs1 : List Loc) (q : Addr) (ce : Cell), ai_Wd D tyc A sa ws0 r' ad' f.2 H1 → va_S A s.heap H1 locs1 → H1[q]? = some ce → ce.vm = .none → s.vm.findClass (ai_exn z) = some ce.cls → vx_W p l e R s m args below meth c H1 locs1 (cells + mc) (slots + ms) Q (F0 m pc ls rest) q) :
    W p l e R s m args below meth c H locs cells slots Q (F0 m pc ls st) := by
  intro T hT X
  rcases hr T hT X with ⟨v, st₀, t, T', L, h0, X', hL, e1, ⟨f, hf, x, v', hx, hv, r', ad', g1, g2, g3, g4, g5, g6, g7⟩, stp⟩ | ⟨q, st₀, t, T', L, E, ce, h0, X', hL, e1, ⟨f, hf, z, hz, hE, r', ad', g1, g2, g3, g4, g5, g6, -⟩, hce, hcv, hcl, stp⟩
  · cases hv
    obtain ⟨t2, a1, b1⟩ := kk f hf x hx r' ad' g1 g2 g3 g4 T'.heap (locs ++ L) v (by rw [e1]; exact g5) (ai_keep h0 e1 hS hL g6) g7 T' rfl X'
    exact ⟨t2, stp t2 a1, b1⟩
  · subst hE
    obtain ⟨t2, a1, b1⟩ := kx f hf z hz r' ad' g1 g2 g3 g4 T'.heap (locs ++ L) q ce (by rw [e1]; exact g5) (ai_keep h0 e1 hS hL g6) (by rw [e1]; exact hce) hcv hcl T' rfl X'
    exact ⟨t2, stp.trans a1, b1⟩
end SB
/-! WHAT A METHOD OWES -/
/-- a method: its name, code, locals, what it returns, its table (none: it has none), its parameters -/
abbrev ai_MT : Type := MethodName × ByteArray × Nat × Option FieldType × Option (List (Nat × Nat × Nat × Nat)) × Nat
noncomputable def ai_cw (y : ai_MT) : Cond := match y.2.2.2.2.1 with
  | none => Cond.code y.1 y.2.1 y.2.2.1 y.2.2.2.1
  | some hh => Cond.codeWith y.1 y.2.1 y.2.2.1 y.2.2.2.1 hh
/-- what the tables say of a method -/
noncomputable def ai_mok (Wg : List Cond) (y : ai_MT) : Prop := plainName y.1.cls = true ∧ (y.1.cls ≠ "java/lang/invoke/MethodHandle" ∧ y.1.cls ≠ "java/lang/invoke/VarHandle" ∧ (parseMethodDescriptor y.1.desc).map (fun d => d.parameters.length) = some y.2.2.2.2.2) ∧ y.2.2.1 ≤ 45 ∧ ai_cw y ∈ Wg ∧ Cond.initialized y.1.cls ∈ Wg
noncomputable def ai_Ct (l : Launch) (D : va_G) (tyc : Nat → ClassId) (A : Nat → Prop) (sa : ai_B) (strs : List ai_Z) (nws Wg : List Cond) (y : ai_MT) (rm : Room) (aa : List ai_V) (G : ai_G) (outs : List (ai_R × ai_G)) : Prop :=
  ∀ (ws0 : va_W) (r : Nat → Int) (ad : Nat → Nat) (H0 : Heap) (As : List Value), ai_Wd D tyc A sa ws0 r ad G H0 → ai_gF r ad G.1.1 G.2.1.1 aa As →
    vx_Met l y.1 (ai_cw y :: Wg) rm (fun a U => a = As.toArray ∧ U.heap = H0 ∧ ai_St D tyc A sa strs nws U ∧ ∀ q, H0.size ≤ q → A q) (ai_Qc D tyc A sa ws0 r ad G.1.1 G.2.1.1 outs) (ai_XC D tyc A sa ws0 r ad G.1.1 G.2.1.1 outs) rm.cells rm.slots A
theorem ai_Met0 {l : Launch} {y : MethodName} {ws : List Cond} {rm : Room} {Pc : Array Value → State → Prop} {Qc : Array Value → State → Outcome → State → Prop} {XC : String → State → State → Prop} {mc ms : Nat} {free : Addr → Prop} (h : vx_Met l y ws rm Pc Qc XC mc ms free) (hX : ∀ E st t, ¬ XC E st t) : Met l y ws rm Pc Qc mc ms free := by
  have e : vx_Q Qc XC mc ms free = fun a st o t => Qc a st o t ∧ ∃ L, FrameEnd st o t L mc ms ∧ ∀ q ∈ L, free q.base := by
    funext a st o t
    refine propext ⟨fun h => ?_, fun h => Or.inl h⟩
    rcases h with h | ⟨q, -, E, ce, L, hx, -⟩
    · exact h
    · exact (hX _ _ _ hx).elim
  unfold vx_Met at h
  rw [e] at h
  exact h
end
section
/-! A CALL -/
theorem ai_take_ok {r : Nat → Int} {ad : Nat → Nat} {N n : Nat} : ∀ {k : Nat} {acc S aa S' : List ai_V} {accC st : List Value}, ai_gF r ad N n acc accC → ai_gF r ad N n S st → ai_take k acc S = some (aa, S') → ∃ As rest, ai_gF r ad N n aa As ∧ ai_gF r ad N n S' rest ∧ accC.reverse ++ st = As.reverse ++ rest ∧ As.length = accC.length + k
  | 0, acc, S, aa, S', accC, st, h1, h2, h => by
    cases h
    exact ⟨accC, st, h1, h2, rfl, rfl⟩
  | k + 1, acc, [], aa, S', accC, st, h1, h2, h => by cases h
  | k + 1, acc, v :: S, aa, S', accC, st, h1, h2, h => by
    obtain ⟨w, t, rfl, g1, g2⟩ := h2.cons
    obtain ⟨As, rest, f1, f2, f3, f4⟩ := ai_take_ok (k := k) (acc := v :: acc) (S := S) (accC := w :: accC) ⟨g1, h1⟩ g2 h
    refine ⟨As, rest, f1, f2, ?_, ?_⟩
    · rw [← f3, List.reverse_cons, List.append_assoc]; rfl
    · rw [f4, List.length_cons]; omega
theorem ai_over {ty : FieldType} {args : Array Value} {first s : State} {o : Option Outcome} {idx : List Nat} (h : (Cond.arrayOver (.array ty)).holds args first o s idx = true) :
    ∃ comp c k, s.vm.findClass (FieldType.array ty).toString = some comp ∧ (s.vm.classes.findIdx? fun x => match x.kind with | .array component _ => component == comp | _ => false) = some c ∧ s.vm.classes[c]? = some k ∧ k.kind = .array comp (.array ty) ∧
      s.vm.findClass ("[" ++ (FieldType.array ty).toString) = some c := by
  simp only [Cond.holds, Cond.value, beq_iff_eq] at h
  cases hc : s.vm.findClass (FieldType.array ty).toString with
  | none => simp [hc] at h
  | some comp =>
    simp only [hc, Option.bind_some, Option.bind_eq_some_iff, Option.map_eq_some_iff] at h
    obtain ⟨c, hi, k, hk, hb⟩ := h
    obtain ⟨hlt, hp, -⟩ := Array.findIdx?_eq_some_iff_getElem.mp hi
    have hkk : s.vm.classes[c] = k := (Array.getElem?_eq_some_iff.mp hk).2
    rw [hkk] at hp
    cases hkind : k.kind with
    | array component ty =>
      rw [hkind] at hb hp
      simp at hb hp
      exact ⟨comp, c, k, rfl, hi, hk, by rw [hkind, hp, hb.1], hb.2⟩
    | _ => rw [hkind] at hb; simp at hb
theorem va_AOA.moved {ty : FieldType} {u U : State} (hvm : u.vm.Alike U.vm) (h : va_AOA ty u) : va_AOA ty U := by
  obtain ⟨comp, c, k, h1, h2, h3, h4, h5⟩ := ai_over h
  obtain ⟨k', hk', he⟩ := hvm.2.2 _ _ h3
  have hi : (U.vm.classes.findIdx? fun (x : Class) => match x.kind with | .array component _ => component == comp | _ => false) = some c := by
    refine (va_idx_bare U.vm comp).symm.trans ?_
    first | rw [hvm.bare_eq] | rw [← hvm.bare_eq]
    exact (va_idx_bare u.vm comp).trans h2
  have hkind : k'.kind = .array comp (.array ty) := by rw [he]; exact h4
  have f1 : U.vm.findClass (FieldType.array ty).toString = some comp := by rw [hvm.findClass]; exact h1
  have f2 : U.vm.findClass ("[" ++ (FieldType.array ty).toString) = some c := by rw [hvm.findClass]; exact h5
  unfold va_AOA Cond.before Cond.holds
  simp only [Cond.value]
  rw [f1, Option.bind_some]
  refine (congrArg (fun o : Option Nat => (o.bind (fun c => (U.vm.classes[c]?).map fun (k : Class) => match k.kind with | .array _ ty' => decide (ty' = FieldType.array ty) && decide (U.vm.findClass ("[" ++ (FieldType.array ty).toString) = some c) | _ => false) == some true)) hi).trans ?_
  simp [hk', hkind, f2]
noncomputable def ai_nk (w : Cond) : Bool := match w with
  | .methodLinkNest _ _ _ _ => true
  | .declares _ => true
  | .castable _ _ => true
  | _ => false
theorem ai_nk_tab {w : Cond} (h : ai_nk w = true) : w.onTables = true := by
  cases w <;> first | rfl | cases h
theorem ai_nk_warm {w : Cond} (h : ai_nk w = true) {s U : State} (hW : s.WarmedH U.vm) (hZ : va_Nw w s) : va_Nw w U := by
  cases w <;> first | cases h; done | exact va_Nw.warmM hW hZ | exact va_Nw.warmD hW hZ | exact va_Nw.warmC hW hZ
theorem ai_St.moved {D : va_G} {tyc : Nat → ClassId} {A : Nat → Prop} {sa : ai_B} {strs : List ai_Z} {nws : List Cond} {s U : State} (hnk : ∀ w ∈ nws, ai_nk w = true) (hW : s.WarmedH U.vm) (hz : s.heap.size ≤ U.heap.size) (hh : ∀ q : Nat, q < s.heap.size → ¬ A q → U.heap[q]? = s.heap[q]?) (h : ai_St D tyc A sa strs nws s) : ai_St D tyc A sa strs nws U := by
  obtain ⟨h1, h2, h3, ⟨h4, h5⟩, h6, h7, h8, h9, h10, h11⟩ := h
  refine ⟨h1.moved hW.alike, fun i hi => ((h2 i hi).moved hW.alike).kept hh, fun q hq => (h3 q hq).warm hW, ⟨h4.moved hW.alike, h5.moved hW.alike⟩, h6.moved hW.alike, fun z hz' => ?_, fun w hw => ai_nk_warm (hnk w hw) hW (h8 w hw), (h9.moved hW.alike).kept hh, (h10.moved hW.alike).kept hh, fun q hq => (h11 q hq).moved hW.alike⟩
  obtain ⟨x1, x2, x3⟩ := h7 z hz'
  exact ⟨(x1.moved hW.alike).kept (hh _ x2 x3), Nat.lt_of_lt_of_le x2 hz, x3⟩
/-- what the tables say of a call -/
noncomputable def ai_wc (Wg nws : List Cond) (y : ai_MT) (own : String) (i : ClassFile.Instr) (len b : Nat) : Prop := match i with
  | .invokevirtual idx => len = 3 ∧ y.2.2.2.2.1 = none ∧ b % 64 = y.2.2.2.2.2 + 1 ∧ (∃ T N, vwCl[b / 64]? = some (y.1.cls, T, N)) ∧ Cond.methodLink own idx y.1 ∈ Wg ∧ Cond.instanceMethod y.1 ∈ Wg ∧ Cond.selects y.1.cls y.1 y.1 ∈ Wg
  | .invokespecial idx => len = 3 ∧ y.2.2.2.2.1 = none ∧ y.2.2.2.1 = none ∧ b = y.2.2.2.2.2 + 1 ∧ y.1.name = "<init>" ∧ Cond.instanceMethod y.1 ∈ Wg ∧ (Cond.methodLink own idx y.1 ∈ Wg ∨ ∃ host, Cond.methodLinkNest own idx y.1 host ∈ nws)
  | .invokestatic idx => len = 3 ∧ b = y.2.2.2.2.2 ∧ Cond.static y.1 ∈ Wg ∧ (Cond.methodLink own idx y.1 ∈ Wg ∨ (y.2.2.2.2.1 = none ∧ ∃ host, Cond.methodLinkNest own idx y.1 host ∈ nws))
  | _ => True
section SI
variable {p : Program} {l : Launch} {e : Env} {R : Room} {s : State} {m : MethodId} {args : Array Value} {below : List Frame} {meth : Method} {c : Code} {Q : State → Prop}
variable {D : va_G} {tyc : Nat → ClassId} {A : Nat → Prop} {sa : ai_B} {ws0 : va_W} {nL : Nat} {cc : ByteArray} {own : String} {Wg : List Cond} {strs : List ai_Z} {nws : List Cond} {bud : Nat × Nat} {dflt : Nat → List ai_V} {kind : Nat → Nat → Nat}
variable {r : Nat → Int} {ad : Nat → Nat} {L S : List ai_V} {G : ai_G} {H : Heap} {locs : List Loc} {ls : Array Slot} {st : List Value} {outs : List (ai_R × ai_G)}
theorem ai_mild_ok {outs : List (ai_R × ai_G)} : ai_mild outs = true → ∀ f ∈ outs, ∀ z, f.1 ≠ .inl z := by
  induction outs with
  | nil => intro _ f hf; cases hf
  | cons x l ih =>
    obtain ⟨y, g⟩ := x
    intro h f hf z
    cases y with
    | inl w => cases h
    | inr w =>
      rcases List.mem_cons.mp hf with rfl | hf
      · intro q; cases q
      · exact ih h f hf z
theorem ai_call_inv {mi n nx mi' q : Nat} {aa S' : List ai_V} (h : ai_call mi n nx S = some (.inr (.inl (mi', aa, S', q)))) : mi' = mi ∧ q = nx ∧ ai_take n [] S = some (aa, S') ∧ ai_words S' ≤ 8 := by
  unfold ai_call at h
  split at h
  · rename_i et
    split at h
    · rename_i ew
      cases h
      exact ⟨rfl, rfl, et, Nat.le_of_ble_eq_true ew⟩
    · cases h
  · cases h
theorem ai_vcall_inv {mi n ci nx mi' q : Nat} {hh : ai_H} {aa S' : List ai_V} (h : ai_vcall mi n ci nx S hh = some (.inr (.inl (mi', aa, S', q)))) : mi' = mi ∧ q = nx ∧ ai_take n [] S = some (aa, S') ∧ ai_words S' ≤ 8 ∧ ∃ o t fs, aa = .inr (.inr (some (some o))) :: t ∧ ai_cell hh o = some (.inl (ci, fs)) := by
  unfold ai_vcall at h
  split at h
  · rename_i et
    split at h
    · split at h
      · rename_i ec
        split at h
        · rename_i e1 e2
          cases h
          have e1 := Nat.eq_of_beq_eq_true e1
          subst e1
          exact ⟨rfl, rfl, et, Nat.le_of_ble_eq_true e2, _, _, _, rfl, ec⟩
        · cases h
      · cases h
    · cases h
  · cases h
theorem ai_icall_inv {mi n nx mi' q : Nat} {aa S' : List ai_V} (h : ai_icall mi n nx S = some (.inr (.inl (mi', aa, S', q)))) : mi' = mi ∧ q = nx ∧ ai_take n [] S = some (aa, S') ∧ ai_words S' ≤ 8 ∧ ∃ o t, aa = .inr (.inr (some (some o))) :: t := by
  unfold ai_icall at h
  split at h
  · rename_i et
    split at h
    · split at h
      · rename_i e2
        cases h
        exact ⟨rfl, rfl, et, Nat.le_of_ble_eq_true e2, _, _, rfl⟩
      · cases h
    · cases h
  · cases h
theorem ai_s2_no {o nx : Nat} {y : (Nat × List ai_V × List ai_V × Nat) ⊕ ai_R} (h : ai_s2 o nx L S G = some (.inr y)) : False := by
  unfold ai_s2 at h
  split at h <;> cases h
theorem ai_l2_no {o nx : Nat} {y : (Nat × List ai_V × List ai_V × Nat) ⊕ ai_R} (h : ai_l2 o nx L S G = some (.inr y)) : False := by
  unfold ai_l2 at h
  split at h <;> cases h
theorem ai_copy_no {nx : Nat} {y : (Nat × List ai_V × List ai_V × Nat) ⊕ ai_R} (h : ai_copy nx L S G = some (.inr y)) : False := by
  unfold ai_copy at h
  split at h
  · obtain ⟨E, hh, cs, sl⟩ := G
    dsimp only at h
    split at h
    · split at h
      · split at h <;> cases h
      · cases h
    · cases h
  · cases h
set_option maxHeartbeats 1000000 in
theorem ai_invoke_ok {pc len a b mi pc' : Nat} {i : ClassFile.Instr} {aa S' : List ai_V} {y : ai_MT} {rm : Room} (F : ai_Fr p R s m args meth c D tyc A sa nL cc own Wg strs nws bud dflt kind) (hgood : ∀ w ∈ Wg, goodWord w = true) (hnk : ∀ w ∈ nws, ai_nk w = true) (hwc : mi = a → a < 1000 → ai_wc Wg nws y own i len b) (hmok : ai_mok Wg y) (hrm : rm.frames + 1 ≤ R.frames ∧ rm.locals + 64 ≤ R.locals) (hdg : decode cc pc = .ok (i, len))
    (h : ai_step i bud dflt kind pc (pc + len) a b L S G = some (.inr (.inl (mi, aa, S', pc')))) (hcalm : ai_calm i outs = true) (hR : ai_Rel D tyc A s sa ws0 nL r ad L S G H locs ls st) (hC : ai_Ct l D tyc A sa strs nws Wg y rm aa (G.1, G.2.1, 0, 0) outs) (hroom : G.2.2.1 + rm.cells ≤ R.cells ∧ G.2.2.2 + rm.slots ≤ R.slots) :
    mi = a ∧ pc' = pc + 3 ∧ ∃ (As : Array Value) (rest : List Value), ai_gF r ad G.1.1 G.2.1.1 S' rest ∧ ai_Run p l e R s m args below meth c H locs G.2.2.1 G.2.2.2 rm.cells rm.slots (F0 m pc ls st) rest (ai_Qc D tyc A sa ws0 r ad G.1.1 G.2.1.1 outs As) (ai_XC D tyc A sa ws0 r ad G.1.1 G.2.1.1 outs) A := by
  obtain ⟨hx, hb, hml, hts, hown, hSt0, hA, hbud, hcls, hroom0, hlocks⟩ := F
  obtain ⟨hWd, hS, hL, hSt⟩ := hR.wd
  obtain ⟨m1, m2, m3, m4, m5⟩ := hmok
  have hWd0 : ai_Wd D tyc A sa ws0 r ad (G.1, G.2.1, 0, 0) H := hWd
  have hfix : CallFix p m c cc nL s args Wg own := ⟨hx, hb, hml, hown, hts⟩
  have hGws : GoodIn Wg (ai_cw y :: Wg) := goodIn_sub (fun w hw => (List.mem_cons.mp hw).elim (fun q => by rw [q]; exact m4) (fun q => q)) (List.all_eq_true.mpr (fun w hw => (List.mem_cons.mp hw).elim (fun q => by rw [q]; exact hgood _ m4) (fun q => hgood w q)))
  have hgo : ∀ {ws : List Cond}, (∀ w ∈ ws, w ∈ Wg) → GoodIn Wg ws := fun hm => goodIn_sub hm (List.all_eq_true.mpr (fun w hw => hgood w (hm w hw)))
  have hlo : rm.frames + 1 ≤ R.frames ∧ 8 + (y.2.2.1 + 11) + rm.locals ≤ R.locals := ⟨hrm.1, by omega⟩
  have hpre : ∀ (As : List Value), PreS s H (fun a U => a = As.toArray ∧ U.heap = H ∧ ai_St D tyc A sa strs nws U ∧ ∀ q, H.size ≤ q → A q) As := fun As =>
    ⟨fun a U g mk ⟨h1, h2, h3, h4⟩ => ⟨h1, h2, h3.moved hnk (show U.WarmedH U.vm from State.WarmedH.refl U) (Nat.le_refl _) (fun q _ _ => rfl), h4⟩, fun U hU hW => ⟨rfl, hU, hSt0.moved hnk hW (by rw [hU]; exact hS.1) (fun q h1 h2 => by rw [hU]; exact hS.2.1 q h1 h2), fun q hq => hA q (Nat.le_trans hS.1 hq)⟩⟩
  cases i
  case invokevirtual idx =>
    delta ai_step at h
    dsimp only at h
    split at h
    · rename_i ea
      obtain ⟨em, ep, et, ew, o, ta, fs, rfl, eo⟩ := ai_vcall_inv h
      obtain ⟨rfl, w2, w3, ⟨T, Nf, w4⟩, w5, w6, w7⟩ := hwc em (Nat.le_of_ble_eq_true ea)
      subst em; subst ep
      obtain ⟨As, rest, g1, g2, g3, g4⟩ := ai_take_ok (acc := []) (accC := []) (r := r) (ad := ad) (N := G.1.1) (n := G.2.1.1) trivial hSt et
      refine ⟨rfl, rfl, As.toArray, rest, g2, ?_⟩
      obtain ⟨t, rfl, ho, g5⟩ := ai_gF.ref g1
      have hlen : t.length = y.2.2.2.2.2 := by
        have : t.length + 1 = 0 + Nat.mod b 64 := g4
        have e2 : Nat.mod b 64 = b % 64 := rfl
        omega
      have hstk : st = t.reverse ++ .ref (ad o) :: rest := by
        have : [].reverse ++ st = (Value.ref (ad o) :: t).reverse ++ rest := g3
        rw [List.reverse_cons, List.append_assoc] at this
        exact this
      have hMet := hC ws0 r ad H (Value.ref (ad o) :: t) hWd0 g1
      obtain ⟨ws, hP, hD, hE, hH, hO, hsa⟩ := hWd
      have h16 : 16 ≤ o := ai_old hO eo (fun x q => by cases q)
      obtain ⟨x, hw, hg⟩ := hH.at h16 ho eo
      obtain ⟨vs, rfl, -⟩ := hg
      have hrec := va_recv hSt0.1 hP w4 hw
      unfold ai_cw at hMet hGws
      rw [w2] at hMet hGws
      exact ai_Run.ofX (vx_runV (C := y.1.cls) (index := idx) (n := y.2.2.2.2.2) hfix hMet (cwV _ hts (hgo (fun w hw => by
        rcases List.mem_append.mp hw with hw | hw
        · simp only [List.mem_cons, List.not_mem_nil, or_false] at hw
          rcases hw with rfl | rfl | rfl | rfl
          · exact w5
          · exact w6
          · exact w7
          · exact m5
        · exact (hGws w hw).1)) rfl rfl rfl ⟨rfl, m2⟩ hlo) ⟨(hpre _).1, hrec, (hpre _).2⟩ rfl hlen hL.2.1 hstk (by have := ai_words_ok g2; show 2 * 0 + _ ≤ 8; omega) hdg hroom)
    · cases h
  case invokespecial idx =>
    delta ai_step at h
    dsimp only at h
    split at h
    · split at h
      · split at h <;> cases h
      · cases h
    · split at h
      · rename_i ea
        obtain ⟨em, ep, et, ew, o, ta, rfl⟩ := ai_icall_inv h
        obtain ⟨rfl, w2, w3, w4, w5, w6, w7⟩ := hwc em (Nat.le_of_ble_eq_true ea)
        subst em; subst ep
        obtain ⟨As, rest, g1, g2, g3, g4⟩ := ai_take_ok (acc := []) (accC := []) (r := r) (ad := ad) (N := G.1.1) (n := G.2.1.1) trivial hSt et
        refine ⟨rfl, rfl, As.toArray, rest, g2, ?_⟩
        obtain ⟨t, rfl, ho, g5⟩ := ai_gF.ref g1
        have hlen : t.length = y.2.2.2.2.2 := by
          have : t.length + 1 = 0 + b := g4
          omega
        have hstk : st = t.reverse ++ .ref (ad o) :: rest := by
          have : [].reverse ++ st = (Value.ref (ad o) :: t).reverse ++ rest := g3
          rw [List.reverse_cons, List.append_assoc] at this
          exact this
        have hMet := hC ws0 r ad H (Value.ref (ad o) :: t) hWd0 g1
        unfold ai_cw at hMet hGws
        rw [w2, w3] at hMet
        rw [w2, w3] at hGws
        have hMet0 := ai_Met0 hMet (fun E st t ⟨f, hf, z, hz, _⟩ => ai_mild_ok hcalm f hf z hz)
        rcases w7 with w7 | ⟨host, w7⟩
        · exact ai_Run.ofC (W.runI (index := idx) (n := y.2.2.2.2.2) hfix hMet0 (cwI _ hts hGws rfl rfl rfl (hts _ m5) (hts _ w7) (hts _ w6) w5 m2 hlo) (hpre _) rfl hlen hL.2.1 hstk (by have := ai_words_ok g2; show 2 * 0 + _ ≤ 8; omega) hdg hroom)
        · exact ai_Run.ofA (va_runIN (index := idx) (n := y.2.2.2.2.2) hfix hMet0 ⟨va_cnB _ hts hGws rfl rfl rfl (hSt0.2.2.2.2.2.2.1 _ w7) (hts _ m5) m2 hlo, w5, hts _ w6⟩ (hpre _) rfl hlen hL.2.1 hstk (by have := ai_words_ok g2; show 2 * 0 + _ ≤ 8; omega) hdg hroom)
      · cases h
  case invokestatic idx =>
    delta ai_step at h
    dsimp only at h
    split at h
    · rename_i ea
      obtain ⟨em, ep, et, ew⟩ := ai_call_inv h
      obtain ⟨rfl, w4, w6, w7⟩ := hwc em (Nat.le_of_ble_eq_true ea)
      subst em; subst ep
      obtain ⟨As, rest, g1, g2, g3, g4⟩ := ai_take_ok (acc := []) (accC := []) (r := r) (ad := ad) (N := G.1.1) (n := G.2.1.1) trivial hSt et
      refine ⟨rfl, rfl, As.toArray, rest, g2, ?_⟩
      have hlen : As.length = y.2.2.2.2.2 := by
        have : As.length = 0 + b := g4
        omega
      have hstk : st = As.reverse ++ rest := g3
      have hMet := hC ws0 r ad H As hWd0 g1
      cases ey : y.2.2.2.2.1 with
      | none =>
        unfold ai_cw at hMet hGws
        rw [ey] at hMet hGws
        rcases w7 with w7 | ⟨-, host, w7⟩
        · exact ai_Run.ofX (vx_runS (index := idx) (n := y.2.2.2.2.2) hfix hMet ⟨callB_of _ hts hGws rfl rfl rfl (hts _ m5) (hts _ w7) m2 hlo, hts _ w6⟩ (hpre _) rfl hlen hL.2.1 hstk (by have := ai_words_ok g2; show 2 * 0 + _ ≤ 8; omega) hdg hroom)
        · have hMet0 := ai_Met0 hMet (fun E st t ⟨f, hf, z, hz, _⟩ => ai_mild_ok hcalm f hf z hz)
          exact ai_Run.ofA (va_runSN (index := idx) (n := y.2.2.2.2.2) hfix hMet0 ⟨va_cnB _ hts hGws rfl rfl rfl (hSt0.2.2.2.2.2.2.1 _ w7) (hts _ m5) m2 hlo, hts _ w6, trivial⟩ (hpre _) rfl hlen hL.2.1 hstk (by have := ai_words_ok g2; show 2 * 0 + _ ≤ 8; omega) hdg hroom)
      | some hh =>
        unfold ai_cw at hMet hGws
        rw [ey] at hMet hGws
        rcases w7 with w7 | ⟨q, -⟩
        · exact ai_Run.ofX (vx_runSX (index := idx) (n := y.2.2.2.2.2) hfix hMet (vx_cwSW _ hts (hgo (fun w hw => by
            rcases List.mem_append.mp hw with hw | hw
            · simp only [List.mem_cons, List.not_mem_nil, or_false] at hw
              rcases hw with rfl | rfl | rfl
              · exact w7
              · exact w6
              · exact m5
            · exact (hGws w hw).1)) rfl rfl rfl m2 hlo) (hpre _) rfl hlen hL.2.1 hstk (by have := ai_words_ok g2; show 2 * 0 + _ ≤ 8; omega) hdg hroom)
        · rw [ey] at q; cases q
    · split at h
      · split at h
        · exact (ai_s2_no h).elim
        · exact (ai_s2_no h).elim
        · split at h
          · exact (ai_s2_no h).elim
          · cases h
        · split at h
          · exact (ai_l2_no h).elim
          · cases h
        · exact (ai_copy_no h).elim
        · cases h
      · cases h
  all_goals cases hcalm
end SI
end
section
/-! A STATE WITHIN A WIDER ONE -/
noncomputable def ai_cons (base : Nat) (r r2 : Nat → Int) (y : ai_Y) : Prop := (∀ t, t < base → r2 t = r t) ∧ ∀ t x, ai_ylook y t = some x → r2 t = ai_vx r x
noncomputable def ai_yle (y y' : ai_Y) : Prop := ∀ t x, ai_ylook y t = some x → ai_ylook y' t = some x
noncomputable def ai_yok (base : Nat) (E : ai_E) (B : List (Nat × Int × Int)) (y : ai_Y) : Prop := ∀ t x, ai_ylook y t = some x → base ≤ t ∧ x.1 < E.1 ∧ ((ai_look B t).1 ≤ (ai_iv E x).1 ∧ (ai_iv E x).2 ≤ (ai_look B t).2) ∧ ai_lo64 ≤ (ai_iv E x).1 ∧ (ai_iv E x).2 ≤ ai_hi64
theorem ai_yle.rfl' {y : ai_Y} : ai_yle y y := fun _ _ h => h
theorem ai_yle.trans {a b c : ai_Y} (h : ai_yle a b) (g : ai_yle b c) : ai_yle a c := fun t x q => g t x (h t x q)
theorem ai_cons.le {base : Nat} {r r2 : Nat → Int} {y y' : ai_Y} (h : ai_cons base r r2 y') (g : ai_yle y y') : ai_cons base r r2 y := ⟨h.1, fun t x q => h.2 t x (g t x q)⟩
noncomputable def ai_wfV (N n : Nat) (w : ai_V) : Prop := match w with
  | .inl x => x.1 < N
  | .inr (.inl x) => x.1 < N
  | .inr (.inr (some (some q))) => q < n
  | _ => True
noncomputable def ai_wfC (N n : Nat) (c : ai_C) : Prop := match c with
  | .inl (_, fs) => ∀ a ∈ fs, ai_wfV N n a
  | .inr (.inl (_, _, _, _, l)) => ai_lw N l
  | .inr (.inr _) => True
noncomputable def ai_pv (r r2 : Nat → Int) (v w : ai_V) : Prop := (w ≠ .inr (.inr none) → v ≠ .inr (.inr none)) ∧ ∀ (ad : Nat → Nat) (N N' n : Nat) (val : Value), ai_gV r ad N n v val → ai_wfV N' n w → ai_gV r2 ad N' n w val
section TM
variable {base : Nat} {E : ai_E} {B : List (Nat × Int × Int)}
theorem ai_mx_ok {y y' : ai_Y} {x w : ai_X} (h : ai_mx base E B y x w = some y') (hy : ai_yok base E B y) : ai_yok base E B y' ∧ ai_yle y y' ∧ ∀ r r2, ai_cons base r r2 y' → ai_vx r2 w = ai_vx r x := by
  unfold ai_mx at h
  split at h
  · rename_i e1
    have e1 : w.1 < base := Nat.le_of_ble_eq_true e1
    split at h
    · rename_i e2
      cases h
      have e2 := ai_xeq_iff.mp e2
      subst e2
      refine ⟨hy, ai_yle.rfl', fun r r2 hc => ?_⟩
      show r2 x.1 + x.2 = r x.1 + x.2
      rw [hc.1 _ e1]
    · cases h
  · rename_i e1
    have hb : base ≤ w.1 := by
      by_cases q : w.1 < base
      · have q2 : Nat.blt w.1 base = true := Nat.ble_eq_true_of_le q
        rw [q2] at e1; cases e1
      · omega
    split at h
    · cases h
    · rename_i e2
      have e2 := ai_eq_iff.mp e2
      split at h
      · rename_i z ez
        split at h
        · rename_i e3
          cases h
          have e3 := ai_xeq_iff.mp e3
          subst e3
          refine ⟨hy, ai_yle.rfl', fun r r2 hc => ?_⟩
          have := hc.2 _ _ ez
          show r2 w.1 + w.2 = _
          rw [e2, this]; omega
        · cases h
      · rename_i ez
        split at h
        rename_i a b c d ei el
        split at h
        · rename_i e3 e4 e5 e6 e7
          cases h
          have e3 := ai_le_iff.mp e3
          have e4 := ai_le_iff.mp e4
          have e5 := ai_le_iff.mp e5
          have e6 := ai_le_iff.mp e6
          have e7 : x.1 < E.1 := Nat.le_of_ble_eq_true e7
          have key : ∀ t z, ai_ylook ((w.1, x) :: y) t = some z → (t = w.1 ∧ z = x) ∨ (t ≠ w.1 ∧ ai_ylook y t = some z) := fun t z hz => by
            unfold ai_ylook at hz
            split at hz
            · rename_i eb
              have eb := Nat.eq_of_beq_eq_true eb
              cases hz
              exact Or.inl ⟨eb.symm, rfl⟩
            · rename_i eb
              exact Or.inr ⟨fun q => (by rw [q, Nat.beq_refl] at eb; cases eb), hz⟩
          refine ⟨fun t z hz => ?_, fun t z hz => ?_, fun r r2 hc => ?_⟩
          · rcases key t z hz with ⟨rfl, rfl⟩ | ⟨-, hz⟩
            · rw [ei, el]
              exact ⟨hb, e7, ⟨e3, e4⟩, e5, e6⟩
            · exact hy t z hz
          · show ai_ylook ((w.1, x) :: y) t = some z
            unfold ai_ylook
            split
            · rename_i eb
              have eb := Nat.eq_of_beq_eq_true eb
              subst eb
              rw [ez] at hz; cases hz
            · exact hz
          · have : r2 w.1 = ai_vx r x := hc.2 _ _ (by
              show ai_ylook ((w.1, x) :: y) w.1 = some x
              unfold ai_ylook
              rw [Nat.beq_refl])
            show r2 w.1 + w.2 = _
            rw [e2, this]; omega
        · cases h
theorem ai_mv_ok {y y' : ai_Y} {v w : ai_V} (h : ai_mv base E B y v w = some y') (hy : ai_yok base E B y) : ai_yok base E B y' ∧ ai_yle y y' ∧ ∀ r r2, ai_cons base r r2 y' → ai_pv r r2 v w := by
  unfold ai_mv at h
  split at h
  · cases h
    exact ⟨hy, ai_yle.rfl', fun r r2 hc => ⟨fun q => absurd rfl q, fun ad N N' n val _ _ => trivial⟩⟩
  · split at h
    · obtain ⟨g1, g2, g3⟩ := ai_mx_ok h hy
      refine ⟨g1, g2, fun r r2 hc => ⟨fun _ q => (by cases q), fun ad N N' n val hv hw => ?_⟩⟩
      obtain ⟨-, i, rfl, hi⟩ := hv
      exact ⟨hw, i, rfl, by rw [hi, g3 r r2 hc]⟩
    · cases h
  · split at h
    · obtain ⟨g1, g2, g3⟩ := ai_mx_ok h hy
      refine ⟨g1, g2, fun r r2 hc => ⟨fun _ q => (by cases q), fun ad N N' n val hv hw => ?_⟩⟩
      obtain ⟨-, i, rfl, hi⟩ := hv
      exact ⟨hw, i, rfl, by rw [hi, g3 r r2 hc]⟩
    · cases h
  · split at h
    · cases h
      exact ⟨hy, ai_yle.rfl', fun r r2 hc => ⟨fun _ q => (by cases q), fun ad N N' n val hv _ => hv⟩⟩
    · cases h
  · split at h
    · split at h
      · rename_i e1
        have e1 := Nat.eq_of_beq_eq_true e1
        subst e1
        cases h
        exact ⟨hy, ai_yle.rfl', fun r r2 hc => ⟨fun _ q => (by cases q), fun ad N N' n val hv _ => hv⟩⟩
      · cases h
    · cases h
theorem ai_mvs_ok : ∀ {l m : List ai_V} {y y' : ai_Y}, ai_mvs base E B y l m = some y' → ai_yok base E B y → ai_yok base E B y' ∧ ai_yle y y' ∧ l.length = m.length ∧ ∀ r r2, ai_cons base r r2 y' → (∀ i, ai_pv r r2 (ai_lget l i) (ai_lget m i)) ∧ ∀ (ad : Nat → Nat) (N N' n : Nat) (vs : List Value), ai_gF r ad N n l vs → (∀ w ∈ m, ai_wfV N' n w) → ai_gF r2 ad N' n m vs
  | [], [], y, y', h, hy => by
    cases h
    exact ⟨hy, ai_yle.rfl', rfl, fun r r2 hc => ⟨fun i => ⟨fun q => absurd rfl q, fun _ _ _ _ _ _ _ => trivial⟩, fun ad N N' n vs h _ => by
      cases vs with
      | nil => trivial
      | cons v t => exact h.elim⟩⟩
  | [], _ :: _, _, _, h, _ => by cases h
  | _ :: _, [], _, _, h, _ => by cases h
  | v :: l, w :: m, y, y', h, hy => by
    unfold ai_mvs at h
    split at h
    · rename_i y1 e1
      obtain ⟨g1, g2, g3⟩ := ai_mv_ok e1 hy
      obtain ⟨f1, f2, f3, f4⟩ := ai_mvs_ok h g1
      refine ⟨f1, g2.trans f2, congrArg Nat.succ f3, fun r r2 hc => ⟨fun i => ?_, fun ad N N' n vs hv hw => ?_⟩⟩
      · cases i with
        | zero => exact g3 r r2 (hc.le f2)
        | succ i => exact (f4 r r2 hc).1 i
      · obtain ⟨u, t, rfl, k1, k2⟩ := hv.cons
        exact ⟨(g3 r r2 (hc.le f2)).2 ad N N' n u k1 (hw _ List.mem_cons_self), (f4 r r2 hc).2 ad N N' n t k2 (fun z hz => hw z (List.mem_cons_of_mem _ hz))⟩
    · cases h
theorem ai_mos_ok : ∀ {l m : List (ai_X × ai_X)} {y y' : ai_Y}, ai_mos base E B y l m = some y' → ai_yok base E B y → ai_yok base E B y' ∧ ai_yle y y' ∧ ∀ r r2, ai_cons base r r2 y' → ∀ (lo hi lo' hi' : Int), lo' ≤ lo → hi ≤ hi' → ∀ j v, ai_ov r lo hi l j v → ai_ov r2 lo' hi' m j v
  | [], [], y, y', h, hy => by
    cases h
    exact ⟨hy, ai_yle.rfl', fun r r2 hc lo hi lo' hi' h1 h2 j v hv => ⟨Int.le_trans h1 hv.1, Int.le_trans hv.2 h2⟩⟩
  | [], _ :: _, _, _, h, _ => by cases h
  | _ :: _, [], _, _, h, _ => by cases h
  | (i, v) :: l, (j, w) :: m, y, y', h, hy => by
    unfold ai_mos at h
    split at h
    · cases h
    · rename_i y1 e1
      split at h
      · rename_i y2 e2
        obtain ⟨g1, g2, g3⟩ := ai_mx_ok e1 hy
        obtain ⟨k1, k2, k3⟩ := ai_mx_ok e2 g1
        obtain ⟨f1, f2, f3⟩ := ai_mos_ok h k1
        refine ⟨f1, g2.trans (k2.trans f2), fun r r2 hc lo hi lo' hi' h1 h2 q u hv => ?_⟩
        have a1 := g3 r r2 (hc.le (k2.trans f2))
        have a2 := k3 r r2 (hc.le f2)
        exact ⟨fun z => by rw [a2]; exact hv.1 (by rw [← a1]; exact z), fun z => f3 r r2 hc lo hi lo' hi' h1 h2 q u (hv.2 (by rw [← a1]; exact z))⟩
      · cases h
theorem ai_within_ok {r : Nat → Int} (hE : ai_gE r E) {lo hi lo' hi' : Int} (h1 : lo' ≤ lo) (h2 : hi ≤ hi') {j : Nat} {v : Int} : ∀ {l : List (ai_X × ai_X)}, ai_lw E.1 l → ai_within E lo' hi' l = true → ai_ov r lo hi l j v → lo' ≤ v ∧ v ≤ hi'
  | [], _, _, hv => ⟨Int.le_trans h1 hv.1, Int.le_trans hv.2 h2⟩
  | (i, z) :: l, hw, h, hv => by
    have hz := ai_iv_ok hE (hw _ List.mem_cons_self).2
    unfold ai_within at h
    split at h
    rename_i a b ei
    have ei : ai_iv E z = (a, b) := ei
    rw [show (((i, z) : ai_X × ai_X)).2 = z from rfl, ei] at hz
    split at h
    · rename_i e1 e2
      have e1 := ai_le_iff.mp e1
      have e2 := ai_le_iff.mp e2
      by_cases q : ai_vx r i = (j : Int)
      · have := hv.1 q
        rw [this]
        exact ⟨Int.le_trans e1 hz.1, Int.le_trans hz.2 e2⟩
      · exact ai_within_ok hE h1 h2 (fun q hq => hw q (List.mem_cons_of_mem _ hq)) h (hv.2 q)
    · cases h
theorem ai_mrs_ok : ∀ {l m : List (Option Nat)}, ai_mrs l m = true → l = m
  | [], [], _ => rfl
  | [], none :: _, h => by cases h
  | [], some _ :: _, h => by cases h
  | none :: _, [], h => by cases h
  | some _ :: _, [], h => by cases h
  | none :: l, some _ :: m, h => by cases h
  | some _ :: l, none :: m, h => by cases h
  | none :: l, none :: m, h => congrArg _ (ai_mrs_ok (l := l) (m := m) h)
  | some a :: l, some b :: m, h => by
    unfold ai_mrs at h
    split at h
    · rename_i e
      rw [Nat.eq_of_beq_eq_true e, ai_mrs_ok h]
    · cases h
theorem ai_keeps_ok {r r2 : Nat → Int} (hE : ai_gE r E) (h0 : r2 0 = 0) {lo hi lo' hi' : Int} {j : Nat} {v : Int} {l : List (ai_X × ai_X)} (hw : ai_lw E.1 l) (hv : ai_ov r lo hi l j v) (hr : lo' ≤ v ∧ v ≤ hi') : ∀ {m : List (ai_X × ai_X)}, ai_keeps E lo hi l m = true → ai_ov r2 lo' hi' m j v
  | [], _ => hr
  | ((t, c), (u, w)) :: m, h => by
    unfold ai_keeps at h
    split at h
    · rename_i e
      cases e
    · rename_i k w' m' e
      cases e
      split at h
      · rename_i z ez
        split at h
        · rename_i ex
          have ex := ai_xeq_iff.mp ex
          subst ex
          refine ⟨fun q => ?_, fun _ => ai_keeps_ok hE h0 hw hv hr h⟩
          have q : r2 0 + (k : Int) = (j : Int) := q
          have hj : ai_vx r (0, Int.ofNat k) = (j : Int) := by
            show r 0 + (k : Int) = (j : Int)
            rw [hE.1]; omega
          have := ai_kget_ok (lo := lo) (hi := hi) hE (i := (0, Int.ofNat k)) hE.2.1 hj hw hv
          rw [ez] at this
          obtain ⟨-, g⟩ := this
          refine g.trans ?_
          show r 0 + _ = r2 0 + _
          rw [hE.1, h0]
        · cases h
      · cases h
    · cases h
/-- arrays of numbers -/
theorem ai_mnum_ok {y y' : ai_Y} {ty n : Nat} {lo hi : Int} {l : List (ai_X × ai_X)} {d : ai_C} (h : ai_mc base E B y (some (.inr (.inl (ty, n, lo, hi, l)))) (some d) = some y') (hy : ai_yok base E B y) : ai_yok base E B y' ∧ ai_yle y y' ∧ ∃ lo' hi' m, d = .inr (.inl (ty, n, lo', hi', m)) ∧ ∀ r r2, ai_gE r E → ai_cons base r r2 y' → ∀ (g : Nat → Int) (N' : Nat), ai_gK r E.1 lo hi l n g → ai_lw N' m → ai_gK r2 N' lo' hi' m n g := by
  rcases d with ⟨ci, fs⟩ | ⟨tz, k, lo', hi', m⟩ | ⟨tz, m⟩
  · cases h
  · unfold ai_mc at h
    dsimp only at h
    split at h
    · rename_i e1 e2 e3 e4
      have e1 := Nat.eq_of_beq_eq_true e1
      have e2 := Nat.eq_of_beq_eq_true e2
      have e3 := ai_le_iff.mp e3
      have e4 := ai_le_iff.mp e4
      subst e1; subst e2
      split at h
      · split at h
        · rename_i ew
          cases h
          exact ⟨hy, ai_yle.rfl', _, _, _, rfl, fun r r2 hE hc g N' hg _ => ⟨fun q hq => (by cases hq), fun j hj => ai_within_ok hE e3 e4 hg.1 ew (hg.2 j hj)⟩⟩
        · cases h
      · split at h
        · rename_i y9 e9
          cases h
          obtain ⟨f1, f2, f3⟩ := ai_mos_ok e9 hy
          exact ⟨f1, f2, _, _, _, rfl, fun r r2 hE hc g N' hg hw => ⟨hw, fun j hj => f3 r r2 hc _ _ _ _ e3 e4 _ _ (hg.2 j hj)⟩⟩
        · split at h
          · rename_i eb ek ew
            cases h
            have eb : 0 < base := Nat.le_of_ble_eq_true eb
            exact ⟨hy, ai_yle.rfl', _, _, _, rfl, fun r r2 hE hc g N' hg hw => ⟨hw, fun j hj => ai_keeps_ok hE ((hc.1 0 eb).trans hE.1) hg.1 (hg.2 j hj) (ai_within_ok hE e3 e4 hg.1 ew (hg.2 j hj)) ek⟩⟩
          · cases h
    · cases h
  · cases h
theorem ai_mc_ok {y y' : ai_Y} {c d : ai_C} (h : ai_mc base E B y (some c) (some d) = some y') (hy : ai_yok base E B y) : ai_yok base E B y' ∧ ai_yle y y' ∧ ∀ r r2, ai_gE r E → ai_cons base r r2 y' → ∀ (tyc : Nat → ClassId) (ad : Nat → Nat) (N' n : Nat) (e : va_E), ai_gC tyc r ad E.1 n c e → ai_wfC N' n d → ai_gC tyc r2 ad N' n d e := by
  rcases c with ⟨ci, fs⟩ | ⟨ty, k, lo, hi, l⟩ | ⟨ty, l⟩
  · rcases d with ⟨cj, gs⟩ | ⟨tz, k, lo', hi', m⟩ | ⟨tz, m⟩
    · unfold ai_mc at h
      dsimp only at h
      split at h
      · rename_i e1
        have e1 := Nat.eq_of_beq_eq_true e1
        subst e1
        obtain ⟨f1, f2, -, f4⟩ := ai_mvs_ok h hy
        refine ⟨f1, f2, fun r r2 hE hc tyc ad N' n e he hw => ?_⟩
        obtain ⟨vs, rfl, hv⟩ := he
        exact ⟨vs, rfl, (f4 r r2 hc).2 ad _ N' n vs hv hw⟩
      · cases h
    · cases h
    · cases h
  · obtain ⟨f1, f2, lo', hi', m, rfl, f3⟩ := ai_mnum_ok h hy
    refine ⟨f1, f2, fun r r2 hE hc tyc ad N' n e he hw => ?_⟩
    rcases he with ⟨h1, f, h2, h3⟩ | ⟨h1, f, h2, h3⟩
    · exact Or.inl ⟨h1, f, h2, f3 r r2 hE hc _ N' h3 hw⟩
    · exact Or.inr ⟨h1, f, h2, f3 r r2 hE hc _ N' h3 hw⟩
  · rcases d with ⟨cj, gs⟩ | ⟨tz, k, lo', hi', m⟩ | ⟨tz, m⟩
    · cases h
    · cases h
    · unfold ai_mc at h
      dsimp only at h
      split at h
      · rename_i e1 e2
        have e1 := Nat.eq_of_beq_eq_true e1
        have e2 := ai_mrs_ok e2
        subst e1; subst e2
        cases h
        exact ⟨hy, ai_yle.rfl', fun r r2 hE hc tyc ad N' n e he _ => he⟩
      · cases h
theorem ai_mt_ok : ∀ (d : Nat) {a b : ai_T (Option ai_C) d} {y y' : ai_Y}, ai_mt base E B d y a b = some y' → ai_yok base E B y → ai_yok base E B y' ∧ ai_yle y y' ∧ ∀ k, k < 2 ^ d → ∃ y1 y2, ai_mc base E B y1 (ai_tget d a k) (ai_tget d b k) = some y2 ∧ ai_yok base E B y1 ∧ ai_yle y2 y'
  | 0, a, b, y, y', h, hy => by
    have key : ∀ (a b : Option ai_C) (y y' : ai_Y), ai_mc base E B y a b = some y' → ai_yok base E B y → ai_yok base E B y' ∧ ai_yle y y' := fun a b y y' h hy => by
      cases a with
      | none => cases b with
        | none => cases h; exact ⟨hy, ai_yle.rfl'⟩
        | some d => cases h
      | some c => cases b with
        | none => rcases c with x | x | x <;> cases h
        | some d =>
          obtain ⟨f1, f2, -⟩ := ai_mc_ok h hy
          exact ⟨f1, f2⟩
    obtain ⟨f1, f2⟩ := key a b y y' h hy
    exact ⟨f1, f2, fun k hk => ⟨y, y', by
      have : k = 0 := by omega
      subst this
      exact h, hy, ai_yle.rfl'⟩⟩
  | d + 1, a, b, y, y', h, hy => by
    unfold ai_mt at h
    split at h
    · rename_i y1 e1
      obtain ⟨g1, g2, g3⟩ := ai_mt_ok d e1 hy
      obtain ⟨f1, f2, f3⟩ := ai_mt_ok d h g1
      refine ⟨f1, g2.trans f2, fun k hk => ?_⟩
      have hk' : Nat.div k 2 < 2 ^ d := by
        have e : Nat.div k 2 = k / 2 := rfl
        rw [Nat.pow_succ] at hk
        omega
      unfold ai_tget
      cases Nat.mod k 2 with
      | zero =>
        obtain ⟨z1, z2, a1, a2, a3⟩ := g3 _ hk'
        exact ⟨z1, z2, a1, a2, a3.trans f2⟩
      | succ j => exact f3 _ hk'
    · cases h
end TM
section TN
variable {D : va_G} {tyc : Nat → ClassId} {A : Nat → Prop} {sa : ai_B} {s : State} {ws0 : va_W} {nL : Nat} {base : Nat}
variable {r : Nat → Int} {ad : Nat → Nat} {L S L' S' : List ai_V} {G G' : ai_G} {H : Heap} {locs : List Loc} {ls : Array Slot} {st : List Value}
theorem ai_lget_mem : ∀ {L : List ai_V} {i : Nat}, ai_lget L i ≠ .inr (.inr none) → ai_lget L i ∈ L
  | [], _, h => absurd rfl h
  | _ :: _, 0, _ => List.mem_cons_self
  | _ :: L, i + 1, h => List.mem_cons_of_mem _ (ai_lget_mem (L := L) (i := i) h)
theorem ai_in_ok {y : ai_Y} (h : ai_in base L S G L' S' G' = some y) (hR : ai_Rel D tyc A s sa ws0 nL r ad L S G H locs ls st) (hb0 : 0 < base) (hbN : base ≤ G.1.1) (hbN' : base ≤ G'.1.1)
    (hwL : ∀ a ∈ L', ai_wfV G'.1.1 G'.2.1.1 a) (hwS : ∀ a ∈ S', ai_wfV G'.1.1 G'.2.1.1 a) (hwC : ∀ k d, k < G'.2.1.1 → ai_cell G'.2.1 k = some d → ai_wfC G'.1.1 G'.2.1.1 d)
    (hiv : ∀ q ∈ G'.1.2.1, q.1 < G'.1.1 ∧ (q.1 < base → q.2.1 ≤ r q.1 ∧ r q.1 ≤ q.2.2) ∧ (base ≤ q.1 → ai_look G'.1.2.1 q.1 = q.2))
    (hdf : ∀ q ∈ G'.1.2.2, q.2.1 < base ∧ q.2.2.1.1 < base ∧ q.2.2.2.1 < base ∧ r q.2.1 = ai_op q.1 (ai_vx r q.2.2.1) (ai_vx r q.2.2.2))
    (dv : Nat → Int) (hdv : ∀ t, base ≤ t → t < G'.1.1 → ai_ylook y t = none → ai_small (dv t) ∧ ∀ q ∈ G'.1.2.1, q.1 = t → q.2.1 ≤ dv t ∧ dv t ≤ q.2.2) :
    ∃ r2 : Nat → Int, (∀ t, t < base → r2 t = r t) ∧ (∀ t x, ai_ylook y t = some x → r2 t = ai_vx r x) ∧ ai_Rel D tyc A s sa ws0 nL r2 ad L' S' G' H locs ls st ∧ G'.2.1.1 = G.2.1.1 ∧ G'.2.2.1 = G.2.2.1 ∧ G'.2.2.2 = G.2.2.2 := by
  obtain ⟨E, ⟨n, tr⟩, cs, sl⟩ := G
  obtain ⟨E', ⟨n', tr'⟩, cs', sl'⟩ := G'
  obtain ⟨ws, hP, hD, hS, hE, hH, hO, hsa, hL, hSt⟩ := hR
  unfold ai_in at h
  dsimp only at h
  split at h
  · rename_i e1 e2 e3
    have e1 : n = n' := Nat.eq_of_beq_eq_true e1
    have e2 : cs = cs' := Nat.eq_of_beq_eq_true e2
    have e3 : sl = sl' := Nat.eq_of_beq_eq_true e3
    subst e1; subst e2; subst e3
    split at h
    · cases h
    · rename_i y1 m1
      split at h
      · cases h
      · rename_i y2 m2
        obtain ⟨a1, a2, a3, a4⟩ := ai_mvs_ok m1 (fun t x q => by cases q)
        obtain ⟨b1, b2, b3, b4⟩ := ai_mvs_ok m2 a1
        obtain ⟨c1, c2, c3⟩ := ai_mt_ok 9 h b1
        have hyb : ∀ t x, ai_ylook y t = some x → base ≤ t := fun t x q => (c1 t x q).1
        obtain ⟨r2, hr2⟩ : ∃ r2 : Nat → Int, r2 = fun t => if t < base then r t else match ai_ylook y t with | some x => ai_vx r x | none => dv t := ⟨_, rfl⟩
        have k1 : ∀ t, t < base → r2 t = r t := fun t ht => by rw [hr2]; exact if_pos ht
        have k2 : ∀ t x, ai_ylook y t = some x → r2 t = ai_vx r x := fun t x q => by
          rw [hr2]
          show (if t < base then r t else match ai_ylook y t with | some x => ai_vx r x | none => dv t) = _
          rw [if_neg (Nat.not_lt.mpr (hyb t x q)), q]
        have k3 : ∀ t, base ≤ t → ai_ylook y t = none → r2 t = dv t := fun t ht q => by
          rw [hr2]
          show (if t < base then r t else match ai_ylook y t with | some x => ai_vx r x | none => dv t) = _
          rw [if_neg (Nat.not_lt.mpr ht), q]
        have hc : ai_cons base r r2 y := ⟨k1, k2⟩
        have kv : ∀ x : ai_X, x.1 < base → ai_vx r2 x = ai_vx r x := fun x hx => by
          show r2 x.1 + x.2 = r x.1 + x.2
          rw [k1 _ hx]
        have hE' : ai_gE r2 E' := by
          refine ⟨by rw [k1 0 hb0]; exact hE.1, Nat.lt_of_lt_of_le hb0 hbN', fun t ht => ?_, fun q hq => ?_, fun q hq => ?_⟩
          · by_cases hb : t < base
            · rw [k1 t hb]
              exact hE.2.2.1 t (Nat.lt_of_lt_of_le hb hbN)
            · cases ey : ai_ylook y t with
              | some x =>
                rw [k2 t x ey]
                obtain ⟨-, z1, z2, z3, z4⟩ := c1 t x ey
                have := ai_iv_ok hE z1
                exact ⟨Int.le_trans z3 this.1, Int.le_trans this.2 z4⟩
              | none =>
                rw [k3 t (by omega) ey]
                exact (hdv t (by omega) ht ey).1
          · obtain ⟨q1, q2, q3⟩ := hiv q hq
            refine ⟨q1, ?_⟩
            by_cases hb : q.1 < base
            · rw [k1 _ hb]
              exact q2 hb
            · cases ey : ai_ylook y q.1 with
              | some x =>
                rw [k2 _ x ey]
                obtain ⟨-, z1, ⟨z2, z3⟩, -⟩ := c1 _ x ey
                have e := q3 (by omega)
                have z2 : (ai_look E'.2.1 q.1).1 ≤ (ai_iv E x).1 := z2
                have z3 : (ai_iv E x).2 ≤ (ai_look E'.2.1 q.1).2 := z3
                have e : ai_look E'.2.1 q.1 = q.2 := e
                rw [e] at z2 z3
                have := ai_iv_ok hE z1
                exact ⟨Int.le_trans z2 this.1, Int.le_trans this.2 z3⟩
              | none =>
                rw [k3 _ (by omega) ey]
                exact (hdv _ (by omega) q1 ey).2 q hq rfl
          · obtain ⟨q1, q2, q3, q4⟩ := hdf q hq
            exact ⟨Nat.lt_of_lt_of_le q1 hbN', Nat.lt_of_lt_of_le q2 hbN', Nat.lt_of_lt_of_le q3 hbN', by rw [k1 _ q1, kv _ q2, kv _ q3]; exact q4⟩
        have a4 := a4 r r2 (hc.le (b2.trans c2))
        have b4 := b4 r r2 (hc.le c2)
        refine ⟨r2, k1, k2, ⟨ws, hP, hD, hS, hE', ⟨hH.1, hH.2.1, fun k hk d hd => ?_, fun k hk hd => ?_⟩, fun q hq d hd => ?_, hsa, ⟨?_, hL.2.1, hL.2.2.1, fun i hi => ?_⟩, ?_⟩, rfl, rfl, rfl⟩
        · obtain ⟨z1, z2, hm, hz1, hz2⟩ := c3 (k + 16) (by have := hH.1.2.1; show k + 16 < 512; have hk : k + 16 < n := hk; have this : n ≤ 512 := this; omega)
          have hd' : ai_tget 9 tr' (k + 16) = some d := hd
          rw [hd'] at hm
          cases ec : ai_tget 9 tr (k + 16) with
          | none => rw [ec] at hm; cases hm
          | some c =>
            rw [ec] at hm
            obtain ⟨e, g1, g2⟩ := hH.2.2.1 k hk c ec
            obtain ⟨-, -, f3⟩ := ai_mc_ok hm hz1
            exact ⟨e, g1, f3 r r2 hE (hc.le hz2) tyc ad _ _ e g2 (hwC _ d hk hd)⟩
        · obtain ⟨z1, z2, hm, hz1, hz2⟩ := c3 (k + 16) (by have := hH.1.2.1; show k + 16 < 512; have hk : k + 16 < n := hk; have this : n ≤ 512 := this; omega)
          have hd' : ai_tget 9 tr' (k + 16) = none := hd
          rw [hd'] at hm
          cases ec : ai_tget 9 tr (k + 16) with
          | none => exact hH.2.2.2 k hk ec
          | some c =>
            rw [ec] at hm
            rcases c with x | x | x <;> cases hm
        · obtain ⟨z1, z2, hm, hz1, hz2⟩ := c3 q (by show q < 512; omega)
          have hd' : ai_tget 9 tr' q = some d := hd
          rw [hd'] at hm
          have hqn : q < n := by
            have : 16 ≤ n := hH.1.1
            omega
          cases ec : ai_tget 9 tr q with
          | none => rw [ec] at hm; cases hm
          | some c =>
            rw [ec] at hm
            obtain ⟨z, hz, lo, hi, l, rfl, g2, g3⟩ := hO q hq c ec
            obtain ⟨-, -, lo', hi', m, rfl, f3⟩ := ai_mnum_ok hm hz1
            exact ⟨z, hz, lo', hi', m, rfl, g2, f3 r r2 hE (hc.le hz2) _ _ g3 (hwC _ _ hqn hd)⟩
        · rw [← a3]; exact hL.1
        · obtain ⟨p1, p2⟩ := a4.1 i
          obtain ⟨v, g1, g2⟩ := hL.2.2.2 i (p1 hi)
          exact ⟨v, g1, p2 ad _ _ _ v g2 (hwL _ (ai_lget_mem hi))⟩
        · exact b4.2 ad _ _ _ st hSt hwS
  · cases h
end TN
end
section
/-! MAKING A STATE WIDER -/
theorem ai_wfV.mono {N N' n : Nat} {a : ai_V} (hN : N ≤ N') (h : ai_wfV N n a) : ai_wfV N' n a := by
  rcases a with x | x | _ | _ | q
  · exact Nat.lt_of_lt_of_le h hN
  · exact Nat.lt_of_lt_of_le h hN
  · trivial
  · trivial
  · exact h
theorem ai_lw.mono' {N N' : Nat} {l : List (ai_X × ai_X)} (hN : N ≤ N') (h : ai_lw N l) : ai_lw N' l := fun q hq => ⟨Nat.lt_of_lt_of_le (h q hq).1 hN, Nat.lt_of_lt_of_le (h q hq).2 hN⟩
theorem ai_wfC.mono {N N' n : Nat} {c : ai_C} (hN : N ≤ N') (h : ai_wfC N n c) : ai_wfC N' n c := by
  rcases c with ⟨ci, fs⟩ | ⟨ty, k, lo, hi, l⟩ | ⟨ty, l⟩
  · exact fun a ha => (h a ha).mono hN
  · exact ai_lw.mono' hN h
  · trivial
theorem ai_wfV_kill {N n : Nat} {a : ai_V} (h : ai_wfV N n a) : ai_wfV N n (ai_kill a) := by
  rcases a with x | x | _ | _ | q <;> first | exact h | trivial
theorem ai_lset_wf {N n : Nat} {v : ai_V} (hv : ai_wfV N n v) : ∀ {L : List ai_V} {i : Nat}, (∀ a ∈ L, ai_wfV N n a) → ∀ a ∈ ai_lset L i v, ai_wfV N n a
  | [], _, h, a, ha => h a ha
  | w :: L, 0, h, a, ha => by
    rcases List.mem_cons.mp ha with rfl | ha
    · exact hv
    · exact h a (List.mem_cons_of_mem _ ha)
  | w :: L, 1, h, a, ha => by
    rcases List.mem_cons.mp ha with rfl | ha
    · exact ai_wfV_kill (h _ List.mem_cons_self)
    · exact ai_lset_wf hv (L := L) (i := 0) (fun b hb => h b (List.mem_cons_of_mem _ hb)) a ha
  | w :: L, i + 2, h, a, ha => by
    rcases List.mem_cons.mp ha with rfl | ha
    · exact h _ List.mem_cons_self
    · exact ai_lset_wf hv (L := L) (i := i + 1) (fun b hb => h b (List.mem_cons_of_mem _ hb)) a ha
theorem ai_setv_wf {N n : Nat} {v : ai_V} (hv : ai_wfV N n v) : ∀ {L : List ai_V} {i : Nat}, (∀ a ∈ L, ai_wfV N n a) → ∀ a ∈ ai_setv L i v, ai_wfV N n a
  | [], _, h, a, ha => h a ha
  | w :: L, 0, h, a, ha => by
    rcases List.mem_cons.mp ha with rfl | ha
    · exact hv
    · exact h a (List.mem_cons_of_mem _ ha)
  | w :: L, i + 1, h, a, ha => by
    rcases List.mem_cons.mp ha with rfl | ha
    · exact h _ List.mem_cons_self
    · exact ai_setv_wf hv (L := L) (i := i) (fun b hb => h b (List.mem_cons_of_mem _ hb)) a ha
theorem ai_gV.wf {r : Nat → Int} {ad : Nat → Nat} {N n : Nat} {a : ai_V} {v : Value} (h : ai_gV r ad N n a v) : ai_wfV N n a := by
  rcases a with x | x | _ | _ | q
  · exact h.1
  · exact h.1
  · trivial
  · trivial
  · exact h.1
theorem ai_gF.wf {r : Nat → Int} {ad : Nat → Nat} {N n : Nat} : ∀ {l : List ai_V} {m : List Value}, ai_gF r ad N n l m → ∀ a ∈ l, ai_wfV N n a
  | [], _, _, a, ha => by cases ha
  | b :: l, [], h, _, _ => h.elim
  | b :: l, v :: m, h, a, ha => by
    rcases List.mem_cons.mp ha with rfl | ha
    · exact h.1.wf
    · exact ai_gF.wf h.2 a ha
theorem ai_lget_of : ∀ {L : List ai_V} {a : ai_V}, a ∈ L → ∃ i, ai_lget L i = a
  | [], _, h => by cases h
  | b :: L, a, h => by
    rcases List.mem_cons.mp h with rfl | h
    · exact ⟨0, rfl⟩
    · obtain ⟨i, hi⟩ := ai_lget_of h
      exact ⟨i + 1, hi⟩
theorem ai_gL.wf {r : Nat → Int} {ad : Nat → Nat} {N n nL : Nat} {L : List ai_V} {ls : Array Slot} (h : ai_gL r ad N n nL L ls) : ∀ a ∈ L, ai_wfV N n a := fun a ha => by
  obtain ⟨i, rfl⟩ := ai_lget_of ha
  cases e : ai_unk (ai_lget L i) with
  | true =>
    rcases e2 : ai_lget L i with x | x | _ | x <;> rw [e2] at e <;> first | trivial | cases e
  | false =>
    obtain ⟨v, -, g⟩ := h.2.2.2 i (ai_unk_iff.mp e)
    exact g.wf
theorem ai_gC.wf {tyc : Nat → ClassId} {r : Nat → Int} {ad : Nat → Nat} {N n : Nat} {c : ai_C} {e : va_E} (h : ai_gC tyc r ad N n c e) : ai_wfC N n c := by
  rcases c with ⟨ci, fs⟩ | ⟨ty, k, lo, hi, l⟩ | ⟨ty, l⟩
  · obtain ⟨vs, -, g⟩ := h
    exact g.wf
  · rcases h with ⟨-, f, -, g⟩ | ⟨-, f, -, g⟩
    · exact g.1
    · exact g.1
  · trivial
noncomputable def ai_IE (base : Nat) (r : Nat → Int) (ds : List ai_D) (E : ai_E) : Prop := base ≤ E.1 ∧ (∀ q ∈ E.2.1, q.1 < E.1 ∧ (q.1 < base → q.2.1 ≤ r q.1 ∧ r q.1 ≤ q.2.2) ∧ (base ≤ q.1 → ai_look E.2.1 q.1 = q.2)) ∧ E.2.2 = ds
theorem ai_IE.new {base : Nat} {r : Nat → Int} {ds : List ai_D} {E E' : ai_E} {b : Int × Int} {z : ai_X} (h : ai_IE base r ds E) (e : ai_new E b = (z, E')) : ai_IE base r ds E' ∧ z.1 < E'.1 ∧ E.1 ≤ E'.1 := by
  obtain ⟨N, l, d⟩ := E
  cases e
  obtain ⟨h1, h2, h3⟩ := h
  refine ⟨⟨Nat.le_succ_of_le h1, fun q hq => ?_, h3⟩, Nat.lt_succ_self N, Nat.le_succ N⟩
  rcases List.mem_cons.mp hq with rfl | hq
  · refine ⟨Nat.lt_succ_self N, fun hb => ?_, fun _ => ?_⟩
    · have h1 : base ≤ N := h1
      have hb : N < base := hb
      omega
    · show ai_look ((N, b) :: l) N = b
      obtain ⟨lo, hi⟩ := b
      unfold ai_look
      rw [Nat.beq_refl]
  · obtain ⟨g1, g2, g3⟩ := h2 q hq
    refine ⟨Nat.lt_succ_of_lt g1, g2, fun hb => ?_⟩
    show ai_look ((N, b) :: l) q.1 = q.2
    obtain ⟨lo, hi⟩ := b
    have g1 : q.1 < N := g1
    have e : Nat.beq N q.1 = false := by
      cases e : Nat.beq N q.1 with
      | false => rfl
      | true =>
        have := Nat.eq_of_beq_eq_true e
        omega
    unfold ai_look
    rw [e]
    exact g3 hb
noncomputable def ai_IC (N : Nat) (h : ai_H) : Prop := h.1 ≤ 512 ∧ ∀ k d, k < h.1 → ai_cell h k = some d → ai_wfC N h.1 d
theorem ai_IC.put {N N' : Nat} {h h' : ai_H} {q : Nat} {c : ai_C} (hN : N ≤ N') (g : ai_IC N h) (e : ai_put h q c = some h') (hc : ai_wfC N' h.1 c) : ai_IC N' h' ∧ h'.1 = h.1 := by
  obtain ⟨p1, p2, p3, p4⟩ := ai_put_ok e
  refine ⟨⟨by rw [p3]; exact g.1, fun k d hk hd => ?_⟩, p3⟩
  rw [p3] at hk ⊢
  have h5 := g.1
  rw [p4 h5 k (by omega)] at hd
  by_cases ek : k = q
  · rw [if_pos ek] at hd
    cases hd
    exact hc
  · rw [if_neg ek] at hd
    exact (g.2 k d hk hd).mono hN
theorem ai_genL_ok {base : Nat} {r : Nat → Int} {ds : List ai_D} {n : Nat} : ∀ {l : List (Nat × Int × Int)} {E E' : ai_E} {L L' : List ai_V}, ai_genL l E L = (E', L') → ai_IE base r ds E → (∀ a ∈ L, ai_wfV E.1 n a) → ai_IE base r ds E' ∧ (∀ a ∈ L', ai_wfV E'.1 n a) ∧ E.1 ≤ E'.1
  | [], E, E', L, L', h, hE, hL => by
    cases h
    exact ⟨hE, hL, Nat.le_refl _⟩
  | (i, lo, hi) :: l, E, E', L, L', h, hE, hL => by
    unfold ai_genL at h
    cases en : ai_new E (lo, hi) with
    | mk z E1 =>
      rw [en] at h
      obtain ⟨g1, g2, g3⟩ := hE.new en
      obtain ⟨f1, f2, f3⟩ := ai_genL_ok (L := ai_lset L i (.inl z)) h g1 (ai_lset_wf (N := E1.1) (n := n) (v := .inl z) g2 (fun a ha => (hL a ha).mono g3))
      exact ⟨f1, f2, Nat.le_trans g3 f3⟩
theorem ai_genU_ok {N n : Nat} : ∀ {l : List Nat} {L : List ai_V}, (∀ a ∈ L, ai_wfV N n a) → ∀ a ∈ ai_genU l L, ai_wfV N n a
  | [], _, hL => hL
  | i :: l, L, hL => ai_genU_ok (l := l) (L := ai_lset L i (.inr (.inr none))) (ai_lset_wf (N := N) (n := n) (v := .inr (.inr none)) trivial hL)
theorem ai_genF_ok {base : Nat} {r : Nat → Int} {ds : List ai_D} : ∀ {l : List (Nat × Nat × Int × Int)} {E E' : ai_E} {h h' : ai_H}, ai_genF l E h = some (E', h') → ai_IE base r ds E → ai_IC E.1 h → ai_IE base r ds E' ∧ ai_IC E'.1 h' ∧ E.1 ≤ E'.1 ∧ h'.1 = h.1
  | [], E, E', h, h', e, hE, hC => by
    cases e
    exact ⟨hE, hC, Nat.le_refl _, rfl⟩
  | (q, k, lo, hi) :: l, E, E', h, h', e, hE, hC => by
    unfold ai_genF at e
    cases en : ai_new E (lo, hi) with
    | mk z E1 =>
      rw [en] at e
      obtain ⟨g1, g2, g3⟩ := hE.new en
      dsimp only at e
      split at e
      · rename_i ci fs ec
        split at e
        · rename_i h1 ep
          have hq := (ai_put_ok ep).2.1
          obtain ⟨c1, c2⟩ := hC.put g3 ep (show ∀ a ∈ ai_setv fs k (.inl z), ai_wfV E1.1 h.1 a from ai_setv_wf (N := E1.1) (n := h.1) (v := .inl z) g2 (fun a ha => ai_wfV.mono g3 ((hC.2 q _ hq ec) a ha)))
          obtain ⟨f1, f2, f3, f4⟩ := ai_genF_ok e g1 c1
          exact ⟨f1, f2, Nat.le_trans g3 f3, f4.trans c2⟩
        · cases e
      · cases e
theorem ai_kp_ok {N : Nat} (hN : 0 < N) : ∀ {l : List (Nat × Int)}, ai_lw N (ai_kp l)
  | [] => fun q hq => by cases hq
  | (j, v) :: l => fun q hq => by
    rcases List.mem_cons.mp hq with rfl | hq
    · exact ⟨hN, hN⟩
    · exact ai_kp_ok hN q hq
theorem ai_genA_ok {N : Nat} (hN : 0 < N) : ∀ {l : List (Nat × Int × Int × List (Nat × Int))} {h h' : ai_H}, ai_genA l h = some h' → ai_IC N h → ai_IC N h' ∧ h'.1 = h.1
  | [], h, h', e, hC => by
    cases e
    exact ⟨hC, rfl⟩
  | (q, lo, hi, kp) :: l, h, h', e, hC => by
    unfold ai_genA at e
    split at e
    · split at e
      · rename_i ep
        obtain ⟨c1, c2⟩ := hC.put (Nat.le_refl _) ep (show ai_lw N (ai_kp kp) from ai_kp_ok hN)
        obtain ⟨f1, f2⟩ := ai_genA_ok hN e c1
        exact ⟨f1, f2.trans c2⟩
      · cases e
    · cases e
section GN
variable {D : va_G} {tyc : Nat → ClassId} {A : Nat → Prop} {sa : ai_B} {s : State} {ws0 : va_W} {nL : Nat} {An : ai_A}
variable {r : Nat → Int} {ad : Nat → Nat} {L S L' : List ai_V} {G G' : ai_G} {H : Heap} {locs : List Loc} {ls : Array Slot} {st : List Value}
theorem ai_gen_ok (h : ai_gen An L G = some (L', G')) (hR : ai_Rel D tyc A s sa ws0 nL r ad L S G H locs ls st) : G.1.1 ≤ G'.1.1 ∧ G'.2.1.1 = G.2.1.1 ∧ (∀ a ∈ L', ai_wfV G'.1.1 G'.2.1.1 a) ∧ (∀ a ∈ S, ai_wfV G'.1.1 G'.2.1.1 a) ∧ (∀ k d, k < G'.2.1.1 → ai_cell G'.2.1 k = some d → ai_wfC G'.1.1 G'.2.1.1 d) ∧
    (∀ q ∈ G'.1.2.1, q.1 < G'.1.1 ∧ (q.1 < G.1.1 → q.2.1 ≤ r q.1 ∧ r q.1 ≤ q.2.2) ∧ (G.1.1 ≤ q.1 → ai_look G'.1.2.1 q.1 = q.2)) ∧
    (∀ q ∈ G'.1.2.2, q.2.1 < G.1.1 ∧ q.2.2.1.1 < G.1.1 ∧ q.2.2.2.1 < G.1.1 ∧ r q.2.1 = ai_op q.1 (ai_vx r q.2.2.1) (ai_vx r q.2.2.2)) := by
  obtain ⟨E, hh, cs, sl⟩ := G
  obtain ⟨ws, hP, hD, hS, hE, hH, hO, hsa, hL, hSt⟩ := hR
  have i0 : ai_IE E.1 r E.2.2 E := ⟨Nat.le_refl _, fun q hq => by
    have := hE.2.2.2.1 q hq
    exact ⟨this.1, fun _ => this.2, fun g => absurd this.1 (Nat.not_lt.mpr g)⟩, rfl⟩
  have i1 : ai_IC E.1 hh := ⟨hH.1.2.1, fun k d hk hd => by
    by_cases h16 : 16 ≤ k
    · obtain ⟨e, -, g⟩ := hH.at h16 hk hd
      exact g.wf
    · obtain ⟨z, -, lo, hi, l, rfl, -, g⟩ := hO k (by omega) d hd
      exact g.1⟩
  unfold ai_gen at h
  dsimp only at h
  cases e1 : ai_genL An.1 E L with
  | mk E1 L1 =>
    rw [e1] at h
    obtain ⟨a1, a2, a3⟩ := ai_genL_ok e1 i0 hL.wf
    dsimp only at h
    split at h
    · cases h
    · rename_i E2 h2 e2
      have i2 : ai_IC E1.1 hh := ⟨i1.1, fun k d hk hd => (i1.2 k d hk hd).mono a3⟩
      obtain ⟨b1, b2, b3, b4⟩ := ai_genF_ok e2 a1 i2
      split at h
      · cases h
      · rename_i h3 e3
        obtain ⟨c1, c2⟩ := ai_genA_ok (Nat.lt_of_lt_of_le hE.2.1 b1.1) e3 b2
        cases h
        have en : h3.1 = hh.1 := c2.trans b4
        refine ⟨b1.1, en, ?_, ?_, c1.2, b1.2.1, fun q hq => ?_⟩
        · show ∀ a ∈ ai_genU An.2.1 L1, ai_wfV E2.1 h3.1 a
          rw [en]
          exact ai_genU_ok (fun a ha => (a2 a ha).mono b3)
        · show ∀ a ∈ S, ai_wfV E2.1 h3.1 a
          rw [en]
          exact fun a ha => ai_wfV.mono b1.1 ((show ai_gF r ad E.1 hh.1 S st from hSt).wf a ha)
        · have hq : q ∈ E2.2.2 := hq
          rw [b1.2.2] at hq
          have := hE.2.2.2.2 q hq
          exact this
end GN
end
section
/-! A METHOD'S RUN -/
noncomputable def ai_meas (up : Bool) (v : Int) : Nat := match up with
  | true => (ai_hi64 - v).toNat
  | false => (v - ai_lo64).toNat
theorem ai_gE.ext {r r' : Nat → Int} {E : ai_E} (h : ai_gE r E) (hx : ai_ext E.1 r r') : ai_gE r' E := by
  obtain ⟨h1, h2, h3, h4, h5⟩ := h
  refine ⟨by rw [hx 0 h2]; exact h1, h2, fun t ht => by rw [hx t ht]; exact h3 t ht, fun q hq => ?_, fun q hq => ?_⟩
  · have := h4 q hq
    rw [hx q.1 this.1]
    exact this
  · obtain ⟨g1, g2, g3, g4⟩ := h5 q hq
    exact ⟨g1, g2, g3, by rw [hx _ g1, hx.vx g2, hx.vx g3]; exact g4⟩
theorem ai_act_ok {pc : Nat} {P : ai_P} : ∀ {l : List ai_P}, ai_act l pc = some P → P ∈ l ∧ P.1 = pc
  | [], h => by cases h
  | a :: l, h => by
    unfold ai_act at h
    split at h
    · rename_i e
      cases h
      exact ⟨List.mem_cons_self, Nat.eq_of_beq_eq_true e⟩
    · obtain ⟨g1, g2⟩ := ai_act_ok (l := l) h
      exact ⟨List.mem_cons_of_mem _ g1, g2⟩
theorem ai_many_ok {go : ai_F → ai_Q} : ∀ {l : List ai_F} {os : List (ai_R × ai_G)}, ai_many go l = some os → ∀ f ∈ l, ∃ o, go f = some o ∧ ∀ g ∈ o, g ∈ os
  | [], _, _, f, hf => by cases hf
  | f :: l, os, h, f', hf => by
    unfold ai_many at h
    cases l with
    | nil =>
      rcases List.mem_cons.mp hf with rfl | hf
      · exact ⟨os, h, fun g hg => hg⟩
      · cases hf
    | cons f2 l2 =>
      dsimp only at h
      split at h
      · cases h
      · rename_i a e1
        split at h
        · cases h
        · rename_i b e2
          cases h
          rcases List.mem_cons.mp hf with rfl | hf
          · exact ⟨a, e1, fun g hg => List.mem_append_left _ hg⟩
          · obtain ⟨o, g1, g2⟩ := ai_many_ok e2 f' hf
            exact ⟨o, g1, fun g hg => List.mem_append_right _ (g2 g hg)⟩
theorem ai_each_ok {go : ai_R × ai_G → ai_Q} : ∀ {l : List (ai_R × ai_G)} {os : List (ai_R × ai_G)}, ai_each go l = some os → ∀ f ∈ l, ∃ o, go f = some o ∧ ∀ g ∈ o, g ∈ os
  | [], _, _, f, hf => by cases hf
  | f :: l, os, h, f', hf => by
    unfold ai_each at h
    cases l with
    | nil =>
      rcases List.mem_cons.mp hf with rfl | hf
      · exact ⟨os, h, fun g hg => hg⟩
      · cases hf
    | cons f2 l2 =>
      dsimp only at h
      split at h
      · cases h
      · rename_i a e1
        split at h
        · cases h
        · rename_i b e2
          cases h
          rcases List.mem_cons.mp hf with rfl | hf
          · exact ⟨a, e1, fun g hg => List.mem_append_left _ hg⟩
          · obtain ⟨o, g1, g2⟩ := ai_each_ok e2 f' hf
            exact ⟨o, g1, fun g hg => List.mem_append_right _ (g2 g hg)⟩
theorem ai_cov_ok {y : ai_Y} : ∀ {k t : Nat}, ai_cov y t k = true → ∀ u, t ≤ u → u < t + k → ai_ylook y u ≠ none
  | 0, t, _, u, h1, h2 => by omega
  | k + 1, t, h, u, h1, h2 => by
    unfold ai_cov at h
    split at h
    · rename_i x e
      by_cases q : u = t
      · subst q
        rw [e]
        exact fun q => by cases q
      · exact ai_cov_ok h u (by omega) (by omega)
    · cases h
theorem ai_near_ok {up : Bool} {t : Nat} {y : ai_Y} (h : ai_near up t y = true) : ∃ c, ai_ylook y t = some (t, c) ∧ (up = true → 1 ≤ c) ∧ (up = false → c ≤ -1) := by
  unfold ai_near at h
  split at h
  · rename_i u c e
    split at h
    · rename_i eb
      have eb := Nat.eq_of_beq_eq_true eb
      subst eb
      refine ⟨c, e, fun q => ?_, fun q => ?_⟩
      · subst q; exact ai_le_iff.mp h
      · subst q; exact ai_le_iff.mp h
    · cases h
  · cases h
theorem ai_lget_getv {a : ai_V} : ∀ {L : List ai_V} {i : Nat}, ai_getv L i = some a → ai_lget L i = a
  | [], _, h => by cases h
  | v :: l, 0, h => by cases h; rfl
  | v :: l, i + 1, h => ai_lget_getv (L := l) (i := i) h
theorem ai_setv_n {a : ai_V} : ∀ {L : List ai_V} {i : Nat}, (ai_setv L i a).length = L.length
  | [], _ => rfl
  | v :: l, 0 => rfl
  | v :: l, i + 1 => congrArg Nat.succ (ai_setv_n (L := l) (i := i))
theorem ai_lget_setv {a : ai_V} : ∀ {L : List ai_V} {i j : Nat}, ai_lget (ai_setv L i a) j = ai_lget L j ∨ (j = i ∧ ai_lget (ai_setv L i a) j = a)
  | [], _, _ => Or.inl rfl
  | v :: l, 0, 0 => Or.inr ⟨rfl, rfl⟩
  | v :: l, 0, j + 1 => Or.inl rfl
  | v :: l, i + 1, 0 => Or.inl rfl
  | v :: l, i + 1, j + 1 => (ai_lget_setv (L := l) (i := i) (j := j)).imp (fun q => q) (fun q => ⟨congrArg Nat.succ q.1, q.2⟩)
theorem ai_opt_mem {o : Option ai_E} {E : ai_E} {pc : Nat} {L S : List ai_V} {h : ai_H × Nat × Nat} (e : o = some E) : (pc, L, S, (E, h)) ∈ ai_opt o pc L S h := by
  subst e
  exact List.mem_cons_self
/-- a state at a mark with a cut is one of the two -/
theorem ai_slit_ok {D : va_G} {tyc : Nat → ClassId} {A : Nat → Prop} {s : State} {sa : ai_B} {ws0 : va_W} {nL : Nat} {r : Nat → Int} {ad : Nat → Nat} {L S : List ai_V} {G : ai_G} {H : Heap} {locs : List Loc} {ls : Array Slot} {st : List Value} {cut : Option (Nat × Int)} {pc : Nat}
    (hR : ai_Rel D tyc A s sa ws0 nL r ad L S G H locs ls st) : ∃ f ∈ ai_slit cut pc L S G, f.1 = pc ∧ f.2.2.1 = S ∧ ai_Rel D tyc A s sa ws0 nL r ad f.2.1 f.2.2.1 f.2.2.2 H locs ls st ∧ f.2.2.2.1.1 = G.1.1 ∧ f.2.2.2.2 = G.2 := by
  have same : (pc, L, S, G) ∈ [(pc, L, S, G)] := List.mem_cons_self
  cases cut with
  | none => exact ⟨_, same, rfl, rfl, hR, rfl, rfl⟩
  | some q =>
    obtain ⟨i, v⟩ := q
    unfold ai_slit
    dsimp only
    split
    · rename_i x ex
      obtain ⟨E, h⟩ := G
      dsimp only
      obtain ⟨ws, g1, g2, g3, g4, g5, g6, g7, g8, g9⟩ := hR
      have hl : ai_lget L i = .inl x := ai_lget_getv ex
      obtain ⟨w, w1, w2⟩ := g8.2.2.2 i (by rw [hl]; exact fun q => by cases q)
      rw [hl] at w2
      obtain ⟨w3, i32, rfl, w4⟩ := w2
      have hN : 0 < E.1 := g4.2.1
      have v0 : ai_vx r (0, v) = v := by
        show r 0 + v = v
        rw [g4.1]; omega
      by_cases hv : ai_vx r x = ai_vx r (0, v)
      · obtain ⟨E1, e1, e2, e3⟩ := ai_same_ok g4 w3 (y := (0, v)) hN hv
        refine ⟨_, List.mem_append_left _ (ai_opt_mem e1), rfl, rfl, ⟨ws, g1, g2, g3, e2, ?_, ?_, g7, ?_, ?_⟩, e3, rfl⟩
        · show ai_gH tyc r ad E1.1 ws0 h.1 ws
          rw [e3]; exact g5
        · show ai_gO sa.2 r ad E1.1 h.1
          rw [e3]; exact g6
        · show ai_gL r ad E1.1 h.1.1 nL (ai_setv L i (.inl (0, v))) ls
          rw [e3]
          refine ⟨ai_setv_n.trans g8.1, g8.2.1, g8.2.2.1, fun j hj => ?_⟩
          rcases ai_lget_setv (a := .inl (0, v)) (L := L) (i := i) (j := j) with q | ⟨rfl, q⟩
          · rw [q] at hj ⊢
            exact g8.2.2.2 j hj
          · rw [q]
            exact ⟨_, w1, hN, i32, rfl, w4.trans hv⟩
        · show ai_gF r ad E1.1 h.1.1 S st
          rw [e3]; exact g9
      · obtain ⟨E1, e1, e2, e3⟩ := ai_differ_ok g4 w3 (y := (0, v)) hN hv
        refine ⟨_, List.mem_append_right _ (ai_opt_mem e1), rfl, rfl, ⟨ws, g1, g2, g3, e2, ?_, ?_, g7, ?_, ?_⟩, e3, rfl⟩
        · show ai_gH tyc r ad E1.1 ws0 h.1 ws
          rw [e3]; exact g5
        · show ai_gO sa.2 r ad E1.1 h.1
          rw [e3]; exact g6
        · show ai_gL r ad E1.1 h.1.1 nL L ls
          rw [e3]; exact g8
        · show ai_gF r ad E1.1 h.1.1 S st
          rw [e3]; exact g9
    · exact ⟨_, same, rfl, rfl, hR, rfl, rfl⟩
/-- what the table of a method with handlers says of an exception at a place -/
noncomputable def ai_hk (Wg nws : List Cond) (own : String) (nL : Nat) (cc : ByteArray) (tb : List ExceptionTableEntry) (pc z k pcn : Nat) : Prop :=
  k < nL ∧ ∃ pre x suf nm, tb = pre ++ x :: suf ∧ (∀ w ∈ pre, covers w pc = false ∨ (w.catchType ≠ 0 ∧ ∃ nm, Cond.classLink own w.catchType nm ∈ Wg ∧ (ai_exn z, nm) ∈ ai_ncs)) ∧ covers x pc = true ∧ x.catchType ≠ 0 ∧ Cond.classLink own x.catchType nm ∈ Wg ∧ Cond.castable (ai_exn z) nm ∈ nws ∧
    ((decode cc x.handlerPc = .ok (.astore k, 2) ∧ pcn = x.handlerPc + 2) ∨ ∃ j : Fin 4, (j : Nat) = k ∧ decode cc x.handlerPc = .ok (.astore_n j, 1) ∧ pcn = x.handlerPc + 1)
section SX
variable {p : Program} {l : Launch} {e : Env} {R : Room} {s : State} {m : MethodId} {args : Array Value} {below : List Frame} {meth : Method} {c : Code} {Q : State → Prop}
variable {D : va_G} {tyc : Nat → ClassId} {A : Nat → Prop} {sa : ai_B} {ws0 : va_W} {nL : Nat} {cc : ByteArray} {own : String} {Wg : List Cond} {strs : List ai_Z} {nws : List Cond} {bud : Nat × Nat} {dflt : Nat → List ai_V} {kind : Nat → Nat → Nat} {ini : Bool} {ret : Option FieldType} {tb : List (Nat × Nat × Nat × Nat)}
variable {r0 : Nat → Int} {ad0 : Nat → Nat} {N0 n0 mc ms : Nat} {outs : List (ai_R × ai_G)}
variable {code : Nat → Option (ClassFile.Instr × Nat × Nat × Nat)} {hand : Nat → Nat → Option (Nat × Nat)} {cbud : Nat → Nat × Nat} {callee : Nat → List ai_V → ai_G → ai_Q} {ann : Nat → Option ai_AA} {mt : Nat → ai_MT} {rm : Nat → Room}
/-- a loop that is under way: from its head, nearer to the end, all is well -/
noncomputable def ai_Hy (p : Program) (l : Launch) (e : Env) (R : Room) (s : State) (m : MethodId) (args : Array Value) (below : List Frame) (meth : Method) (c : Code) (Q : State → Prop) (D : va_G) (tyc : Nat → ClassId) (A : Nat → Prop) (sa : ai_B) (ws0 : va_W) (nL : Nat) (N0 n0 : Nat) (r : Nat → Int) (ad : Nat → Nat) (P : ai_P) : Prop := match P with
  | (pc, base, t, up, L', S', G') => (0 < base ∧ base ≤ G'.1.1 ∧ t < G'.1.1 ∧ N0 ≤ base ∧ n0 ≤ G'.2.1.1) ∧ ((∀ a ∈ L', ai_wfV G'.1.1 G'.2.1.1 a) ∧ (∀ a ∈ S', ai_wfV G'.1.1 G'.2.1.1 a) ∧ ∀ k d, k < G'.2.1.1 → ai_cell G'.2.1 k = some d → ai_wfC G'.1.1 G'.2.1.1 d) ∧
    (∀ q ∈ G'.1.2.1, base ≤ q.1 → ai_look G'.1.2.1 q.1 = q.2) ∧ (∀ q ∈ G'.1.2.2, q.2.1 < base ∧ q.2.2.1.1 < base ∧ q.2.2.2.1 < base) ∧ ai_gE r G'.1 ∧
    ∀ (r2 : Nat → Int) (ad2 : Nat → Nat), (∀ u, u < base → r2 u = r u) → (∀ q, q < G'.2.1.1 → ad2 q = ad q) → ai_meas up (r2 t) < ai_meas up (r t) → ∀ (H : Heap) (locs : List Loc) (ls : Array Slot) (st : List Value), ai_Rel D tyc A s sa ws0 nL r2 ad2 L' S' G' H locs ls st → W p l e R s m args below meth c H locs G'.2.2.1 G'.2.2.2 Q (F0 m pc ls st)
theorem ai_Hy.ext {r r' : Nat → Int} {ad ad' : Nat → Nat} {P : ai_P} (h : ai_Hy p l e R s m args below meth c Q D tyc A sa ws0 nL N0 n0 r ad P) (hr : ai_ext P.2.2.2.2.2.2.1.1 r r') (ha : ai_ext P.2.2.2.2.2.2.2.1.1 ad ad') : ai_Hy p l e R s m args below meth c Q D tyc A sa ws0 nL N0 n0 r' ad' P := by
  obtain ⟨pc, base, t, up, L', S', G'⟩ := P
  obtain ⟨⟨h1, h2, h3, h4, h5⟩, h6, h7, h8, h9, h10⟩ := h
  refine ⟨⟨h1, h2, h3, h4, h5⟩, h6, h7, h8, h9.ext hr, fun r2 ad2 g1 g2 g3 => h10 r2 ad2 (fun u hu => (g1 u hu).trans (hr u (Nat.lt_of_lt_of_le hu h2))) (fun q hq => (g2 q hq).trans (ha q hq)) ?_⟩
  rw [← hr t h3]
  exact g3
/-- what the tables of a method's code say -/
noncomputable def ai_tab (Wg nws : List Cond) (strs : List ai_Z) (mt : Nat → ai_MT) (own : String) (ini : Bool) (ret : Option FieldType) (cc : ByteArray) (tb : List (Nat × Nat × Nat × Nat)) (code : Nat → Option (ClassFile.Instr × Nat × Nat × Nat)) : Prop :=
  ∀ pc i len a b, code pc = some (i, len, a, b) → decode cc pc = .ok (i, len) ∧ ai_chk pc i len a b = true ∧ ai_wd Wg strs own ini i a b ∧ ai_we Wg nws own ret cc tb pc i len a b ∧ (a < 1000 → ai_wc Wg nws (mt a) own i len b)
set_option maxHeartbeats 4000000 in
theorem ai_run_ok (F : ai_Fr p R s m args meth c D tyc A sa nL cc own Wg strs nws bud dflt kind) (hl : l.stackTraces = false) (hret : meth.sig.returnType = ret) (htb : tb = [] → ∀ x ∈ c.exceptionTable.toList, False) (hgood : ∀ w ∈ Wg, goodWord w = true) (hnk : ∀ w ∈ nws, ai_nk w = true) (hini : ini = true → meth.name = "<init>")
    (hcode : ai_tab Wg nws strs mt own ini ret cc tb code) (hmt : ∀ mi aa G o, callee mi aa G = some o → ai_mok Wg (mt mi))
    (hhand : ∀ pc z, match hand pc z with | none => ∀ x ∈ c.exceptionTable.toList, covers x pc = false | some (k, pcn) => (code pcn = none ∧ ann pcn = none) ∨ ai_hk Wg nws own nL cc c.exceptionTable.toList pc z k pcn)
    (hrm : ∀ mi, (rm mi).frames + 1 ≤ R.frames ∧ (rm mi).locals + 64 ≤ R.locals ∧ (rm mi).cells = (cbud mi).1 ∧ (rm mi).slots = (cbud mi).2)
    (hcall : ∀ mi aa G o, callee mi aa G = some o → ai_Ct l D tyc A sa strs nws Wg (mt mi) (rm mi) aa G o) (hm : bud.1 ≤ mc ∧ bud.2 ≤ ms) : ∀ (n : Nat) (act : List ai_P) (skip : Bool) (pc : Nat) (L S : List ai_V) (G : ai_G) (os : List (ai_R × ai_G)) (r : Nat → Int) (ad : Nat → Nat) (H : Heap) (locs : List Loc) (ls : Array Slot) (st : List Value),
    ai_run code hand bud cbud dflt kind callee ann n act skip pc L S G = some os → (∀ f ∈ os, f ∈ outs) → ai_Rel D tyc A s sa ws0 nL r ad L S G H locs ls st → ai_ext N0 r0 r → ai_ext n0 ad0 ad → N0 ≤ G.1.1 → n0 ≤ G.2.1.1 →
    (∀ P ∈ act, P.2.2.2.2.2.2.1.1 ≤ G.1.1 ∧ P.2.2.2.2.2.2.2.1.1 ≤ G.2.1.1 ∧ ai_Hy p l e R s m args below meth c (vx_MQ below (ai_Qc D tyc A sa ws0 r0 ad0 N0 n0 outs) (ai_XC D tyc A sa ws0 r0 ad0 N0 n0 outs) args s mc ms A) D tyc A sa ws0 nL N0 n0 r ad P) →
    W p l e R s m args below meth c H locs G.2.2.1 G.2.2.2 (vx_MQ below (ai_Qc D tyc A sa ws0 r0 ad0 N0 n0 outs) (ai_XC D tyc A sa ws0 r0 ad0 N0 n0 outs) args s mc ms A) (F0 m pc ls st) := by
  intro n
  induction n with
  | zero => intro act skip pc L S G os r ad H locs ls st h; cases h
  | succ n ih =>
    intro act skip pc L S G os r ad H locs ls st h hos hR h1 h2 h3 h4 hact
    have hb0 : 0 < G.1.1 := hR.env.2.1
    unfold ai_run at h
    split at h
    · -- a marked place
      rename_i An cut gd eA
      split at h
      · -- again at the head
        rename_i eag
        unfold ai_again at eag
        split at eag
        · cases eag
        · rename_i pc0 base t up L' S' G' ea
          obtain ⟨hP, rfl⟩ := ai_act_ok ea
          obtain ⟨p1, p2, ⟨q1, q2, q3, q4, q5⟩, ⟨q6, q7, q8⟩, q9, q10, q11, q12⟩ := hact _ hP
          split at eag
          · rename_i y ey
            have en := eag
            have p1 : G'.1.1 ≤ G.1.1 := p1
            obtain ⟨r2, g1, g2, g3, g4, g5, g6⟩ := ai_in_ok ey hR q1 (Nat.le_trans q2 p1) q2 q6 q7 q8 (fun q hq => ⟨(q11.2.2.2.1 q hq).1, fun _ => (q11.2.2.2.1 q hq).2, q9 q hq⟩) (fun q hq => ⟨(q10 q hq).1, (q10 q hq).2.1, (q10 q hq).2.2, (q11.2.2.2.2 q hq).2.2.2⟩) r (fun u hu1 hu2 _ => ⟨q11.2.2.1 u hu2, fun q hq e => by rw [← e]; exact (q11.2.2.2.1 q hq).2⟩)
            obtain ⟨cc9, c1, c2, c3⟩ := ai_near_ok en
            have hrt : r2 t = r t + cc9 := g2 t _ c1
            have hme : ai_meas up (r2 t) < ai_meas up (r t) := by
              have b1 := (hR.env.2.2.1 t (Nat.lt_of_lt_of_le q3 p1))
              have b2 := (g3.env.2.2.1 t q3)
              unfold ai_meas
              cases up with
              | true =>
                have := c2 rfl
                show (ai_hi64 - r2 t).toNat < (ai_hi64 - r t).toNat
                omega
              | false =>
                have := c3 rfl
                show (r2 t - ai_lo64).toNat < (r t - ai_lo64).toNat
                omega
            rw [← g5, ← g6]
            exact q12 r2 ad g1 (fun _ _ => rfl) hme H locs ls st g3
          · cases eag
      · -- at the head for the first time
        split at h
        · cases h
        · rename_i L' G' eg
          obtain ⟨a1, a2, a3, a4, a5, a6, a7⟩ := ai_gen_ok eg hR
          split at h
          · cases h
          · rename_i y ey
            split at h
            · cases h
            · rename_i ec
              split at h
              · rename_i t et
                have hG : ai_base G = G.1.1 := rfl
                rw [hG] at h ey ec
                have htN : t < G'.1.1 := by
                  have hne : ai_lget L' An.2.2.2.2.1 ≠ .inr (.inr none) := by rw [et]; exact fun q => by cases q
                  have := a3 _ (ai_lget_mem hne)
                  rw [et] at this
                  exact this
                obtain ⟨r2, g1, g2, g3, g4, g5, g6⟩ := ai_in_ok ey hR hb0 (Nat.le_refl _) a1 a3 a4 a5 a6 a7 (fun _ => 0) (fun u hu1 hu2 e => absurd e (ai_cov_ok ec u hu1 (by have e9 : Nat.sub G'.1.1 G.1.1 = G'.1.1 - G.1.1 := rfl; omega)))
                have key : ∀ (k : Nat) (r2 : Nat → Int) (ad2 : Nat → Nat) (H : Heap) (locs : List Loc) (ls : Array Slot) (st : List Value), ai_meas An.2.2.2.2.2 (r2 t) = k → (∀ u, u < G.1.1 → r2 u = r u) → (∀ q, q < G'.2.1.1 → ad2 q = ad q) → ai_Rel D tyc A s sa ws0 nL r2 ad2 L' S G' H locs ls st →
                    W p l e R s m args below meth c H locs G'.2.2.1 G'.2.2.2 (vx_MQ below (ai_Qc D tyc A sa ws0 r0 ad0 N0 n0 outs) (ai_XC D tyc A sa ws0 r0 ad0 N0 n0 outs) args s mc ms A) (F0 m pc ls st) := by
                  intro k
                  induction k using Nat.strongRecOn with
                  | _ k ihk =>
                    intro r2 ad2 H locs ls st hk hr2 had2 hR2
                    obtain ⟨⟨pcf, Lf, Sf, Ef, hf2⟩, hf, k1, k2, k3, k4, k5⟩ := ai_slit_ok (cut := cut) (pc := pc) hR2
                    obtain ⟨of, o1, o2⟩ := ai_many_ok h _ hf
                    have k1 : pcf = pc := k1
                    have k2 : Sf = S := k2
                    have k4 : Ef.1 = G'.1.1 := k4
                    have k5 : hf2 = G'.2 := k5
                    subst k1
                    subst k2
                    subst k5
                    have k3 : ai_Rel D tyc A s sa ws0 nL r2 ad2 Lf Sf (Ef, G'.2) H locs ls st := k3
                    refine ih _ true pcf Lf Sf (Ef, G'.2) of r2 ad2 H locs ls st o1 (fun g hg => hos g (o2 g hg)) k3 (fun u hu => (hr2 u (Nat.lt_of_lt_of_le hu h3)).trans (h1 u hu)) (fun q hq => (had2 q (by omega)).trans (h2 q hq)) (by show N0 ≤ Ef.1; rw [k4]; exact Nat.le_trans h3 a1) (by show n0 ≤ G'.2.1.1; omega) (fun P hP => ?_)
                    show P.2.2.2.2.2.2.1.1 ≤ Ef.1 ∧ P.2.2.2.2.2.2.2.1.1 ≤ G'.2.1.1 ∧ _
                    rw [k4]
                    rcases List.mem_cons.mp hP with rfl | hP
                    · refine ⟨Nat.le_refl _, Nat.le_refl _, ⟨hb0, a1, htN, h3, by omega⟩, ⟨a3, a4, a5⟩, fun q hq => (a6 q hq).2.2, fun q hq => ⟨(a7 q hq).1, (a7 q hq).2.1, (a7 q hq).2.2.1⟩, hR2.env, fun r3 ad3 k1 k2 k3 H3 locs3 ls3 st3 hR3 => ?_⟩
                      exact ihk _ (by rw [← hk]; exact k3) r3 ad3 H3 locs3 ls3 st3 rfl (fun u hu => (k1 u hu).trans (hr2 u hu)) (fun q hq => (k2 q hq).trans (had2 q hq)) hR3
                    · obtain ⟨b1, b2, b3⟩ := hact P hP
                      exact ⟨Nat.le_trans b1 a1, by omega, b3.ext (fun u hu => hr2 u (Nat.lt_of_lt_of_le hu b1)) (fun q hq => had2 q (by omega))⟩
                rw [← g5, ← g6]
                exact key _ r2 ad H locs ls st rfl g1 (fun _ _ => rfl) g3
              · cases h
    · -- an instruction
      split at h
      · cases h
      · rename_i i len a b ec
        obtain ⟨d1, d2, d3, d4, d5⟩ := hcode pc i len a b ec
        split at h
        · cases h
        · rename_i fs es
          refine ai_step_ok F hini d2 d3 d1 es hR (fun f hf => ?_)
          obtain ⟨o, e1, e2⟩ := ai_many_ok h f hf
          intro r' ad' x1 x2 x3 x4 H1 locs1 ls1 st1 hR1
          exact ih act false f.1 f.2.1 f.2.2.1 f.2.2.2 o r' ad' H1 locs1 ls1 st1 e1 (fun g hg => hos g (e2 g hg)) hR1 (h1.trans x1 h3) (h2.trans x2 h4) (Nat.le_trans h3 x3) (Nat.le_trans h4 x4) (fun P hP => by
            obtain ⟨b1, b2, b3⟩ := hact P hP
            exact ⟨Nat.le_trans b1 x3, Nat.le_trans b2 x4, b3.ext (x1.mono b1) (x2.mono b2)⟩)
        · rename_i mi aa S' pc' es
          obtain ⟨E, hh, cs, sl⟩ := G
          dsimp only at h
          cases eb : cbud mi with
          | mk bc bs =>
          rw [eb] at h
          dsimp only at h
          split at h
          · rename_i eb1 eb2
            have eb1 := Nat.le_of_ble_eq_true eb1
            have eb2 := Nat.le_of_ble_eq_true eb2
            split at h
            · cases h
            · rename_i co eco
              split at h
              · cases h
              · rename_i ecalm
                obtain ⟨hx, hb, hml, hts, hown, hSt0, hA, hbud, hcls, hroom0, hlocks⟩ := F
                obtain ⟨m1, m2, m3, m4⟩ := hrm mi
                rw [eb] at m3 m4
                have m3 : (rm mi).cells = bc := m3
                have m4 : (rm mi).slots = bs := m4
                obtain ⟨hmi, hpc, As, rest, hrest, hRun⟩ := ai_invoke_ok (e := e) (below := below) (y := mt mi) (rm := rm mi) ⟨hx, hb, hml, hts, hown, hSt0, hA, hbud, hcls, hroom0, hlocks⟩ hgood hnk (fun q q2 => by rw [q]; exact d5 q2) (hmt _ _ _ _ eco) ⟨m1, m2⟩ d1 es ecalm hR (hcall _ _ _ _ eco) (by rw [m3, m4, ← hbud.1, ← hbud.2]; exact ⟨eb1, eb2⟩)
                subst hpc
                rw [m3, m4] at hRun
                obtain ⟨hWd, hS, hL, hSt⟩ := hR.wd
                have hact' : ∀ {r' : Nat → Int} {ad' : Nat → Nat} {G1 : ai_G}, ai_ext E.1 r r' → ai_ext hh.1 ad ad' → E.1 ≤ G1.1.1 → hh.1 ≤ G1.2.1.1 → ∀ P ∈ act, P.2.2.2.2.2.2.1.1 ≤ G1.1.1 ∧ P.2.2.2.2.2.2.2.1.1 ≤ G1.2.1.1 ∧ ai_Hy p l e R s m args below meth c (vx_MQ below (ai_Qc D tyc A sa ws0 r0 ad0 N0 n0 outs) (ai_XC D tyc A sa ws0 r0 ad0 N0 n0 outs) args s mc ms A) D tyc A sa ws0 nL N0 n0 r' ad' P := fun {r' ad' G1} x1 x2 x3 x4 P hP => by
                  obtain ⟨b1, b2, b3⟩ := hact P hP
                  exact ⟨Nat.le_trans b1 x3, Nat.le_trans b2 x4, b3.ext (x1.mono b1) (x2.mono b2)⟩
                refine ai_back_ok hRun hS (fun f hf x hx9 r' ad' x1 x2 x3 x4 H1 locs1 v hW1 hS1 hv => ?_) (fun f hf z hz r' ad' x1 x2 x3 x4 H1 locs1 q ce hW1 hS1 hq hcv hcl => ?_)
                · obtain ⟨o, e1, e2⟩ := ai_each_ok h f hf
                  obtain ⟨fx, E1, h9, c9, s9⟩ := f
                  have hx9 : fx = .inr x := hx9
                  subst hx9
                  dsimp only at e1
                  have hL1 := hL.mono x1 x2 x3 x4
                  have hr1 := hrest.mono x1 x2 x3 x4
                  have hW2 : ai_Wd D tyc A sa ws0 r' ad' (E1, h9, cs + bc, sl + bs) H1 := hW1
                  cases x with
                  | none =>
                    have hv : v = none := hv
                    subst hv
                    exact ih act false (pc + 3) L S' (E1, h9, cs + bc, sl + bs) o r' ad' H1 locs1 ls rest e1 (fun g hg => hos g (e2 g hg)) (hW2.rel hS1 hL1 hr1) (h1.trans x1 h3) (h2.trans x2 h4) (Nat.le_trans h3 x3) (Nat.le_trans h4 x4) (hact' x1 x2 x3 x4)
                  | some a =>
                    obtain ⟨w, rfl, hw⟩ := hv
                    exact ih act false (pc + 3) L (a :: S') (E1, h9, cs + bc, sl + bs) o r' ad' H1 locs1 ls (w :: rest) e1 (fun g hg => hos g (e2 g hg)) (hW2.rel hS1 hL1 ⟨hw, hr1⟩) (h1.trans x1 h3) (h2.trans x2 h4) (Nat.le_trans h3 x3) (Nat.le_trans h4 x4) (hact' x1 x2 x3 x4)
                · obtain ⟨o, e1, e2⟩ := ai_each_ok h f hf
                  obtain ⟨fx, E1, h9, c9, s9⟩ := f
                  have hz : fx = .inl z := hz
                  subst hz
                  dsimp only at e1
                  have hL1 := hL.mono x1 x2 x3 x4
                  have hW2 : ai_Wd D tyc A sa ws0 r' ad' (E1, h9, cs + bc, sl + bs) H1 := hW1
                  have hh9 := hhand pc z
                  cases eh : hand pc z with
                  | none =>
                    rw [eh] at e1 hh9
                    dsimp only at e1
                    cases e1
                    exact vx_out hh9 hlocks hq hcv hcl (fun t ht _ => ⟨_, hos _ (e2 _ List.mem_cons_self), z, rfl, rfl, r', ad', h1.trans x1 h3, h2.trans x2 h4, Nat.le_trans h3 x3, Nat.le_trans h4 x4, by rw [ht]; exact hW2, hS1.F ht, trivial⟩) hS1.2.2 (by show cs + bc ≤ mc; omega) (by show sl + bs ≤ ms; omega)
                  | some kp =>
                    obtain ⟨k, pcn⟩ := kp
                    rw [eh] at e1 hh9
                    dsimp only at e1 hh9
                    rcases hh9 with ⟨z1, z2⟩ | ⟨hk, pre, x, suf, nm, t1, t2, t3, t4, t5, t6, t7⟩
                    · exfalso
                      cases n with
                      | zero => cases e1
                      | succ n =>
                        unfold ai_run at e1
                        rw [z1, z2] at e1
                        cases e1
                    · refine vx_catch (rest := rest) hown pre x suf t1 (fun w hw => (t2 w hw).imp (fun q => q) (fun ⟨q1, nm', q2, q3⟩ => ⟨q1, nm', hts _ q2, hSt0.2.2.2.2.2.2.2.2.2 _ q3⟩)) t3 t4 (hts _ t5) (va_Nw.use (ai_nk_tab (hnk _ t6)) (hSt0.2.2.2.2.2.2.1 _ t6)) hq hcv hcl ?_
                      have go : ∀ ls' : Array Slot, lv_has ls' nL ((k, Value.ref q) :: (ai_pairs ls L).filter (fun q => !(q.1 == k) && !(q.1 + 1 == k && q.2.category == 2))) → W p l e R s m args below meth c H1 locs1 (cs + bc) (sl + bs) (vx_MQ below (ai_Qc D tyc A sa ws0 r0 ad0 N0 n0 outs) (ai_XC D tyc A sa ws0 r0 ad0 N0 n0 outs) args s mc ms A) (F0 m pcn ls' []) := fun ls' hl' =>
                        ih act false pcn (ai_lset L k (.inr (.inr none))) [] (E1, h9, cs + bc, sl + bs) o r' ad' H1 locs1 ls' [] e1 (fun g hg => hos g (e2 g hg)) (hW2.rel hS1 (hL1.set' hk trivial hl') trivial) (h1.trans x1 h3) (h2.trans x2 h4) (Nat.le_trans h3 x3) (Nat.le_trans h4 x4) (hact' x1 x2 x3 x4)
                      rcases t7 with ⟨u1, rfl⟩ | ⟨j, u0, u1, rfl⟩
                      · exact lv_astore hx hb u1 (ai_pairs_has hL) hk rfl go
                      · exact lv_astore_n hx hb u1 u0 (ai_pairs_has hL) hk rfl go
          · cases h
        · rename_i x es
          split at h
          · rename_i een
            cases h
            exact ai_end_ok F hl hret htb d4 (fun w hw => ai_nk_tab (hnk w hw)) d1 een es hR (hos _ List.mem_cons_self) h1 h2 h3 h4 hm
          · cases h
end SX
end
section
/-! METHODS, BY DEPTH OF CALLS -/
noncomputable def ai_rows (t : Option (List (Nat × Nat × Nat × Nat))) : List ExceptionTableEntry := match t with
  | none => []
  | some hh => tableOf hh
noncomputable def ai_rmd (cbud : Nat → Nat × Nat) (d mi : Nat) : Room := { frames := d + 8, cells := (cbud mi).1, slots := (cbud mi).2, locals := 64 * d + 400 }
/-- what the tables say of a method, and of its code -/
noncomputable def ai_Pm (Wg nws : List Cond) (strs : List ai_Z) (mt : Nat → ai_MT) (cbud : Nat → Nat × Nat) (mi nl : Nat) (code : Nat → Option (ClassFile.Instr × Nat × Nat × Nat)) (hand : Nat → Nat → Option (Nat × Nat)) (bud : Nat × Nat) (ann : Nat → Option ai_AA) : Prop :=
  nl = (mt mi).2.2.1 ∧ bud = cbud mi ∧ ai_mok Wg (mt mi) ∧ ai_tab Wg nws strs mt (mt mi).1.cls (decide ((mt mi).1.name = "<init>")) (mt mi).2.2.2.1 (mt mi).2.1 ((mt mi).2.2.2.2.1.getD []) code ∧
  ∀ pc z, match hand pc z with
    | none => ∀ x ∈ ai_rows (mt mi).2.2.2.2.1, covers x pc = false
    | some (k, pcn) => (code pcn = none ∧ ann pcn = none) ∨ ai_hk Wg nws (mt mi).1.cls nl (mt mi).2.1 (ai_rows (mt mi).2.2.2.2.1) pc z k pcn
theorem ai_pad_ok {r : Nat → Int} {ad : Nat → Nat} {N n : Nat} : ∀ {nl : Nat} {aa L : List ai_V} {As : List Value}, ai_pad nl aa = some L → ai_gF r ad N n aa As → L.length = nl ∧ As.length ≤ nl ∧ (∀ v ∈ As, v.category = 1) ∧ ∀ i, ai_lget L i ≠ .inr (.inr none) → ∃ v, As[i]? = some v ∧ ai_gV r ad N n (ai_lget L i) v
  | 0, [], L, As, h, hA => by
    cases h
    cases As with
    | nil => exact ⟨rfl, Nat.le_refl _, fun v hv => (by cases hv), fun i hi => absurd rfl hi⟩
    | cons v t => exact hA.elim
  | 0, _ :: _, _, _, h, _ => by cases h
  | nl + 1, [], L, As, h, hA => by
    unfold ai_pad at h
    split at h
    · rename_i l e
      cases h
      obtain ⟨g1, g2, g3, g4⟩ := ai_pad_ok (As := As) e hA
      cases As with
      | cons v t => exact hA.elim
      | nil => exact ⟨congrArg Nat.succ g1, Nat.zero_le _, fun v hv => (by cases hv), fun i hi => by
        cases i with
        | zero => exact absurd rfl hi
        | succ i =>
          obtain ⟨v, k1, -⟩ := g4 i hi
          cases k1⟩
    · cases h
  | nl + 1, a :: aa, L, As, h, hA => by
    unfold ai_pad at h
    split at h
    · rename_i l e e1
      cases h
      obtain ⟨v, t, rfl, f1, f2⟩ := hA.cons
      obtain ⟨g1, g2, g3, g4⟩ := ai_pad_ok e f2
      refine ⟨congrArg Nat.succ g1, Nat.succ_le_succ g2, fun w hw => ?_, fun i hi => ?_⟩
      · rcases List.mem_cons.mp hw with rfl | hw
        · exact f1.cat.1 e1
        · exact g3 w hw
      · cases i with
        | zero => exact ⟨v, rfl, f1⟩
        | succ i =>
          obtain ⟨w, k1, k2⟩ := g4 i hi
          exact ⟨w, by rw [List.getElem?_cons_succ]; exact k1, k2⟩
    · cases h
theorem ai_args_ok : ∀ {As : List Value} {k i : Nat} {v : Value}, (∀ v ∈ As, v.category = 1) → As[i]? = some v → (k + i, v) ∈ lv_args k As
  | [], _, _, _, _, h => by cases h
  | w :: As, k, 0, v, hc, h => by
    cases h
    exact List.mem_cons_self
  | w :: As, k, i + 1, v, hc, h => by
    have h1 : w.category = 1 := hc _ List.mem_cons_self
    unfold lv_args
    rw [if_neg (by omega)]
    have := ai_args_ok (As := As) (k := k + 1) (i := i) (v := v) (fun u hu => hc u (List.mem_cons_of_mem _ hu)) (by rw [List.getElem?_cons_succ] at h; exact h)
    rw [show k + (i + 1) = k + 1 + i by omega]
    exact List.mem_cons_of_mem _ this
theorem ai_sl_len : ∀ {As : List Value}, (∀ v ∈ As, v.category = 1) → (lg_sl As).length = As.length
  | [], _ => rfl
  | w :: As, hc => by
    have h1 : w.category = 1 := hc _ List.mem_cons_self
    have ih := ai_sl_len (As := As) (fun u hu => hc u (List.mem_cons_of_mem _ hu))
    have e : lg_sl (w :: As) = [.val w] ++ lg_sl As := by
      unfold lg_sl
      rw [List.flatMap_cons, if_neg (by omega)]
    rw [e, List.length_append, ih]
    show 1 + As.length = As.length + 1
    omega
theorem ai_entry_ok {r : Nat → Int} {ad : Nat → Nat} {N n nl : Nat} {aa L : List ai_V} {As : List Value} (h : ai_pad nl aa = some L) (hA : ai_gF r ad N n aa As) : ai_gL r ad N n nl L ((lg_sl As ++ List.replicate (nl - (lg_sl As).length) Slot.unset).toArray) := by
  obtain ⟨g1, g2, g3, g4⟩ := ai_pad_ok h hA
  have hv := lv_entry As (n := nl) (by rw [ai_sl_len g3]; exact g2)
  refine ⟨g1, hv.1, hv.2.1, fun i hi => ?_⟩
  obtain ⟨v, k1, k2⟩ := g4 i hi
  have := hv.2.2 _ (ai_args_ok (k := 0) g3 k1)
  rw [Nat.zero_add] at this
  exact ⟨v, this, k2⟩
theorem ai_meth_some {prog : Nat → Option ai_M} {cbud : Nat → Nat × Nat} {dflt : Nat → List ai_V} {kind : Nat → Nat → Nat} {fuel : Nat} : ∀ {d mi : Nat} {aa : List ai_V} {G : ai_G} {outs : List (ai_R × ai_G)}, ai_meth prog cbud dflt kind fuel d mi aa G = some outs → ∃ q, prog mi = some q
  | 0, mi, aa, G, outs, h => by cases h
  | d + 1, mi, aa, G, outs, h => by
    unfold ai_meth at h
    split at h
    · cases h
    · rename_i q
      exact ⟨_, q⟩
set_option maxHeartbeats 1000000 in
theorem ai_meth_ok {l : Launch} {D : va_G} {tyc : Nat → ClassId} {A : Nat → Prop} {sa : ai_B} {strs : List ai_Z} {nws Wg : List Cond} {mt : Nat → ai_MT} {prog : Nat → Option ai_M} {cbud : Nat → Nat × Nat} {dflt : Nat → List ai_V} {kind : Nat → Nat → Nat} {fuel : Nat} (hl : l.stackTraces = false) (hgood : ∀ w ∈ Wg, goodWord w = true) (hnk : ∀ w ∈ nws, ai_nk w = true) (hcls : ∀ ci, ci < 13 → ai_cls Wg dflt kind ci)
    (hprog : ∀ mi nl code hand bud ann, prog mi = some (nl, code, hand, bud, ann) → ai_Pm Wg nws strs mt cbud mi nl code hand bud ann) : ∀ (d mi : Nat) (aa : List ai_V) (G : ai_G) (outs : List (ai_R × ai_G)), ai_meth prog cbud dflt kind fuel d mi aa G = some outs → ai_Ct l D tyc A sa strs nws Wg (mt mi) (ai_rmd cbud d mi) aa G outs := by
  intro d
  induction d with
  | zero => intro mi aa G outs h; cases h
  | succ d ih =>
    intro mi aa G outs h ws0 r ad H0 As hWd hA
    unfold ai_meth at h
    split at h
    · cases h
    · rename_i nl code hand bud ann ep
      obtain ⟨e1, e2, mok, htab, hhand⟩ := hprog mi nl code hand bud ann ep
      split at h
      · cases h
      · rename_i L epad
        have body : ∀ (p : Program) (e : Env) (s : State) (m : MethodId) (args : Array Value) (below : List Frame) (meth : Method) (c : Code) (s₁ : State), BodyLoose p l (mt mi).1 (headSpec (ai_cw (mt mi) :: Wg) (ai_rmd cbud (d + 1) mi)) (mt mi).2.1 (mt mi).2.2.1 (mt mi).2.2.2.1 e s m args below meth c s₁ → c.maxLocals = (mt mi).2.2.1 → c.exceptionTable.toList = ai_rows (mt mi).2.2.2.2.1 → (args = As.toArray ∧ s.heap = H0 ∧ ai_St D tyc A sa strs nws s ∧ ∀ q, H0.size ≤ q → A q) →
            W p l e (headSpec (ai_cw (mt mi) :: Wg) (ai_rmd cbud (d + 1) mi)).room s m args below meth c s.heap [] 0 0 (vx_MQ below (ai_Qc D tyc A sa ws0 r ad G.1.1 G.2.1.1 outs) (ai_XC D tyc A sa ws0 r ad G.1.1 G.2.1.1 outs) args s (ai_rmd cbud (d + 1) mi).cells (ai_rmd cbud (d + 1) mi).slots A) (entryFrame m args (mt mi).2.2.1) := by
          intro p e s m args below meth c s₁ B hml hrows ⟨hargs, hheap, hSt, hA0⟩
          have hts : ∀ w ∈ Wg, w.before args s = true := fun w hw => atoms_spec (ws := ai_cw (mt mi) :: Wg) B.pre w (List.mem_cons_of_mem _ hw)
          have F : ai_Fr p (ai_rmd cbud (d + 1) mi) s m args meth c D tyc A sa nl (mt mi).2.1 (mt mi).1.cls Wg strs nws bud dflt kind := ⟨B.exec, B.bytes, hml.trans e1.symm, hts, findClass_of_methodNamed B.named, hSt, by rw [hheap]; exact hA0, by rw [e2]; exact ⟨rfl, rfl⟩, hcls, ⟨by show 8 ≤ d + 1 + 8; omega, by show 400 ≤ 64 * (d + 1) + 400; omega⟩, B.notSynchronized⟩
          have hsl : ∀ x ∈ c.exceptionTable.toList, (mt mi).2.2.2.2.1.getD [] = [] → False := fun x hx q => by
            rw [hrows] at hx
            cases et : (mt mi).2.2.2.2.1 with
            | none => rw [et] at hx; cases hx
            | some hh =>
              rw [et] at hx q
              have q : hh = [] := q
              subst q
              exact absurd hx (by unfold ai_rows; simp [tableOf])
          have R0 := ai_run_ok (e := e) (below := below) (R := ai_rmd cbud (d + 1) mi) (ws0 := ws0) (r0 := r) (ad0 := ad) (N0 := G.1.1) (n0 := G.2.1.1) (mc := (ai_rmd cbud (d + 1) mi).cells) (ms := (ai_rmd cbud (d + 1) mi).slots) (outs := outs) (cbud := cbud) (mt := mt) (rm := ai_rmd cbud d) (callee := ai_meth prog cbud dflt kind fuel d) (ann := ann) (code := code) (hand := hand) (tb := (mt mi).2.2.2.2.1.getD []) (ret := (mt mi).2.2.2.1) (ini := decide ((mt mi).1.name = "<init>")) F hl B.returns (fun q x hx => hsl x hx q) hgood hnk (fun q => (name_of_methodNamed B.named B.method).1.trans (of_decide_eq_true q)) htab
            (fun mj aa' G' o ho => by
              obtain ⟨⟨nl', code', hand', bud', ann'⟩, hq⟩ := ai_meth_some ho
              exact (hprog _ _ _ _ _ _ hq).2.2.1)
            (by rw [hrows]; exact hhand) (fun mj => ⟨by show d + 8 + 1 ≤ d + 1 + 8; omega, by show 64 * d + 400 + 64 ≤ 64 * (d + 1) + 400; omega, rfl, rfl⟩) (fun mj aa' G' o ho => ih mj aa' G' o ho) (by rw [e2]; exact ⟨Nat.le_refl _, Nat.le_refl _⟩)
            fuel [] false 0 L [] G outs r ad s.heap [] ((lg_sl As ++ List.replicate (nl - (lg_sl As).length) Slot.unset).toArray) [] h (fun f hf => hf) ((show ai_Wd D tyc A sa ws0 r ad G s.heap by rw [hheap]; exact hWd).rel va_S.rf (ai_entry_ok epad hA) trivial) ai_ext.rfl' ai_ext.rfl' (Nat.le_refl _) (Nat.le_refl _) (fun P hP => by cases hP)
          subst hargs
          have e3 : entryFrame m As.toArray (mt mi).2.2.1 = F0 m 0 ((lg_sl As ++ List.replicate (nl - (lg_sl As).length) Slot.unset).toArray) [] := by
            rw [← e1]
            exact lg_entry_eq m As nl
          rw [e3]
          exact W.widen (Nat.zero_le _) (Nat.zero_le _) R0
        unfold ai_cw at body ⊢
        cases et : (mt mi).2.2.2.2.1 with
        | none =>
          rw [et] at body
          exact vx_ofW mok.1 rfl (fun p e s m args below meth c s₁ B hml ht hP => body p e s m args below meth c s₁ B hml (by
            show c.exceptionTable.toList = []
            cases ec : c.exceptionTable.toList with
            | nil => rfl
            | cons x t => exact (ht x (by rw [ec]; exact List.mem_cons_self)).elim) hP)
        | some hh =>
          rw [et] at body
          exact vx_ofWH mok.1 rfl (fun p e s m args below meth c s₁ B hml hP => body p e s m args below meth c s₁ B hml (vx_table (x := (mt mi).1) B (atoms_spec (ws := Cond.codeWith (mt mi).1 (mt mi).2.1 (mt mi).2.2.1 (mt mi).2.2.2.1 hh :: Wg) B.pre _ List.mem_cons_self)) hP)
end
section
/-! THE SAME RUN, LAID OUT FOR THE KERNEL: an instruction of the table holds its own function -/
abbrev ai_U : Type := (Nat × Nat) → (Nat → List ai_V) → (Nat → Nat → Nat) → Nat → Nat → Nat → Nat → List ai_V → List ai_V → ai_G → Option ai_S
abbrev fr_J : Type := (i : ClassFile.Instr) × {q : ai_U × Bool × (List (ai_R × ai_G) → Bool) // q = (ai_step i, ai_ends i, ai_calm i)}
noncomputable def gs_iconst (n : Int) : ai_U := fun bud dflt kind pc nx a b L S G => ai_go nx L (.inl (0, n) :: S) G
noncomputable def js_iconst (n : Int) : fr_J := ⟨.iconst n, ⟨(gs_iconst n, false, fun _ => false), rfl⟩⟩
noncomputable def gs_bipush (n : Int) : ai_U := fun bud dflt kind pc nx a b L S G => ai_go nx L (.inl (0, n) :: S) G
noncomputable def js_bipush (n : Int) : fr_J := ⟨.bipush n, ⟨(gs_bipush n, false, fun _ => false), rfl⟩⟩
noncomputable def gs_sipush (n : Int) : ai_U := fun bud dflt kind pc nx a b L S G => ai_go nx L (.inl (0, n) :: S) G
noncomputable def js_sipush (n : Int) : fr_J := ⟨.sipush n, ⟨(gs_sipush n, false, fun _ => false), rfl⟩⟩
noncomputable def gs_lconst (n : Fin 2) : ai_U := fun bud dflt kind pc nx a b L S G => ai_go nx L (.inr (.inl (0, .ofNat n.val)) :: S) G
noncomputable def js_lconst (n : Fin 2) : fr_J := ⟨.lconst n, ⟨(gs_lconst n, false, fun _ => false), rfl⟩⟩
noncomputable def gs_ldc (u0 : Nat) : ai_U := fun bud dflt kind pc nx a b L S G => match a with
    | 0 => ai_go nx L (.inl (0, Int.ofNat b - 2147483648) :: S) G
    | _ + 1 => ai_go nx L (.inr (.inr (some (some b))) :: S) G
noncomputable def js_ldc (u0 : Nat) : fr_J := ⟨.ldc u0, ⟨(gs_ldc u0, false, fun _ => false), rfl⟩⟩
noncomputable def gs_ldc_w (u0 : Nat) : ai_U := fun bud dflt kind pc nx a b L S G => match a with
    | 0 => ai_go nx L (.inl (0, Int.ofNat b - 2147483648) :: S) G
    | _ + 1 => none
noncomputable def js_ldc_w (u0 : Nat) : fr_J := ⟨.ldc_w u0, ⟨(gs_ldc_w u0, false, fun _ => false), rfl⟩⟩
noncomputable def gs_iload (n : Nat) : ai_U := fun bud dflt kind pc nx a b L S G => ai_load ai_int n nx L S G
noncomputable def js_iload (n : Nat) : fr_J := ⟨.iload n, ⟨(gs_iload n, false, fun _ => false), rfl⟩⟩
noncomputable def gs_iload_n (n : Fin 4) : ai_U := fun bud dflt kind pc nx a b L S G => ai_load ai_int n.val nx L S G
noncomputable def js_iload_n (n : Fin 4) : fr_J := ⟨.iload_n n, ⟨(gs_iload_n n, false, fun _ => false), rfl⟩⟩
noncomputable def gs_lload (n : Nat) : ai_U := fun bud dflt kind pc nx a b L S G => ai_load ai_lng n nx L S G
noncomputable def js_lload (n : Nat) : fr_J := ⟨.lload n, ⟨(gs_lload n, false, fun _ => false), rfl⟩⟩
noncomputable def gs_lload_n (n : Fin 4) : ai_U := fun bud dflt kind pc nx a b L S G => ai_load ai_lng n.val nx L S G
noncomputable def js_lload_n (n : Fin 4) : fr_J := ⟨.lload_n n, ⟨(gs_lload_n n, false, fun _ => false), rfl⟩⟩
noncomputable def gs_aload (n : Nat) : ai_U := fun bud dflt kind pc nx a b L S G => ai_load ai_ref n nx L S G
noncomputable def js_aload (n : Nat) : fr_J := ⟨.aload n, ⟨(gs_aload n, false, fun _ => false), rfl⟩⟩
noncomputable def gs_aload_n (n : Fin 4) : ai_U := fun bud dflt kind pc nx a b L S G => ai_load ai_ref n.val nx L S G
noncomputable def js_aload_n (n : Fin 4) : fr_J := ⟨.aload_n n, ⟨(gs_aload_n n, false, fun _ => false), rfl⟩⟩
noncomputable def gs_istore (n : Nat) : ai_U := fun bud dflt kind pc nx a b L S G => ai_stor ai_int n nx L S G
noncomputable def js_istore (n : Nat) : fr_J := ⟨.istore n, ⟨(gs_istore n, false, fun _ => false), rfl⟩⟩
noncomputable def gs_istore_n (n : Fin 4) : ai_U := fun bud dflt kind pc nx a b L S G => ai_stor ai_int n.val nx L S G
noncomputable def js_istore_n (n : Fin 4) : fr_J := ⟨.istore_n n, ⟨(gs_istore_n n, false, fun _ => false), rfl⟩⟩
noncomputable def gs_astore (n : Nat) : ai_U := fun bud dflt kind pc nx a b L S G => ai_stor ai_ref n nx L S G
noncomputable def js_astore (n : Nat) : fr_J := ⟨.astore n, ⟨(gs_astore n, false, fun _ => false), rfl⟩⟩
noncomputable def gs_astore_n (n : Fin 4) : ai_U := fun bud dflt kind pc nx a b L S G => ai_stor ai_ref n.val nx L S G
noncomputable def js_astore_n (n : Fin 4) : fr_J := ⟨.astore_n n, ⟨(gs_astore_n n, false, fun _ => false), rfl⟩⟩
noncomputable def gs_lstore (n : Nat) : ai_U := fun bud dflt kind pc nx a b L S G => ai_stol n nx L S G
noncomputable def js_lstore (n : Nat) : fr_J := ⟨.lstore n, ⟨(gs_lstore n, false, fun _ => false), rfl⟩⟩
noncomputable def gs_lstore_n (n : Fin 4) : ai_U := fun bud dflt kind pc nx a b L S G => ai_stol n.val nx L S G
noncomputable def js_lstore_n (n : Fin 4) : fr_J := ⟨.lstore_n n, ⟨(gs_lstore_n n, false, fun _ => false), rfl⟩⟩
noncomputable def gs_iinc (n : Nat) (k : Int) : ai_U := fun bud dflt kind pc nx a b L S G => match ai_lget L n with
    | .inl x => match G with
      | (E, h, c, s) => match ai_bin E 0 x (0, k) with
        | (z, E) => match Nat.blt n L.length with
          | true => ai_go nx (ai_lset L n (.inl z)) S (E, h, c, s)
          | false => none
    | _ => none
noncomputable def js_iinc (n : Nat) (k : Int) : fr_J := ⟨.iinc n k, ⟨(gs_iinc n k, false, fun _ => false), rfl⟩⟩
noncomputable def gs_iadd : ai_U := fun bud dflt kind pc nx a b L S G => ai_s2 0 nx L S G
noncomputable def js_iadd : fr_J := ⟨.iadd, ⟨(gs_iadd, false, fun _ => false), rfl⟩⟩
noncomputable def gs_isub : ai_U := fun bud dflt kind pc nx a b L S G => ai_s2 1 nx L S G
noncomputable def js_isub : fr_J := ⟨.isub, ⟨(gs_isub, false, fun _ => false), rfl⟩⟩
noncomputable def gs_imul : ai_U := fun bud dflt kind pc nx a b L S G => ai_s2 2 nx L S G
noncomputable def js_imul : fr_J := ⟨.imul, ⟨(gs_imul, false, fun _ => false), rfl⟩⟩
noncomputable def gs_idiv : ai_U := fun bud dflt kind pc nx a b L S G => match S with
    | .inl y :: _ => match ai_nz G.1 y with
      | true => ai_s2 3 nx L S G
      | false => none
    | _ => none
noncomputable def js_idiv : fr_J := ⟨.idiv, ⟨(gs_idiv, false, fun _ => false), rfl⟩⟩
noncomputable def gs_irem : ai_U := fun bud dflt kind pc nx a b L S G => match S with
    | .inl y :: _ => match ai_nz G.1 y with
      | true => ai_s2 4 nx L S G
      | false => none
    | _ => none
noncomputable def js_irem : fr_J := ⟨.irem, ⟨(gs_irem, false, fun _ => false), rfl⟩⟩
noncomputable def gs_iand : ai_U := fun bud dflt kind pc nx a b L S G => ai_s2 5 nx L S G
noncomputable def js_iand : fr_J := ⟨.iand, ⟨(gs_iand, false, fun _ => false), rfl⟩⟩
noncomputable def gs_ior : ai_U := fun bud dflt kind pc nx a b L S G => ai_s2 6 nx L S G
noncomputable def js_ior : fr_J := ⟨.ior, ⟨(gs_ior, false, fun _ => false), rfl⟩⟩
noncomputable def gs_ixor : ai_U := fun bud dflt kind pc nx a b L S G => ai_s2 7 nx L S G
noncomputable def js_ixor : fr_J := ⟨.ixor, ⟨(gs_ixor, false, fun _ => false), rfl⟩⟩
noncomputable def gs_ishl : ai_U := fun bud dflt kind pc nx a b L S G => ai_s2 8 nx L S G
noncomputable def js_ishl : fr_J := ⟨.ishl, ⟨(gs_ishl, false, fun _ => false), rfl⟩⟩
noncomputable def gs_ishr : ai_U := fun bud dflt kind pc nx a b L S G => ai_s2 9 nx L S G
noncomputable def js_ishr : fr_J := ⟨.ishr, ⟨(gs_ishr, false, fun _ => false), rfl⟩⟩
noncomputable def gs_iushr : ai_U := fun bud dflt kind pc nx a b L S G => ai_s2 10 nx L S G
noncomputable def js_iushr : fr_J := ⟨.iushr, ⟨(gs_iushr, false, fun _ => false), rfl⟩⟩
noncomputable def gs_ineg : ai_U := fun bud dflt kind pc nx a b L S G => match S with
    | .inl y :: S => ai_s2 1 nx L (.inl y :: .inl (0, 0) :: S) G
    | _ => none
noncomputable def js_ineg : fr_J := ⟨.ineg, ⟨(gs_ineg, false, fun _ => false), rfl⟩⟩
noncomputable def gs_ladd : ai_U := fun bud dflt kind pc nx a b L S G => ai_l2 20 nx L S G
noncomputable def js_ladd : fr_J := ⟨.ladd, ⟨(gs_ladd, false, fun _ => false), rfl⟩⟩
noncomputable def gs_lsub : ai_U := fun bud dflt kind pc nx a b L S G => ai_l2 21 nx L S G
noncomputable def js_lsub : fr_J := ⟨.lsub, ⟨(gs_lsub, false, fun _ => false), rfl⟩⟩
noncomputable def gs_lmul : ai_U := fun bud dflt kind pc nx a b L S G => ai_l2 22 nx L S G
noncomputable def js_lmul : fr_J := ⟨.lmul, ⟨(gs_lmul, false, fun _ => false), rfl⟩⟩
noncomputable def gs_ldiv : ai_U := fun bud dflt kind pc nx a b L S G => match S with
    | .inr (.inl y) :: _ => match ai_nz G.1 y with
      | true => ai_l2 23 nx L S G
      | false => none
    | _ => none
noncomputable def js_ldiv : fr_J := ⟨.ldiv, ⟨(gs_ldiv, false, fun _ => false), rfl⟩⟩
noncomputable def gs_lrem : ai_U := fun bud dflt kind pc nx a b L S G => match S with
    | .inr (.inl y) :: _ => match ai_nz G.1 y with
      | true => ai_l2 24 nx L S G
      | false => none
    | _ => none
noncomputable def js_lrem : fr_J := ⟨.lrem, ⟨(gs_lrem, false, fun _ => false), rfl⟩⟩
noncomputable def gs_lneg : ai_U := fun bud dflt kind pc nx a b L S G => match S with
    | .inr (.inl y) :: S => ai_l2 21 nx L (.inr (.inl y) :: .inr (.inl (0, 0)) :: S) G
    | _ => none
noncomputable def js_lneg : fr_J := ⟨.lneg, ⟨(gs_lneg, false, fun _ => false), rfl⟩⟩
noncomputable def gs_lcmp : ai_U := fun bud dflt kind pc nx a b L S G => match S with
    | .inr (.inl y) :: .inr (.inl x) :: S => match G with
      | (E, h, c, s) => match ai_bin E 25 x y with
        | (z, E) => ai_go nx L (.inl z :: S) (E, h, c, s)
    | _ => none
noncomputable def js_lcmp : fr_J := ⟨.lcmp, ⟨(gs_lcmp, false, fun _ => false), rfl⟩⟩
noncomputable def gs_i2l : ai_U := fun bud dflt kind pc nx a b L S G => match S with
    | .inl x :: S => ai_go nx L (.inr (.inl x) :: S) G
    | _ => none
noncomputable def js_i2l : fr_J := ⟨.i2l, ⟨(gs_i2l, false, fun _ => false), rfl⟩⟩
noncomputable def gs_l2i : ai_U := fun bud dflt kind pc nx a b L S G => match S with
    | .inr (.inl x) :: S => match G with
      | (E, h, c, s) => match ai_l2i E x with
        | (z, E) => ai_go nx L (.inl z :: S) (E, h, c, s)
    | _ => none
noncomputable def js_l2i : fr_J := ⟨.l2i, ⟨(gs_l2i, false, fun _ => false), rfl⟩⟩
noncomputable def gs_dup : ai_U := fun bud dflt kind pc nx a b L S G => match S with
    | v :: S => match ai_one v with
      | false => none
      | true => ai_go nx L (v :: v :: S) G
    | _ => none
noncomputable def js_dup : fr_J := ⟨.dup, ⟨(gs_dup, false, fun _ => false), rfl⟩⟩
noncomputable def gs_dup2 : ai_U := fun bud dflt kind pc nx a b L S G => match S with
    | v :: S => match ai_lng v with
      | true => ai_go nx L (v :: v :: S) G
      | false => match S with
        | w :: S => match ai_one v, ai_one w with
          | true, true => ai_go nx L (v :: w :: v :: w :: S) G
          | _, _ => none
        | _ => none
    | _ => none
noncomputable def js_dup2 : fr_J := ⟨.dup2, ⟨(gs_dup2, false, fun _ => false), rfl⟩⟩
noncomputable def gs_pop : ai_U := fun bud dflt kind pc nx a b L S G => match S with
    | v :: S => match ai_one v with
      | false => none
      | true => ai_go nx L S G
    | _ => none
noncomputable def js_pop : fr_J := ⟨.pop, ⟨(gs_pop, false, fun _ => false), rfl⟩⟩
noncomputable def gs_goto (u0 : Int) : ai_U := fun bud dflt kind pc nx a b L S G => ai_go a L S G
noncomputable def js_goto (u0 : Int) : fr_J := ⟨.goto u0, ⟨(gs_goto u0, false, fun _ => false), rfl⟩⟩
noncomputable def gs_ifCond (o : ClassFile.Cond) (u1 : Int) : ai_U := fun bud dflt kind pc nx a b L S G => match S with
    | .inl x :: S => ai_branch (ai_cno o) a nx x (0, 0) L S G
    | _ => none
noncomputable def js_ifCond (o : ClassFile.Cond) (u1 : Int) : fr_J := ⟨.ifCond o u1, ⟨(gs_ifCond o u1, false, fun _ => false), rfl⟩⟩
noncomputable def gs_if_icmp (o : ClassFile.Cond) (u1 : Int) : ai_U := fun bud dflt kind pc nx a b L S G => match S with
    | .inl y :: .inl x :: S => ai_branch (ai_cno o) a nx x y L S G
    | _ => none
noncomputable def js_if_icmp (o : ClassFile.Cond) (u1 : Int) : fr_J := ⟨.if_icmp o u1, ⟨(gs_if_icmp o u1, false, fun _ => false), rfl⟩⟩
noncomputable def gs_tableswitch (d : Int) (lo : Int) (hi : Int) (offs : Array Int) : ai_U := fun bud dflt kind pc nx a b L S G => ai_tsw d lo hi offs.toList pc L S G
noncomputable def js_tableswitch (d : Int) (lo : Int) (hi : Int) (offs : Array Int) : fr_J := ⟨.tableswitch d lo hi offs, ⟨(gs_tableswitch d lo hi offs, false, fun _ => false), rfl⟩⟩
noncomputable def gs_getfield (u0 : Nat) : ai_U := fun bud dflt kind pc nx a b L S G => ai_getf a b nx L S G
noncomputable def js_getfield (u0 : Nat) : fr_J := ⟨.getfield u0, ⟨(gs_getfield u0, false, fun _ => false), rfl⟩⟩
noncomputable def gs_putfield (u0 : Nat) : ai_U := fun bud dflt kind pc nx a b L S G => ai_putf kind a b nx L S G
noncomputable def js_putfield (u0 : Nat) : fr_J := ⟨.putfield u0, ⟨(gs_putfield u0, false, fun _ => false), rfl⟩⟩
noncomputable def gs_iaload : ai_U := fun bud dflt kind pc nx a b L S G => ai_read 0 nx L S G
noncomputable def js_iaload : fr_J := ⟨.iaload, ⟨(gs_iaload, false, fun _ => false), rfl⟩⟩
noncomputable def gs_laload : ai_U := fun bud dflt kind pc nx a b L S G => ai_read 1 nx L S G
noncomputable def js_laload : fr_J := ⟨.laload, ⟨(gs_laload, false, fun _ => false), rfl⟩⟩
noncomputable def gs_baload : ai_U := fun bud dflt kind pc nx a b L S G => ai_read 2 nx L S G
noncomputable def js_baload : fr_J := ⟨.baload, ⟨(gs_baload, false, fun _ => false), rfl⟩⟩
noncomputable def gs_iastore : ai_U := fun bud dflt kind pc nx a b L S G => ai_writ 0 nx L S G
noncomputable def js_iastore : fr_J := ⟨.iastore, ⟨(gs_iastore, false, fun _ => false), rfl⟩⟩
noncomputable def gs_lastore : ai_U := fun bud dflt kind pc nx a b L S G => ai_writ 1 nx L S G
noncomputable def js_lastore : fr_J := ⟨.lastore, ⟨(gs_lastore, false, fun _ => false), rfl⟩⟩
noncomputable def gs_bastore : ai_U := fun bud dflt kind pc nx a b L S G => ai_writ 2 nx L S G
noncomputable def js_bastore : fr_J := ⟨.bastore, ⟨(gs_bastore, false, fun _ => false), rfl⟩⟩
noncomputable def gs_aaload : ai_U := fun bud dflt kind pc nx a b L S G => ai_aget nx L S G
noncomputable def js_aaload : fr_J := ⟨.aaload, ⟨(gs_aaload, false, fun _ => false), rfl⟩⟩
noncomputable def gs_aastore : ai_U := fun bud dflt kind pc nx a b L S G => ai_aput nx L S G
noncomputable def js_aastore : fr_J := ⟨.aastore, ⟨(gs_aastore, false, fun _ => false), rfl⟩⟩
noncomputable def gs_arraylength : ai_U := fun bud dflt kind pc nx a b L S G => ai_alen nx L S G
noncomputable def js_arraylength : fr_J := ⟨.arraylength, ⟨(gs_arraylength, false, fun _ => false), rfl⟩⟩
noncomputable def gs_new (u0 : Nat) : ai_U := fun bud dflt kind pc nx a b L S G => match Nat.ble 2000 a with
    | true => match S with
      | [] => match G with
        | (_, _, c, s) => match Nat.ble (c + 1) bud.1, Nat.ble (s + 6) bud.2 with
          | true, true => some (.inr (.inr (.inl (Nat.sub a 2000))))
          | _, _ => none
      | _ :: _ => none
    | false => match dflt a with
      | fs => ai_make bud (.inl (a, fs)) fs.length nx L S G
noncomputable def js_new (u0 : Nat) : fr_J := ⟨.new u0, ⟨(gs_new u0, true, fun _ => false), rfl⟩⟩
noncomputable def gs_newarray (u0 : ClassFile.ArrayType) : ai_U := fun bud dflt kind pc nx a b L S G => match S with
    | .inl (0, .ofNat n) :: S => match Nat.blt n 1000000 with
      | true => ai_make bud (.inr (.inl (a, n, 0, 0, []))) n nx L S G
      | false => none
    | _ => none
noncomputable def js_newarray (u0 : ClassFile.ArrayType) : fr_J := ⟨.newarray u0, ⟨(gs_newarray u0, false, fun _ => false), rfl⟩⟩
noncomputable def gs_anewarray (u0 : Nat) : ai_U := fun bud dflt kind pc nx a b L S G => match S with
    | .inl (0, .ofNat n) :: S => match Nat.blt n 1000000 with
      | true => ai_make bud (.inr (.inr (a, List.replicate n none))) n nx L S G
      | false => none
    | _ => none
noncomputable def js_anewarray (u0 : Nat) : fr_J := ⟨.anewarray u0, ⟨(gs_anewarray u0, false, fun _ => false), rfl⟩⟩
noncomputable def gs_multianewarray (u0 : Nat) (u1 : Nat) : ai_U := fun bud dflt kind pc nx a b L S G => ai_mult bud nx L S G
noncomputable def js_multianewarray (u0 : Nat) (u1 : Nat) : fr_J := ⟨.multianewarray u0 u1, ⟨(gs_multianewarray u0 u1, false, fun _ => false), rfl⟩⟩
noncomputable def gs_invokevirtual (u0 : Nat) : ai_U := fun bud dflt kind pc nx a b L S G => match Nat.blt a 1000 with
    | true => ai_vcall a (Nat.mod b 64) (Nat.div b 64) nx S G.2.1
    | false => none
noncomputable def js_invokevirtual (u0 : Nat) : fr_J := ⟨.invokevirtual u0, ⟨(gs_invokevirtual u0, false, fun _ => true), rfl⟩⟩
noncomputable def gs_invokespecial (u0 : Nat) : ai_U := fun bud dflt kind pc nx a b L S G => match Nat.beq a 1004 with
    | true => match S with
      | .inr (.inr (some (some _))) :: S => match Nat.ble (ai_words S) 40 with
        | true => ai_go nx L S G
        | false => none
      | _ => none
    | false => match Nat.blt a 1000 with
      | true => ai_icall a b nx S
      | false => none
noncomputable def js_invokespecial (u0 : Nat) : fr_J := ⟨.invokespecial u0, ⟨(gs_invokespecial u0, false, ai_mild), rfl⟩⟩
noncomputable def gs_invokestatic (u0 : Nat) : ai_U := fun bud dflt kind pc nx a b L S G => match Nat.blt a 1000 with
    | true => ai_call a b nx S
    | false => match ai_room bud S G with
      | true => match Nat.sub a 1000 with
        | 0 => ai_s2 11 nx L S G
        | 1 => ai_s2 12 nx L S G
        | 2 => match S with
          | .inl x :: S => ai_s2 13 nx L (.inl (0, 0) :: .inl x :: S) G
          | _ => none
        | 3 => match S with
          | .inr (.inl x) :: S => ai_l2 26 nx L (.inr (.inl (0, 0)) :: .inr (.inl x) :: S) G
          | _ => none
        | 5 => ai_copy nx L S G
        | _ => none
      | false => none
set_option maxRecDepth 100000 in
noncomputable def js_invokestatic (u0 : Nat) : fr_J := ⟨.invokestatic u0, ⟨(gs_invokestatic u0, false, ai_mild), rfl⟩⟩
noncomputable def gs_ireturn : ai_U := fun bud dflt kind pc nx a b L S G => match S with
    | [.inl x] => match a with
      | 2 => match ai_bit G.1 x with
        | true => ai_fin bud G (.inr (some (.inl x)))
        | false => none
      | _ => ai_fin bud G (.inr (some (.inl x)))
    | _ => none
noncomputable def js_ireturn : fr_J := ⟨.ireturn, ⟨(gs_ireturn, true, fun _ => false), rfl⟩⟩
noncomputable def gs_lreturn : ai_U := fun bud dflt kind pc nx a b L S G => match S with
    | [.inr (.inl x)] => ai_fin bud G (.inr (some (.inr (.inl x))))
    | _ => none
noncomputable def js_lreturn : fr_J := ⟨.lreturn, ⟨(gs_lreturn, true, fun _ => false), rfl⟩⟩
noncomputable def gs_areturn : ai_U := fun bud dflt kind pc nx a b L S G => match S with
    | [.inr (.inr (some (some r)))] => ai_fin bud G (.inr (some (.inr (.inr (some (some r))))))
    | _ => none
noncomputable def js_areturn : fr_J := ⟨.areturn, ⟨(gs_areturn, true, fun _ => false), rfl⟩⟩
noncomputable def gs_return_ : ai_U := fun bud dflt kind pc nx a b L S G => match S with
    | [] => ai_fin bud G (.inr none)
    | _ => none
noncomputable def js_return_ : fr_J := ⟨.return_, ⟨(gs_return_, true, fun _ => false), rfl⟩⟩
noncomputable def gs_none : ai_U := fun _ _ _ _ _ _ _ _ _ _ => none
noncomputable def js_athrow : fr_J := ⟨.athrow, ⟨(gs_none, false, fun _ => false), rfl⟩⟩
/-- an entry: the instruction with its function, the place behind it, its length, two numbers -/
abbrev fr_Q : Type := fr_J × Nat × Nat × Nat × Nat
abbrev fr_C : Type := Option fr_Q
abbrev fr_K : Type := List ai_P → Bool → Nat → List ai_V → List ai_V → ai_G → ai_Q
noncomputable def fr_un (q : fr_Q) : ClassFile.Instr × Nat × Nat × Nat := (q.1.1, q.2.2)
noncomputable def fr_head (ih : fr_K) (act : List ai_P) (pc : Nat) (L S : List ai_V) (G : ai_G) (A : ai_A) (cut : Option (Nat × Int)) (g : Option (List ai_V × ai_G)) : ai_Q := match g with
  | none => none
  | some (L', G') => match ai_in (ai_base G) L S G L' S G' with
    | none => none
    | some y => match ai_cov y (ai_base G) (Nat.sub G'.1.1 (ai_base G)) with
      | false => none
      | true => match ai_lget L' A.2.2.2.2.1 with
        | .inl (t, 0) => ai_many (fun f => ih ((pc, ai_base G, t, A.2.2.2.2.2, L', S, G') :: act) true f.1 f.2.1 f.2.2.1 f.2.2.2) (ai_slit cut pc L' S G')
        | _ => none
noncomputable def fr_mark (ih : fr_K) (act : List ai_P) (pc : Nat) (L S : List ai_V) (G : ai_G) (q : ai_AA) (b : Bool) : ai_Q := match b with
  | true => some []
  | false => fr_head ih act pc L S G q.1 q.2.1 (ai_gen q.1 L G)
noncomputable def fr_thr (ih : fr_K) (act : List ai_P) (L : List ai_V) (e : Nat) (E : ai_E) (h : ai_H) (c s : Nat) (o : Option (Nat × Nat)) : ai_Q := match o with
  | some (k, pcn) => ih act false pcn (ai_lset L k (.inr (.inr none))) [] (E, h, c, s)
  | none => some [(.inl e, (E, h, c, s))]
noncomputable def fr_on (hand : Nat → Nat → Option (Nat × Nat)) (ih : fr_K) (act : List ai_P) (pc pc' : Nat) (L S : List ai_V) (c s : Nat) (f : ai_R × ai_G) : ai_Q :=
  Prod.rec (motive := fun _ => ai_Q) (fun r g => Prod.rec (motive := fun _ => ai_Q) (fun E g => Prod.rec (motive := fun _ => ai_Q) (fun h _ => Sum.rec (motive := fun _ => ai_Q) (fun e => fr_thr ih act L e E h c s (hand pc e)) (fun o => Option.rec (motive := fun _ => ai_Q) (ih act false pc' L S (E, h, c, s)) (fun v => ih act false pc' L (v :: S) (E, h, c, s)) o) r) g) g) f
noncomputable def fr_each (go : ai_R × ai_G → ai_Q) (fs : List (ai_R × ai_G)) : ai_Q := List.rec (motive := fun _ => ai_Q) (some []) (fun f l _ => List.rec (motive := fun _ => ai_Q) (go f) (fun f2 l2 _ => ai_each go (f :: f2 :: l2)) l) fs
noncomputable def fr_outs (hand : Nat → Nat → Option (Nat × Nat)) (ih : fr_K) (j : fr_J) (act : List ai_P) (pc pc' : Nat) (L S : List ai_V) (c s : Nat) (outs : ai_Q) : ai_Q := Option.rec (motive := fun _ => ai_Q) none (fun outs => Bool.rec (motive := fun _ => ai_Q) none (fr_each (fr_on hand ih act pc pc' L S c s) outs) (j.2.1.2.2 outs)) outs
noncomputable def fr_call (hand : Nat → Nat → Option (Nat × Nat)) (bud : Nat × Nat) (cbud : Nat → Nat × Nat) (callee : Nat → List ai_V → ai_G → ai_Q) (ih : fr_K) (j : fr_J) (act : List ai_P) (pc : Nat) (L : List ai_V) (G : ai_G) (mi : Nat) (args S : List ai_V) (pc' : Nat) : ai_Q := match G with
  | (E, h, c, s) => match cbud mi with
    | (bc, bs) => match Nat.ble (c + bc) bud.1, Nat.ble (s + bs) bud.2 with
      | true, true => fr_outs hand ih j act pc pc' L S (c + bc) (s + bs) (callee mi args (E, h, 0, 0))
      | _, _ => none
noncomputable def fr_go1 (ih : fr_K) (act : List ai_P) (f : ai_F) : ai_Q := Prod.rec (motive := fun _ => ai_Q) (fun pc r => Prod.rec (motive := fun _ => ai_Q) (fun L r => Prod.rec (motive := fun _ => ai_Q) (fun S G => ih act false pc L S G) r) r) f
noncomputable def fr_many (ih : fr_K) (act : List ai_P) (fs : List ai_F) : ai_Q := List.rec (motive := fun _ => ai_Q) (some []) (fun f l _ => List.rec (motive := fun _ => ai_Q) (fr_go1 ih act f) (fun f2 l2 _ => ai_many (fr_go1 ih act) (f :: f2 :: l2)) l) fs
noncomputable def fr_do2 (hand : Nat → Nat → Option (Nat × Nat)) (bud : Nat × Nat) (cbud : Nat → Nat × Nat) (callee : Nat → List ai_V → ai_G → ai_Q) (ih : fr_K) (j : fr_J) (act : List ai_P) (pc : Nat) (L : List ai_V) (G : ai_G) (z : (Nat × List ai_V × List ai_V × Nat) ⊕ ai_R) : ai_Q := match z with
  | .inl (mi, args, S', pc') => fr_call hand bud cbud callee ih j act pc L G mi args S' pc'
  | .inr r => match j.2.1.2.1 with
    | true => some [(r, G)]
    | false => none
noncomputable def fr_do (hand : Nat → Nat → Option (Nat × Nat)) (bud : Nat × Nat) (cbud : Nat → Nat × Nat) (callee : Nat → List ai_V → ai_G → ai_Q) (ih : fr_K) (j : fr_J) (act : List ai_P) (pc : Nat) (L : List ai_V) (G : ai_G) (x : Option ai_S) : ai_Q := Option.rec (motive := fun _ => ai_Q) none (fun y => Sum.rec (motive := fun _ => ai_Q) (fr_many ih act) (fr_do2 hand bud cbud callee ih j act pc L G) y) x
noncomputable def fr_at (hand : Nat → Nat → Option (Nat × Nat)) (bud : Nat × Nat) (cbud : Nat → Nat × Nat) (dflt : Nat → List ai_V) (kind : Nat → Nat → Nat) (callee : Nat → List ai_V → ai_G → ai_Q) (ih : fr_K) (act : List ai_P) (pc : Nat) (L S : List ai_V) (G : ai_G) (q : fr_C) : ai_Q := Option.rec (motive := fun _ => ai_Q) none (fun q => Prod.rec (motive := fun _ => ai_Q) (fun j r => Prod.rec (motive := fun _ => ai_Q) (fun nx r => Prod.rec (motive := fun _ => ai_Q) (fun _ r => Prod.rec (motive := fun _ => ai_Q) (fun a b => fr_do hand bud cbud callee ih j act pc L G (j.2.1.1 bud dflt kind pc nx a b L S G)) r) r) r) q) q
noncomputable def fr_pick (code : Nat → fr_C) (hand : Nat → Nat → Option (Nat × Nat)) (bud : Nat × Nat) (cbud : Nat → Nat × Nat) (dflt : Nat → List ai_V) (kind : Nat → Nat → Nat) (callee : Nat → List ai_V → ai_G → ai_Q) (ih : fr_K) (act : List ai_P) (pc : Nat) (L S : List ai_V) (G : ai_G) (o : Option ai_AA) : ai_Q := match o with
  | some q => fr_mark ih act pc L S G q (ai_again act pc L S G)
  | none => fr_at hand bud cbud dflt kind callee ih act pc L S G (code pc)
noncomputable def fr_body (code : Nat → fr_C) (hand : Nat → Nat → Option (Nat × Nat)) (bud : Nat × Nat) (cbud : Nat → Nat × Nat) (dflt : Nat → List ai_V) (kind : Nat → Nat → Nat) (callee : Nat → List ai_V → ai_G → ai_Q) (ann : Nat → Option ai_AA) (ih : fr_K) : fr_K := fun act skip pc L S G => Option.rec (motive := fun _ => ai_Q) (fr_at hand bud cbud dflt kind callee ih act pc L S G (code pc)) (fun q => fr_pick code hand bud cbud dflt kind callee ih act pc L S G (ai_pick (some q) skip act pc L)) (ann pc)
noncomputable def fr_run (code : Nat → fr_C) (hand : Nat → Nat → Option (Nat × Nat)) (bud : Nat × Nat) (cbud : Nat → Nat × Nat) (dflt : Nat → List ai_V) (kind : Nat → Nat → Nat) (callee : Nat → List ai_V → ai_G → ai_Q) (ann : Nat → Option ai_AA) (n : Nat) : fr_K := Nat.rec (motive := fun _ => fr_K) (fun _ _ _ _ _ _ => none) (fun _ ih => fr_body code hand bud cbud dflt kind callee ann ih) n
theorem fr_each_eq {go : ai_R × ai_G → ai_Q} {fs : List (ai_R × ai_G)} : fr_each go fs = ai_each go fs := by
  cases fs with
  | nil => rfl
  | cons f l => cases l with
    | nil => rfl
    | cons f2 l2 => rfl
theorem fr_many_eq {ih : fr_K} {act : List ai_P} {fs : List ai_F} : fr_many ih act fs = ai_many (fun f => ih act false f.1 f.2.1 f.2.2.1 f.2.2.2) fs := by
  cases fs with
  | nil => rfl
  | cons f l => cases l with
    | nil => rfl
    | cons f2 l2 => rfl
/-- the place behind an instruction -/
noncomputable def fr_nx (code : Nat → fr_C) : Prop := ∀ pc q, code pc = some q → q.2.1 = pc + q.2.2.1
theorem fr_run_eq {code : Nat → fr_C} {hand : Nat → Nat → Option (Nat × Nat)} {bud : Nat × Nat} {cbud : Nat → Nat × Nat} {dflt : Nat → List ai_V} {kind : Nat → Nat → Nat} {callee : Nat → List ai_V → ai_G → ai_Q} {ann : Nat → Option ai_AA} (hnx : fr_nx code) : ∀ (n : Nat) (act : List ai_P) (skip : Bool) (pc : Nat) (L S : List ai_V) (G : ai_G),
    fr_run code hand bud cbud dflt kind callee ann n act skip pc L S G = ai_run (fun q => (code q).map fr_un) hand bud cbud dflt kind callee ann n act skip pc L S G := by
  intro n
  induction n with
  | zero => intros; rfl
  | succ n ih =>
    intro act skip pc L S G
    have e0 : fr_run code hand bud cbud dflt kind callee ann n = ai_run (fun q => (code q).map fr_un) hand bud cbud dflt kind callee ann n := by
      funext a b c d e f
      exact ih a b c d e f
    have e1 : fr_run code hand bud cbud dflt kind callee ann (n + 1) act skip pc L S G = fr_pick code hand bud cbud dflt kind callee (fr_run code hand bud cbud dflt kind callee ann n) act pc L S G (ai_pick (ann pc) skip act pc L) := by
      show Option.rec (motive := fun _ => ai_Q) _ _ (ann pc) = _
      cases ann pc with
      | none => rfl
      | some q => rfl
    rw [e1, e0]
    unfold ai_run fr_pick
    cases ai_pick (ann pc) skip act pc L with
    | some q =>
      obtain ⟨A, cut, gd⟩ := q
      dsimp only
      unfold fr_mark
      cases ai_again act pc L S G with
      | true => rfl
      | false => rfl
    | none =>
      dsimp only
      unfold fr_at
      cases ec : code pc with
      | none => rfl
      | some q =>
        have hq0 := hnx pc q ec
        obtain ⟨⟨i, ⟨⟨st, en, ca⟩, hq⟩⟩, nx, len, a, b⟩ := q
        cases hq
        have hq0 : nx = pc + len := hq0
        subst hq0
        dsimp only [Option.map, fr_un]
        unfold fr_do
        cases ai_step i bud dflt kind pc (pc + len) a b L S G with
        | none => rfl
        | some y =>
          cases y with
          | inl fs => exact fr_many_eq
          | inr z =>
            cases z with
            | inl w =>
              obtain ⟨mi, aa, S', pc'⟩ := w
              obtain ⟨E, h, c, s⟩ := G
              dsimp only
              unfold fr_do2
              dsimp only
              unfold fr_call
              dsimp only
              cases cbud mi with
              | mk bc bs =>
              dsimp only
              cases Nat.ble (c + bc) bud.1 with
              | false => rfl
              | true => cases Nat.ble (s + bs) bud.2 with
                | false => rfl
                | true =>
                  dsimp only
                  unfold fr_outs
                  cases callee mi aa (E, h, 0, 0) with
                  | none => rfl
                  | some os =>
                    dsimp only
                    cases ai_calm i os with
                    | false => rfl
                    | true =>
                      refine fr_each_eq.trans ?_
                      refine congrArg (fun g => ai_each g os) ?_
                      funext f
                      obtain ⟨r, E1, h1, c1, s1⟩ := f
                      cases r with
                      | inl e => rfl
                      | inr o => cases o with
                        | none => rfl
                        | some v => rfl
            | inr r => rfl
/-- a method: its number of locals, code, handlers, room, marked places -/
abbrev fr_M : Type := Nat × (Nat → fr_C) × (Nat → Nat → Option (Nat × Nat)) × (Nat × Nat) × (Nat → Option ai_AA)
noncomputable def fr_unM (q : fr_M) : ai_M := (q.1, (fun pc => (q.2.1 pc).map fr_un), q.2.2)
noncomputable def fr_enter (cbud : Nat → Nat × Nat) (dflt : Nat → List ai_V) (kind : Nat → Nat → Nat) (fuel : Nat) (callee : Nat → List ai_V → ai_G → ai_Q) (args : List ai_V) (G : ai_G) (q : Option fr_M) : ai_Q := match q with
  | none => none
  | some (nl, code, hand, bud, ann) => match ai_pad nl args with
    | none => none
    | some L => fr_run code hand bud cbud dflt kind callee ann fuel [] false 0 L [] G
noncomputable def fr_meth (prog : Nat → Option fr_M) (cbud : Nat → Nat × Nat) (dflt : Nat → List ai_V) (kind : Nat → Nat → Nat) (fuel : Nat) (d : Nat) : Nat → List ai_V → ai_G → ai_Q := Nat.rec (motive := fun _ => Nat → List ai_V → ai_G → ai_Q) (fun _ _ _ => none) (fun _ ih mi args G => fr_enter cbud dflt kind fuel ih args G (prog mi)) d
theorem fr_meth_eq {prog : Nat → Option fr_M} {cbud : Nat → Nat × Nat} {dflt : Nat → List ai_V} {kind : Nat → Nat → Nat} {fuel : Nat} (hnx : ∀ mi q, prog mi = some q → fr_nx q.2.1) : ∀ (d mi : Nat) (args : List ai_V) (G : ai_G), fr_meth prog cbud dflt kind fuel d mi args G = ai_meth (fun m => (prog m).map fr_unM) cbud dflt kind fuel d mi args G := by
  intro d
  induction d with
  | zero => intros; rfl
  | succ d ih =>
    intro mi args G
    have e0 : fr_meth prog cbud dflt kind fuel d = ai_meth (fun m => (prog m).map fr_unM) cbud dflt kind fuel d := by
      funext a b c
      exact ih a b c
    show fr_enter cbud dflt kind fuel (fr_meth prog cbud dflt kind fuel d) args G (prog mi) = _
    rw [e0]
    unfold ai_meth fr_enter
    cases eq : prog mi with
    | none => rfl
    | some q =>
      have hq := hnx mi q eq
      obtain ⟨nl, code, hand, bud, ann⟩ := q
      dsimp only [Option.map, fr_unM]
      cases ai_pad nl args with
      | none => rfl
      | some L => exact fr_run_eq hq _ _ _ _ _ _ _

/-! code tables -/
abbrev fr_I : Type := Nat × fr_Q
noncomputable def fr_nd (d : Nat) (a b : ai_T (List fr_I) d) : ai_T (List fr_I) (d + 1) := (a, b)
noncomputable def fr_seek (pc : Nat) : List fr_I → fr_C
  | [] => none
  | (q, i) :: l => match Nat.beq q pc with
    | true => some i
    | false => fr_seek pc l
noncomputable def fr_code (d : Nat) (t : ai_T (List fr_I) d) (pc : Nat) : fr_C := fr_seek pc (ai_tget d t (Nat.div pc 16))
/-- a method of the program: code, handlers, room, what the tables say of it -/
abbrev ct_L : Type := Option ((Nat → fr_C) × (Nat → Nat → Option (Nat × Nat)) × (Nat × Nat) × ai_MT)
noncomputable def ct_cov (pc : Nat) : List (Nat × Nat × Nat × Nat × Nat) → Bool
  | [] => false
  | (a, b, _) :: l => match Nat.ble a pc, Nat.blt pc b with
    | true, true => true
    | _, _ => ct_cov pc l
/-- an exception that no row catches where one covers is not followed: there is no code at 99999 -/
noncomputable def ct_hand (l : List (Nat × Nat × Nat × Nat × Nat)) (pc e : Nat) : Option (Nat × Nat) := match ai_hand l pc e with
  | some r => some r
  | none => match ct_cov pc l with
    | true => some (0, 99999)
    | false => none
end
section
/-! THE CODE TABLES (printed by wip/tool/gen3.py out of the listing; of each method what the evaluations reach) -/
/-- LightsMarket.Best.<init>()V -/
noncomputable def ct_0 : ai_T (List fr_I) 3 := fr_nd 2 (fr_nd 1 (fr_nd 0 ([(0, js_aload_n 0, 1, 1, 0, 0), (1, js_invokespecial 3, 4, 3, 1004, 1), (4, js_aload_n 0, 5, 1, 0, 0), (5, js_iconst 4, 6, 1, 0, 0), (6, js_newarray .int, 8, 2, 0, 0), (8, js_putfield 9, 11, 3, 0, 3), (11, js_aload_n 0, 12, 1, 0, 0), (12, js_iconst 4, 13, 1, 0, 0), (13, js_newarray .int, 15, 2, 0, 0), (15, js_putfield 15, 18, 3, 0, 4)]) ([(64, js_newarray .int, 66, 2, 0, 0), (66, js_putfield 35, 69, 3, 0, 10), (69, js_aload_n 0, 70, 1, 0, 0), (70, js_iconst 4, 71, 1, 0, 0), (71, js_newarray .int, 73, 2, 0, 0), (73, js_putfield 38, 76, 3, 0, 11), (76, js_return_, 77, 1, 0, 0)])) (fr_nd 0 ([(32, js_putfield 23, 35, 3, 0, 6), (35, js_aload_n 0, 36, 1, 0, 0), (36, js_iconst 4, 37, 1, 0, 0), (37, js_iconst 4, 38, 1, 0, 0), (38, js_multianewarray 21 2, 42, 4, 3, 0), (42, js_putfield 26, 45, 3, 0, 7), (45, js_aload_n 0, 46, 1, 0, 0), (46, js_iconst 4, 47, 1, 0, 0), (47, js_iconst 4, 48, 1, 0, 0)]) ([]))) (fr_nd 1 (fr_nd 0 ([(18, js_aload_n 0, 19, 1, 0, 0), (19, js_iconst 4, 20, 1, 0, 0), (20, js_newarray .int, 22, 2, 0, 0), (22, js_putfield 18, 25, 3, 0, 5), (25, js_aload_n 0, 26, 1, 0, 0), (26, js_iconst 4, 27, 1, 0, 0), (27, js_iconst 4, 28, 1, 0, 0), (28, js_multianewarray 21 2, 32, 4, 3, 0)]) ([])) (fr_nd 0 ([(48, js_multianewarray 21 2, 52, 4, 3, 0), (52, js_putfield 29, 55, 3, 0, 8), (55, js_aload_n 0, 56, 1, 0, 0), (56, js_iconst 4, 57, 1, 0, 0), (57, js_newarray .int, 59, 2, 0, 0), (59, js_putfield 32, 62, 3, 0, 9), (62, js_aload_n 0, 63, 1, 0, 0), (63, js_iconst 4, 64, 1, 0, 0)]) ([])))
noncomputable def cy_0 : ai_MT := (⟨"LightsMarket$Best", "<init>", "()V"⟩, prog_2_method_1_code, 1, none, none, 0)
noncomputable def cm_0 : ct_L := some (fr_code 3 ct_0, (fun _ _ => none), (21, 84), cy_0)
/-- LightsMarket.Best.clear(II)V -/
noncomputable def ct_1 : ai_T (List fr_I) 2 := fr_nd 1 (fr_nd 0 ([(0, js_aload_n 0, 1, 1, 0, 0), (1, js_iload_n 1, 2, 1, 0, 0), (2, js_putfield 41, 5, 3, 0, 0), (5, js_aload_n 0, 6, 1, 0, 0), (6, js_iload_n 2, 7, 1, 0, 0), (7, js_putfield 45, 10, 3, 0, 1), (10, js_aload_n 0, 11, 1, 0, 0), (11, js_iconst 0, 12, 1, 0, 0), (12, js_putfield 48, 15, 3, 0, 2), (15, js_aload_n 0, 16, 1, 0, 0)]) ([(32, js_getfield 38, 35, 3, 0, 11), (35, js_iconst 0, 36, 1, 0, 0), (36, js_invokestatic 51, 39, 3, 288, 2), (39, js_return_, 40, 1, 0, 0)])) (fr_nd 0 ([(16, js_getfield 32, 19, 3, 0, 9), (19, js_iconst 0, 20, 1, 0, 0), (20, js_invokestatic 51, 23, 3, 288, 2), (23, js_aload_n 0, 24, 1, 0, 0), (24, js_getfield 35, 27, 3, 0, 10), (27, js_iconst 0, 28, 1, 0, 0), (28, js_invokestatic 51, 31, 3, 288, 2), (31, js_aload_n 0, 32, 1, 0, 0)]) ([]))
noncomputable def cy_1 : ai_MT := (⟨"LightsMarket$Best", "clear", "(II)V"⟩, prog_2_method_2_code, 3, none, none, 2)
noncomputable def cm_1 : ct_L := some (fr_code 2 ct_1, (fun _ _ => none), (0, 0), cy_1)
/-- LightsMarket.Dispatch.<init>(LLightsMarket$Land;)V -/
noncomputable def ct_3 : ai_T (List fr_I) 3 := fr_nd 2 (fr_nd 1 (fr_nd 0 ([(0, js_aload_n 0, 1, 1, 0, 0), (1, js_invokespecial 3, 4, 3, 1004, 1), (4, js_aload_n 0, 5, 1, 0, 0), (5, js_iconst 4, 6, 1, 0, 0), (6, js_newarray .int, 8, 2, 0, 0), (8, js_putfield 9, 11, 3, 1, 0), (11, js_aload_n 0, 12, 1, 0, 0), (12, js_iconst 4, 13, 1, 0, 0), (13, js_newarray .int, 15, 2, 0, 0), (15, js_putfield 15, 18, 3, 1, 5)]) ([(64, js_aload_n 0, 65, 1, 0, 0), (65, js_aload_n 1, 66, 1, 0, 0), (66, js_putfield 38, 69, 3, 1, 1), (69, js_return_, 70, 1, 0, 0)])) (fr_nd 0 ([(33, js_putfield 23, 36, 3, 1, 7), (36, js_aload_n 0, 37, 1, 0, 0), (37, js_iconst 4, 38, 1, 0, 0), (38, js_newarray .int, 40, 2, 0, 0), (40, js_putfield 26, 43, 3, 1, 8), (43, js_aload_n 0, 44, 1, 0, 0), (44, js_iconst 4, 45, 1, 0, 0), (45, js_newarray .int, 47, 2, 0, 0), (47, js_putfield 29, 50, 3, 1, 9)]) ([]))) (fr_nd 1 (fr_nd 0 ([(18, js_aload_n 0, 19, 1, 0, 0), (19, js_iconst 4, 20, 1, 0, 0), (20, js_bipush 8, 22, 2, 0, 0), (22, js_multianewarray 18 2, 26, 4, 3, 0), (26, js_putfield 20, 29, 3, 1, 6), (29, js_aload_n 0, 30, 1, 0, 0), (30, js_iconst 4, 31, 1, 0, 0), (31, js_newarray .int, 33, 2, 0, 0)]) ([])) (fr_nd 0 ([(50, js_aload_n 0, 51, 1, 0, 0), (51, js_iconst 4, 52, 1, 0, 0), (52, js_newarray .int, 54, 2, 0, 0), (54, js_putfield 32, 57, 3, 1, 10), (57, js_aload_n 0, 58, 1, 0, 0), (58, js_iconst 4, 59, 1, 0, 0), (59, js_newarray .int, 61, 2, 0, 0), (61, js_putfield 35, 64, 3, 1, 11)]) ([])))
noncomputable def cy_3 : ai_MT := (⟨"LightsMarket$Dispatch", "<init>", "(LLightsMarket$Land;)V"⟩, prog_3_method_1_code, 2, none, none, 1)
noncomputable def cm_3 : ct_L := some (fr_code 3 ct_3, (fun _ _ => none), (12, 64), cy_3)
/-- LightsMarket.Dispatch.open(II)V -/
noncomputable def ct_4 : ai_T (List fr_I) 3 := fr_nd 2 (fr_nd 1 (fr_nd 0 ([(0, js_aload_n 0, 1, 1, 0, 0), (1, js_iload_n 1, 2, 1, 0, 0), (2, js_putfield 42, 5, 3, 1, 2), (5, js_aload_n 0, 6, 1, 0, 0), (6, js_iconst 0, 7, 1, 0, 0), (7, js_putfield 46, 10, 3, 1, 3), (10, js_iconst 0, 11, 1, 0, 0), (11, js_istore_n 3, 12, 1, 0, 0), (12, js_iload_n 3, 13, 1, 0, 0), (13, js_iconst 4, 14, 1, 0, 0), (14, js_if_icmp .ge 50, 17, 3, 64, 0)]) ([(64, js_iconst 0, 65, 1, 0, 0), (65, js_istore_n 3, 66, 1, 0, 0), (66, js_iload_n 3, 67, 1, 0, 0), (67, js_iconst 4, 68, 1, 0, 0), (68, js_if_icmp .ge 41, 71, 3, 109, 0), (71, js_aload_n 0, 72, 1, 0, 0), (72, js_getfield 20, 75, 3, 1, 6), (75, js_iload_n 3, 76, 1, 0, 0), (76, js_aaload, 77, 1, 0, 0), (77, js_iconst 0, 78, 1, 0, 0), (78, js_iconst 0, 79, 1, 0, 0), (79, js_iastore, 80, 1, 0, 0)])) (fr_nd 0 ([(32, js_iload_n 2, 33, 1, 0, 0), (33, js_if_icmp .ne 7, 36, 3, 40, 0), (40, js_iconst 0, 41, 1, 0, 0), (41, js_iadd, 42, 1, 0, 0), (42, js_iastore, 43, 1, 0, 0), (43, js_aload_n 0, 44, 1, 0, 0), (44, js_dup, 45, 1, 0, 0), (45, js_getfield 46, 48, 3, 1, 3)]) ([(103, js_iinc 3 1, 106, 3, 0, 0), (106, js_goto (-40), 109, 3, 66, 0), (109, js_return_, 110, 1, 0, 0)]))) (fr_nd 1 (fr_nd 0 ([(17, js_aload_n 0, 18, 1, 0, 0), (18, js_getfield 15, 21, 3, 1, 5), (21, js_iload_n 3, 22, 1, 0, 0), (22, js_aload_n 0, 23, 1, 0, 0), (23, js_getfield 38, 26, 3, 1, 1), (26, js_iload_n 3, 27, 1, 0, 0), (27, js_iload_n 1, 28, 1, 0, 0), (28, js_invokevirtual 49, 31, 3, 30, 195), (31, js_iload_n 3, 32, 1, 0, 0)]) ([(80, js_aload_n 0, 81, 1, 0, 0), (81, js_getfield 23, 84, 3, 1, 7), (84, js_iload_n 3, 85, 1, 0, 0), (85, js_iconst 0, 86, 1, 0, 0), (86, js_iastore, 87, 1, 0, 0), (87, js_iload_n 3, 88, 1, 0, 0), (88, js_aload_n 0, 89, 1, 0, 0), (89, js_getfield 38, 92, 3, 1, 1), (92, js_getfield 55, 95, 3, 3, 2), (95, js_if_icmp .ge 8, 98, 3, 103, 0)])) (fr_nd 0 ([(48, js_aload_n 0, 49, 1, 0, 0), (49, js_getfield 15, 52, 3, 1, 5), (52, js_iload_n 3, 53, 1, 0, 0), (53, js_iaload, 54, 1, 0, 0), (54, js_iadd, 55, 1, 0, 0), (55, js_putfield 46, 58, 3, 1, 3), (58, js_iinc 3 1, 61, 3, 0, 0), (61, js_goto (-49), 64, 3, 12, 0)]) ([])))
noncomputable def cy_4 : ai_MT := (⟨"LightsMarket$Dispatch", "open", "(II)V"⟩, prog_3_method_2_code, 4, none, none, 2)
noncomputable def cm_4 : ct_L := some (fr_code 3 ct_4, (fun _ _ => none), (0, 0), cy_4)
/-- LightsMarket.Dispatch.search(IIII)I -/
noncomputable def ct_8 : ai_T (List fr_I) 2 := fr_nd 1 (fr_nd 0 ([(0, js_aload_n 0, 1, 1, 0, 0), (1, js_iconst (-1), 2, 1, 0, 0), (2, js_putfield 88, 5, 3, 1, 4), (5, js_aload_n 0, 6, 1, 0, 0), (6, js_getfield 38, 9, 3, 1, 1), (9, js_iconst 0, 10, 1, 0, 0), (10, js_invokevirtual 91, 13, 3, 35, 194), (13, js_ifCond .eq 25, 16, 3, 38, 0)]) ([(34, js_iconst 0, 35, 1, 0, 0), (35, js_invokevirtual 98, 38, 3, 9, 68), (38, js_aload_n 0, 39, 1, 0, 0), (39, js_getfield 88, 42, 3, 1, 4), (42, js_ireturn, 43, 1, 0, 0)])) (fr_nd 0 ([(16, js_aload_n 0, 17, 1, 0, 0), (17, js_iload_n 1, 18, 1, 0, 0), (18, js_iload_n 2, 19, 1, 0, 0), (19, js_iload_n 3, 20, 1, 0, 0), (20, js_iload 4, 22, 2, 0, 0), (22, js_invokevirtual 94, 25, 3, 11, 69), (25, js_ifCond .eq 13, 28, 3, 38, 0), (28, js_aload_n 0, 29, 1, 0, 0), (29, js_iconst 0, 30, 1, 0, 0), (30, js_aload_n 0, 31, 1, 0, 0), (31, js_getfield 46, 34, 3, 1, 3)]) ([]))
noncomputable def cy_8 : ai_MT := (⟨"LightsMarket$Dispatch", "search", "(IIII)I"⟩, prog_3_method_6_code, 5, (some .int), none, 4)
noncomputable def cm_8 : ct_L := some (fr_code 2 ct_8, (fun _ _ => none), (0, 0), cy_8)
/-- LightsMarket.Dispatch.choose(III)V -/
noncomputable def ct_9 : ai_T (List fr_I) 4 := fr_nd 3 (fr_nd 2 (fr_nd 1 (fr_nd 0 ([(0, js_aload_n 0, 1, 1, 0, 0), (1, js_getfield 88, 4, 3, 1, 4), (4, js_iconst (-1), 5, 1, 0, 0), (5, js_if_icmp .eq 12, 8, 3, 17, 0)]) ([(128, js_aaload, 129, 1, 0, 0), (129, js_iload 4, 131, 2, 0, 0), (131, js_iaload, 132, 1, 0, 0), (132, js_iadd, 133, 1, 0, 0), (133, js_invokevirtual 98, 136, 3, 9, 68), (136, js_iinc 4 1, 139, 3, 0, 0), (139, js_goto (-74), 142, 3, 65, 0), (142, js_return_, 143, 1, 0, 0)])) (fr_nd 0 ([(65, js_iload 4, 67, 2, 0, 0), (67, js_aload_n 0, 68, 1, 0, 0), (68, js_getfield 29, 71, 3, 1, 9), (71, js_iload_n 1, 72, 1, 0, 0), (72, js_iaload, 73, 1, 0, 0), (73, js_if_icmp .gt 69, 76, 3, 142, 0), (76, js_iload 4, 78, 2, 0, 0), (78, js_iload_n 2, 79, 1, 0, 0), (79, js_if_icmp .gt 63, 82, 3, 142, 0)]) ([]))) (fr_nd 1 (fr_nd 0 ([(34, js_ifCond .eq 22, 37, 3, 56, 0), (37, js_aload_n 0, 38, 1, 0, 0), (38, js_iload_n 3, 39, 1, 0, 0), (39, js_putfield 88, 42, 3, 1, 4), (42, js_aload_n 0, 43, 1, 0, 0), (43, js_getfield 32, 46, 3, 1, 10), (46, js_iconst 0, 47, 1, 0, 0), (47, js_aload_n 0, 48, 1, 0, 0)]) ([])) (fr_nd 0 ([(97, js_isub, 98, 1, 0, 0), (98, js_aload_n 0, 99, 1, 0, 0), (99, js_iload_n 1, 100, 1, 0, 0), (100, js_invokevirtual 112, 103, 3, 10, 66), (103, js_if_icmp .gt 33, 106, 3, 136, 0), (106, js_aload_n 0, 107, 1, 0, 0), (107, js_getfield 32, 110, 3, 1, 10), (110, js_iload_n 1, 111, 1, 0, 0), (111, js_iload 4, 113, 2, 0, 0)]) ([])))) (fr_nd 2 (fr_nd 1 (fr_nd 0 ([(17, js_iload_n 1, 18, 1, 0, 0), (18, js_ifCond .lt 8, 21, 3, 26, 0), (21, js_iload_n 1, 22, 1, 0, 0), (22, js_iconst 4, 23, 1, 0, 0), (23, js_if_icmp .lt 34, 26, 3, 57, 0), (26, js_iload_n 2, 27, 1, 0, 0), (27, js_ifCond .ne 29, 30, 3, 56, 0), (30, js_aload_n 0, 31, 1, 0, 0), (31, js_invokevirtual 102, 34, 3, 14, 65)]) ([])) (fr_nd 0 ([(82, js_iload 4, 84, 2, 0, 0), (84, js_bipush 7, 86, 2, 0, 0), (86, js_if_icmp .gt 56, 89, 3, 142, 0), (89, js_iload 4, 91, 2, 0, 0), (91, js_ifCond .lt 45, 94, 3, 136, 0), (94, js_iload_n 2, 95, 1, 0, 0), (95, js_iload 4, 97, 2, 0, 0)]) ([]))) (fr_nd 1 (fr_nd 0 ([(48, js_getfield 9, 51, 3, 1, 0), (51, js_iconst 0, 52, 1, 0, 0), (52, js_iconst 4, 53, 1, 0, 0), (53, js_invokestatic 106, 56, 3, 1005, 5), (56, js_return_, 57, 1, 0, 0), (57, js_aload_n 0, 58, 1, 0, 0), (58, js_getfield 26, 61, 3, 1, 8), (61, js_iload_n 1, 62, 1, 0, 0), (62, js_iaload, 63, 1, 0, 0), (63, js_istore 4, 65, 2, 0, 0)]) ([])) (fr_nd 0 ([(113, js_iastore, 114, 1, 0, 0), (114, js_aload_n 0, 115, 1, 0, 0), (115, js_iload_n 1, 116, 1, 0, 0), (116, js_iconst 1, 117, 1, 0, 0), (117, js_iadd, 118, 1, 0, 0), (118, js_iload_n 2, 119, 1, 0, 0), (119, js_iload 4, 121, 2, 0, 0), (121, js_isub, 122, 1, 0, 0), (122, js_iload_n 3, 123, 1, 0, 0), (123, js_aload_n 0, 124, 1, 0, 0), (124, js_getfield 20, 127, 3, 1, 6), (127, js_iload_n 1, 128, 1, 0, 0)]) ([]))))
noncomputable def cy_9 : ai_MT := (⟨"LightsMarket$Dispatch", "choose", "(III)V"⟩, prog_3_method_7_code, 5, none, none, 3)
noncomputable def cm_9 : ct_L := some (fr_code 4 ct_9, (fun _ _ => none), (0, 0), cy_9)
/-- LightsMarket.Dispatch.roomBehind(I)I -/
noncomputable def ct_10 : ai_T (List fr_I) 1 := fr_nd 0 ([(0, js_iconst 0, 1, 1, 0, 0), (1, js_istore_n 2, 2, 1, 0, 0), (2, js_iload_n 1, 3, 1, 0, 0), (3, js_iconst 1, 4, 1, 0, 0), (4, js_iadd, 5, 1, 0, 0), (5, js_istore_n 3, 6, 1, 0, 0), (6, js_iload_n 3, 7, 1, 0, 0), (7, js_iconst 4, 8, 1, 0, 0), (8, js_if_icmp .ge 18, 11, 3, 26, 0), (11, js_iload_n 2, 12, 1, 0, 0), (12, js_aload_n 0, 13, 1, 0, 0), (13, js_getfield 29, 16, 3, 1, 9)]) ([(16, js_iload_n 3, 17, 1, 0, 0), (17, js_iaload, 18, 1, 0, 0), (18, js_iadd, 19, 1, 0, 0), (19, js_istore_n 2, 20, 1, 0, 0), (20, js_iinc 3 1, 23, 3, 0, 0), (23, js_goto (-17), 26, 3, 6, 0), (26, js_iload_n 2, 27, 1, 0, 0), (27, js_ireturn, 28, 1, 0, 0)])
noncomputable def cy_10 : ai_MT := (⟨"LightsMarket$Dispatch", "roomBehind", "(I)I"⟩, prog_3_method_8_code, 4, (some .int), none, 1)
noncomputable def cm_10 : ct_L := some (fr_code 1 ct_10, (fun _ _ => none), (0, 0), cy_10)
/-- LightsMarket.Dispatch.span(IIII)Z -/
noncomputable def ct_11 : ai_T (List fr_I) 4 := fr_nd 3 (fr_nd 2 (fr_nd 1 (fr_nd 0 ([(0, js_iconst 0, 1, 1, 0, 0), (1, js_istore 5, 3, 2, 0, 0), (3, js_iload 5, 5, 2, 0, 0), (5, js_iconst 4, 6, 1, 0, 0), (6, js_if_icmp .ge 150, 9, 3, 156, 0), (9, js_aload_n 0, 10, 1, 0, 0), (10, js_getfield 26, 13, 3, 1, 8), (13, js_iload 5, 15, 2, 0, 0), (15, js_iconst 0, 16, 1, 0, 0)]) ([(131, js_aload_n 0, 132, 1, 0, 0), (132, js_getfield 26, 135, 3, 1, 8), (135, js_iload 5, 137, 2, 0, 0), (137, js_iaload, 138, 1, 0, 0), (138, js_aload_n 0, 139, 1, 0, 0), (139, js_getfield 29, 142, 3, 1, 9), (142, js_iload 5, 144, 2, 0, 0)])) (fr_nd 0 ([]) ([]))) (fr_nd 1 (fr_nd 0 ([(34, js_astore 6, 36, 2, 0, 0), (36, js_iload 5, 38, 2, 0, 0), (38, js_aload_n 0, 39, 1, 0, 0), (39, js_getfield 38, 42, 3, 1, 1), (42, js_getfield 55, 45, 3, 3, 2), (45, js_if_icmp .ge 86, 48, 3, 131, 0)]) ([])) (fr_nd 0 ([]) ([])))) (fr_nd 2 (fr_nd 1 (fr_nd 0 ([(16, js_iastore, 17, 1, 0, 0), (17, js_aload_n 0, 18, 1, 0, 0), (18, js_getfield 29, 21, 3, 1, 9), (21, js_iload 5, 23, 2, 0, 0), (23, js_iconst 0, 24, 1, 0, 0), (24, js_iastore, 25, 1, 0, 0), (25, js_aload_n 0, 26, 1, 0, 0), (26, js_getfield 38, 29, 3, 1, 1), (29, js_iload 5, 31, 2, 0, 0), (31, js_invokevirtual 62, 34, 3, 29, 194)]) ([(144, js_iaload, 145, 1, 0, 0), (145, js_if_icmp .le 5, 148, 3, 150, 0), (150, js_iinc 5 1, 153, 3, 0, 0), (153, js_goto (-150), 156, 3, 3, 0), (156, js_iconst 1, 157, 1, 0, 0), (157, js_ireturn, 158, 1, 2, 0)])) (fr_nd 0 ([]) ([]))) (fr_nd 1 (fr_nd 0 ([]) ([])) (fr_nd 0 ([]) ([]))))
noncomputable def cy_11 : ai_MT := (⟨"LightsMarket$Dispatch", "span", "(IIII)Z"⟩, prog_3_method_9_code, 7, (some .boolean), none, 4)
noncomputable def cm_11 : ct_L := some (fr_code 4 ct_11, (fun _ _ => none), (0, 0), cy_11)
/-- LightsMarket.Dispatch.fits()Z -/
noncomputable def ct_14 : ai_T (List fr_I) 4 := fr_nd 3 (fr_nd 2 (fr_nd 1 (fr_nd 0 ([(0, js_iconst 0, 1, 1, 0, 0), (1, js_istore_n 1, 2, 1, 0, 0), (2, js_iload_n 1, 3, 1, 0, 0), (3, js_iconst 4, 4, 1, 0, 0), (4, js_if_icmp .ge 22, 7, 3, 26, 0), (7, js_aload_n 0, 8, 1, 0, 0), (8, js_getfield 35, 11, 3, 1, 11), (11, js_iload_n 1, 12, 1, 0, 0), (12, js_aload_n 0, 13, 1, 0, 0), (13, js_getfield 15, 16, 3, 1, 5)]) ([(129, js_iconst 1, 130, 1, 0, 0), (130, js_ireturn, 131, 1, 2, 0)])) (fr_nd 0 ([(65, js_iload_n 1, 66, 1, 0, 0), (66, js_iaload, 67, 1, 0, 0), (67, js_iadd, 68, 1, 0, 0), (68, js_iastore, 69, 1, 0, 0), (69, js_iinc 1 1, 72, 3, 0, 0), (72, js_goto (-44), 75, 3, 28, 0), (75, js_aload_n 0, 76, 1, 0, 0), (76, js_getfield 38, 79, 3, 1, 1), (79, js_getfield 154, 82, 3, 3, 3)]) ([]))) (fr_nd 1 (fr_nd 0 ([(33, js_aload_n 0, 34, 1, 0, 0), (34, js_getfield 38, 37, 3, 1, 1), (37, js_iload_n 1, 38, 1, 0, 0), (38, js_invokevirtual 62, 41, 3, 29, 194), (41, js_getfield 151, 44, 3, 4, 0), (44, js_istore_n 2, 45, 1, 0, 0), (45, js_iload_n 2, 46, 1, 0, 0), (46, js_ifCond .lt 23, 49, 3, 69, 0)]) ([])) (fr_nd 0 ([(97, js_iconst 1, 98, 1, 0, 0), (98, js_istore_n 1, 99, 1, 0, 0), (99, js_iconst 0, 100, 1, 0, 0), (100, js_istore_n 2, 101, 1, 0, 0), (101, js_iload_n 2, 102, 1, 0, 0), (102, js_iload_n 1, 103, 1, 0, 0), (103, js_if_icmp .ge 26, 106, 3, 129, 0), (106, js_aload_n 0, 107, 1, 0, 0), (107, js_getfield 38, 110, 3, 1, 1), (110, js_iload_n 2, 111, 1, 0, 0), (111, js_aload_n 0, 112, 1, 0, 0)]) ([])))) (fr_nd 2 (fr_nd 1 (fr_nd 0 ([(16, js_iload_n 1, 17, 1, 0, 0), (17, js_iaload, 18, 1, 0, 0), (18, js_ineg, 19, 1, 0, 0), (19, js_iastore, 20, 1, 0, 0), (20, js_iinc 1 1, 23, 3, 0, 0), (23, js_goto (-21), 26, 3, 2, 0), (26, js_iconst 0, 27, 1, 0, 0), (27, js_istore_n 1, 28, 1, 0, 0), (28, js_iload_n 1, 29, 1, 0, 0), (29, js_iconst 4, 30, 1, 0, 0), (30, js_if_icmp .ge 45, 33, 3, 75, 0)]) ([])) (fr_nd 0 ([(82, js_ifCond .eq 15, 85, 3, 97, 0)]) ([]))) (fr_nd 1 (fr_nd 0 ([(49, js_iload_n 2, 50, 1, 0, 0), (50, js_iconst 4, 51, 1, 0, 0), (51, js_if_icmp .ge 18, 54, 3, 69, 0), (54, js_aload_n 0, 55, 1, 0, 0), (55, js_getfield 35, 58, 3, 1, 11), (58, js_iload_n 2, 59, 1, 0, 0), (59, js_dup2, 60, 1, 0, 0), (60, js_iaload, 61, 1, 0, 0), (61, js_aload_n 0, 62, 1, 0, 0), (62, js_getfield 32, 65, 3, 1, 10)]) ([])) (fr_nd 0 ([(112, js_getfield 35, 115, 3, 1, 11), (115, js_invokevirtual 161, 118, 3, 44, 195), (118, js_ifCond .ne 5, 121, 3, 123, 0), (123, js_iinc 2 1, 126, 3, 0, 0), (126, js_goto (-25), 129, 3, 101, 0)]) ([]))))
noncomputable def cy_14 : ai_MT := (⟨"LightsMarket$Dispatch", "fits", "()Z"⟩, prog_3_method_12_code, 3, (some .boolean), none, 0)
noncomputable def cm_14 : ct_L := some (fr_code 4 ct_14, (fun _ _ => none), (0, 0), cy_14)
/-- LightsMarket.Game.<init>(LLightsMarket$Land;LLightsMarket$Dispatch;)V -/
noncomputable def ct_15 : ai_T (List fr_I) 2 := fr_nd 1 (fr_nd 0 ([(0, js_aload_n 0, 1, 1, 0, 0), (1, js_invokespecial 3, 4, 3, 1004, 1), (4, js_aload_n 0, 5, 1, 0, 0), (5, js_bipush 27, 7, 2, 0, 0), (7, js_newarray .int, 9, 2, 0, 0), (9, js_putfield 11, 12, 3, 2, 4), (12, js_aload_n 0, 13, 1, 0, 0), (13, js_bipush 27, 15, 2, 0, 0), (15, js_iconst 4, 16, 1, 0, 0)]) ([(34, js_aload_n 0, 35, 1, 0, 0), (35, js_bipush 27, 37, 2, 0, 0), (37, js_newarray .boolean, 39, 2, 2, 0), (39, js_putfield 23, 42, 3, 2, 7), (42, js_aload_n 0, 43, 1, 0, 0), (43, js_aload_n 1, 44, 1, 0, 0), (44, js_putfield 27, 47, 3, 2, 2), (47, js_aload_n 0, 48, 1, 0, 0)])) (fr_nd 0 ([(16, js_multianewarray 15 2, 20, 4, 3, 0), (20, js_putfield 17, 23, 3, 2, 5), (23, js_aload_n 0, 24, 1, 0, 0), (24, js_bipush 27, 26, 2, 0, 0), (26, js_iconst 3, 27, 1, 0, 0), (27, js_multianewarray 15 2, 31, 4, 3, 0), (31, js_putfield 20, 34, 3, 2, 6)]) ([(48, js_aload_n 2, 49, 1, 0, 0), (49, js_putfield 31, 52, 3, 2, 3), (52, js_return_, 53, 1, 0, 0)]))
noncomputable def cy_15 : ai_MT := (⟨"LightsMarket$Game", "<init>", "(LLightsMarket$Land;LLightsMarket$Dispatch;)V"⟩, prog_4_method_1_code, 3, none, none, 2)
noncomputable def cm_15 : ct_L := some (fr_code 2 ct_15, (fun _ _ => none), (58, 297), cy_15)
/-- LightsMarket.Game.weightOf(I)I -/
noncomputable def ct_16 : ai_T (List fr_I) 1 := fr_nd 0 ([(0, js_iload_n 0, 1, 1, 0, 0), (1, js_ifCond .ne 8, 4, 3, 9, 0), (4, js_bipush 9, 6, 2, 0, 0), (6, js_goto 13, 9, 3, 19, 0), (9, js_iload_n 0, 10, 1, 0, 0), (10, js_iconst 1, 11, 1, 0, 0), (11, js_if_icmp .ne 7, 14, 3, 18, 0), (14, js_iconst 3, 15, 1, 0, 0), (15, js_goto 4, 18, 3, 19, 0)]) ([(18, js_iconst 1, 19, 1, 0, 0), (19, js_ireturn, 20, 1, 0, 0)])
noncomputable def cy_16 : ai_MT := (⟨"LightsMarket$Game", "weightOf", "(I)I"⟩, prog_4_method_2_code, 1, (some .int), none, 1)
noncomputable def cm_16 : ct_L := some (fr_code 1 ct_16, (fun _ _ => none), (0, 0), cy_16)
/-- LightsMarket.Game.hiddenBy(II)I -/
noncomputable def ct_17 : ai_T (List fr_I) 0 := [(0, js_iload_n 0, 1, 1, 0, 0), (1, js_iload_n 1, 2, 1, 0, 0), (2, js_invokestatic 35, 5, 3, 16, 1), (5, js_idiv, 6, 1, 0, 0), (6, js_iconst 3, 7, 1, 0, 0), (7, js_irem, 8, 1, 0, 0), (8, js_ireturn, 9, 1, 0, 0)]
noncomputable def cy_17 : ai_MT := (⟨"LightsMarket$Game", "hiddenBy", "(II)I"⟩, prog_4_method_3_code, 2, (some .int), none, 2)
noncomputable def cm_17 : ct_L := some (fr_code 0 ct_17, (fun _ _ => none), (0, 0), cy_17)
/-- LightsMarket.Game.gainOf(II)I -/
noncomputable def ct_18 : ai_T (List fr_I) 1 := fr_nd 0 ([(0, js_iload_n 1, 1, 1, 0, 0), (1, js_ifCond .lt 27, 4, 3, 28, 0), (4, js_iload_n 1, 5, 1, 0, 0), (5, js_bipush 27, 7, 2, 0, 0), (7, js_if_icmp .ge 21, 10, 3, 28, 0), (10, js_iload_n 2, 11, 1, 0, 0), (11, js_invokestatic 39, 14, 3, 132, 1), (14, js_ifCond .eq 14, 17, 3, 28, 0)]) ([(17, js_aload_n 0, 18, 1, 0, 0), (18, js_getfield 20, 21, 3, 2, 6), (21, js_iload_n 1, 22, 1, 0, 0), (22, js_aaload, 23, 1, 0, 0), (23, js_iload_n 2, 24, 1, 0, 0), (24, js_iaload, 25, 1, 0, 0), (25, js_goto 5, 28, 3, 30, 0), (30, js_ireturn, 31, 1, 0, 0)])
noncomputable def cy_18 : ai_MT := (⟨"LightsMarket$Game", "gainOf", "(II)I"⟩, prog_4_method_4_code, 3, (some .int), none, 2)
noncomputable def cm_18 : ct_L := some (fr_code 1 ct_18, (fun _ _ => none), (0, 0), cy_18)
/-- LightsMarket.Game.hold(I)I -/
noncomputable def ct_19 : ai_T (List fr_I) 2 := fr_nd 1 (fr_nd 0 ([(0, js_aload_n 0, 1, 1, 0, 0), (1, js_iload_n 1, 2, 1, 0, 0), (2, js_invokevirtual 44, 5, 3, 20, 130), (5, js_iconst 0, 6, 1, 0, 0), (6, js_istore_n 2, 7, 1, 0, 0), (7, js_iload_n 2, 8, 1, 0, 0), (8, js_aload_n 0, 9, 1, 0, 0), (9, js_getfield 27, 12, 3, 2, 2), (12, js_getfield 48, 15, 3, 3, 0), (15, js_if_icmp .ge 15, 18, 3, 30, 0)]) ([(32, js_putfield 58, 35, 3, 2, 0), (35, js_aload_n 0, 36, 1, 0, 0), (36, js_invokevirtual 62, 39, 3, 23, 129), (39, js_ireturn, 40, 1, 0, 0)])) (fr_nd 0 ([(30, js_aload_n 0, 31, 1, 0, 0), (31, js_iconst 1, 32, 1, 0, 0)]) ([]))
noncomputable def cy_19 : ai_MT := (⟨"LightsMarket$Game", "hold", "(I)I"⟩, prog_4_method_5_code, 3, (some .int), none, 1)
noncomputable def cm_19 : ct_L := some (fr_code 2 ct_19, (fun _ _ => none), (0, 0), cy_19)
/-- LightsMarket.Game.fillUnits(I)V -/
noncomputable def ct_20 : ai_T (List fr_I) 3 := fr_nd 2 (fr_nd 1 (fr_nd 0 ([(0, js_aload_n 0, 1, 1, 0, 0), (1, js_getfield 31, 4, 3, 2, 3), (4, js_iload_n 1, 5, 1, 0, 0), (5, js_iconst (-1), 6, 1, 0, 0), (6, js_invokevirtual 66, 9, 3, 4, 67), (9, js_iconst 0, 10, 1, 0, 0), (10, js_istore_n 2, 11, 1, 0, 0), (11, js_iload_n 2, 12, 1, 0, 0), (12, js_bipush 27, 14, 2, 0, 0), (14, js_if_icmp .ge 82, 17, 3, 96, 0)]) ([(65, js_aload_n 0, 66, 1, 0, 0), (66, js_getfield 20, 69, 3, 2, 6), (69, js_iload_n 2, 70, 1, 0, 0), (70, js_aaload, 71, 1, 0, 0), (71, js_aload_n 0, 72, 1, 0, 0), (72, js_getfield 11, 75, 3, 2, 4), (75, js_iload_n 2, 76, 1, 0, 0), (76, js_iaload, 77, 1, 0, 0), (77, js_iconst (-1), 78, 1, 0, 0), (78, js_if_icmp .ne 8, 81, 3, 86, 0)])) (fr_nd 0 ([(34, js_iastore, 35, 1, 0, 0), (35, js_iconst 0, 36, 1, 0, 0), (36, js_istore_n 3, 37, 1, 0, 0), (37, js_iload_n 3, 38, 1, 0, 0), (38, js_iconst 4, 39, 1, 0, 0), (39, js_if_icmp .ge 26, 42, 3, 65, 0), (42, js_aload_n 0, 43, 1, 0, 0), (43, js_getfield 17, 46, 3, 2, 5), (46, js_iload_n 2, 47, 1, 0, 0), (47, js_aaload, 48, 1, 0, 0)]) ([(96, js_return_, 97, 1, 0, 0)]))) (fr_nd 1 (fr_nd 0 ([(17, js_aload_n 0, 18, 1, 0, 0), (18, js_getfield 11, 21, 3, 2, 4), (21, js_iload_n 2, 22, 1, 0, 0), (22, js_aload_n 0, 23, 1, 0, 0), (23, js_getfield 31, 26, 3, 2, 3), (26, js_bipush 15, 28, 2, 0, 0), (28, js_iconst 0, 29, 1, 0, 0), (29, js_iload_n 2, 30, 1, 0, 0), (30, js_iconst (-1), 31, 1, 0, 0), (31, js_invokevirtual 71, 34, 3, 8, 69)]) ([(86, js_iconst 0, 87, 1, 0, 0), (87, js_invokestatic 77, 90, 3, 288, 2), (90, js_iinc 2 1, 93, 3, 0, 0), (93, js_goto (-82), 96, 3, 11, 0)])) (fr_nd 0 ([(48, js_iload_n 3, 49, 1, 0, 0), (49, js_aload_n 0, 50, 1, 0, 0), (50, js_getfield 31, 53, 3, 2, 3), (53, js_getfield 75, 56, 3, 1, 0), (56, js_iload_n 3, 57, 1, 0, 0), (57, js_iaload, 58, 1, 0, 0), (58, js_iastore, 59, 1, 0, 0), (59, js_iinc 3 1, 62, 3, 0, 0), (62, js_goto (-25), 65, 3, 37, 0)]) ([])))
noncomputable def cy_20 : ai_MT := (⟨"LightsMarket$Game", "fillUnits", "(I)V"⟩, prog_4_method_6_code, 4, none, none, 1)
noncomputable def cm_20 : ct_L := some (fr_code 3 ct_20, (fun _ _ => none), (0, 0), cy_20)
/-- LightsMarket.Game.play()I -/
noncomputable def ct_23 : ai_T (List fr_I) 3 := fr_nd 2 (fr_nd 1 (fr_nd 0 ([(0, js_iconst 0, 1, 1, 0, 0), (1, js_istore_n 1, 2, 1, 0, 0), (2, js_iload_n 1, 3, 1, 0, 0), (3, js_bipush 27, 5, 2, 0, 0), (5, js_if_icmp .ge 16, 8, 3, 21, 0), (8, js_aload_n 0, 9, 1, 0, 0), (9, js_getfield 23, 12, 3, 2, 7), (12, js_iload_n 1, 13, 1, 0, 0), (13, js_iconst 0, 14, 1, 0, 0), (14, js_bastore, 15, 1, 0, 0), (15, js_iinc 1 1, 18, 3, 0, 0)]) ([(66, js_iinc 3 1, 69, 3, 0, 0), (69, js_goto (-21), 72, 3, 48, 0), (72, js_aload_n 0, 73, 1, 0, 0), (73, js_getfield 105, 76, 3, 2, 1), (76, js_iload_n 2, 77, 1, 0, 0), (77, js_if_icmp .ne 5, 80, 3, 82, 0)])) (fr_nd 0 ([(32, js_bastore, 33, 1, 0, 0), (33, js_iconst 1, 34, 1, 0, 0), (34, js_istore_n 1, 35, 1, 0, 0), (35, js_iload_n 1, 36, 1, 0, 0), (36, js_bipush 27, 38, 2, 0, 0), (38, js_if_icmp .gt 75, 41, 3, 113, 0), (41, js_aload_n 0, 42, 1, 0, 0), (42, js_getfield 105, 45, 3, 2, 1), (45, js_istore_n 2, 46, 1, 0, 0), (46, js_iconst 0, 47, 1, 0, 0), (47, js_istore_n 3, 48, 1, 0, 0)]) ([]))) (fr_nd 1 (fr_nd 0 ([(18, js_goto (-16), 21, 3, 2, 0), (21, js_aload_n 0, 22, 1, 0, 0), (22, js_iconst 0, 23, 1, 0, 0), (23, js_putfield 105, 26, 3, 2, 1), (26, js_aload_n 0, 27, 1, 0, 0), (27, js_getfield 23, 30, 3, 2, 7), (30, js_iconst 0, 31, 1, 0, 0), (31, js_iconst 1, 32, 1, 0, 0)]) ([(80, js_iload_n 1, 81, 1, 0, 0), (81, js_ireturn, 82, 1, 0, 0)])) (fr_nd 0 ([(48, js_iload_n 3, 49, 1, 0, 0), (49, js_iconst 3, 50, 1, 0, 0), (50, js_if_icmp .ge 22, 53, 3, 72, 0), (53, js_aload_n 0, 54, 1, 0, 0), (54, js_aload_n 0, 55, 1, 0, 0), (55, js_iload_n 3, 56, 1, 0, 0), (56, js_aload_n 0, 57, 1, 0, 0), (57, js_getfield 105, 60, 3, 2, 1), (60, js_invokevirtual 108, 63, 3, 25, 131), (63, js_putfield 105, 66, 3, 2, 1)]) ([])))
noncomputable def cy_23 : ai_MT := (⟨"LightsMarket$Game", "play", "()I"⟩, prog_4_method_9_code, 4, (some .int), none, 0)
noncomputable def cm_23 : ct_L := some (fr_code 3 ct_23, (fun _ _ => none), (0, 0), cy_23)
/-- LightsMarket.Game.bestFor(II)I -/
noncomputable def ct_25 : ai_T (List fr_I) 3 := fr_nd 2 (fr_nd 1 (fr_nd 0 ([(0, js_iload_n 2, 1, 1, 0, 0), (1, js_iload_n 2, 2, 1, 0, 0), (2, js_iload_n 1, 3, 1, 0, 0), (3, js_invokestatic 115, 6, 3, 17, 2), (6, js_iload_n 1, 7, 1, 0, 0), (7, js_invokestatic 35, 10, 3, 16, 1), (10, js_imul, 11, 1, 0, 0), (11, js_isub, 12, 1, 0, 0), (12, js_istore_n 3, 13, 1, 0, 0), (13, js_iload_n 3, 14, 1, 0, 0), (14, js_istore 4, 16, 2, 0, 0)]) ([(65, js_ireturn, 66, 1, 0, 0)])) (fr_nd 0 ([(32, js_imul, 33, 1, 0, 0), (33, js_iadd, 34, 1, 0, 0), (34, js_istore 6, 36, 2, 0, 0), (36, js_aload_n 0, 37, 1, 0, 0), (37, js_iload 6, 39, 2, 0, 0), (39, js_iload_n 1, 40, 1, 0, 0), (40, js_invokevirtual 118, 43, 3, 18, 131), (43, js_aload_n 0, 44, 1, 0, 0), (44, js_iload 4, 46, 2, 0, 0), (46, js_iload_n 1, 47, 1, 0, 0), (47, js_invokevirtual 118, 50, 3, 18, 131)]) ([]))) (fr_nd 1 (fr_nd 0 ([(16, js_iconst 1, 17, 1, 0, 0), (17, js_istore 5, 19, 2, 0, 0), (19, js_iload 5, 21, 2, 0, 0), (21, js_iconst 3, 22, 1, 0, 0), (22, js_if_icmp .ge 41, 25, 3, 63, 0), (25, js_iload_n 3, 26, 1, 0, 0), (26, js_iload 5, 28, 2, 0, 0), (28, js_iload_n 1, 29, 1, 0, 0), (29, js_invokestatic 35, 32, 3, 16, 1)]) ([])) (fr_nd 0 ([(50, js_if_icmp .le 7, 53, 3, 57, 0), (57, js_iinc 5 1, 60, 3, 0, 0), (60, js_goto (-41), 63, 3, 19, 0), (63, js_iload 4, 65, 2, 0, 0)]) ([])))
noncomputable def cy_25 : ai_MT := (⟨"LightsMarket$Game", "bestFor", "(II)I"⟩, prog_4_method_11_code, 7, (some .int), none, 2)
noncomputable def cm_25 : ct_L := some (fr_code 3 ct_25, (fun _ _ => none), (0, 0), cy_25)
/-- LightsMarket.Land.<init>()V -/
noncomputable def ct_26 : ai_T (List fr_I) 3 := fr_nd 2 (fr_nd 1 (fr_nd 0 ([(0, js_aload_n 0, 1, 1, 0, 0), (1, js_invokespecial 3, 4, 3, 1004, 1), (4, js_aload_n 0, 5, 1, 0, 0), (5, js_bipush 100, 7, 2, 0, 0), (7, js_putfield 9, 10, 3, 3, 5), (10, js_aload_n 0, 11, 1, 0, 0), (11, js_iconst 4, 12, 1, 0, 0), (12, js_iconst 4, 13, 1, 0, 0), (13, js_multianewarray 15 2, 17, 4, 3, 0)]) ([(64, js_aload_n 0, 65, 1, 0, 0), (65, js_bipush 6, 67, 2, 0, 0), (67, js_bipush 20, 69, 2, 0, 0), (69, js_multianewarray 15 2, 73, 4, 3, 0), (73, js_putfield 42, 76, 3, 3, 13), (76, js_aload_n 0, 77, 1, 0, 0), (77, js_iconst 3, 78, 1, 0, 0), (78, js_iconst 3, 79, 1, 0, 0), (79, js_multianewarray 15 2, 83, 4, 3, 0)])) (fr_nd 0 ([(32, js_putfield 26, 35, 3, 3, 8), (35, js_aload_n 0, 36, 1, 0, 0), (36, js_iconst 5, 37, 1, 0, 0), (37, js_newarray .int, 39, 2, 0, 0), (39, js_putfield 30, 42, 3, 3, 9), (42, js_aload_n 0, 43, 1, 0, 0), (43, js_iconst 5, 44, 1, 0, 0), (44, js_newarray .int, 46, 2, 0, 0), (46, js_putfield 33, 49, 3, 3, 10)]) ([(96, js_iconst 0, 97, 1, 0, 0), (97, js_istore_n 1, 98, 1, 0, 0), (98, js_iload_n 1, 99, 1, 0, 0), (99, js_iconst 4, 100, 1, 0, 0), (100, js_if_icmp .ge 22, 103, 3, 122, 0), (103, js_aload_n 0, 104, 1, 0, 0), (104, js_getfield 22, 107, 3, 3, 7), (107, js_iload_n 1, 108, 1, 0, 0), (108, js_new 20, 111, 3, 4, 0), (111, js_dup, 112, 1, 0, 0)]))) (fr_nd 1 (fr_nd 0 ([(17, js_putfield 17, 20, 3, 3, 6), (20, js_aload_n 0, 21, 1, 0, 0), (21, js_iconst 4, 22, 1, 0, 0), (22, js_anewarray 20, 25, 3, 4, 0), (25, js_putfield 22, 28, 3, 3, 7), (28, js_aload_n 0, 29, 1, 0, 0), (29, js_iconst 5, 30, 1, 0, 0), (30, js_newarray .int, 32, 2, 0, 0)]) ([(83, js_putfield 45, 86, 3, 3, 14), (86, js_aload_n 0, 87, 1, 0, 0), (87, js_iconst 3, 88, 1, 0, 0), (88, js_iconst 3, 89, 1, 0, 0), (89, js_multianewarray 15 2, 93, 4, 3, 0), (93, js_putfield 48, 96, 3, 3, 15)])) (fr_nd 0 ([(49, js_aload_n 0, 50, 1, 0, 0), (50, js_iconst 5, 51, 1, 0, 0), (51, js_newarray .int, 53, 2, 0, 0), (53, js_putfield 36, 56, 3, 3, 11), (56, js_aload_n 0, 57, 1, 0, 0), (57, js_bipush 6, 59, 2, 0, 0), (59, js_newarray .int, 61, 2, 0, 0), (61, js_putfield 39, 64, 3, 3, 12)]) ([(112, js_invokespecial 51, 115, 3, 45, 1), (115, js_aastore, 116, 1, 0, 0), (116, js_iinc 1 1, 119, 3, 0, 0), (119, js_goto (-21), 122, 3, 98, 0), (122, js_aload_n 0, 123, 1, 0, 0), (123, js_invokevirtual 52, 126, 3, 38, 193), (126, js_return_, 127, 1, 0, 0)])))
noncomputable def cy_26 : ai_MT := (⟨"LightsMarket$Land", "<init>", "()V"⟩, prog_5_method_1_code, 2, none, none, 0)
noncomputable def cm_26 : ct_L := some (fr_code 3 ct_26, (fun _ _ => none), (50, 1308), cy_26)
/-- LightsMarket.Land.addPlace()I -/
noncomputable def ct_27 : ai_T (List fr_I) 1 := fr_nd 0 ([(0, js_aload_n 0, 1, 1, 0, 0), (1, js_getfield 55, 4, 3, 3, 0), (4, js_iconst 4, 5, 1, 0, 0), (5, js_if_icmp .lt 5, 8, 3, 10, 0), (10, js_aload_n 0, 11, 1, 0, 0), (11, js_dup, 12, 1, 0, 0), (12, js_getfield 55, 15, 3, 3, 0), (15, js_iconst 1, 16, 1, 0, 0)]) ([(16, js_iadd, 17, 1, 0, 0), (17, js_putfield 55, 20, 3, 3, 0), (20, js_aload_n 0, 21, 1, 0, 0), (21, js_invokevirtual 52, 24, 3, 38, 193), (24, js_aload_n 0, 25, 1, 0, 0), (25, js_getfield 55, 28, 3, 3, 0), (28, js_iconst 1, 29, 1, 0, 0), (29, js_isub, 30, 1, 0, 0), (30, js_ireturn, 31, 1, 0, 0)])
noncomputable def cy_27 : ai_MT := (⟨"LightsMarket$Land", "addPlace", "()I"⟩, prog_5_method_2_code, 1, (some .int), none, 0)
noncomputable def cm_27 : ct_L := some (fr_code 1 ct_27, (fun _ _ => none), (0, 0), cy_27)
/-- LightsMarket.Land.millAt(I)LLightsMarket$Mill; -/
noncomputable def ct_29 : ai_T (List fr_I) 1 := fr_nd 0 ([(0, js_iload_n 1, 1, 1, 0, 0), (1, js_ifCond .lt 17, 4, 3, 18, 0), (4, js_iload_n 1, 5, 1, 0, 0), (5, js_iconst 4, 6, 1, 0, 0), (6, js_if_icmp .ge 12, 9, 3, 18, 0), (9, js_aload_n 0, 10, 1, 0, 0), (10, js_getfield 22, 13, 3, 3, 7), (13, js_iload_n 1, 14, 1, 0, 0), (14, js_aaload, 15, 1, 0, 0), (15, js_goto 9, 18, 3, 24, 0)]) ([(24, js_areturn, 25, 1, 0, 0)])
noncomputable def cy_29 : ai_MT := (⟨"LightsMarket$Land", "millAt", "(I)LLightsMarket$Mill;"⟩, prog_5_method_4_code, 2, (some (FieldType.object "LightsMarket$Mill")), none, 1)
noncomputable def cm_29 : ct_L := some (fr_code 1 ct_29, (fun _ _ => none), (0, 0), cy_29)
/-- LightsMarket.Land.loadAt(II)I -/
noncomputable def ct_30 : ai_T (List fr_I) 1 := fr_nd 0 ([(0, js_iload_n 1, 1, 1, 0, 0), (1, js_ifCond .lt 26, 4, 3, 27, 0), (4, js_iload_n 1, 5, 1, 0, 0), (5, js_iconst 4, 6, 1, 0, 0), (6, js_if_icmp .ge 21, 9, 3, 27, 0), (9, js_iload_n 2, 10, 1, 0, 0), (10, js_invokestatic 61, 13, 3, 131, 1), (13, js_ifCond .eq 14, 16, 3, 27, 0)]) ([(16, js_aload_n 0, 17, 1, 0, 0), (17, js_getfield 17, 20, 3, 3, 6), (20, js_iload_n 1, 21, 1, 0, 0), (21, js_aaload, 22, 1, 0, 0), (22, js_iload_n 2, 23, 1, 0, 0), (23, js_iaload, 24, 1, 0, 0), (24, js_goto 4, 27, 3, 28, 0), (28, js_ireturn, 29, 1, 0, 0)])
noncomputable def cy_30 : ai_MT := (⟨"LightsMarket$Land", "loadAt", "(II)I"⟩, prog_5_method_5_code, 3, (some .int), none, 2)
noncomputable def cm_30 : ct_L := some (fr_code 1 ct_30, (fun _ _ => none), (0, 0), cy_30)
/-- LightsMarket.Land.water()I -/
noncomputable def ct_31 : ai_T (List fr_I) 2 := fr_nd 1 (fr_nd 0 ([(0, js_iconst 0, 1, 1, 0, 0), (1, js_istore_n 1, 2, 1, 0, 0), (2, js_iload_n 1, 3, 1, 0, 0), (3, js_aload_n 0, 4, 1, 0, 0), (4, js_getfield 65, 7, 3, 3, 2), (7, js_if_icmp .ge 29, 10, 3, 36, 0)]) ([(36, js_iconst (-1), 37, 1, 0, 0), (37, js_ireturn, 38, 1, 0, 0)])) (fr_nd 0 ([]) ([]))
noncomputable def cy_31 : ai_MT := (⟨"LightsMarket$Land", "water", "()I"⟩, prog_5_method_6_code, 2, (some .int), none, 0)
noncomputable def cm_31 : ct_L := some (fr_code 2 ct_31, (fun _ _ => none), (0, 0), cy_31)
/-- LightsMarket.Land.waterMost()I -/
noncomputable def ct_32 : ai_T (List fr_I) 1 := fr_nd 0 ([(0, js_aload_n 0, 1, 1, 0, 0), (1, js_invokevirtual 71, 4, 3, 31, 193), (4, js_istore_n 1, 5, 1, 0, 0), (5, js_iload_n 1, 6, 1, 0, 0), (6, js_iconst (-1), 7, 1, 0, 0), (7, js_if_icmp .ne 7, 10, 3, 14, 0), (10, js_iconst 0, 11, 1, 0, 0), (11, js_goto 11, 14, 3, 22, 0)]) ([(22, js_ireturn, 23, 1, 0, 0)])
noncomputable def cy_32 : ai_MT := (⟨"LightsMarket$Land", "waterMost", "()I"⟩, prog_5_method_7_code, 2, (some .int), none, 0)
noncomputable def cm_32 : ct_L := some (fr_code 1 ct_32, (fun _ _ => none), (0, 0), cy_32)
/-- LightsMarket.Land.wholeOf(I)I -/
noncomputable def ct_35 : ai_T (List fr_I) 1 := fr_nd 0 ([(0, js_iload_n 1, 1, 1, 0, 0), (1, js_ifCond .lt 18, 4, 3, 19, 0), (4, js_iload_n 1, 5, 1, 0, 0), (5, js_bipush 6, 7, 2, 0, 0), (7, js_if_icmp .ge 12, 10, 3, 19, 0), (10, js_aload_n 0, 11, 1, 0, 0), (11, js_getfield 39, 14, 3, 3, 12), (14, js_iload_n 1, 15, 1, 0, 0), (15, js_iaload, 16, 1, 0, 0)]) ([(16, js_goto 4, 19, 3, 20, 0), (20, js_ireturn, 21, 1, 0, 0)])
noncomputable def cy_35 : ai_MT := (⟨"LightsMarket$Land", "wholeOf", "(I)I"⟩, prog_5_method_10_code, 2, (some .int), none, 1)
noncomputable def cm_35 : ct_L := some (fr_code 1 ct_35, (fun _ _ => none), (0, 0), cy_35)
/-- LightsMarket.Land.rework()V -/
noncomputable def ct_38 : ai_T (List fr_I) 3 := fr_nd 2 (fr_nd 1 (fr_nd 0 ([(0, js_iconst 0, 1, 1, 0, 0), (1, js_istore_n 1, 2, 1, 0, 0), (2, js_iload_n 1, 3, 1, 0, 0), (3, js_aload_n 0, 4, 1, 0, 0), (4, js_getfield 58, 7, 3, 3, 1), (7, js_if_icmp .gt 75, 10, 3, 82, 0), (10, js_iload_n 1, 11, 1, 0, 0), (11, js_bipush 6, 13, 2, 0, 0), (13, js_if_icmp .ge 69, 16, 3, 82, 0)]) ([(64, js_iastore, 65, 1, 0, 0), (65, js_iinc 2 1, 68, 3, 0, 0), (68, js_goto (-34), 71, 3, 34, 0), (71, js_aload_n 0, 72, 1, 0, 0), (72, js_iload_n 1, 73, 1, 0, 0), (73, js_invokevirtual 94, 76, 3, 42, 194), (76, js_iinc 1 1, 79, 3, 0, 0), (79, js_goto (-77), 82, 3, 2, 0)])) (fr_nd 0 ([(32, js_iconst 0, 33, 1, 0, 0), (33, js_istore_n 2, 34, 1, 0, 0), (34, js_iload_n 2, 35, 1, 0, 0), (35, js_iconst 3, 36, 1, 0, 0), (36, js_if_icmp .ge 35, 39, 3, 71, 0), (39, js_aload_n 0, 40, 1, 0, 0), (40, js_getfield 39, 43, 3, 3, 12), (43, js_iload_n 1, 44, 1, 0, 0), (44, js_dup2, 45, 1, 0, 0), (45, js_iaload, 46, 1, 0, 0), (46, js_aload_n 0, 47, 1, 0, 0), (47, js_getfield 45, 50, 3, 3, 14)]) ([]))) (fr_nd 1 (fr_nd 0 ([(16, js_aload_n 0, 17, 1, 0, 0), (17, js_iload_n 1, 18, 1, 0, 0), (18, js_invokevirtual 87, 21, 3, 39, 194), (21, js_aload_n 0, 22, 1, 0, 0), (22, js_invokevirtual 91, 25, 3, 41, 193), (25, js_aload_n 0, 26, 1, 0, 0), (26, js_getfield 39, 29, 3, 3, 12), (29, js_iload_n 1, 30, 1, 0, 0), (30, js_iconst 0, 31, 1, 0, 0), (31, js_iastore, 32, 1, 0, 0)]) ([(82, js_return_, 83, 1, 0, 0)])) (fr_nd 0 ([(50, js_iconst 0, 51, 1, 0, 0), (51, js_aaload, 52, 1, 0, 0), (52, js_iload_n 2, 53, 1, 0, 0), (53, js_iaload, 54, 1, 0, 0), (54, js_aload_n 0, 55, 1, 0, 0), (55, js_getfield 48, 58, 3, 3, 15), (58, js_iconst 0, 59, 1, 0, 0), (59, js_aaload, 60, 1, 0, 0), (60, js_iload_n 2, 61, 1, 0, 0), (61, js_iaload, 62, 1, 0, 0), (62, js_imul, 63, 1, 0, 0), (63, js_iadd, 64, 1, 0, 0)]) ([])))
noncomputable def cy_38 : ai_MT := (⟨"LightsMarket$Land", "rework", "()V"⟩, prog_5_method_13_code, 3, none, none, 0)
noncomputable def cm_38 : ct_L := some (fr_code 3 ct_38, (fun _ _ => none), (0, 0), cy_38)
/-- LightsMarket.Land.fillPull(I)V -/
noncomputable def ct_39 : ai_T (List fr_I) 3 := fr_nd 2 (fr_nd 1 (fr_nd 0 ([(0, js_iconst 0, 1, 1, 0, 0), (1, js_istore_n 2, 2, 1, 0, 0), (2, js_iload_n 2, 3, 1, 0, 0), (3, js_iconst 3, 4, 1, 0, 0), (4, js_if_icmp .ge 42, 7, 3, 46, 0), (7, js_aload_n 0, 8, 1, 0, 0), (8, js_getfield 45, 11, 3, 3, 14), (11, js_iload_n 2, 12, 1, 0, 0), (12, js_aaload, 13, 1, 0, 0), (13, js_iconst 0, 14, 1, 0, 0), (14, js_invokestatic 97, 17, 3, 288, 2)]) ([])) (fr_nd 0 ([(38, js_iconst 1, 39, 1, 0, 0), (39, js_iastore, 40, 1, 0, 0), (40, js_iinc 2 1, 43, 3, 0, 0), (43, js_goto (-41), 46, 3, 2, 0), (46, js_iconst 0, 47, 1, 0, 0), (47, js_istore_n 2, 48, 1, 0, 0)]) ([(100, js_return_, 101, 1, 0, 0)]))) (fr_nd 1 (fr_nd 0 ([(17, js_aload_n 0, 18, 1, 0, 0), (18, js_getfield 45, 21, 3, 3, 14), (21, js_iload_n 2, 22, 1, 0, 0), (22, js_aaload, 23, 1, 0, 0), (23, js_iload_n 2, 24, 1, 0, 0), (24, js_iload_n 2, 25, 1, 0, 0), (25, js_iconst 1, 26, 1, 0, 0), (26, js_iadd, 27, 1, 0, 0), (27, js_aload_n 0, 28, 1, 0, 0), (28, js_getfield 55, 31, 3, 3, 0), (31, js_if_icmp .ge 7, 34, 3, 38, 0)]) ([])) (fr_nd 0 ([(48, js_iload_n 2, 49, 1, 0, 0), (49, js_aload_n 0, 50, 1, 0, 0), (50, js_getfield 58, 53, 3, 3, 1), (53, js_if_icmp .ge 47, 56, 3, 100, 0)]) ([])))
noncomputable def cy_39 : ai_MT := (⟨"LightsMarket$Land", "fillPull", "(I)V"⟩, prog_5_method_14_code, 3, none, none, 1)
noncomputable def cm_39 : ct_L := some (fr_code 3 ct_39, (fun _ _ => none), (0, 0), cy_39)
/-- LightsMarket.Land.turn()V -/
noncomputable def ct_41 : ai_T (List fr_I) 3 := fr_nd 2 (fr_nd 1 (fr_nd 0 ([(0, js_iconst 0, 1, 1, 0, 0), (1, js_istore_n 1, 2, 1, 0, 0), (2, js_iload_n 1, 3, 1, 0, 0), (3, js_iconst 3, 4, 1, 0, 0), (4, js_if_icmp .ge 100, 7, 3, 104, 0), (7, js_iload_n 1, 8, 1, 0, 0), (8, js_iconst 1, 9, 1, 0, 0), (9, js_iadd, 10, 1, 0, 0), (10, js_iconst 3, 11, 1, 0, 0), (11, js_irem, 12, 1, 0, 0), (12, js_istore_n 2, 13, 1, 0, 0), (13, js_iload_n 1, 14, 1, 0, 0), (14, js_iconst 2, 15, 1, 0, 0), (15, js_iadd, 16, 1, 0, 0)]) ([(65, js_iload_n 3, 66, 1, 0, 0), (66, js_aaload, 67, 1, 0, 0), (67, js_iload 6, 69, 2, 0, 0), (69, js_iaload, 70, 1, 0, 0), (70, js_imul, 71, 1, 0, 0), (71, js_aload_n 0, 72, 1, 0, 0), (72, js_getfield 45, 75, 3, 3, 14), (75, js_iload_n 2, 76, 1, 0, 0), (76, js_aaload, 77, 1, 0, 0), (77, js_iload 6, 79, 2, 0, 0), (79, js_iaload, 80, 1, 0, 0)])) (fr_nd 0 ([(32, js_iconst 3, 33, 1, 0, 0), (33, js_irem, 34, 1, 0, 0), (34, js_istore 5, 36, 2, 0, 0), (36, js_iload 4, 38, 2, 0, 0), (38, js_iconst 2, 39, 1, 0, 0), (39, js_iadd, 40, 1, 0, 0), (40, js_iconst 3, 41, 1, 0, 0), (41, js_irem, 42, 1, 0, 0), (42, js_istore 6, 44, 2, 0, 0), (44, js_aload_n 0, 45, 1, 0, 0), (45, js_getfield 48, 48, 3, 3, 15)]) ([(98, js_iinc 1 1, 101, 3, 0, 0), (101, js_goto (-99), 104, 3, 2, 0), (104, js_return_, 105, 1, 0, 0)]))) (fr_nd 1 (fr_nd 0 ([(16, js_iconst 3, 17, 1, 0, 0), (17, js_irem, 18, 1, 0, 0), (18, js_istore_n 3, 19, 1, 0, 0), (19, js_iconst 0, 20, 1, 0, 0), (20, js_istore 4, 22, 2, 0, 0), (22, js_iload 4, 24, 2, 0, 0), (24, js_iconst 3, 25, 1, 0, 0), (25, js_if_icmp .ge 73, 28, 3, 98, 0), (28, js_iload 4, 30, 2, 0, 0), (30, js_iconst 1, 31, 1, 0, 0), (31, js_iadd, 32, 1, 0, 0)]) ([(80, js_aload_n 0, 81, 1, 0, 0), (81, js_getfield 45, 84, 3, 3, 14), (84, js_iload_n 3, 85, 1, 0, 0), (85, js_aaload, 86, 1, 0, 0), (86, js_iload 5, 88, 2, 0, 0), (88, js_iaload, 89, 1, 0, 0), (89, js_imul, 90, 1, 0, 0), (90, js_isub, 91, 1, 0, 0), (91, js_iastore, 92, 1, 0, 0), (92, js_iinc 4 1, 95, 3, 0, 0), (95, js_goto (-73), 98, 3, 22, 0)])) (fr_nd 0 ([(48, js_iload_n 1, 49, 1, 0, 0), (49, js_aaload, 50, 1, 0, 0), (50, js_iload 4, 52, 2, 0, 0), (52, js_aload_n 0, 53, 1, 0, 0), (53, js_getfield 45, 56, 3, 3, 14), (56, js_iload_n 2, 57, 1, 0, 0), (57, js_aaload, 58, 1, 0, 0), (58, js_iload 5, 60, 2, 0, 0), (60, js_iaload, 61, 1, 0, 0), (61, js_aload_n 0, 62, 1, 0, 0), (62, js_getfield 45, 65, 3, 3, 14)]) ([])))
noncomputable def cy_41 : ai_MT := (⟨"LightsMarket$Land", "turn", "()V"⟩, prog_5_method_16_code, 7, none, none, 0)
noncomputable def cm_41 : ct_L := some (fr_code 3 ct_41, (fun _ _ => none), (0, 0), cy_41)
/-- LightsMarket.Land.fillShares(I)V -/
noncomputable def ct_42 : ai_T (List fr_I) 3 := fr_nd 2 (fr_nd 1 (fr_nd 0 ([(0, js_iconst 0, 1, 1, 0, 0), (1, js_istore_n 2, 2, 1, 0, 0), (2, js_iload_n 2, 3, 1, 0, 0), (3, js_aload_n 0, 4, 1, 0, 0), (4, js_getfield 58, 7, 3, 3, 1), (7, js_if_icmp .ge 87, 10, 3, 94, 0)]) ([])) (fr_nd 0 ([]) ([]))) (fr_nd 1 (fr_nd 0 ([]) ([(94, js_return_, 95, 1, 0, 0)])) (fr_nd 0 ([]) ([])))
noncomputable def cy_42 : ai_MT := (⟨"LightsMarket$Land", "fillShares", "(I)V"⟩, prog_5_method_17_code, 5, none, none, 1)
noncomputable def cm_42 : ct_L := some (fr_code 3 ct_42, (fun _ _ => none), (0, 0), cy_42)
/-- LightsMarket.Land.carries(I[I)Z -/
noncomputable def ct_44 : ai_T (List fr_I) 3 := fr_nd 2 (fr_nd 1 (fr_nd 0 ([(0, js_aload_n 0, 1, 1, 0, 0), (1, js_iload_n 1, 2, 1, 0, 0), (2, js_invokevirtual 111, 5, 3, 35, 194), (5, js_istore_n 3, 6, 1, 0, 0), (6, js_iload_n 3, 7, 1, 0, 0), (7, js_ifCond .ne 5, 10, 3, 12, 0), (12, js_iload_n 1, 13, 1, 0, 0), (13, js_ifCond .ne 7, 16, 3, 20, 0)]) ([])) (fr_nd 0 ([(32, js_getfield 58, 35, 3, 3, 1), (35, js_if_icmp .ge 81, 38, 3, 116, 0)]) ([]))) (fr_nd 1 (fr_nd 0 ([(16, js_iconst 0, 17, 1, 0, 0), (17, js_goto 7, 20, 3, 24, 0), (24, js_istore 4, 26, 2, 0, 0), (26, js_iconst 0, 27, 1, 0, 0), (27, js_istore 5, 29, 2, 0, 0), (29, js_iload 5, 31, 2, 0, 0), (31, js_aload_n 0, 32, 1, 0, 0)]) ([])) (fr_nd 0 ([]) ([(116, js_iconst 1, 117, 1, 0, 0), (117, js_ireturn, 118, 1, 2, 0)])))
noncomputable def cy_44 : ai_MT := (⟨"LightsMarket$Land", "carries", "(I[I)Z"⟩, prog_5_method_19_code, 8, (some .boolean), none, 2)
noncomputable def cm_44 : ct_L := some (fr_code 3 ct_44, (fun _ _ => none), (0, 0), cy_44)
/-- LightsMarket.Mill.<init>()V -/
noncomputable def ct_45 : ai_T (List fr_I) 1 := fr_nd 0 ([(0, js_aload_n 0, 1, 1, 0, 0), (1, js_invokespecial 3, 4, 3, 1004, 1), (4, js_aload_n 0, 5, 1, 0, 0), (5, js_iconst 4, 6, 1, 0, 0), (6, js_newarray .int, 8, 2, 0, 0), (8, js_putfield 9, 11, 3, 4, 13), (11, js_aload_n 0, 12, 1, 0, 0), (12, js_new 15, 15, 3, 6, 0), (15, js_dup, 16, 1, 0, 0)]) ([(16, js_invokespecial 17, 19, 3, 62, 1), (19, js_putfield 18, 22, 3, 4, 14), (22, js_return_, 23, 1, 0, 0)])
noncomputable def cy_45 : ai_MT := (⟨"LightsMarket$Mill", "<init>", "()V"⟩, prog_6_method_1_code, 1, none, none, 0)
noncomputable def cm_45 : ct_L := some (fr_code 1 ct_45, (fun _ _ => none), (5, 262), cy_45)
/-- LightsMarket.Night.<init>(LLightsMarket$Land;)V -/
noncomputable def ct_51 : ai_T (List fr_I) 2 := fr_nd 1 (fr_nd 0 ([(0, js_aload_n 0, 1, 1, 0, 0), (1, js_invokespecial 3, 4, 3, 1004, 1), (4, js_aload_n 0, 5, 1, 0, 0), (5, js_iconst 4, 6, 1, 0, 0), (6, js_newarray .int, 8, 2, 0, 0), (8, js_putfield 9, 11, 3, 5, 10), (11, js_aload_n 0, 12, 1, 0, 0), (12, js_iconst 4, 13, 1, 0, 0), (13, js_newarray .int, 15, 2, 0, 0), (15, js_putfield 15, 18, 3, 5, 11)]) ([(32, js_aload_n 0, 33, 1, 0, 0), (33, js_aload_n 1, 34, 1, 0, 0), (34, js_putfield 24, 37, 3, 5, 5), (37, js_return_, 38, 1, 0, 0)])) (fr_nd 0 ([(18, js_aload_n 0, 19, 1, 0, 0), (19, js_iconst 4, 20, 1, 0, 0), (20, js_newarray .int, 22, 2, 0, 0), (22, js_putfield 18, 25, 3, 5, 12), (25, js_aload_n 0, 26, 1, 0, 0), (26, js_iconst 4, 27, 1, 0, 0), (27, js_newarray .int, 29, 2, 0, 0), (29, js_putfield 21, 32, 3, 5, 13)]) ([]))
noncomputable def cy_51 : ai_MT := (⟨"LightsMarket$Night", "<init>", "(LLightsMarket$Land;)V"⟩, prog_7_method_1_code, 2, none, none, 1)
noncomputable def cm_51 : ct_L := some (fr_code 2 ct_51, (fun _ _ => none), (4, 16), cy_51)
/-- LightsMarket.Night.begin(IIII)Z -/
noncomputable def ct_52 : ai_T (List fr_I) 4 := fr_nd 3 (fr_nd 2 (fr_nd 1 (fr_nd 0 ([(0, js_iload_n 3, 1, 1, 0, 0), (1, js_iconst 1, 2, 1, 0, 0), (2, js_iconst 3, 3, 1, 0, 0), (3, js_invokestatic 28, 6, 3, 128, 3), (6, js_ifCond .eq 20, 9, 3, 26, 0), (9, js_aload_n 0, 10, 1, 0, 0), (10, js_iload 4, 12, 2, 0, 0), (12, js_invokevirtual 32, 15, 3, 53, 322), (15, js_ifCond .eq 11, 18, 3, 26, 0)]) ([(128, js_iinc 5 1, 131, 3, 0, 0), (131, js_goto (-42), 134, 3, 89, 0), (134, js_iconst 0, 135, 1, 0, 0), (135, js_istore 5, 137, 2, 0, 0), (137, js_iload 5, 139, 2, 0, 0), (139, js_iconst 4, 140, 1, 0, 0), (140, js_if_icmp .ge 46, 143, 3, 186, 0), (143, js_aload_n 0, 144, 1, 0, 0)])) (fr_nd 0 ([(64, js_aload_n 0, 65, 1, 0, 0), (65, js_aload_n 0, 66, 1, 0, 0), (66, js_getfield 24, 69, 3, 5, 5), (69, js_getfield 63, 72, 3, 3, 0), (72, js_putfield 68, 75, 3, 5, 6), (75, js_aload_n 0, 76, 1, 0, 0), (76, js_aload_n 0, 77, 1, 0, 0), (77, js_getfield 24, 80, 3, 5, 5)]) ([]))) (fr_nd 1 (fr_nd 0 ([(33, js_aload_n 0, 34, 1, 0, 0), (34, js_iconst 0, 35, 1, 0, 0), (35, js_putfield 43, 38, 3, 5, 1), (38, js_aload_n 0, 39, 1, 0, 0), (39, js_ldc 46, 41, 2, 0, 2147533648), (41, js_putfield 47, 44, 3, 5, 2), (44, js_aload_n 0, 45, 1, 0, 0), (45, js_iconst 0, 46, 1, 0, 0), (46, js_putfield 51, 49, 3, 5, 3)]) ([(170, js_iconst 0, 171, 1, 0, 0), (171, js_iastore, 172, 1, 0, 0), (172, js_aload_n 0, 173, 1, 0, 0), (173, js_getfield 21, 176, 3, 5, 13)])) (fr_nd 0 ([(96, js_getfield 9, 99, 3, 5, 10), (99, js_iload 5, 101, 2, 0, 0), (101, js_aload_n 0, 102, 1, 0, 0), (102, js_getfield 24, 105, 3, 5, 5), (105, js_iload 5, 107, 2, 0, 0), (107, js_iload_n 1, 108, 1, 0, 0), (108, js_invokevirtual 73, 111, 3, 30, 195), (111, js_iastore, 112, 1, 0, 0)]) ([])))) (fr_nd 2 (fr_nd 1 (fr_nd 0 ([(18, js_aload_n 0, 19, 1, 0, 0), (19, js_iload_n 2, 20, 1, 0, 0), (20, js_invokevirtual 36, 23, 3, 54, 322), (23, js_ifCond .ne 5, 26, 3, 28, 0), (26, js_iconst 0, 27, 1, 0, 0), (27, js_ireturn, 28, 1, 2, 0), (28, js_aload_n 0, 29, 1, 0, 0), (29, js_iconst 1, 30, 1, 0, 0), (30, js_putfield 39, 33, 3, 5, 0)]) ([(144, js_getfield 18, 147, 3, 5, 12), (147, js_iload 5, 149, 2, 0, 0), (149, js_iload 5, 151, 2, 0, 0), (151, js_aload_n 0, 152, 1, 0, 0), (152, js_getfield 72, 155, 3, 5, 7), (155, js_if_icmp .ge 15, 158, 3, 170, 0)])) (fr_nd 0 ([(80, js_getfield 69, 83, 3, 3, 2), (83, js_putfield 72, 86, 3, 5, 7), (86, js_iconst 0, 87, 1, 0, 0), (87, js_istore 5, 89, 2, 0, 0), (89, js_iload 5, 91, 2, 0, 0), (91, js_iconst 4, 92, 1, 0, 0), (92, js_if_icmp .ge 42, 95, 3, 134, 0), (95, js_aload_n 0, 96, 1, 0, 0)]) ([]))) (fr_nd 1 (fr_nd 0 ([(49, js_aload_n 0, 50, 1, 0, 0), (50, js_iconst 0, 51, 1, 0, 0), (51, js_putfield 54, 54, 3, 5, 4), (54, js_aload_n 0, 55, 1, 0, 0), (55, js_iconst 0, 56, 1, 0, 0), (56, js_putfield 57, 59, 3, 5, 9), (59, js_aload_n 0, 60, 1, 0, 0), (60, js_iload_n 3, 61, 1, 0, 0), (61, js_putfield 60, 64, 3, 5, 8)]) ([(176, js_iload 5, 178, 2, 0, 0), (178, js_iconst (-1), 179, 1, 0, 0), (179, js_iastore, 180, 1, 0, 0), (180, js_iinc 5 1, 183, 3, 0, 0), (183, js_goto (-46), 186, 3, 137, 0), (186, js_iconst 1, 187, 1, 0, 0), (187, js_ireturn, 188, 1, 2, 0)])) (fr_nd 0 ([(112, js_aload_n 0, 113, 1, 0, 0), (113, js_getfield 15, 116, 3, 5, 11), (116, js_iload 5, 118, 2, 0, 0), (118, js_iload 4, 120, 2, 0, 0), (120, js_iconst 2, 121, 1, 0, 0), (121, js_iload 5, 123, 2, 0, 0), (123, js_imul, 124, 1, 0, 0), (124, js_ishr, 125, 1, 0, 0), (125, js_iconst 3, 126, 1, 0, 0), (126, js_iand, 127, 1, 0, 0), (127, js_iastore, 128, 1, 0, 0)]) ([]))))
noncomputable def cy_52 : ai_MT := (⟨"LightsMarket$Night", "begin", "(IIII)Z"⟩, prog_7_method_2_code, 6, (some .boolean), none, 4)
noncomputable def cm_52 : ct_L := some (fr_code 4 ct_52, (fun _ _ => none), (0, 0), cy_52)
/-- LightsMarket.Night.orderRight(I)Z -/
noncomputable def ct_53 : ai_T (List fr_I) 2 := fr_nd 1 (fr_nd 0 ([(0, js_iconst 0, 1, 1, 0, 0), (1, js_istore_n 2, 2, 1, 0, 0), (2, js_iconst 0, 3, 1, 0, 0), (3, js_istore_n 3, 4, 1, 0, 0), (4, js_iload_n 3, 5, 1, 0, 0), (5, js_aload_n 0, 6, 1, 0, 0), (6, js_getfield 24, 9, 3, 5, 5), (9, js_getfield 63, 12, 3, 3, 0), (12, js_if_icmp .ge 26, 15, 3, 38, 0)]) ([(38, js_iload_n 2, 39, 1, 0, 0), (39, js_iconst 1, 40, 1, 0, 0), (40, js_aload_n 0, 41, 1, 0, 0), (41, js_getfield 24, 44, 3, 5, 5), (44, js_getfield 63, 47, 3, 3, 0), (47, js_ishl, 48, 1, 0, 0)])) (fr_nd 0 ([]) ([(48, js_iconst 1, 49, 1, 0, 0), (49, js_isub, 50, 1, 0, 0), (50, js_if_icmp .ne 7, 53, 3, 57, 0), (53, js_iconst 1, 54, 1, 0, 0), (54, js_goto 4, 57, 3, 58, 0), (58, js_ireturn, 59, 1, 2, 0)]))
noncomputable def cy_53 : ai_MT := (⟨"LightsMarket$Night", "orderRight", "(I)Z"⟩, prog_7_method_3_code, 4, (some .boolean), none, 1)
noncomputable def cm_53 : ct_L := some (fr_code 2 ct_53, (fun _ _ => none), (0, 0), cy_53)
/-- LightsMarket.Night.unitsRight(I)Z -/
noncomputable def ct_54 : ai_T (List fr_I) 2 := fr_nd 1 (fr_nd 0 ([(0, js_iconst 0, 1, 1, 0, 0), (1, js_istore_n 2, 2, 1, 0, 0), (2, js_iload_n 2, 3, 1, 0, 0), (3, js_aload_n 0, 4, 1, 0, 0), (4, js_getfield 24, 7, 3, 5, 5), (7, js_getfield 69, 10, 3, 3, 2), (10, js_if_icmp .ge 38, 13, 3, 48, 0)]) ([])) (fr_nd 0 ([]) ([(48, js_iconst 1, 49, 1, 0, 0), (49, js_ireturn, 50, 1, 2, 0)]))
noncomputable def cy_54 : ai_MT := (⟨"LightsMarket$Night", "unitsRight", "(I)Z"⟩, prog_7_method_4_code, 3, (some .boolean), none, 1)
noncomputable def cm_54 : ct_L := some (fr_code 2 ct_54, (fun _ _ => none), (0, 0), cy_54)
/-- LightsMarket.Offer.<init>()V -/
noncomputable def ct_62 : ai_T (List fr_I) 1 := fr_nd 0 ([(0, js_aload_n 0, 1, 1, 0, 0), (1, js_invokespecial 3, 4, 3, 1004, 1), (4, js_aload_n 0, 5, 1, 0, 0), (5, js_sipush 200, 8, 3, 0, 0), (8, js_newarray .int, 10, 2, 0, 0), (10, js_putfield 11, 13, 3, 6, 0), (13, js_aload_n 0, 14, 1, 0, 0), (14, js_iconst 5, 15, 1, 0, 0), (15, js_newarray .int, 17, 2, 0, 0)]) ([(17, js_putfield 17, 20, 3, 6, 1), (20, js_aload_n 0, 21, 1, 0, 0), (21, js_bipush 48, 23, 2, 0, 0), (23, js_newarray .int, 25, 2, 0, 0), (25, js_putfield 20, 28, 3, 6, 2), (28, js_return_, 29, 1, 0, 0)])
noncomputable def cy_62 : ai_MT := (⟨"LightsMarket$Offer", "<init>", "()V"⟩, prog_8_method_1_code, 1, none, none, 0)
noncomputable def cm_62 : ct_L := some (fr_code 1 ct_62, (fun _ _ => none), (3, 253), cy_62)
/-- LightsMarket.Planner.<init>(LLightsMarket$Land;LLightsMarket$Dispatch;LLightsMarket$Best;)V -/
noncomputable def ct_70 : ai_T (List fr_I) 2 := fr_nd 1 (fr_nd 0 ([(0, js_aload_n 0, 1, 1, 0, 0), (1, js_invokespecial 3, 4, 3, 1004, 1), (4, js_aload_n 0, 5, 1, 0, 0), (5, js_iconst 4, 6, 1, 0, 0), (6, js_sipush 128, 9, 3, 0, 0), (9, js_multianewarray 11 2, 13, 4, 3, 0), (13, js_putfield 13, 16, 3, 7, 3)]) ([(33, js_aload_n 0, 34, 1, 0, 0), (34, js_aload_n 2, 35, 1, 0, 0), (35, js_putfield 23, 38, 3, 7, 1), (38, js_aload_n 0, 39, 1, 0, 0), (39, js_aload_n 3, 40, 1, 0, 0), (40, js_putfield 27, 43, 3, 7, 2), (43, js_return_, 44, 1, 0, 0)])) (fr_nd 0 ([(16, js_aload_n 0, 17, 1, 0, 0), (17, js_iconst 5, 18, 1, 0, 0), (18, js_sipush 256, 21, 3, 0, 0), (21, js_multianewarray 11 2, 25, 4, 3, 0), (25, js_putfield 16, 28, 3, 7, 4), (28, js_aload_n 0, 29, 1, 0, 0), (29, js_aload_n 1, 30, 1, 0, 0), (30, js_putfield 19, 33, 3, 7, 0)]) ([]))
noncomputable def cy_70 : ai_MT := (⟨"LightsMarket$Planner", "<init>", "(LLightsMarket$Land;LLightsMarket$Dispatch;LLightsMarket$Best;)V"⟩, prog_9_method_1_code, 4, none, none, 3)
noncomputable def cm_70 : ct_L := some (fr_code 2 ct_70, (fun _ _ => none), (11, 1801), cy_70)
/-- LightsMarket.Planner.seek(II)I -/
noncomputable def ct_71 : ai_T (List fr_I) 5 := fr_nd 4 (fr_nd 3 (fr_nd 2 (fr_nd 1 (fr_nd 0 ([(0, js_iconst 1, 1, 1, 0, 0), (1, js_iconst 4, 2, 1, 0, 0), (2, js_iload_n 1, 3, 1, 0, 0), (3, js_invokestatic 31, 6, 3, 1001, 2), (6, js_invokestatic 37, 9, 3, 1000, 2), (9, js_istore_n 3, 10, 1, 0, 0), (10, js_aload_n 0, 11, 1, 0, 0), (11, js_getfield 19, 14, 3, 7, 0), (14, js_invokevirtual 40, 17, 3, 31, 193)]) ([(256, js_aload_n 0, 257, 1, 0, 0), (257, js_iload 6, 259, 2, 0, 0), (259, js_iload 5, 261, 2, 0, 0), (261, js_invokevirtual 104, 264, 3, 81, 451), (264, js_iconst 0, 265, 1, 0, 0), (265, js_istore 8, 267, 2, 0, 0), (267, js_iload 8, 269, 2, 0, 0), (269, js_iload_n 3, 270, 1, 0, 0), (270, js_if_icmp .ge 43, 273, 3, 313, 0)])) (fr_nd 0 ([]) ([]))) (fr_nd 1 (fr_nd 0 ([(78, js_istore 5, 80, 2, 0, 0)]) ([])) (fr_nd 0 ([(192, js_iconst 1, 193, 1, 0, 0), (193, js_isub, 194, 1, 0, 0), (194, js_istore 6, 196, 2, 0, 0), (196, js_iload 6, 198, 2, 0, 0), (198, js_ifCond .lt 15, 201, 3, 213, 0), (201, js_aload_n 0, 202, 1, 0, 0), (202, js_iload 6, 204, 2, 0, 0), (204, js_invokevirtual 87, 207, 3, 73, 450), (207, js_iinc 6 (-1), 210, 3, 0, 0)]) ([])))) (fr_nd 2 (fr_nd 1 (fr_nd 0 ([(33, js_iconst (-1), 34, 1, 0, 0), (34, js_if_icmp .ne 7, 37, 3, 41, 0), (37, js_iconst 0, 38, 1, 0, 0), (38, js_goto 15, 41, 3, 53, 0)]) ([(290, js_getfield 107, 293, 3, 0, 3), (293, js_iload 8, 295, 2, 0, 0), (295, js_iconst 1, 296, 1, 0, 0), (296, js_isub, 297, 1, 0, 0), (297, js_iaload, 298, 1, 0, 0), (298, js_invokevirtual 111, 301, 3, 82, 451), (301, js_aload_n 0, 302, 1, 0, 0), (302, js_iload 8, 304, 2, 0, 0)])) (fr_nd 0 ([(160, js_iconst 0, 161, 1, 0, 0), (161, js_istore 6, 163, 2, 0, 0), (163, js_iload 6, 165, 2, 0, 0), (165, js_iload_n 3, 166, 1, 0, 0), (166, js_if_icmp .ge 15, 169, 3, 181, 0), (169, js_aload_n 0, 170, 1, 0, 0), (170, js_iload 6, 172, 2, 0, 0), (172, js_invokevirtual 77, 175, 3, 72, 450), (175, js_iinc 6 1, 178, 3, 0, 0)]) ([]))) (fr_nd 1 (fr_nd 0 ([(96, js_aload_n 0, 97, 1, 0, 0), (97, js_iconst 0, 98, 1, 0, 0), (98, js_putfield 68, 101, 3, 7, 5), (101, js_iconst 0, 102, 1, 0, 0), (102, js_istore 6, 104, 2, 0, 0), (104, js_iload 6, 106, 2, 0, 0), (106, js_aload_n 0, 107, 1, 0, 0), (107, js_getfield 19, 110, 3, 7, 0), (110, js_getfield 71, 113, 3, 3, 2)]) ([])) (fr_nd 0 ([(225, js_iload 5, 227, 2, 0, 0), (227, js_invokevirtual 90, 230, 3, 75, 452), (230, js_istore 7, 232, 2, 0, 0), (232, js_iload 7, 234, 2, 0, 0), (234, js_ldc 94, 236, 2, 0, 2247483648), (236, js_if_icmp .lt 5, 239, 3, 241, 0)]) ([]))))) (fr_nd 3 (fr_nd 2 (fr_nd 1 (fr_nd 0 ([(17, js_istore 4, 19, 2, 0, 0), (19, js_aload_n 0, 20, 1, 0, 0), (20, js_aload_n 0, 21, 1, 0, 0), (21, js_getfield 19, 24, 3, 7, 0), (24, js_invokevirtual 46, 27, 3, 32, 193), (27, js_putfield 49, 30, 3, 7, 6), (30, js_aload_n 0, 31, 1, 0, 0), (31, js_iload 4, 33, 2, 0, 0)]) ([(273, js_aload_n 0, 274, 1, 0, 0), (274, js_iload 8, 276, 2, 0, 0), (276, js_iload 8, 278, 2, 0, 0), (278, js_ifCond .ne 8, 281, 3, 286, 0), (281, js_iload 6, 283, 2, 0, 0), (283, js_goto 15, 286, 3, 298, 0), (286, js_aload_n 0, 287, 1, 0, 0), (287, js_getfield 27, 290, 3, 7, 2)])) (fr_nd 0 ([]) ([]))) (fr_nd 1 (fr_nd 0 ([(80, js_aload_n 0, 81, 1, 0, 0), (81, js_iload 4, 83, 2, 0, 0), (83, js_iconst (-1), 84, 1, 0, 0), (84, js_if_icmp .ne 7, 87, 3, 91, 0), (87, js_iconst 0, 88, 1, 0, 0), (88, js_goto 5, 91, 3, 93, 0), (93, js_putfield 65, 96, 3, 7, 8)]) ([])) (fr_nd 0 ([(210, js_goto (-14), 213, 3, 196, 0), (213, js_iload_n 2, 214, 1, 0, 0), (214, js_aload_n 0, 215, 1, 0, 0), (215, js_getfield 68, 218, 3, 7, 5), (218, js_iand, 219, 1, 0, 0), (219, js_istore 6, 221, 2, 0, 0), (221, js_aload_n 0, 222, 1, 0, 0), (222, js_iconst 0, 223, 1, 0, 0), (223, js_iload 6, 225, 2, 0, 0)]) ([])))) (fr_nd 2 (fr_nd 1 (fr_nd 0 ([(53, js_putfield 61, 56, 3, 7, 7), (56, js_iload 4, 58, 2, 0, 0), (58, js_iconst (-1), 59, 1, 0, 0), (59, js_if_icmp .ne 7, 62, 3, 66, 0), (62, js_iconst 0, 63, 1, 0, 0), (63, js_goto 15, 66, 3, 78, 0)]) ([(304, js_invokevirtual 114, 307, 3, 83, 450), (307, js_iinc 8 1, 310, 3, 0, 0), (310, js_goto (-43), 313, 3, 267, 0), (313, js_aload_n 0, 314, 1, 0, 0), (314, js_invokevirtual 117, 317, 3, 84, 449), (317, js_iload 7, 319, 2, 0, 0), (319, js_ireturn, 320, 1, 0, 0)])) (fr_nd 0 ([(178, js_goto (-15), 181, 3, 163, 0), (181, js_aload_n 0, 182, 1, 0, 0), (182, js_getfield 16, 185, 3, 7, 4), (185, js_iload_n 3, 186, 1, 0, 0), (186, js_aaload, 187, 1, 0, 0), (187, js_iconst 0, 188, 1, 0, 0), (188, js_invokestatic 81, 191, 3, 288, 2), (191, js_iload_n 3, 192, 1, 0, 0)]) ([]))) (fr_nd 1 (fr_nd 0 ([(113, js_if_icmp .ge 47, 116, 3, 160, 0)]) ([])) (fr_nd 0 ([(241, js_aload_n 0, 242, 1, 0, 0), (242, js_getfield 27, 245, 3, 7, 2), (245, js_iload_n 3, 246, 1, 0, 0), (246, js_aload_n 0, 247, 1, 0, 0), (247, js_getfield 19, 250, 3, 7, 0), (250, js_getfield 95, 253, 3, 3, 0), (253, js_invokevirtual 98, 256, 3, 1, 3)]) ([])))))
noncomputable def cy_71 : ai_MT := (⟨"LightsMarket$Planner", "seek", "(II)I"⟩, prog_9_method_2_code, 9, (some .int), none, 2)
noncomputable def cm_71 : ct_L := some (fr_code 5 ct_71, (fun _ _ => none), (0, 0), cy_71)
/-- LightsMarket.Planner.fillCost(I)V -/
noncomputable def ct_72 : ai_T (List fr_I) 3 := fr_nd 2 (fr_nd 1 (fr_nd 0 ([(0, js_aload_n 0, 1, 1, 0, 0), (1, js_getfield 23, 4, 3, 7, 1), (4, js_iload_n 1, 5, 1, 0, 0), (5, js_iconst (-1), 6, 1, 0, 0), (6, js_invokevirtual 120, 9, 3, 4, 67), (9, js_iconst 0, 10, 1, 0, 0), (10, js_istore_n 2, 11, 1, 0, 0), (11, js_iload_n 2, 12, 1, 0, 0), (12, js_bipush 16, 14, 2, 0, 0), (14, js_if_icmp .ge 84, 17, 3, 98, 0)]) ([(64, js_iload_n 1, 65, 1, 0, 0), (65, js_aaload, 66, 1, 0, 0), (66, js_iload_n 2, 67, 1, 0, 0), (67, js_bipush 8, 69, 2, 0, 0), (69, js_imul, 70, 1, 0, 0), (70, js_iload_n 3, 71, 1, 0, 0), (71, js_iadd, 72, 1, 0, 0), (72, js_iload 4, 74, 2, 0, 0), (74, js_iconst (-1), 75, 1, 0, 0), (75, js_if_icmp .ne 8, 78, 3, 83, 0), (78, js_ldc 94, 80, 2, 0, 2247483648)])) (fr_nd 0 ([(33, js_iconst (-1), 34, 1, 0, 0), (34, js_ixor, 35, 1, 0, 0), (35, js_iand, 36, 1, 0, 0), (36, js_ifCond .ne 24, 39, 3, 60, 0), (39, js_iload_n 3, 40, 1, 0, 0), (40, js_aload_n 0, 41, 1, 0, 0), (41, js_getfield 49, 44, 3, 7, 6), (44, js_if_icmp .gt 16, 47, 3, 60, 0), (47, js_aload_n 0, 48, 1, 0, 0)]) ([(98, js_return_, 99, 1, 0, 0)]))) (fr_nd 1 (fr_nd 0 ([(17, js_iconst 0, 18, 1, 0, 0), (18, js_istore_n 3, 19, 1, 0, 0), (19, js_iload_n 3, 20, 1, 0, 0), (20, js_bipush 8, 22, 2, 0, 0), (22, js_if_icmp .ge 70, 25, 3, 92, 0), (25, js_iconst (-1), 26, 1, 0, 0), (26, js_istore 4, 28, 2, 0, 0), (28, js_iload_n 2, 29, 1, 0, 0), (29, js_aload_n 0, 30, 1, 0, 0), (30, js_getfield 68, 33, 3, 7, 5)]) ([(80, js_goto 5, 83, 3, 85, 0), (83, js_iload 4, 85, 2, 0, 0), (85, js_iastore, 86, 1, 0, 0), (86, js_iinc 3 1, 89, 3, 0, 0), (89, js_goto (-70), 92, 3, 19, 0), (92, js_iinc 2 1, 95, 3, 0, 0), (95, js_goto (-84), 98, 3, 11, 0)])) (fr_nd 0 ([(48, js_getfield 23, 51, 3, 7, 1), (51, js_iload_n 2, 52, 1, 0, 0), (52, js_iload_n 3, 53, 1, 0, 0), (53, js_iconst 0, 54, 1, 0, 0), (54, js_iconst (-1), 55, 1, 0, 0), (55, js_invokevirtual 125, 58, 3, 8, 69), (58, js_istore 4, 60, 2, 0, 0), (60, js_aload_n 0, 61, 1, 0, 0), (61, js_getfield 13, 64, 3, 7, 3)]) ([])))
noncomputable def cy_72 : ai_MT := (⟨"LightsMarket$Planner", "fillCost", "(I)V"⟩, prog_9_method_3_code, 5, none, none, 1)
noncomputable def cm_72 : ct_L := some (fr_code 3 ct_72, (fun _ _ => none), (0, 0), cy_72)
/-- LightsMarket.Planner.fillRest(I)V -/
noncomputable def ct_73 : ai_T (List fr_I) 3 := fr_nd 2 (fr_nd 1 (fr_nd 0 ([(0, js_iconst 0, 1, 1, 0, 0), (1, js_istore_n 2, 2, 1, 0, 0), (2, js_iload_n 2, 3, 1, 0, 0), (3, js_bipush 16, 5, 2, 0, 0), (5, js_if_icmp .ge 79, 8, 3, 84, 0), (8, js_iconst 0, 9, 1, 0, 0), (9, js_istore_n 3, 10, 1, 0, 0), (10, js_iload_n 3, 11, 1, 0, 0), (11, js_bipush 16, 13, 2, 0, 0), (13, js_if_icmp .ge 65, 16, 3, 78, 0)]) ([(66, js_goto 5, 69, 3, 71, 0), (69, js_ldc 94, 71, 2, 0, 2247483648), (71, js_iastore, 72, 1, 0, 0), (72, js_iinc 3 1, 75, 3, 0, 0), (75, js_goto (-65), 78, 3, 10, 0), (78, js_iinc 2 1, 81, 3, 0, 0)])) (fr_nd 0 ([(32, js_if_icmp .gt 7, 35, 3, 39, 0), (35, js_iconst 1, 36, 1, 0, 0), (36, js_goto 4, 39, 3, 40, 0), (39, js_iconst 0, 40, 1, 0, 0), (40, js_istore 4, 42, 2, 0, 0), (42, js_aload_n 0, 43, 1, 0, 0), (43, js_getfield 16, 46, 3, 7, 4), (46, js_iload_n 1, 47, 1, 0, 0), (47, js_aaload, 48, 1, 0, 0)]) ([]))) (fr_nd 1 (fr_nd 0 ([(16, js_iload_n 2, 17, 1, 0, 0), (17, js_aload_n 0, 18, 1, 0, 0), (18, js_getfield 68, 21, 3, 7, 5), (21, js_iconst (-1), 22, 1, 0, 0), (22, js_ixor, 23, 1, 0, 0), (23, js_iand, 24, 1, 0, 0), (24, js_ifCond .ne 15, 27, 3, 39, 0), (27, js_iload_n 3, 28, 1, 0, 0), (28, js_aload_n 0, 29, 1, 0, 0), (29, js_getfield 65, 32, 3, 7, 8)]) ([(81, js_goto (-79), 84, 3, 2, 0), (84, js_return_, 85, 1, 0, 0)])) (fr_nd 0 ([(48, js_iload_n 2, 49, 1, 0, 0), (49, js_bipush 16, 51, 2, 0, 0), (51, js_imul, 52, 1, 0, 0), (52, js_iload_n 3, 53, 1, 0, 0), (53, js_iadd, 54, 1, 0, 0), (54, js_iload 4, 56, 2, 0, 0), (56, js_ifCond .eq 13, 59, 3, 69, 0), (59, js_aload_n 0, 60, 1, 0, 0), (60, js_iload_n 1, 61, 1, 0, 0), (61, js_iload_n 2, 62, 1, 0, 0), (62, js_iload_n 3, 63, 1, 0, 0), (63, js_invokevirtual 129, 66, 3, 77, 452)]) ([])))
noncomputable def cy_73 : ai_MT := (⟨"LightsMarket$Planner", "fillRest", "(I)V"⟩, prog_9_method_4_code, 5, none, none, 1)
noncomputable def cm_73 : ct_L := some (fr_code 3 ct_73, (fun _ _ => none), (0, 0), cy_73)
/-- LightsMarket.Planner.costAt(III)I -/
noncomputable def ct_74 : ai_T (List fr_I) 2 := fr_nd 1 (fr_nd 0 ([(0, js_iload_n 1, 1, 1, 0, 0), (1, js_invokestatic 132, 4, 3, 131, 1), (4, js_ifCond .eq 27, 7, 3, 31, 0), (7, js_iload_n 2, 8, 1, 0, 0), (8, js_ifCond .lt 23, 11, 3, 31, 0), (11, js_iload_n 2, 12, 1, 0, 0), (12, js_bipush 16, 14, 2, 0, 0), (14, js_if_icmp .ge 17, 17, 3, 31, 0)]) ([(32, js_istore 4, 34, 2, 0, 0), (34, js_iload 4, 36, 2, 0, 0), (36, js_ifCond .eq 19, 39, 3, 55, 0), (39, js_aload_n 0, 40, 1, 0, 0), (40, js_getfield 13, 43, 3, 7, 3), (43, js_iload_n 1, 44, 1, 0, 0), (44, js_aaload, 45, 1, 0, 0), (45, js_iload_n 2, 46, 1, 0, 0), (46, js_bipush 8, 48, 2, 0, 0)])) (fr_nd 0 ([(17, js_iload_n 3, 18, 1, 0, 0), (18, js_ifCond .lt 13, 21, 3, 31, 0), (21, js_iload_n 3, 22, 1, 0, 0), (22, js_bipush 8, 24, 2, 0, 0), (24, js_if_icmp .ge 7, 27, 3, 31, 0), (27, js_iconst 1, 28, 1, 0, 0), (28, js_goto 4, 31, 3, 32, 0)]) ([(48, js_imul, 49, 1, 0, 0), (49, js_iload_n 3, 50, 1, 0, 0), (50, js_iadd, 51, 1, 0, 0), (51, js_iaload, 52, 1, 0, 0), (52, js_goto 5, 55, 3, 57, 0), (57, js_ireturn, 58, 1, 0, 0)]))
noncomputable def cy_74 : ai_MT := (⟨"LightsMarket$Planner", "costAt", "(III)I"⟩, prog_9_method_5_code, 5, (some .int), none, 3)
noncomputable def cm_74 : ct_L := some (fr_code 2 ct_74, (fun _ _ => none), (0, 0), cy_74)
/-- LightsMarket.Planner.restAt(III)I -/
noncomputable def ct_75 : ai_T (List fr_I) 2 := fr_nd 1 (fr_nd 0 ([(0, js_iload_n 1, 1, 1, 0, 0), (1, js_ifCond .lt 32, 4, 3, 33, 0), (4, js_iload_n 1, 5, 1, 0, 0), (5, js_iconst 4, 6, 1, 0, 0), (6, js_if_icmp .gt 27, 9, 3, 33, 0), (9, js_iload_n 2, 10, 1, 0, 0), (10, js_ifCond .lt 23, 13, 3, 33, 0), (13, js_iload_n 2, 14, 1, 0, 0), (14, js_bipush 16, 16, 2, 0, 0)]) ([(34, js_istore 4, 36, 2, 0, 0), (36, js_iload 4, 38, 2, 0, 0), (38, js_ifCond .eq 19, 41, 3, 57, 0), (41, js_aload_n 0, 42, 1, 0, 0), (42, js_getfield 16, 45, 3, 7, 4), (45, js_iload_n 1, 46, 1, 0, 0), (46, js_aaload, 47, 1, 0, 0), (47, js_iload_n 2, 48, 1, 0, 0)])) (fr_nd 0 ([(16, js_if_icmp .ge 17, 19, 3, 33, 0), (19, js_iload_n 3, 20, 1, 0, 0), (20, js_ifCond .lt 13, 23, 3, 33, 0), (23, js_iload_n 3, 24, 1, 0, 0), (24, js_bipush 16, 26, 2, 0, 0), (26, js_if_icmp .ge 7, 29, 3, 33, 0), (29, js_iconst 1, 30, 1, 0, 0), (30, js_goto 4, 33, 3, 34, 0)]) ([(48, js_bipush 16, 50, 2, 0, 0), (50, js_imul, 51, 1, 0, 0), (51, js_iload_n 3, 52, 1, 0, 0), (52, js_iadd, 53, 1, 0, 0), (53, js_iaload, 54, 1, 0, 0), (54, js_goto 5, 57, 3, 59, 0), (59, js_ireturn, 60, 1, 0, 0)]))
noncomputable def cy_75 : ai_MT := (⟨"LightsMarket$Planner", "restAt", "(III)I"⟩, prog_9_method_6_code, 5, (some .int), none, 3)
noncomputable def cm_75 : ct_L := some (fr_code 2 ct_75, (fun _ _ => none), (0, 0), cy_75)
/-- LightsMarket.Planner.lakeBehind(II)I -/
noncomputable def ct_76 : ai_T (List fr_I) 0 := [(0, js_bipush 15, 2, 2, 0, 0), (2, js_iload_n 1, 3, 1, 0, 0), (3, js_iload_n 2, 4, 1, 0, 0), (4, js_isub, 5, 1, 0, 0), (5, js_aload_n 0, 6, 1, 0, 0), (6, js_getfield 61, 9, 3, 7, 7), (9, js_iadd, 10, 1, 0, 0), (10, js_invokestatic 31, 13, 3, 1001, 2), (13, js_ireturn, 14, 1, 0, 0)]
noncomputable def cy_76 : ai_MT := (⟨"LightsMarket$Planner", "lakeBehind", "(II)I"⟩, prog_9_method_7_code, 3, (some .int), none, 2)
noncomputable def cm_76 : ct_L := some (fr_code 0 ct_76, (fun _ _ => none), (0, 0), cy_76)
/-- LightsMarket.Planner.cheapest(III)I -/
noncomputable def ct_77 : ai_T (List fr_I) 4 := fr_nd 3 (fr_nd 2 (fr_nd 1 (fr_nd 0 ([(0, js_ldc 94, 2, 2, 0, 2247483648), (2, js_istore 4, 4, 2, 0, 0), (4, js_aload_n 0, 5, 1, 0, 0), (5, js_getfield 49, 8, 3, 7, 6), (8, js_iload_n 3, 9, 1, 0, 0), (9, js_invokestatic 31, 12, 3, 1001, 2), (12, js_istore 5, 14, 2, 0, 0), (14, js_iconst 0, 15, 1, 0, 0), (15, js_istore 6, 17, 2, 0, 0)]) ([(129, js_goto (-64), 132, 3, 65, 0), (132, js_iinc 6 1, 135, 3, 0, 0), (135, js_goto (-118), 138, 3, 17, 0), (138, js_iload 4, 140, 2, 0, 0), (140, js_ireturn, 141, 1, 0, 0)])) (fr_nd 0 ([(65, js_iload 8, 67, 2, 0, 0), (67, js_iload 5, 69, 2, 0, 0), (69, js_if_icmp .gt 63, 72, 3, 132, 0), (72, js_iload 7, 74, 2, 0, 0), (74, js_aload_n 0, 75, 1, 0, 0), (75, js_iload_n 1, 76, 1, 0, 0), (76, js_iload 6, 78, 2, 0, 0), (78, js_iload 8, 80, 2, 0, 0)]) ([]))) (fr_nd 1 (fr_nd 0 ([(32, js_iand, 33, 1, 0, 0), (33, js_ifCond .ne 99, 36, 3, 132, 0), (36, js_aload_n 0, 37, 1, 0, 0), (37, js_iload_n 1, 38, 1, 0, 0), (38, js_iload 6, 40, 2, 0, 0), (40, js_iload_n 2, 41, 1, 0, 0), (41, js_iconst (-1), 42, 1, 0, 0), (42, js_ixor, 43, 1, 0, 0), (43, js_iand, 44, 1, 0, 0), (44, js_invokevirtual 136, 47, 3, 78, 451), (47, js_ifCond .ne 6, 50, 3, 53, 0)]) ([])) (fr_nd 0 ([(97, js_invokevirtual 90, 100, 3, 75, 452), (100, js_iadd, 101, 1, 0, 0), (101, js_istore 9, 103, 2, 0, 0), (103, js_iload 9, 105, 2, 0, 0), (105, js_iload 4, 107, 2, 0, 0), (107, js_if_icmp .ge 19, 110, 3, 126, 0), (110, js_iload 9, 112, 2, 0, 0)]) ([])))) (fr_nd 2 (fr_nd 1 (fr_nd 0 ([(17, js_iload 6, 19, 2, 0, 0), (19, js_bipush 16, 21, 2, 0, 0), (21, js_if_icmp .ge 117, 24, 3, 138, 0), (24, js_iload 6, 26, 2, 0, 0), (26, js_aload_n 0, 27, 1, 0, 0), (27, js_getfield 68, 30, 3, 7, 5), (30, js_iconst (-1), 31, 1, 0, 0), (31, js_ixor, 32, 1, 0, 0)]) ([])) (fr_nd 0 ([(80, js_invokevirtual 143, 83, 3, 74, 452), (83, js_iadd, 84, 1, 0, 0), (84, js_aload_n 0, 85, 1, 0, 0), (85, js_iload_n 1, 86, 1, 0, 0), (86, js_iconst 1, 87, 1, 0, 0), (87, js_iadd, 88, 1, 0, 0), (88, js_iload 6, 90, 2, 0, 0), (90, js_aload_n 0, 91, 1, 0, 0), (91, js_iload_n 3, 92, 1, 0, 0), (92, js_iload 8, 94, 2, 0, 0), (94, js_invokevirtual 146, 97, 3, 76, 451)]) ([]))) (fr_nd 1 (fr_nd 0 ([(53, js_aload_n 0, 54, 1, 0, 0), (54, js_iload_n 2, 55, 1, 0, 0), (55, js_iload 6, 57, 2, 0, 0), (57, js_invokevirtual 140, 60, 3, 79, 451), (60, js_istore 7, 62, 2, 0, 0), (62, js_iconst 0, 63, 1, 0, 0), (63, js_istore 8, 65, 2, 0, 0)]) ([])) (fr_nd 0 ([(112, js_istore 4, 114, 2, 0, 0), (114, js_aload_n 0, 115, 1, 0, 0), (115, js_iload 6, 117, 2, 0, 0), (117, js_putfield 149, 120, 3, 7, 9), (120, js_aload_n 0, 121, 1, 0, 0), (121, js_iload 8, 123, 2, 0, 0), (123, js_putfield 152, 126, 3, 7, 10), (126, js_iinc 8 1, 129, 3, 0, 0)]) ([]))))
noncomputable def cy_77 : ai_MT := (⟨"LightsMarket$Planner", "cheapest", "(III)I"⟩, prog_9_method_8_code, 10, (some .int), none, 3)
noncomputable def cm_77 : ct_L := some (fr_code 4 ct_77, (fun _ _ => none), (0, 0), cy_77)
/-- LightsMarket.Planner.canStart(II)Z -/
noncomputable def ct_78 : ai_T (List fr_I) 2 := fr_nd 1 (fr_nd 0 ([(0, js_iconst 0, 1, 1, 0, 0), (1, js_istore_n 3, 2, 1, 0, 0), (2, js_iload_n 3, 3, 1, 0, 0), (3, js_iconst 4, 4, 1, 0, 0), (4, js_if_icmp .ge 35, 7, 3, 39, 0), (7, js_iload_n 2, 8, 1, 0, 0), (8, js_iload_n 3, 9, 1, 0, 0), (9, js_ishr, 10, 1, 0, 0), (10, js_iconst 1, 11, 1, 0, 0), (11, js_iand, 12, 1, 0, 0), (12, js_iconst 1, 13, 1, 0, 0), (13, js_if_icmp .ne 20, 16, 3, 33, 0)]) ([(33, js_iinc 3 1, 36, 3, 0, 0), (36, js_goto (-34), 39, 3, 2, 0), (39, js_iconst 1, 40, 1, 0, 0), (40, js_ireturn, 41, 1, 2, 0)])) (fr_nd 0 ([]) ([]))
noncomputable def cy_78 : ai_MT := (⟨"LightsMarket$Planner", "canStart", "(II)Z"⟩, prog_9_method_9_code, 4, (some .boolean), none, 2)
noncomputable def cm_78 : ct_L := some (fr_code 2 ct_78, (fun _ _ => none), (0, 0), cy_78)
/-- LightsMarket.Planner.turningCoin(II)I -/
noncomputable def ct_79 : ai_T (List fr_I) 2 := fr_nd 1 (fr_nd 0 ([(0, js_iconst 0, 1, 1, 0, 0), (1, js_istore_n 3, 2, 1, 0, 0), (2, js_iconst 0, 3, 1, 0, 0), (3, js_istore 4, 5, 2, 0, 0), (5, js_iload 4, 7, 2, 0, 0), (7, js_aload_n 0, 8, 1, 0, 0), (8, js_getfield 19, 11, 3, 7, 0), (11, js_getfield 71, 14, 3, 3, 2), (14, js_if_icmp .ge 36, 17, 3, 50, 0)]) ([])) (fr_nd 0 ([]) ([(50, js_iload_n 3, 51, 1, 0, 0), (51, js_ireturn, 52, 1, 0, 0)]))
noncomputable def cy_79 : ai_MT := (⟨"LightsMarket$Planner", "turningCoin", "(II)I"⟩, prog_9_method_10_code, 5, (some .int), none, 2)
noncomputable def cm_79 : ct_L := some (fr_code 2 ct_79, (fun _ _ => none), (0, 0), cy_79)
/-- LightsMarket.Planner.pick(II)V -/
noncomputable def ct_81 : ai_T (List fr_I) 3 := fr_nd 2 (fr_nd 1 (fr_nd 0 ([(0, js_iload_n 1, 1, 1, 0, 0), (1, js_istore_n 3, 2, 1, 0, 0), (2, js_iload_n 2, 3, 1, 0, 0), (3, js_istore 4, 5, 2, 0, 0), (5, js_iconst 0, 6, 1, 0, 0), (6, js_istore 5, 8, 2, 0, 0), (8, js_iload 5, 10, 2, 0, 0), (10, js_aload_n 0, 11, 1, 0, 0), (11, js_getfield 27, 14, 3, 7, 2), (14, js_getfield 167, 17, 3, 0, 0)]) ([(64, js_aload_n 0, 65, 1, 0, 0), (65, js_getfield 149, 68, 3, 7, 9), (68, js_istore_n 3, 69, 1, 0, 0), (69, js_aload_n 0, 70, 1, 0, 0), (70, js_iload 4, 72, 2, 0, 0), (72, js_aload_n 0, 73, 1, 0, 0), (73, js_getfield 152, 76, 3, 7, 10), (76, js_invokevirtual 146, 79, 3, 76, 451), (79, js_istore 4, 81, 2, 0, 0)])) (fr_nd 0 ([(32, js_invokevirtual 129, 35, 3, 77, 452), (35, js_pop, 36, 1, 0, 0), (36, js_aload_n 0, 37, 1, 0, 0), (37, js_getfield 27, 40, 3, 7, 2), (40, js_getfield 107, 43, 3, 0, 3), (43, js_iload 5, 45, 2, 0, 0), (45, js_aload_n 0, 46, 1, 0, 0), (46, js_getfield 149, 49, 3, 7, 9)]) ([]))) (fr_nd 1 (fr_nd 0 ([(17, js_if_icmp .ge 70, 20, 3, 87, 0), (20, js_iload 5, 22, 2, 0, 0), (22, js_iconst 4, 23, 1, 0, 0), (23, js_if_icmp .ge 64, 26, 3, 87, 0), (26, js_aload_n 0, 27, 1, 0, 0), (27, js_iload 5, 29, 2, 0, 0), (29, js_iload_n 3, 30, 1, 0, 0), (30, js_iload 4, 32, 2, 0, 0)]) ([(81, js_iinc 5 1, 84, 3, 0, 0), (84, js_goto (-76), 87, 3, 8, 0), (87, js_return_, 88, 1, 0, 0)])) (fr_nd 0 ([(49, js_iastore, 50, 1, 0, 0), (50, js_aload_n 0, 51, 1, 0, 0), (51, js_getfield 27, 54, 3, 7, 2), (54, js_getfield 170, 57, 3, 0, 4), (57, js_iload 5, 59, 2, 0, 0), (59, js_aload_n 0, 60, 1, 0, 0), (60, js_getfield 152, 63, 3, 7, 10), (63, js_iastore, 64, 1, 0, 0)]) ([])))
noncomputable def cy_81 : ai_MT := (⟨"LightsMarket$Planner", "pick", "(II)V"⟩, prog_9_method_12_code, 6, none, none, 2)
noncomputable def cm_81 : ct_L := some (fr_code 3 ct_81, (fun _ _ => none), (0, 0), cy_81)
/-- LightsMarket.Planner.keepQuarter(II)V -/
noncomputable def ct_82 : ai_T (List fr_I) 4 := fr_nd 3 (fr_nd 2 (fr_nd 1 (fr_nd 0 ([(0, js_aload_n 0, 1, 1, 0, 0), (1, js_getfield 23, 4, 3, 7, 1), (4, js_iload_n 1, 5, 1, 0, 0), (5, js_iconst (-1), 6, 1, 0, 0), (6, js_invokevirtual 120, 9, 3, 4, 67), (9, js_aload_n 0, 10, 1, 0, 0), (10, js_getfield 27, 13, 3, 7, 2), (13, js_getfield 173, 16, 3, 0, 5)]) ([(131, js_iconst 0, 132, 1, 0, 0), (132, js_iastore, 133, 1, 0, 0), (133, js_aload_n 0, 134, 1, 0, 0), (134, js_getfield 27, 137, 3, 7, 2), (137, js_getfield 181, 140, 3, 0, 10), (140, js_iload_n 3, 141, 1, 0, 0), (141, js_dup2, 142, 1, 0, 0), (142, js_iaload, 143, 1, 0, 0), (143, js_iload 4, 145, 2, 0, 0)])) (fr_nd 0 ([(67, js_iconst 0, 68, 1, 0, 0), (68, js_istore 4, 70, 2, 0, 0), (70, js_iload 4, 72, 2, 0, 0), (72, js_ifCond .eq 29, 75, 3, 101, 0)]) ([]))) (fr_nd 1 (fr_nd 0 ([(34, js_getfield 170, 37, 3, 0, 4), (37, js_iload_n 1, 38, 1, 0, 0), (38, js_iaload, 39, 1, 0, 0), (39, js_iconst 0, 40, 1, 0, 0), (40, js_iconst (-1), 41, 1, 0, 0), (41, js_invokevirtual 125, 44, 3, 8, 69), (44, js_iastore, 45, 1, 0, 0), (45, js_iconst 0, 46, 1, 0, 0), (46, js_istore_n 3, 47, 1, 0, 0), (47, js_iload_n 3, 48, 1, 0, 0)]) ([(162, js_iconst 0, 163, 1, 0, 0), (163, js_iadd, 164, 1, 0, 0), (164, js_iastore, 165, 1, 0, 0), (165, js_iinc 3 1, 168, 3, 0, 0), (168, js_goto (-121), 171, 3, 47, 0), (171, js_return_, 172, 1, 0, 0)])) (fr_nd 0 ([(101, js_iconst 0, 102, 1, 0, 0), (102, js_istore 5, 104, 2, 0, 0), (104, js_aload_n 0, 105, 1, 0, 0), (105, js_getfield 27, 108, 3, 7, 2), (108, js_getfield 176, 111, 3, 0, 6), (111, js_iload_n 1, 112, 1, 0, 0)]) ([])))) (fr_nd 2 (fr_nd 1 (fr_nd 0 ([(16, js_iload_n 1, 17, 1, 0, 0), (17, js_aload_n 0, 18, 1, 0, 0), (18, js_getfield 23, 21, 3, 7, 1), (21, js_aload_n 0, 22, 1, 0, 0), (22, js_getfield 27, 25, 3, 7, 2), (25, js_getfield 107, 28, 3, 0, 3), (28, js_iload_n 1, 29, 1, 0, 0), (29, js_iaload, 30, 1, 0, 0), (30, js_aload_n 0, 31, 1, 0, 0), (31, js_getfield 27, 34, 3, 7, 2)]) ([(145, js_ifCond .eq 17, 148, 3, 162, 0)])) (fr_nd 0 ([]) ([]))) (fr_nd 1 (fr_nd 0 ([(48, js_iconst 4, 49, 1, 0, 0), (49, js_if_icmp .ge 122, 52, 3, 171, 0), (52, js_iload_n 3, 53, 1, 0, 0), (53, js_aload_n 0, 54, 1, 0, 0), (54, js_getfield 19, 57, 3, 7, 0), (57, js_getfield 71, 60, 3, 3, 2), (60, js_if_icmp .ge 7, 63, 3, 67, 0)]) ([])) (fr_nd 0 ([(112, js_aaload, 113, 1, 0, 0), (113, js_iload_n 3, 114, 1, 0, 0), (114, js_iload 4, 116, 2, 0, 0), (116, js_ifCond .eq 15, 119, 3, 131, 0)]) ([]))))
noncomputable def cy_82 : ai_MT := (⟨"LightsMarket$Planner", "keepQuarter", "(II)V"⟩, prog_9_method_13_code, 6, none, none, 2)
noncomputable def cm_82 : ct_L := some (fr_code 4 ct_82, (fun _ _ => none), (0, 0), cy_82)
/-- LightsMarket.Planner.keepPrices(I)V -/
noncomputable def ct_83 : ai_T (List fr_I) 3 := fr_nd 2 (fr_nd 1 (fr_nd 0 ([(0, js_iconst 0, 1, 1, 0, 0), (1, js_istore_n 2, 2, 1, 0, 0), (2, js_iload_n 2, 3, 1, 0, 0), (3, js_iconst 4, 4, 1, 0, 0), (4, js_if_icmp .ge 122, 7, 3, 126, 0), (7, js_aload_n 0, 8, 1, 0, 0), (8, js_getfield 27, 11, 3, 7, 2), (11, js_getfield 188, 14, 3, 0, 8), (14, js_iload_n 2, 15, 1, 0, 0), (15, js_aaload, 16, 1, 0, 0)]) ([])) (fr_nd 0 ([(34, js_iload_n 2, 35, 1, 0, 0), (35, js_aaload, 36, 1, 0, 0), (36, js_iload_n 1, 37, 1, 0, 0), (37, js_ldc 197, 39, 2, 0, 1147483648), (39, js_iastore, 40, 1, 0, 0), (40, js_iload_n 2, 41, 1, 0, 0), (41, js_aload_n 0, 42, 1, 0, 0), (42, js_getfield 19, 45, 3, 7, 0), (45, js_getfield 95, 48, 3, 3, 0)]) ([]))) (fr_nd 1 (fr_nd 0 ([(16, js_iload_n 1, 17, 1, 0, 0), (17, js_aload_n 0, 18, 1, 0, 0), (18, js_getfield 19, 21, 3, 7, 0), (21, js_iload_n 2, 22, 1, 0, 0), (22, js_iload_n 1, 23, 1, 0, 0), (23, js_invokevirtual 191, 26, 3, 30, 195), (26, js_iastore, 27, 1, 0, 0), (27, js_aload_n 0, 28, 1, 0, 0), (28, js_getfield 27, 31, 3, 7, 2), (31, js_getfield 194, 34, 3, 0, 7)]) ([])) (fr_nd 0 ([(48, js_if_icmp .ge 72, 51, 3, 120, 0)]) ([(120, js_iinc 2 1, 123, 3, 0, 0), (123, js_goto (-121), 126, 3, 2, 0), (126, js_return_, 127, 1, 0, 0)])))
noncomputable def cy_83 : ai_MT := (⟨"LightsMarket$Planner", "keepPrices", "(I)V"⟩, prog_9_method_14_code, 4, none, none, 1)
noncomputable def cm_83 : ct_L := some (fr_code 3 ct_83, (fun _ _ => none), (0, 0), cy_83)
/-- LightsMarket.Planner.keepPay()V -/
noncomputable def ct_84 : ai_T (List fr_I) 4 := fr_nd 3 (fr_nd 2 (fr_nd 1 (fr_nd 0 ([(0, js_iconst 0, 1, 1, 0, 0), (1, js_istore_n 1, 2, 1, 0, 0), (2, js_iload_n 1, 3, 1, 0, 0), (3, js_aload_n 0, 4, 1, 0, 0), (4, js_getfield 27, 7, 3, 7, 2), (7, js_getfield 167, 10, 3, 0, 0), (10, js_if_icmp .ge 138, 13, 3, 148, 0), (13, js_iload_n 1, 14, 1, 0, 0), (14, js_iconst 4, 15, 1, 0, 0), (15, js_if_icmp .ge 133, 18, 3, 148, 0)]) ([(142, js_iinc 1 1, 145, 3, 0, 0)])) (fr_nd 0 ([(75, js_iconst 0, 76, 1, 0, 0), (76, js_istore_n 2, 77, 1, 0, 0), (77, js_iload_n 2, 78, 1, 0, 0), (78, js_aload_n 0, 79, 1, 0, 0), (79, js_getfield 19, 82, 3, 7, 0)]) ([(192, js_iload_n 1, 193, 1, 0, 0), (193, js_iaload, 194, 1, 0, 0), (194, js_aload_n 0, 195, 1, 0, 0), (195, js_getfield 27, 198, 3, 7, 2), (198, js_getfield 204, 201, 3, 0, 9), (201, js_iload_n 1, 202, 1, 0, 0), (202, js_iaload, 203, 1, 0, 0), (203, js_isub, 204, 1, 0, 0), (204, js_invokestatic 37, 207, 3, 1000, 2), (207, js_aload_n 0, 208, 1, 0, 0)]))) (fr_nd 1 (fr_nd 0 ([]) ([(160, js_getfield 198, 163, 3, 0, 2), (163, js_aload_n 0, 164, 1, 0, 0), (164, js_getfield 27, 167, 3, 7, 2), (167, js_getfield 204, 170, 3, 0, 9), (170, js_iload_n 1, 171, 1, 0, 0), (171, js_iaload, 172, 1, 0, 0), (172, js_isub, 173, 1, 0, 0), (173, js_putfield 198, 176, 3, 0, 2)])) (fr_nd 0 ([]) ([(225, js_return_, 226, 1, 0, 0)])))) (fr_nd 2 (fr_nd 1 (fr_nd 0 ([(18, js_iconst 0, 19, 1, 0, 0), (19, js_istore_n 2, 20, 1, 0, 0), (20, js_iload_n 2, 21, 1, 0, 0), (21, js_aload_n 0, 22, 1, 0, 0), (22, js_getfield 19, 25, 3, 7, 0), (25, js_getfield 95, 28, 3, 3, 0), (28, js_if_icmp .ge 47, 31, 3, 75, 0)]) ([(145, js_goto (-143), 148, 3, 2, 0), (148, js_iconst 0, 149, 1, 0, 0), (149, js_istore_n 1, 150, 1, 0, 0), (150, js_iload_n 1, 151, 1, 0, 0), (151, js_iconst 4, 152, 1, 0, 0), (152, js_if_icmp .ge 73, 155, 3, 225, 0), (155, js_aload_n 0, 156, 1, 0, 0), (156, js_getfield 27, 159, 3, 7, 2), (159, js_dup, 160, 1, 0, 0)])) (fr_nd 0 ([(82, js_getfield 71, 85, 3, 3, 2), (85, js_if_icmp .ge 57, 88, 3, 142, 0)]) ([(208, js_getfield 19, 211, 3, 7, 0), (211, js_getfield 213, 214, 3, 3, 5), (214, js_imul, 215, 1, 0, 0), (215, js_bipush 100, 217, 2, 0, 0), (217, js_idiv, 218, 1, 0, 0), (218, js_iastore, 219, 1, 0, 0), (219, js_iinc 1 1, 222, 3, 0, 0), (222, js_goto (-72), 225, 3, 150, 0)]))) (fr_nd 1 (fr_nd 0 ([]) ([(176, js_aload_n 0, 177, 1, 0, 0), (177, js_getfield 27, 180, 3, 7, 2), (180, js_getfield 210, 183, 3, 0, 11), (183, js_iload_n 1, 184, 1, 0, 0), (184, js_iconst 0, 185, 1, 0, 0), (185, js_aload_n 0, 186, 1, 0, 0), (186, js_getfield 27, 189, 3, 7, 2), (189, js_getfield 181, 192, 3, 0, 10)])) (fr_nd 0 ([]) ([]))))
noncomputable def cy_84 : ai_MT := (⟨"LightsMarket$Planner", "keepPay", "()V"⟩, prog_9_method_15_code, 3, none, none, 0)
noncomputable def cm_84 : ct_L := some (fr_code 4 ct_84, (fun _ _ => none), (0, 0), cy_84)
/-- LightsMarket.Reader.<init>()V -/
noncomputable def ct_85 : ai_T (List fr_I) 1 := fr_nd 0 ([(0, js_aload_n 0, 1, 1, 0, 0), (1, js_invokespecial 3, 4, 3, 1004, 1), (4, js_aload_n 0, 5, 1, 0, 0), (5, js_sipush 200, 8, 3, 0, 0), (8, js_newarray .int, 10, 2, 0, 0), (10, js_putfield 11, 13, 3, 8, 0), (13, js_aload_n 0, 14, 1, 0, 0), (14, js_iconst (-1), 15, 1, 0, 0), (15, js_putfield 15, 18, 3, 8, 3)]) ([(18, js_aload_n 0, 19, 1, 0, 0), (19, js_sipush 200, 22, 3, 0, 0), (22, js_newarray .int, 24, 2, 0, 0), (24, js_putfield 19, 27, 3, 8, 4), (27, js_return_, 28, 1, 0, 0)])
noncomputable def cy_85 : ai_MT := (⟨"LightsMarket$Reader", "<init>", "()V"⟩, prog_10_method_1_code, 1, none, none, 0)
noncomputable def cm_85 : ct_L := some (fr_code 1 ct_85, (fun _ _ => none), (2, 400), cy_85)
/-- LightsMarket.Reader.take(IIIII)I -/
noncomputable def ct_86 : ai_T (List fr_I) 2 := fr_nd 1 (fr_nd 0 ([(0, js_aload_n 0, 1, 1, 0, 0), (1, js_getfield 22, 4, 3, 8, 2), (4, js_sipush 180, 7, 3, 0, 0), (7, js_if_icmp .le 5, 10, 3, 12, 0), (12, js_aload_n 0, 13, 1, 0, 0), (13, js_iload_n 1, 14, 1, 0, 0), (14, js_invokevirtual 25, 17, 3, 87, 514)]) ([(33, js_aload_n 0, 34, 1, 0, 0), (34, js_iload 5, 36, 2, 0, 0), (36, js_invokevirtual 25, 39, 3, 87, 514), (39, js_aload_n 0, 40, 1, 0, 0), (40, js_getfield 22, 43, 3, 8, 2), (43, js_ireturn, 44, 1, 0, 0)])) (fr_nd 0 ([(17, js_aload_n 0, 18, 1, 0, 0), (18, js_iload_n 2, 19, 1, 0, 0), (19, js_invokevirtual 25, 22, 3, 87, 514), (22, js_aload_n 0, 23, 1, 0, 0), (23, js_iload_n 3, 24, 1, 0, 0), (24, js_invokevirtual 25, 27, 3, 87, 514), (27, js_aload_n 0, 28, 1, 0, 0), (28, js_iload 4, 30, 2, 0, 0), (30, js_invokevirtual 25, 33, 3, 87, 514)]) ([]))
noncomputable def cy_86 : ai_MT := (⟨"LightsMarket$Reader", "take", "(IIIII)I"⟩, prog_10_method_2_code, 6, (some .int), none, 5)
noncomputable def cm_86 : ct_L := some (fr_code 2 ct_86, (fun _ _ => none), (0, 0), cy_86)
/-- LightsMarket.Reader.takeNumber(I)V -/
noncomputable def ct_87 : ai_T (List fr_I) 2 := fr_nd 1 (fr_nd 0 ([(0, js_bipush 24, 2, 2, 0, 0), (2, js_istore_n 2, 3, 1, 0, 0), (3, js_iload_n 2, 4, 1, 0, 0), (4, js_ifCond .lt 45, 7, 3, 49, 0), (7, js_aload_n 0, 8, 1, 0, 0), (8, js_getfield 22, 11, 3, 8, 2), (11, js_sipush 200, 14, 3, 0, 0), (14, js_if_icmp .ge 35, 17, 3, 49, 0)]) ([(32, js_iastore, 33, 1, 0, 0), (33, js_aload_n 0, 34, 1, 0, 0), (34, js_dup, 35, 1, 0, 0), (35, js_getfield 22, 38, 3, 8, 2), (38, js_iconst 1, 39, 1, 0, 0), (39, js_iadd, 40, 1, 0, 0), (40, js_putfield 22, 43, 3, 8, 2), (43, js_iinc 2 (-8), 46, 3, 0, 0), (46, js_goto (-43), 49, 3, 3, 0)])) (fr_nd 0 ([(17, js_aload_n 0, 18, 1, 0, 0), (18, js_getfield 19, 21, 3, 8, 4), (21, js_aload_n 0, 22, 1, 0, 0), (22, js_getfield 22, 25, 3, 8, 2), (25, js_iload_n 1, 26, 1, 0, 0), (26, js_iload_n 2, 27, 1, 0, 0), (27, js_iushr, 28, 1, 0, 0), (28, js_sipush 255, 31, 3, 0, 0), (31, js_iand, 32, 1, 0, 0)]) ([(49, js_return_, 50, 1, 0, 0)]))
noncomputable def cy_87 : ai_MT := (⟨"LightsMarket$Reader", "takeNumber", "(I)V"⟩, prog_10_method_3_code, 3, none, none, 1)
noncomputable def cm_87 : ct_L := some (fr_code 2 ct_87, (fun _ _ => none), (0, 0), cy_87)
/-- LightsMarket.Sheets.<init>()V -/
noncomputable def ct_111 : ai_T (List fr_I) 2 := fr_nd 1 (fr_nd 0 ([(0, js_aload_n 0, 1, 1, 0, 0), (1, js_invokespecial 3, 4, 3, 1004, 1), (4, js_aload_n 0, 5, 1, 0, 0), (5, js_bipush 12, 7, 2, 0, 0), (7, js_bipush 12, 9, 2, 0, 0), (9, js_multianewarray 11 2, 13, 4, 3, 0), (13, js_putfield 13, 16, 3, 9, 1)]) ([(32, js_return_, 33, 1, 0, 0)])) (fr_nd 0 ([(16, js_aload_n 0, 17, 1, 0, 0), (17, js_bipush 12, 19, 2, 0, 0), (19, js_newarray .int, 21, 2, 0, 0), (21, js_putfield 16, 24, 3, 9, 2), (24, js_aload_n 0, 25, 1, 0, 0), (25, js_bipush 12, 27, 2, 0, 0), (27, js_newarray .int, 29, 2, 0, 0), (29, js_putfield 20, 32, 3, 9, 3)]) ([]))
noncomputable def cy_111 : ai_MT := (⟨"LightsMarket$Sheets", "<init>", "()V"⟩, prog_11_method_1_code, 1, none, none, 0)
noncomputable def cm_111 : ct_L := some (fr_code 2 ct_111, (fun _ _ => none), (15, 180), cy_111)
/-- LightsMarket.Sheets.has(I)Z -/
noncomputable def ct_112 : ai_T (List fr_I) 1 := fr_nd 0 ([(0, js_iload_n 1, 1, 1, 0, 0), (1, js_ifCond .lt 21, 4, 3, 22, 0), (4, js_iload_n 1, 5, 1, 0, 0), (5, js_aload_n 0, 6, 1, 0, 0), (6, js_getfield 23, 9, 3, 9, 0), (9, js_if_icmp .ge 13, 12, 3, 22, 0)]) ([(22, js_iconst 0, 23, 1, 0, 0), (23, js_ireturn, 24, 1, 2, 0)])
noncomputable def cy_112 : ai_MT := (⟨"LightsMarket$Sheets", "has", "(I)Z"⟩, prog_11_method_2_code, 2, (some .boolean), none, 1)
noncomputable def cm_112 : ct_L := some (fr_code 1 ct_112, (fun _ _ => none), (0, 0), cy_112)
/-- LightsMarket.Sheets.add(II)I -/
noncomputable def ct_113 : ai_T (List fr_I) 3 := fr_nd 2 (fr_nd 1 (fr_nd 0 ([(0, js_aload_n 0, 1, 1, 0, 0), (1, js_getfield 23, 4, 3, 9, 0), (4, js_bipush 12, 6, 2, 0, 0), (6, js_if_icmp .ge 12, 9, 3, 18, 0), (9, js_iload_n 1, 10, 1, 0, 0), (10, js_iconst 0, 11, 1, 0, 0), (11, js_iconst 2, 12, 1, 0, 0), (12, js_invokestatic 27, 15, 3, 128, 3), (15, js_ifCond .ne 5, 18, 3, 20, 0)]) ([(64, js_getfield 23, 67, 3, 9, 0), (67, js_iconst 1, 68, 1, 0, 0), (68, js_isub, 69, 1, 0, 0), (69, js_ireturn, 70, 1, 0, 0)])) (fr_nd 0 ([(32, js_ireturn, 33, 1, 0, 0), (33, js_aload_n 0, 34, 1, 0, 0), (34, js_getfield 16, 37, 3, 9, 2), (37, js_aload_n 0, 38, 1, 0, 0), (38, js_getfield 23, 41, 3, 9, 0), (41, js_iload_n 1, 42, 1, 0, 0), (42, js_iastore, 43, 1, 0, 0), (43, js_aload_n 0, 44, 1, 0, 0), (44, js_getfield 20, 47, 3, 9, 3), (47, js_aload_n 0, 48, 1, 0, 0)]) ([]))) (fr_nd 1 (fr_nd 0 ([(18, js_iconst (-1), 19, 1, 0, 0), (19, js_ireturn, 20, 1, 0, 0), (20, js_iload_n 2, 21, 1, 0, 0), (21, js_iconst (-1), 22, 1, 0, 0), (22, js_bipush 12, 24, 2, 0, 0), (24, js_invokestatic 27, 27, 3, 128, 3), (27, js_ifCond .ne 6, 30, 3, 33, 0), (30, js_bipush (-2), 32, 2, 0, 0)]) ([])) (fr_nd 0 ([(48, js_getfield 23, 51, 3, 9, 0), (51, js_iload_n 2, 52, 1, 0, 0), (52, js_iastore, 53, 1, 0, 0), (53, js_aload_n 0, 54, 1, 0, 0), (54, js_dup, 55, 1, 0, 0), (55, js_getfield 23, 58, 3, 9, 0), (58, js_iconst 1, 59, 1, 0, 0), (59, js_iadd, 60, 1, 0, 0), (60, js_putfield 23, 63, 3, 9, 0), (63, js_aload_n 0, 64, 1, 0, 0)]) ([])))
noncomputable def cy_113 : ai_MT := (⟨"LightsMarket$Sheets", "add", "(II)I"⟩, prog_11_method_3_code, 3, (some .int), none, 2)
noncomputable def cm_113 : ct_L := some (fr_code 3 ct_113, (fun _ _ => none), (0, 0), cy_113)
/-- LightsMarket.Way.<init>(LLightsMarket$Land;)V -/
noncomputable def ct_118 : ai_T (List fr_I) 2 := fr_nd 1 (fr_nd 0 ([(0, js_aload_n 0, 1, 1, 0, 0), (1, js_invokespecial 3, 4, 3, 1004, 1), (4, js_aload_n 0, 5, 1, 0, 0), (5, js_bipush 13, 7, 2, 0, 0), (7, js_newarray .int, 9, 2, 0, 0), (9, js_putfield 11, 12, 3, 10, 1), (12, js_aload_n 0, 13, 1, 0, 0), (13, js_sipush 4096, 16, 3, 0, 0)]) ([(32, js_putfield 21, 35, 3, 10, 2), (35, js_return_, 36, 1, 0, 0)])) (fr_nd 0 ([(16, js_newarray .int, 18, 2, 0, 0), (18, js_putfield 15, 21, 3, 10, 5), (21, js_aload_n 0, 22, 1, 0, 0), (22, js_sipush 4096, 25, 3, 0, 0), (25, js_newarray .int, 27, 2, 0, 0), (27, js_putfield 18, 30, 3, 10, 6), (30, js_aload_n 0, 31, 1, 0, 0), (31, js_aload_n 1, 32, 1, 0, 0)]) ([]))
noncomputable def cy_118 : ai_MT := (⟨"LightsMarket$Way", "<init>", "(LLightsMarket$Land;)V"⟩, prog_12_method_1_code, 2, none, none, 1)
noncomputable def cm_118 : ct_L := some (fr_code 2 ct_118, (fun _ _ => none), (3, 8205), cy_118)
/-- LightsMarket.Way.seek(I)I -/
noncomputable def ct_119 : ai_T (List fr_I) 3 := fr_nd 2 (fr_nd 1 (fr_nd 0 ([(0, js_aload_n 0, 1, 1, 0, 0), (1, js_iload_n 1, 2, 1, 0, 0), (2, js_putfield 25, 5, 3, 10, 3), (5, js_aload_n 0, 6, 1, 0, 0), (6, js_getfield 18, 9, 3, 10, 6), (9, js_iconst (-1), 10, 1, 0, 0), (10, js_invokestatic 29, 13, 3, 288, 2), (13, js_aload_n 0, 14, 1, 0, 0), (14, js_getfield 18, 17, 3, 10, 6)]) ([(65, js_sipush 4096, 68, 3, 0, 0), (68, js_if_icmp .ge 39, 71, 3, 107, 0), (71, js_aload_n 0, 72, 1, 0, 0), (72, js_getfield 15, 75, 3, 10, 5), (75, js_iload 4, 77, 2, 0, 0), (77, js_iaload, 78, 1, 0, 0), (78, js_istore 5, 80, 2, 0, 0)])) (fr_nd 0 ([(32, js_iconst 1, 33, 1, 0, 0), (33, js_aload_n 0, 34, 1, 0, 0), (34, js_getfield 21, 37, 3, 10, 2), (37, js_getfield 38, 40, 3, 3, 0), (40, js_ishl, 41, 1, 0, 0), (41, js_iconst 1, 42, 1, 0, 0), (42, js_isub, 43, 1, 0, 0), (43, js_istore_n 2, 44, 1, 0, 0), (44, js_iload_n 2, 45, 1, 0, 0), (45, js_iload_n 2, 46, 1, 0, 0), (46, js_bipush 8, 48, 2, 0, 0)]) ([]))) (fr_nd 1 (fr_nd 0 ([(17, js_iconst 0, 18, 1, 0, 0), (18, js_iconst 0, 19, 1, 0, 0), (19, js_iastore, 20, 1, 0, 0), (20, js_aload_n 0, 21, 1, 0, 0), (21, js_getfield 15, 24, 3, 10, 5), (24, js_iconst 0, 25, 1, 0, 0), (25, js_iconst 0, 26, 1, 0, 0), (26, js_iastore, 27, 1, 0, 0), (27, js_aload_n 0, 28, 1, 0, 0), (28, js_iconst 1, 29, 1, 0, 0), (29, js_putfield 35, 32, 3, 10, 4)]) ([(80, js_iload 5, 82, 2, 0, 0), (82, js_iload_n 3, 83, 1, 0, 0), (83, js_iand, 84, 1, 0, 0), (84, js_iload_n 3, 85, 1, 0, 0), (85, js_if_icmp .ne 10, 88, 3, 95, 0), (88, js_aload_n 0, 89, 1, 0, 0), (89, js_iload 5, 91, 2, 0, 0), (91, js_invokevirtual 43, 94, 3, 121, 642), (94, js_ireturn, 95, 1, 0, 0)])) (fr_nd 0 ([(48, js_ishl, 49, 1, 0, 0), (49, js_ior, 50, 1, 0, 0), (50, js_istore_n 3, 51, 1, 0, 0), (51, js_iconst 0, 52, 1, 0, 0), (52, js_istore 4, 54, 2, 0, 0), (54, js_iload 4, 56, 2, 0, 0), (56, js_aload_n 0, 57, 1, 0, 0), (57, js_getfield 35, 60, 3, 10, 4), (60, js_if_icmp .ge 47, 63, 3, 107, 0), (63, js_iload 4, 65, 2, 0, 0)]) ([])))
noncomputable def cy_119 : ai_MT := (⟨"LightsMarket$Way", "seek", "(I)I"⟩, prog_12_method_2_code, 6, (some .int), none, 1)
noncomputable def cm_119 : ct_L := some (fr_code 3 ct_119, (fun _ _ => none), (0, 0), cy_119)
/-- LightsMarket.Way.trace(I)I -/
noncomputable def ct_121 : ai_T (List fr_I) 4 := fr_nd 3 (fr_nd 2 (fr_nd 1 (fr_nd 0 ([(0, js_aload_n 0, 1, 1, 0, 0), (1, js_iconst 0, 2, 1, 0, 0), (2, js_putfield 55, 5, 3, 10, 0), (5, js_iload_n 1, 6, 1, 0, 0), (6, js_istore_n 2, 7, 1, 0, 0), (7, js_iconst 0, 8, 1, 0, 0), (8, js_istore_n 3, 9, 1, 0, 0), (9, js_iload_n 3, 10, 1, 0, 0), (10, js_bipush 13, 12, 2, 0, 0), (12, js_if_icmp .ge 57, 15, 3, 69, 0), (15, js_iload_n 2, 16, 1, 0, 0)]) ([(129, js_aload_n 0, 130, 1, 0, 0), (130, js_getfield 55, 133, 3, 10, 0), (133, js_ireturn, 134, 1, 0, 0)])) (fr_nd 0 ([(69, js_iconst 0, 70, 1, 0, 0), (70, js_istore_n 3, 71, 1, 0, 0), (71, js_iload_n 3, 72, 1, 0, 0), (72, js_aload_n 0, 73, 1, 0, 0), (73, js_getfield 55, 76, 3, 10, 0), (76, js_iconst 2, 77, 1, 0, 0), (77, js_idiv, 78, 1, 0, 0), (78, js_if_icmp .ge 51, 81, 3, 129, 0)]) ([]))) (fr_nd 1 (fr_nd 0 ([]) ([])) (fr_nd 0 ([]) ([])))) (fr_nd 2 (fr_nd 1 (fr_nd 0 ([(16, js_ifCond .le 53, 19, 3, 69, 0)]) ([])) (fr_nd 0 ([]) ([]))) (fr_nd 1 (fr_nd 0 ([]) ([])) (fr_nd 0 ([]) ([]))))
noncomputable def cy_121 : ai_MT := (⟨"LightsMarket$Way", "trace", "(I)I"⟩, prog_12_method_4_code, 5, (some .int), none, 1)
noncomputable def cm_121 : ct_L := some (fr_code 4 ct_121, (fun _ _ => none), (0, 0), cy_121)
/-- LightsMarket.<init>()V -/
noncomputable def ct_127 : ai_T (List fr_I) 4 := fr_nd 3 (fr_nd 2 (fr_nd 1 (fr_nd 0 ([(0, js_aload_n 0, 1, 1, 0, 0), (1, js_invokespecial 1, 4, 3, 1004, 1), (4, js_aload_n 0, 5, 1, 0, 0), (5, js_new 7, 8, 3, 3, 0), (8, js_dup, 9, 1, 0, 0), (9, js_invokespecial 9, 12, 3, 26, 1), (12, js_putfield 10, 15, 3, 11, 0), (15, js_aload_n 0, 16, 1, 0, 0)]) ([(129, js_invokespecial 73, 132, 3, 118, 2), (132, js_putfield 74, 135, 3, 11, 8), (135, js_aload_n 0, 136, 1, 0, 0), (136, js_iconst 4, 137, 1, 0, 0), (137, js_newarray .int, 139, 2, 0, 0), (139, js_putfield 78, 142, 3, 11, 9), (142, js_aload_n 0, 143, 1, 0, 0), (143, js_bipush 60, 145, 2, 0, 0)])) (fr_nd 0 ([(64, js_new 46, 67, 3, 7, 0), (67, js_dup, 68, 1, 0, 0), (68, js_aload_n 0, 69, 1, 0, 0), (69, js_getfield 10, 72, 3, 11, 0), (72, js_aload_n 0, 73, 1, 0, 0), (73, js_getfield 35, 76, 3, 11, 3), (76, js_aload_n 0, 77, 1, 0, 0), (77, js_getfield 42, 80, 3, 11, 4)]) ([]))) (fr_nd 1 (fr_nd 0 ([(34, js_putfield 26, 37, 3, 11, 2), (37, js_aload_n 0, 38, 1, 0, 0), (38, js_new 30, 41, 3, 1, 0), (41, js_dup, 42, 1, 0, 0), (42, js_aload_n 0, 43, 1, 0, 0), (43, js_getfield 10, 46, 3, 11, 0), (46, js_invokespecial 32, 49, 3, 3, 2)]) ([])) (fr_nd 0 ([(96, js_getfield 35, 99, 3, 11, 3), (99, js_invokespecial 57, 102, 3, 15, 3), (102, js_putfield 60, 105, 3, 11, 6), (105, js_aload_n 0, 106, 1, 0, 0), (106, js_new 64, 109, 3, 5, 0), (109, js_dup, 110, 1, 0, 0), (110, js_aload_n 0, 111, 1, 0, 0), (111, js_getfield 10, 114, 3, 11, 0)]) ([])))) (fr_nd 2 (fr_nd 1 (fr_nd 0 ([(16, js_new 16, 19, 3, 9, 0), (19, js_dup, 20, 1, 0, 0), (20, js_invokespecial 18, 23, 3, 111, 1), (23, js_putfield 19, 26, 3, 11, 1), (26, js_aload_n 0, 27, 1, 0, 0), (27, js_new 23, 30, 3, 8, 0), (30, js_dup, 31, 1, 0, 0), (31, js_invokespecial 25, 34, 3, 85, 1)]) ([(145, js_iconst 4, 146, 1, 0, 0), (146, js_multianewarray 82 2, 150, 4, 3, 0), (150, js_putfield 84, 153, 3, 11, 11), (153, js_return_, 154, 1, 0, 0)])) (fr_nd 0 ([(80, js_invokespecial 48, 83, 3, 70, 4), (83, js_putfield 51, 86, 3, 11, 5), (86, js_aload_n 0, 87, 1, 0, 0), (87, js_new 55, 90, 3, 2, 0), (90, js_dup, 91, 1, 0, 0), (91, js_aload_n 0, 92, 1, 0, 0), (92, js_getfield 10, 95, 3, 11, 0), (95, js_aload_n 0, 96, 1, 0, 0)]) ([]))) (fr_nd 1 (fr_nd 0 ([(49, js_putfield 35, 52, 3, 11, 3), (52, js_aload_n 0, 53, 1, 0, 0), (53, js_new 39, 56, 3, 0, 0), (56, js_dup, 57, 1, 0, 0), (57, js_invokespecial 41, 60, 3, 0, 1), (60, js_putfield 42, 63, 3, 11, 4), (63, js_aload_n 0, 64, 1, 0, 0)]) ([])) (fr_nd 0 ([(114, js_invokespecial 66, 117, 3, 51, 2), (117, js_putfield 67, 120, 3, 11, 7), (120, js_aload_n 0, 121, 1, 0, 0), (121, js_new 71, 124, 3, 10, 0), (124, js_dup, 125, 1, 0, 0), (125, js_aload_n 0, 126, 1, 0, 0), (126, js_getfield 10, 129, 3, 11, 0)]) ([]))))
noncomputable def cy_127 : ai_MT := (⟨"LightsMarket", "<init>", "()V"⟩, prog_1_method_1_code, 1, none, none, 0)
noncomputable def cm_127 : ct_L := some (fr_code 4 ct_127, (fun _ _ => none), (247, 12754), cy_127)
/-- LightsMarket.within(III)Z -/
noncomputable def ct_128 : ai_T (List fr_I) 0 := [(0, js_iload_n 0, 1, 1, 0, 0), (1, js_iload_n 1, 2, 1, 0, 0), (2, js_if_icmp .lt 12, 5, 3, 14, 0), (5, js_iload_n 0, 6, 1, 0, 0), (6, js_iload_n 2, 7, 1, 0, 0), (7, js_if_icmp .gt 7, 10, 3, 14, 0), (10, js_iconst 1, 11, 1, 0, 0), (11, js_goto 4, 14, 3, 15, 0), (14, js_iconst 0, 15, 1, 0, 0), (15, js_ireturn, 16, 1, 2, 0)]
noncomputable def cy_128 : ai_MT := (⟨"LightsMarket", "within", "(III)Z"⟩, prog_1_method_2_code, 3, (some .boolean), none, 3)
noncomputable def cm_128 : ct_L := some (fr_code 0 ct_128, (fun _ _ => none), (0, 0), cy_128)
/-- LightsMarket.hasPlace(I)Z -/
noncomputable def ct_129 : ai_T (List fr_I) 1 := fr_nd 0 ([(0, js_iload_n 1, 1, 1, 0, 0), (1, js_ifCond .lt 18, 4, 3, 19, 0), (4, js_iload_n 1, 5, 1, 0, 0), (5, js_aload_n 0, 6, 1, 0, 0), (6, js_getfield 10, 9, 3, 11, 0), (9, js_getfield 87, 12, 3, 3, 0), (12, js_if_icmp .ge 7, 15, 3, 19, 0)]) ([(19, js_iconst 0, 20, 1, 0, 0), (20, js_ireturn, 21, 1, 2, 0)])
noncomputable def cy_129 : ai_MT := (⟨"LightsMarket", "hasPlace", "(I)Z"⟩, prog_1_method_3_code, 2, (some .boolean), none, 1)
noncomputable def cm_129 : ct_L := some (fr_code 1 ct_129, (fun _ _ => none), (0, 0), cy_129)
/-- LightsMarket.hasMill(I)Z -/
noncomputable def ct_130 : ai_T (List fr_I) 1 := fr_nd 0 ([(0, js_iload_n 1, 1, 1, 0, 0), (1, js_ifCond .lt 18, 4, 3, 19, 0), (4, js_iload_n 1, 5, 1, 0, 0), (5, js_aload_n 0, 6, 1, 0, 0), (6, js_getfield 10, 9, 3, 11, 0), (9, js_getfield 91, 12, 3, 3, 2), (12, js_if_icmp .ge 7, 15, 3, 19, 0)]) ([(19, js_iconst 0, 20, 1, 0, 0), (20, js_ireturn, 21, 1, 2, 0)])
noncomputable def cy_130 : ai_MT := (⟨"LightsMarket", "hasMill", "(I)Z"⟩, prog_1_method_4_code, 2, (some .boolean), none, 1)
noncomputable def cm_130 : ct_L := some (fr_code 1 ct_130, (fun _ _ => none), (0, 0), cy_130)
/-- LightsMarket.hasQuarter(I)Z -/
noncomputable def ct_131 : ai_T (List fr_I) 0 := [(0, js_iload_n 0, 1, 1, 0, 0), (1, js_ifCond .lt 12, 4, 3, 13, 0), (4, js_iload_n 0, 5, 1, 0, 0), (5, js_iconst 4, 6, 1, 0, 0), (6, js_if_icmp .ge 7, 9, 3, 13, 0), (9, js_iconst 1, 10, 1, 0, 0), (10, js_goto 4, 13, 3, 14, 0), (13, js_iconst 0, 14, 1, 0, 0), (14, js_ireturn, 15, 1, 2, 0)]
noncomputable def cy_131 : ai_MT := (⟨"LightsMarket", "hasQuarter", "(I)Z"⟩, prog_1_method_5_code, 1, (some .boolean), none, 1)
noncomputable def cm_131 : ct_L := some (fr_code 0 ct_131, (fun _ _ => none), (0, 0), cy_131)
/-- LightsMarket.hasHouse(I)Z -/
noncomputable def ct_132 : ai_T (List fr_I) 0 := [(0, js_iload_n 0, 1, 1, 0, 0), (1, js_ifCond .lt 12, 4, 3, 13, 0), (4, js_iload_n 0, 5, 1, 0, 0), (5, js_iconst 3, 6, 1, 0, 0), (6, js_if_icmp .ge 7, 9, 3, 13, 0), (9, js_iconst 1, 10, 1, 0, 0), (10, js_goto 4, 13, 3, 14, 0), (13, js_iconst 0, 14, 1, 0, 0), (14, js_ireturn, 15, 1, 2, 0)]
noncomputable def cy_132 : ai_MT := (⟨"LightsMarket", "hasHouse", "(I)Z"⟩, prog_1_method_6_code, 1, (some .boolean), none, 1)
noncomputable def cm_132 : ct_L := some (fr_code 0 ct_132, (fun _ _ => none), (0, 0), cy_132)
/-- LightsMarket.place()I -/
noncomputable def ct_133 : ai_T (List fr_I) 0 := [(0, js_aload_n 0, 1, 1, 0, 0), (1, js_getfield 10, 4, 3, 11, 0), (4, js_invokevirtual 94, 7, 3, 27, 193), (7, js_ireturn, 8, 1, 0, 0)]
noncomputable def cy_133 : ai_MT := (⟨"LightsMarket", "place", "()I"⟩, prog_1_method_7_code, 1, (some .int), none, 0)
noncomputable def cm_133 : ct_L := some (fr_code 0 ct_133, (fun _ _ => none), (0, 0), cy_133)
/-- LightsMarket.line(IIII)I -/
noncomputable def ct_134 : ai_T (List fr_I) 1 := fr_nd 0 ([(0, js_aload_n 0, 1, 1, 0, 0), (1, js_iload_n 1, 2, 1, 0, 0), (2, js_invokevirtual 98, 5, 3, 129, 706), (5, js_ifCond .eq 11, 8, 3, 16, 0)]) ([(16, js_new 102, 19, 3, 2000, 104)])
noncomputable def cy_134 : ai_MT := (⟨"LightsMarket", "line", "(IIII)I"⟩, prog_1_method_8_code, 5, (some .int), none, 4)
noncomputable def cm_134 : ct_L := some (fr_code 1 ct_134, (fun _ _ => none), (1, 6), cy_134)
/-- LightsMarket.mill(IIIIIIIII)I -/
noncomputable def ct_135 : ai_T (List fr_I) 1 := fr_nd 0 ([(0, js_aload_n 0, 1, 1, 0, 0), (1, js_iload_n 1, 2, 1, 0, 0), (2, js_invokevirtual 98, 5, 3, 129, 706), (5, js_ifCond .eq 19, 8, 3, 24, 0)]) ([(24, js_new 102, 27, 3, 2000, 104)])
noncomputable def cy_135 : ai_MT := (⟨"LightsMarket", "mill", "(IIIIIIIII)I"⟩, prog_1_method_9_code, 11, (some .int), none, 9)
noncomputable def cm_135 : ct_L := some (fr_code 1 ct_135, (fun _ _ => none), (1, 6), cy_135)
/-- LightsMarket.sheet(II)I -/
noncomputable def ct_136 : ai_T (List fr_I) 0 := [(0, js_aload_n 0, 1, 1, 0, 0), (1, js_getfield 19, 4, 3, 11, 1), (4, js_iload_n 1, 5, 1, 0, 0), (5, js_iload_n 2, 6, 1, 0, 0), (6, js_invokevirtual 137, 9, 3, 113, 579), (9, js_ireturn, 10, 1, 0, 0)]
noncomputable def cy_136 : ai_MT := (⟨"LightsMarket", "sheet", "(II)I"⟩, prog_1_method_10_code, 3, (some .int), none, 2)
noncomputable def cm_136 : ct_L := some (fr_code 0 ct_136, (fun _ _ => none), (0, 0), cy_136)
/-- LightsMarket.write(III)I -/
noncomputable def ct_137 : ai_T (List fr_I) 0 := [(0, js_aload_n 0, 1, 1, 0, 0), (1, js_getfield 19, 4, 3, 11, 1), (4, js_iload_n 1, 5, 1, 0, 0), (5, js_invokevirtual 141, 8, 3, 112, 578), (8, js_ifCond .ne 11, 11, 3, 19, 0), (11, js_new 102, 14, 3, 2000, 104)]
noncomputable def cy_137 : ai_MT := (⟨"LightsMarket", "write", "(III)I"⟩, prog_1_method_11_code, 4, (some .int), none, 3)
noncomputable def cm_137 : ct_L := some (fr_code 0 ct_137, (fun _ _ => none), (1, 6), cy_137)
/-- LightsMarket.copy(IIIII)I -/
noncomputable def ct_138 : ai_T (List fr_I) 1 := fr_nd 0 ([(0, js_aload_n 0, 1, 1, 0, 0), (1, js_getfield 19, 4, 3, 11, 1), (4, js_iload_n 1, 5, 1, 0, 0), (5, js_invokevirtual 141, 8, 3, 112, 578), (8, js_ifCond .eq 14, 11, 3, 22, 0)]) ([(22, js_new 102, 25, 3, 2000, 104)])
noncomputable def cy_138 : ai_MT := (⟨"LightsMarket", "copy", "(IIIII)I"⟩, prog_1_method_12_code, 6, (some .int), none, 5)
noncomputable def cm_138 : ct_L := some (fr_code 1 ct_138, (fun _ _ => none), (1, 6), cy_138)
/-- LightsMarket.day(IIII)I -/
noncomputable def ct_139 : ai_T (List fr_I) 1 := fr_nd 0 ([(0, js_iload_n 1, 1, 1, 0, 0), (1, js_ifCond .eq 8, 4, 3, 9, 0), (4, js_iload_n 1, 5, 1, 0, 0), (5, js_iconst 1, 6, 1, 0, 0), (6, js_if_icmp .ne 14, 9, 3, 20, 0), (9, js_aload_n 0, 10, 1, 0, 0), (10, js_getfield 19, 13, 3, 11, 1), (13, js_iload_n 3, 14, 1, 0, 0), (14, js_invokevirtual 141, 17, 3, 112, 578)]) ([(17, js_ifCond .ne 11, 20, 3, 28, 0), (20, js_new 102, 23, 3, 2000, 104)])
noncomputable def cy_139 : ai_MT := (⟨"LightsMarket", "day", "(IIII)I"⟩, prog_1_method_13_code, 5, (some .int), none, 4)
noncomputable def cm_139 : ct_L := some (fr_code 1 ct_139, (fun _ _ => none), (1, 6), cy_139)
/-- LightsMarket.feed(IIIII)I -/
noncomputable def ct_140 : ai_T (List fr_I) 0 := [(0, js_aload_n 0, 1, 1, 0, 0), (1, js_getfield 26, 4, 3, 11, 2), (4, js_iload_n 1, 5, 1, 0, 0), (5, js_iload_n 2, 6, 1, 0, 0), (6, js_iload_n 3, 7, 1, 0, 0), (7, js_iload 4, 9, 2, 0, 0), (9, js_iload 5, 11, 2, 0, 0), (11, js_invokevirtual 168, 14, 3, 86, 518), (14, js_ireturn, 15, 1, 0, 0)]
noncomputable def cy_140 : ai_MT := (⟨"LightsMarket", "feed", "(IIIII)I"⟩, prog_1_method_14_code, 6, (some .int), none, 5)
noncomputable def cm_140 : ct_L := some (fr_code 0 ct_140, (fun _ _ => none), (0, 0), cy_140)
/-- LightsMarket.offer(II)I -/
noncomputable def ct_141 : ai_T (List fr_I) 0 := [(0, js_aload_n 0, 1, 1, 0, 0), (1, js_iload_n 1, 2, 1, 0, 0), (2, js_invokevirtual 159, 5, 3, 130, 706), (5, js_ifCond .ne 11, 8, 3, 16, 0), (8, js_new 102, 11, 3, 2000, 104)]
noncomputable def cy_141 : ai_MT := (⟨"LightsMarket", "offer", "(II)I"⟩, prog_1_method_15_code, 4, (some .int), none, 2)
noncomputable def cm_141 : ct_L := some (fr_code 0 ct_141, (fun _ _ => none), (1, 6), cy_141)
/-- LightsMarket.fault()I -/
noncomputable def ct_142 : ai_T (List fr_I) 0 := [(0, js_aload_n 0, 1, 1, 0, 0), (1, js_getfield 26, 4, 3, 11, 2), (4, js_getfield 197, 7, 3, 8, 3), (7, js_ireturn, 8, 1, 0, 0)]
noncomputable def cy_142 : ai_MT := (⟨"LightsMarket", "fault", "()I"⟩, prog_1_method_16_code, 1, (some .int), none, 0)
noncomputable def cm_142 : ct_L := some (fr_code 0 ct_142, (fun _ _ => none), (0, 0), cy_142)
/-- LightsMarket.asked(III)I -/
noncomputable def ct_143 : ai_T (List fr_I) 0 := [(0, js_aload_n 0, 1, 1, 0, 0), (1, js_iload_n 1, 2, 1, 0, 0), (2, js_invokevirtual 159, 5, 3, 130, 706), (5, js_ifCond .eq 10, 8, 3, 15, 0), (15, js_new 102, 18, 3, 2000, 104)]
noncomputable def cy_143 : ai_MT := (⟨"LightsMarket", "asked", "(III)I"⟩, prog_1_method_17_code, 4, (some .int), none, 3)
noncomputable def cm_143 : ct_L := some (fr_code 0 ct_143, (fun _ _ => none), (1, 6), cy_143)
/-- LightsMarket.rules(ZII)Z -/
noncomputable def ct_144 : ai_T (List fr_I) 2 := fr_nd 1 (fr_nd 0 ([(0, js_iload_n 2, 1, 1, 0, 0), (1, js_iconst 0, 2, 1, 0, 0), (2, js_bipush 99, 4, 2, 0, 0), (4, js_invokestatic 105, 7, 3, 128, 3), (7, js_ifCond .eq 13, 10, 3, 20, 0), (10, js_iload_n 3, 11, 1, 0, 0), (11, js_iconst 0, 12, 1, 0, 0), (12, js_bipush 100, 14, 2, 0, 0), (14, js_invokestatic 105, 17, 3, 128, 3)]) ([(34, js_iload_n 2, 35, 1, 0, 0), (35, js_putfield 217, 38, 3, 3, 4), (38, js_aload_n 0, 39, 1, 0, 0), (39, js_getfield 10, 42, 3, 11, 0), (42, js_iload_n 3, 43, 1, 0, 0), (43, js_putfield 220, 46, 3, 3, 5), (46, js_iconst 1, 47, 1, 0, 0), (47, js_ireturn, 48, 1, 2, 0)])) (fr_nd 0 ([(17, js_ifCond .ne 5, 20, 3, 22, 0), (20, js_iconst 0, 21, 1, 0, 0), (21, js_ireturn, 22, 1, 2, 0), (22, js_aload_n 0, 23, 1, 0, 0), (23, js_getfield 10, 26, 3, 11, 0), (26, js_iload_n 1, 27, 1, 0, 0), (27, js_putfield 213, 30, 3, 3, 3), (30, js_aload_n 0, 31, 1, 0, 0), (31, js_getfield 10, 34, 3, 11, 0)]) ([]))
noncomputable def cy_144 : ai_MT := (⟨"LightsMarket", "rules", "(ZII)Z"⟩, prog_1_method_18_code, 4, (some .boolean), none, 3)
noncomputable def cm_144 : ct_L := some (fr_code 2 ct_144, (fun _ _ => none), (0, 0), cy_144)
/-- LightsMarket.flow(IIII)I -/
noncomputable def ct_145 : ai_T (List fr_I) 1 := fr_nd 0 ([(0, js_iload_n 1, 1, 1, 0, 0), (1, js_ifCond .lt 30, 4, 3, 31, 0), (4, js_iload_n 1, 5, 1, 0, 0), (5, js_aload_n 0, 6, 1, 0, 0), (6, js_getfield 10, 9, 3, 11, 0), (9, js_getfield 223, 12, 3, 3, 1), (12, js_if_icmp .ge 19, 15, 3, 31, 0)]) ([(31, js_new 102, 34, 3, 2000, 104)])
noncomputable def cy_145 : ai_MT := (⟨"LightsMarket", "flow", "(IIII)I"⟩, prog_1_method_19_code, 8, (some .int), none, 4)
noncomputable def cm_145 : ct_L := some (fr_code 1 ct_145, (fun _ _ => none), (1, 6), cy_145)
/-- LightsMarket.least(III)I -/
noncomputable def ct_146 : ai_T (List fr_I) 3 := fr_nd 2 (fr_nd 1 (fr_nd 0 ([(0, js_iload_n 1, 1, 1, 0, 0), (1, js_invokestatic 200, 4, 3, 131, 1), (4, js_ifCond .ne 11, 7, 3, 15, 0), (7, js_new 102, 10, 3, 2000, 104), (15, js_iload_n 3, 16, 1, 0, 0)]) ([(64, js_iconst (-1), 65, 1, 0, 0), (65, js_if_icmp .eq 46, 68, 3, 111, 0), (68, js_aload_n 0, 69, 1, 0, 0), (69, js_aload_n 0, 70, 1, 0, 0), (70, js_getfield 10, 73, 3, 11, 0), (73, js_getfield 91, 76, 3, 3, 2), (76, js_putfield 241, 79, 3, 11, 10), (79, js_iconst 0, 80, 1, 0, 0)])) (fr_nd 0 ([(32, js_invokevirtual 235, 35, 3, 32, 193), (35, js_if_icmp .le 5, 38, 3, 40, 0), (38, js_iconst (-1), 39, 1, 0, 0), (39, js_ireturn, 40, 1, 0, 0), (40, js_aload_n 0, 41, 1, 0, 0), (41, js_getfield 35, 44, 3, 11, 3), (44, js_iload_n 1, 45, 1, 0, 0), (45, js_iconst (-1), 46, 1, 0, 0), (46, js_invokevirtual 206, 49, 3, 4, 67)]) ([(98, js_getfield 244, 101, 3, 1, 0), (101, js_iload 5, 103, 2, 0, 0), (103, js_iaload, 104, 1, 0, 0), (104, js_iastore, 105, 1, 0, 0), (105, js_iinc 5 1, 108, 3, 0, 0), (108, js_goto (-26), 111, 3, 82, 0), (111, js_iload 4, 113, 2, 0, 0)]))) (fr_nd 1 (fr_nd 0 ([(16, js_ifCond .ge 11, 19, 3, 27, 0), (19, js_new 174, 22, 3, 2001, 176), (27, js_iload_n 3, 28, 1, 0, 0), (28, js_aload_n 0, 29, 1, 0, 0), (29, js_getfield 10, 32, 3, 11, 0)]) ([(80, js_istore 5, 82, 2, 0, 0), (82, js_iload 5, 84, 2, 0, 0), (84, js_iconst 4, 85, 1, 0, 0), (85, js_if_icmp .ge 26, 88, 3, 111, 0), (88, js_aload_n 0, 89, 1, 0, 0), (89, js_getfield 78, 92, 3, 11, 9), (92, js_iload 5, 94, 2, 0, 0), (94, js_aload_n 0, 95, 1, 0, 0), (95, js_getfield 35, 98, 3, 11, 3)])) (fr_nd 0 ([(49, js_aload_n 0, 50, 1, 0, 0), (50, js_getfield 35, 53, 3, 11, 3), (53, js_iload_n 2, 54, 1, 0, 0), (54, js_iload_n 3, 55, 1, 0, 0), (55, js_iconst 0, 56, 1, 0, 0), (56, js_iconst (-1), 57, 1, 0, 0), (57, js_invokevirtual 238, 60, 3, 8, 69), (60, js_istore 4, 62, 2, 0, 0), (62, js_iload 4, 64, 2, 0, 0)]) ([(113, js_ireturn, 114, 1, 0, 0)])))
noncomputable def cy_146 : ai_MT := (⟨"LightsMarket", "least", "(III)I"⟩, prog_1_method_20_code, 6, (some .int), none, 3)
noncomputable def cm_146 : ct_L := some (fr_code 3 ct_146, (fun _ _ => none), (1, 6), cy_146)
/-- LightsMarket.units(I)I -/
noncomputable def ct_147 : ai_T (List fr_I) 0 := [(0, js_aload_n 0, 1, 1, 0, 0), (1, js_iload_n 1, 2, 1, 0, 0), (2, js_invokevirtual 159, 5, 3, 130, 706), (5, js_ifCond .ne 11, 8, 3, 16, 0), (8, js_new 102, 11, 3, 2000, 104)]
noncomputable def cy_147 : ai_MT := (⟨"LightsMarket", "units", "(I)I"⟩, prog_1_method_21_code, 2, (some .int), none, 1)
noncomputable def cm_147 : ct_L := some (fr_code 0 ct_147, (fun _ _ => none), (1, 6), cy_147)
/-- LightsMarket.plan(II)I -/
noncomputable def ct_148 : ai_T (List fr_I) 1 := fr_nd 0 ([(0, js_iload_n 1, 1, 1, 0, 0), (1, js_iconst 1, 2, 1, 0, 0), (2, js_iconst 4, 3, 1, 0, 0), (3, js_invokestatic 105, 6, 3, 128, 3), (6, js_ifCond .ne 11, 9, 3, 17, 0), (9, js_new 174, 12, 3, 2001, 176)]) ([(17, js_aload_n 0, 18, 1, 0, 0), (18, js_getfield 51, 21, 3, 11, 5), (21, js_iload_n 1, 22, 1, 0, 0), (22, js_iload_n 2, 23, 1, 0, 0), (23, js_invokevirtual 247, 26, 3, 71, 451), (26, js_ireturn, 27, 1, 0, 0)])
noncomputable def cy_148 : ai_MT := (⟨"LightsMarket", "plan", "(II)I"⟩, prog_1_method_22_code, 3, (some .int), none, 2)
noncomputable def cm_148 : ct_L := some (fr_code 1 ct_148, (fun _ _ => none), (1, 6), cy_148)
/-- LightsMarket.planned(II)I -/
noncomputable def ct_149 : ai_T (List fr_I) 2 := fr_nd 1 (fr_nd 0 ([(0, js_iload_n 2, 1, 1, 0, 0), (1, js_ifCond .eq 23, 4, 3, 24, 0), (4, js_iload_n 2, 5, 1, 0, 0), (5, js_iconst 1, 6, 1, 0, 0), (6, js_if_icmp .eq 18, 9, 3, 24, 0), (9, js_iload_n 2, 10, 1, 0, 0), (10, js_iconst 4, 11, 1, 0, 0), (11, js_if_icmp .lt 17, 14, 3, 28, 0), (14, js_aload_n 0, 15, 1, 0, 0), (15, js_iload_n 2, 16, 1, 0, 0)]) ([(34, js_ifCond .eq 7, 37, 3, 41, 0), (37, js_iload_n 3, 38, 1, 0, 0), (38, js_ifCond .ne 11, 41, 3, 49, 0), (41, js_new 102, 44, 3, 2000, 104)])) (fr_nd 0 ([(16, js_iconst 4, 17, 1, 0, 0), (17, js_isub, 18, 1, 0, 0), (18, js_invokevirtual 159, 21, 3, 130, 706), (21, js_ifCond .eq 7, 24, 3, 28, 0), (24, js_iconst 1, 25, 1, 0, 0), (25, js_goto 4, 28, 3, 29, 0), (28, js_iconst 0, 29, 1, 0, 0), (29, js_istore_n 3, 30, 1, 0, 0), (30, js_iload_n 1, 31, 1, 0, 0), (31, js_invokestatic 200, 34, 3, 131, 1)]) ([(49, js_iload_n 1, 50, 1, 0, 0), (50, js_aload_n 0, 51, 1, 0, 0), (51, js_getfield 42, 54, 3, 11, 4), (54, js_getfield 250, 57, 3, 0, 0), (57, js_if_icmp .lt 5, 60, 3, 62, 0), (60, js_iconst (-1), 61, 1, 0, 0), (61, js_ireturn, 62, 1, 0, 0)]))
noncomputable def cy_149 : ai_MT := (⟨"LightsMarket", "planned", "(II)I"⟩, prog_1_method_23_code, 4, (some .int), none, 2)
noncomputable def cm_149 : ct_L := some (fr_code 2 ct_149, (fun _ _ => none), (1, 6), cy_149)
/-- LightsMarket.price(II)I -/
noncomputable def ct_150 : ai_T (List fr_I) 0 := [(0, js_aload_n 0, 1, 1, 0, 0), (1, js_iload_n 1, 2, 1, 0, 0), (2, js_invokevirtual 98, 5, 3, 129, 706), (5, js_ifCond .eq 10, 8, 3, 15, 0), (15, js_new 102, 18, 3, 2000, 104)]
noncomputable def cy_150 : ai_MT := (⟨"LightsMarket", "price", "(II)I"⟩, prog_1_method_24_code, 4, (some .int), none, 2)
noncomputable def cm_150 : ct_L := some (fr_code 0 ct_150, (fun _ _ => none), (1, 6), cy_150)
/-- LightsMarket.pays(II)I -/
noncomputable def ct_151 : ai_T (List fr_I) 2 := fr_nd 1 (fr_nd 0 ([(0, js_iload_n 1, 1, 1, 0, 0), (1, js_iconst (-1), 2, 1, 0, 0), (2, js_if_icmp .ne 23, 5, 3, 25, 0), (5, js_iload_n 2, 6, 1, 0, 0), (6, js_ifCond .eq 11, 9, 3, 17, 0), (9, js_new 102, 12, 3, 2000, 104)]) ([(42, js_new 102, 45, 3, 2000, 104)])) (fr_nd 0 ([(17, js_aload_n 0, 18, 1, 0, 0), (18, js_getfield 42, 21, 3, 11, 4), (21, js_getfield 266, 24, 3, 0, 2), (24, js_ireturn, 25, 1, 0, 0), (25, js_aload_n 0, 26, 1, 0, 0), (26, js_iload_n 1, 27, 1, 0, 0), (27, js_invokevirtual 159, 30, 3, 130, 706), (30, js_ifCond .eq 12, 33, 3, 42, 0)]) ([]))
noncomputable def cy_151 : ai_MT := (⟨"LightsMarket", "pays", "(II)I"⟩, prog_1_method_25_code, 3, (some .int), none, 2)
noncomputable def cm_151 : ct_L := some (fr_code 2 ct_151, (fun _ _ => none), (1, 6), cy_151)
/-- LightsMarket.game(I)I -/
noncomputable def ct_152 : ai_T (List fr_I) 1 := fr_nd 0 ([(0, js_iload_n 1, 1, 1, 0, 0), (1, js_invokestatic 200, 4, 3, 131, 1), (4, js_ifCond .ne 11, 7, 3, 15, 0), (7, js_new 102, 10, 3, 2000, 104), (15, js_aload_n 0, 16, 1, 0, 0)]) ([(16, js_getfield 60, 19, 3, 11, 6), (19, js_iload_n 1, 20, 1, 0, 0), (20, js_invokevirtual 278, 23, 3, 19, 130), (23, js_ireturn, 24, 1, 0, 0)])
noncomputable def cy_152 : ai_MT := (⟨"LightsMarket", "game", "(I)I"⟩, prog_1_method_26_code, 2, (some .int), none, 1)
noncomputable def cm_152 : ct_L := some (fr_code 1 ct_152, (fun _ _ => none), (1, 6), cy_152)
/-- LightsMarket.hides(II)I -/
noncomputable def ct_153 : ai_T (List fr_I) 1 := fr_nd 0 ([(0, js_iload_n 1, 1, 1, 0, 0), (1, js_invokestatic 113, 4, 3, 132, 1), (4, js_ifCond .eq 22, 7, 3, 26, 0), (7, js_iload_n 2, 8, 1, 0, 0), (8, js_iconst 0, 9, 1, 0, 0), (9, js_iconst 2, 10, 1, 0, 0), (10, js_invokestatic 105, 13, 3, 128, 3), (13, js_ifCond .eq 13, 16, 3, 26, 0)]) ([(16, js_aload_n 0, 17, 1, 0, 0), (17, js_getfield 60, 20, 3, 11, 6), (20, js_getfield 281, 23, 3, 2, 0), (23, js_ifCond .ne 11, 26, 3, 34, 0), (26, js_new 102, 29, 3, 2000, 104)])
noncomputable def cy_153 : ai_MT := (⟨"LightsMarket", "hides", "(II)I"⟩, prog_1_method_27_code, 3, (some .int), none, 2)
noncomputable def cm_153 : ct_L := some (fr_code 1 ct_153, (fun _ _ => none), (1, 6), cy_153)
/-- LightsMarket.alone(II)Z -/
noncomputable def ct_154 : ai_T (List fr_I) 3 := fr_nd 2 (fr_nd 1 (fr_nd 0 ([(0, js_iload_n 1, 1, 1, 0, 0), (1, js_invokestatic 113, 4, 3, 132, 1), (4, js_ifCond .eq 10, 7, 3, 14, 0), (7, js_iload_n 2, 8, 1, 0, 0), (8, js_invokestatic 200, 11, 3, 131, 1), (11, js_ifCond .ne 11, 14, 3, 22, 0), (14, js_new 102, 17, 3, 2000, 104)]) ([(65, js_iconst 0, 66, 1, 0, 0), (66, js_ireturn, 67, 1, 2, 0)])) (fr_nd 0 ([(32, js_getfield 10, 35, 3, 11, 0), (35, js_invokevirtual 235, 38, 3, 32, 193), (38, js_istore_n 3, 39, 1, 0, 0), (39, js_iconst 0, 40, 1, 0, 0), (40, js_istore 4, 42, 2, 0, 0), (42, js_iload 4, 44, 2, 0, 0), (44, js_iload_n 3, 45, 1, 0, 0), (45, js_if_icmp .gt 28, 48, 3, 73, 0)]) ([]))) (fr_nd 1 (fr_nd 0 ([(22, js_aload_n 0, 23, 1, 0, 0), (23, js_getfield 35, 26, 3, 11, 3), (26, js_iload_n 2, 27, 1, 0, 0), (27, js_iconst (-1), 28, 1, 0, 0), (28, js_invokevirtual 206, 31, 3, 4, 67), (31, js_aload_n 0, 32, 1, 0, 0)]) ([])) (fr_nd 0 ([(48, js_aload_n 0, 49, 1, 0, 0), (49, js_getfield 35, 52, 3, 11, 3), (52, js_bipush 15, 54, 2, 0, 0), (54, js_iload 4, 56, 2, 0, 0), (56, js_iconst 0, 57, 1, 0, 0), (57, js_iload_n 1, 58, 1, 0, 0), (58, js_invokevirtual 238, 61, 3, 8, 69), (61, js_iconst (-1), 62, 1, 0, 0), (62, js_if_icmp .eq 5, 65, 3, 67, 0)]) ([])))
noncomputable def cy_154 : ai_MT := (⟨"LightsMarket", "alone", "(II)Z"⟩, prog_1_method_28_code, 5, (some .boolean), none, 2)
noncomputable def cm_154 : ct_L := some (fr_code 3 ct_154, (fun _ _ => none), (1, 6), cy_154)
/-- LightsMarket.night(IIII)Z -/
noncomputable def ct_155 : ai_T (List fr_I) 1 := fr_nd 0 ([(0, js_iload_n 1, 1, 1, 0, 0), (1, js_invokestatic 200, 4, 3, 131, 1), (4, js_ifCond .ne 11, 7, 3, 15, 0), (7, js_new 102, 10, 3, 2000, 104), (15, js_aload_n 0, 16, 1, 0, 0)]) ([(16, js_getfield 67, 19, 3, 11, 7), (19, js_iload_n 1, 20, 1, 0, 0), (20, js_iload_n 2, 21, 1, 0, 0), (21, js_iload_n 3, 22, 1, 0, 0), (22, js_iload 4, 24, 2, 0, 0), (24, js_invokevirtual 293, 27, 3, 52, 325), (27, js_ireturn, 28, 1, 2, 0)])
noncomputable def cy_155 : ai_MT := (⟨"LightsMarket", "night", "(IIII)Z"⟩, prog_1_method_29_code, 5, (some .boolean), none, 4)
noncomputable def cm_155 : ct_L := some (fr_code 1 ct_155, (fun _ _ => none), (1, 6), cy_155)
/-- LightsMarket.falls(II)Z -/
noncomputable def ct_156 : ai_T (List fr_I) 0 := [(0, js_aload_n 0, 1, 1, 0, 0), (1, js_iload_n 1, 2, 1, 0, 0), (2, js_invokevirtual 159, 5, 3, 130, 706), (5, js_ifCond .ne 11, 8, 3, 16, 0), (8, js_new 102, 11, 3, 2000, 104)]
noncomputable def cy_156 : ai_MT := (⟨"LightsMarket", "falls", "(II)Z"⟩, prog_1_method_30_code, 3, (some .boolean), none, 2)
noncomputable def cm_156 : ct_L := some (fr_code 0 ct_156, (fun _ _ => none), (1, 6), cy_156)
/-- LightsMarket.minutes(I)I -/
noncomputable def ct_157 : ai_T (List fr_I) 0 := [(0, js_aload_n 0, 1, 1, 0, 0), (1, js_getfield 67, 4, 3, 11, 7), (4, js_getfield 301, 7, 3, 5, 0), (7, js_ifCond .ne 5, 10, 3, 12, 0), (10, js_iconst (-1), 11, 1, 0, 0), (11, js_ireturn, 12, 1, 0, 0)]
noncomputable def cy_157 : ai_MT := (⟨"LightsMarket", "minutes", "(I)I"⟩, prog_1_method_31_code, 2, (some .int), none, 1)
noncomputable def cm_157 : ct_L := some (fr_code 0 ct_157, (fun _ _ => none), (1, 6), cy_157)
/-- LightsMarket.ofNight(I)I -/
noncomputable def ct_158 : ai_T (List fr_I) 1 := fr_nd 0 ([(0, js_aload_n 0, 1, 1, 0, 0), (1, js_getfield 67, 4, 3, 11, 7), (4, js_getfield 301, 7, 3, 5, 0), (7, js_ifCond .eq 12, 10, 3, 19, 0)]) ([(19, js_new 102, 22, 3, 2000, 104)])
noncomputable def cy_158 : ai_MT := (⟨"LightsMarket", "ofNight", "(I)I"⟩, prog_1_method_32_code, 2, (some .int), none, 1)
noncomputable def cm_158 : ct_L := some (fr_code 1 ct_158, (fun _ _ => none), (1, 6), cy_158)
/-- LightsMarket.starts(IZI)Z -/
noncomputable def ct_159 : ai_T (List fr_I) 0 := [(0, js_aload_n 0, 1, 1, 0, 0), (1, js_iload_n 1, 2, 1, 0, 0), (2, js_invokevirtual 159, 5, 3, 130, 706), (5, js_ifCond .ne 11, 8, 3, 16, 0), (8, js_new 102, 11, 3, 2000, 104)]
noncomputable def cy_159 : ai_MT := (⟨"LightsMarket", "starts", "(IZI)Z"⟩, prog_1_method_33_code, 4, (some .boolean), none, 3)
noncomputable def cm_159 : ct_L := some (fr_code 0 ct_159, (fun _ _ => none), (1, 6), cy_159)
/-- LightsMarket.way(I)I -/
noncomputable def ct_160 : ai_T (List fr_I) 1 := fr_nd 0 ([(0, js_iload_n 1, 1, 1, 0, 0), (1, js_invokestatic 200, 4, 3, 131, 1), (4, js_ifCond .ne 11, 7, 3, 15, 0), (7, js_new 102, 10, 3, 2000, 104), (15, js_aload_n 0, 16, 1, 0, 0)]) ([(16, js_getfield 74, 19, 3, 11, 8), (19, js_iload_n 1, 20, 1, 0, 0), (20, js_invokevirtual 328, 23, 3, 119, 642), (23, js_ireturn, 24, 1, 0, 0)])
noncomputable def cy_160 : ai_MT := (⟨"LightsMarket", "way", "(I)I"⟩, prog_1_method_34_code, 2, (some .int), none, 1)
noncomputable def cm_160 : ct_L := some (fr_code 1 ct_160, (fun _ _ => none), (1, 6), cy_160)
/-- LightsMarket.act(I)I -/
noncomputable def ct_161 : ai_T (List fr_I) 0 := [(0, js_iload_n 1, 1, 1, 0, 0), (1, js_ifCond .lt 14, 4, 3, 15, 0), (4, js_iload_n 1, 5, 1, 0, 0), (5, js_aload_n 0, 6, 1, 0, 0), (6, js_getfield 74, 9, 3, 11, 8), (9, js_getfield 330, 12, 3, 10, 0), (12, js_if_icmp .lt 11, 15, 3, 23, 0), (15, js_new 102, 18, 3, 2000, 104)]
noncomputable def cy_161 : ai_MT := (⟨"LightsMarket", "act", "(I)I"⟩, prog_1_method_35_code, 2, (some .int), none, 1)
noncomputable def cm_161 : ct_L := some (fr_code 0 ct_161, (fun _ _ => none), (1, 6), cy_161)
/-- LightsMarket.evenings(I)I -/
noncomputable def ct_162 : ai_T (List fr_I) 2 := fr_nd 1 (fr_nd 0 ([(0, js_iload_n 1, 1, 1, 0, 0), (1, js_ifCond .lt 14, 4, 3, 15, 0), (4, js_iload_n 1, 5, 1, 0, 0), (5, js_bipush 99, 7, 2, 0, 0), (7, js_aload_n 0, 8, 1, 0, 0), (8, js_getfield 336, 11, 3, 11, 13), (11, js_isub, 12, 1, 0, 0), (12, js_if_icmp .le 11, 15, 3, 23, 0), (15, js_new 174, 18, 3, 2001, 176)]) ([(33, js_aload_n 0, 34, 1, 0, 0), (34, js_getfield 336, 37, 3, 11, 13), (37, js_ireturn, 38, 1, 0, 0)])) (fr_nd 0 ([(23, js_aload_n 0, 24, 1, 0, 0), (24, js_dup, 25, 1, 0, 0), (25, js_getfield 336, 28, 3, 11, 13), (28, js_iload_n 1, 29, 1, 0, 0), (29, js_iadd, 30, 1, 0, 0), (30, js_putfield 336, 33, 3, 11, 13)]) ([]))
noncomputable def cy_162 : ai_MT := (⟨"LightsMarket", "evenings", "(I)I"⟩, prog_1_method_36_code, 2, (some .int), none, 1)
noncomputable def cm_162 : ct_L := some (fr_code 2 ct_162, (fun _ _ => none), (1, 6), cy_162)
/-- LightsMarket.meter(III)I -/
noncomputable def ct_163 : ai_T (List fr_I) 0 := [(0, js_aload_n 0, 1, 1, 0, 0), (1, js_iload_n 1, 2, 1, 0, 0), (2, js_invokevirtual 98, 5, 3, 129, 706), (5, js_ifCond .eq 10, 8, 3, 15, 0), (15, js_new 102, 18, 3, 2000, 104)]
noncomputable def cy_163 : ai_MT := (⟨"LightsMarket", "meter", "(III)I"⟩, prog_1_method_37_code, 5, (some .int), none, 3)
noncomputable def cm_163 : ct_L := some (fr_code 0 ct_163, (fun _ _ => none), (1, 6), cy_163)
/-- LightsMarket.bill(II)I -/
noncomputable def ct_164 : ai_T (List fr_I) 0 := [(0, js_aload_n 0, 1, 1, 0, 0), (1, js_iload_n 1, 2, 1, 0, 0), (2, js_invokevirtual 98, 5, 3, 129, 706), (5, js_ifCond .ne 11, 8, 3, 16, 0), (8, js_new 102, 11, 3, 2000, 104)]
noncomputable def cy_164 : ai_MT := (⟨"LightsMarket", "bill", "(II)I"⟩, prog_1_method_38_code, 5, (some .int), none, 2)
noncomputable def cm_164 : ct_L := some (fr_code 0 ct_164, (fun _ _ => none), (1, 6), cy_164)
/-- LightsMarket.count(I)I -/
noncomputable def ct_166 : ai_T (List fr_I) 3 := fr_nd 2 (fr_nd 1 (fr_nd 0 ([(0, js_iload_n 1, 1, 1, 0, 0), (1, js_tableswitch 105 0 7 #[47, 52, 60, 68, 76, 84, 89, 97], 48, 47, 0, 0)]) ([(65, js_getfield 223, 68, 3, 3, 1), (68, js_ireturn, 69, 1, 0, 0), (69, js_aload_n 0, 70, 1, 0, 0), (70, js_getfield 10, 73, 3, 11, 0), (73, js_getfield 91, 76, 3, 3, 2), (76, js_ireturn, 77, 1, 0, 0), (77, js_aload_n 0, 78, 1, 0, 0), (78, js_getfield 19, 81, 3, 11, 1)])) (fr_nd 0 ([]) ([(97, js_ireturn, 98, 1, 0, 0), (98, js_aload_n 0, 99, 1, 0, 0), (99, js_getfield 26, 102, 3, 11, 2), (102, js_getfield 171, 105, 3, 8, 2), (105, js_ireturn, 106, 1, 0, 0), (106, js_new 102, 109, 3, 2000, 104)]))) (fr_nd 1 (fr_nd 0 ([]) ([(81, js_getfield 349, 84, 3, 9, 0), (84, js_ireturn, 85, 1, 0, 0), (85, js_aload_n 0, 86, 1, 0, 0), (86, js_getfield 339, 89, 3, 11, 12), (89, js_ireturn, 90, 1, 0, 0), (90, js_aload_n 0, 91, 1, 0, 0), (91, js_getfield 42, 94, 3, 11, 4), (94, js_getfield 250, 97, 3, 0, 0)])) (fr_nd 0 ([(48, js_aload_n 0, 49, 1, 0, 0), (49, js_getfield 336, 52, 3, 11, 13), (52, js_ireturn, 53, 1, 0, 0), (53, js_aload_n 0, 54, 1, 0, 0), (54, js_getfield 10, 57, 3, 11, 0), (57, js_getfield 87, 60, 3, 3, 0), (60, js_ireturn, 61, 1, 0, 0), (61, js_aload_n 0, 62, 1, 0, 0), (62, js_getfield 10, 65, 3, 11, 0)]) ([])))
noncomputable def cy_166 : ai_MT := (⟨"LightsMarket", "count", "(I)I"⟩, prog_1_method_40_code, 2, (some .int), none, 1)
noncomputable def cm_166 : ct_L := some (fr_code 3 ct_166, (fun _ _ => none), (1, 6), cy_166)
/-- LightsMarketModel.<init>()V -/
noncomputable def ct_167 : ai_T (List fr_I) 6 := fr_nd 5 (fr_nd 4 (fr_nd 3 (fr_nd 2 (fr_nd 1 (fr_nd 0 ([(0, js_aload_n 0, 1, 1, 0, 0), (1, js_invokespecial 1, 4, 3, 1004, 1), (4, js_aload_n 0, 5, 1, 0, 0), (5, js_iconst 5, 6, 1, 0, 0), (6, js_anewarray 7, 9, 3, 5, 0), (9, js_dup, 10, 1, 0, 0), (10, js_iconst 0, 11, 1, 0, 0), (11, js_ldc 9, 13, 2, 1, 1), (13, js_aastore, 14, 1, 0, 0), (14, js_dup, 15, 1, 0, 0), (15, js_iconst 1, 16, 1, 0, 0)]) ([(513, js_aload_n 0, 514, 1, 0, 0), (514, js_iconst 4, 515, 1, 0, 0), (515, js_newarray .boolean, 517, 2, 2, 0), (517, js_putfield 220, 520, 3, 12, 102), (520, js_aload_n 0, 521, 1, 0, 0), (521, js_iconst 4, 522, 1, 0, 0), (522, js_newarray .int, 524, 2, 0, 0), (524, js_putfield 223, 527, 3, 12, 103), (527, js_aload_n 0, 528, 1, 0, 0)])) (fr_nd 0 ([(256, js_putfield 114, 259, 3, 12, 48), (259, js_aload_n 0, 260, 1, 0, 0), (260, js_bipush 6, 262, 2, 0, 0), (262, js_newarray .long, 264, 2, 1, 0), (264, js_putfield 117, 267, 3, 12, 49), (267, js_aload_n 0, 268, 1, 0, 0), (268, js_bipush 120, 270, 2, 0, 0), (270, js_newarray .long, 272, 2, 1, 0)]) ([]))) (fr_nd 1 (fr_nd 0 ([(128, js_aload_n 0, 129, 1, 0, 0), (129, js_bipush 16, 131, 2, 0, 0), (131, js_newarray .int, 133, 2, 0, 0), (133, js_putfield 65, 136, 3, 12, 19), (136, js_aload_n 0, 137, 1, 0, 0), (137, js_bipush 16, 139, 2, 0, 0), (139, js_newarray .int, 141, 2, 0, 0), (141, js_putfield 67, 144, 3, 12, 20)]) ([])) (fr_nd 0 ([(384, js_newarray .boolean, 386, 2, 2, 0), (386, js_putfield 166, 389, 3, 12, 73), (389, js_aload_n 0, 390, 1, 0, 0), (390, js_iconst 4, 391, 1, 0, 0), (391, js_newarray .int, 393, 2, 0, 0), (393, js_putfield 169, 396, 3, 12, 74), (396, js_aload_n 0, 397, 1, 0, 0), (397, js_iconst 4, 398, 1, 0, 0), (398, js_newarray .int, 400, 2, 0, 0)]) ([])))) (fr_nd 2 (fr_nd 1 (fr_nd 0 ([(65, js_aload_n 0, 66, 1, 0, 0), (66, js_iconst 4, 67, 1, 0, 0), (67, js_newarray .int, 69, 2, 0, 0), (69, js_putfield 38, 72, 3, 12, 10), (72, js_aload_n 0, 73, 1, 0, 0), (73, js_iconst 4, 74, 1, 0, 0), (74, js_newarray .int, 76, 2, 0, 0), (76, js_putfield 41, 79, 3, 12, 11), (79, js_aload_n 0, 80, 1, 0, 0)]) ([(576, js_newarray .int, 578, 2, 0, 0), (578, js_putfield 244, 581, 3, 12, 112), (581, js_return_, 582, 1, 0, 0)])) (fr_nd 0 ([(320, js_iconst 3, 321, 1, 0, 0), (321, js_newarray .int, 323, 2, 0, 0), (323, js_putfield 142, 326, 3, 12, 57), (326, js_aload_n 0, 327, 1, 0, 0), (327, js_iconst 4, 328, 1, 0, 0), (328, js_newarray .int, 330, 2, 0, 0), (330, js_putfield 145, 333, 3, 12, 58), (333, js_aload_n 0, 334, 1, 0, 0), (334, js_iconst (-1), 335, 1, 0, 0), (335, js_putfield 148, 338, 3, 12, 61)]) ([]))) (fr_nd 1 (fr_nd 0 ([(192, js_iconst 5, 193, 1, 0, 0), (193, js_newarray .int, 195, 2, 0, 0), (195, js_putfield 89, 198, 3, 12, 38), (198, js_aload_n 0, 199, 1, 0, 0), (199, js_bipush 40, 201, 2, 0, 0), (201, js_newarray .int, 203, 2, 0, 0), (203, js_putfield 92, 206, 3, 12, 39), (206, js_aload_n 0, 207, 1, 0, 0), (207, js_bipush 40, 209, 2, 0, 0)]) ([])) (fr_nd 0 ([(450, js_aload_n 0, 451, 1, 0, 0), (451, js_iconst 3, 452, 1, 0, 0), (452, js_newarray .int, 454, 2, 0, 0), (454, js_putfield 193, 457, 3, 12, 82), (457, js_aload_n 0, 458, 1, 0, 0), (458, js_iconst 4, 459, 1, 0, 0), (459, js_newarray .int, 461, 2, 0, 0), (461, js_putfield 196, 464, 3, 12, 84)]) ([]))))) (fr_nd 3 (fr_nd 2 (fr_nd 1 (fr_nd 0 ([(33, js_aastore, 34, 1, 0, 0), (34, js_putfield 19, 37, 3, 12, 0), (37, js_aload_n 0, 38, 1, 0, 0), (38, js_iconst 5, 39, 1, 0, 0), (39, js_newarray .int, 41, 2, 0, 0), (41, js_putfield 25, 44, 3, 12, 6), (44, js_aload_n 0, 45, 1, 0, 0), (45, js_iconst 5, 46, 1, 0, 0), (46, js_newarray .int, 48, 2, 0, 0)]) ([(544, js_aload_n 0, 545, 1, 0, 0), (545, js_iconst (-1), 546, 1, 0, 0), (546, js_putfield 232, 549, 3, 12, 106), (549, js_aload_n 0, 550, 1, 0, 0), (550, js_bipush 60, 552, 2, 0, 0), (552, js_newarray .int, 554, 2, 0, 0), (554, js_putfield 235, 557, 3, 12, 109), (557, js_aload_n 0, 558, 1, 0, 0), (558, js_bipush 60, 560, 2, 0, 0)])) (fr_nd 0 ([(290, js_aload_n 0, 291, 1, 0, 0), (291, js_iconst 4, 292, 1, 0, 0), (292, js_newarray .int, 294, 2, 0, 0), (294, js_putfield 130, 297, 3, 12, 53), (297, js_aload_n 0, 298, 1, 0, 0), (298, js_bipush 32, 300, 2, 0, 0), (300, js_newarray .int, 302, 2, 0, 0), (302, js_putfield 133, 305, 3, 12, 54)]) ([]))) (fr_nd 1 (fr_nd 0 ([(160, js_aload_n 0, 161, 1, 0, 0), (161, js_sipush 144, 164, 3, 0, 0), (164, js_newarray .int, 166, 2, 0, 0), (166, js_putfield 76, 169, 3, 12, 23), (169, js_aload_n 0, 170, 1, 0, 0), (170, js_bipush 12, 172, 2, 0, 0), (172, js_newarray .int, 174, 2, 0, 0), (174, js_putfield 79, 177, 3, 12, 24)]) ([])) (fr_nd 0 ([(416, js_putfield 178, 419, 3, 12, 77), (419, js_aload_n 0, 420, 1, 0, 0), (420, js_bipush 16, 422, 2, 0, 0), (422, js_newarray .int, 424, 2, 0, 0), (424, js_putfield 181, 427, 3, 12, 78), (427, js_aload_n 0, 428, 1, 0, 0), (428, js_iconst 4, 429, 1, 0, 0), (429, js_newarray .int, 431, 2, 0, 0), (431, js_putfield 184, 434, 3, 12, 79)]) ([])))) (fr_nd 2 (fr_nd 1 (fr_nd 0 ([(97, js_putfield 50, 100, 3, 12, 14), (100, js_aload_n 0, 101, 1, 0, 0), (101, js_iconst 4, 102, 1, 0, 0), (102, js_newarray .int, 104, 2, 0, 0), (104, js_putfield 53, 107, 3, 12, 15), (107, js_aload_n 0, 108, 1, 0, 0), (108, js_iconst 4, 109, 1, 0, 0), (109, js_newarray .int, 111, 2, 0, 0), (111, js_putfield 56, 114, 3, 12, 16)]) ([])) (fr_nd 0 ([(354, js_aload_n 0, 355, 1, 0, 0), (355, js_sipush 1280, 358, 3, 0, 0), (358, js_newarray .int, 360, 2, 0, 0), (360, js_putfield 157, 363, 3, 12, 66), (363, js_aload_n 0, 364, 1, 0, 0), (364, js_sipush 1024, 367, 3, 0, 0), (367, js_newarray .int, 369, 2, 0, 0)]) ([]))) (fr_nd 1 (fr_nd 0 ([(226, js_newarray .int, 228, 2, 0, 0), (228, js_putfield 101, 231, 3, 12, 42), (231, js_aload_n 0, 232, 1, 0, 0), (232, js_iconst 5, 233, 1, 0, 0), (233, js_newarray .int, 235, 2, 0, 0), (235, js_putfield 104, 238, 3, 12, 43), (238, js_aload_n 0, 239, 1, 0, 0), (239, js_bipush 110, 241, 2, 0, 0)]) ([])) (fr_nd 0 ([(480, js_newarray .int, 482, 2, 0, 0), (482, js_putfield 205, 485, 3, 12, 95), (485, js_aload_n 0, 486, 1, 0, 0), (486, js_iconst 4, 487, 1, 0, 0), (487, js_newarray .int, 489, 2, 0, 0), (489, js_putfield 208, 492, 3, 12, 96), (492, js_aload_n 0, 493, 1, 0, 0), (493, js_iconst 4, 494, 1, 0, 0), (494, js_newarray .int, 496, 2, 0, 0)]) ([])))))) (fr_nd 4 (fr_nd 3 (fr_nd 2 (fr_nd 1 (fr_nd 0 ([(16, js_ldc 11, 18, 2, 1, 2), (18, js_aastore, 19, 1, 0, 0), (19, js_dup, 20, 1, 0, 0), (20, js_iconst 2, 21, 1, 0, 0), (21, js_ldc 13, 23, 2, 1, 3), (23, js_aastore, 24, 1, 0, 0), (24, js_dup, 25, 1, 0, 0), (25, js_iconst 3, 26, 1, 0, 0), (26, js_ldc 15, 28, 2, 1, 4), (28, js_aastore, 29, 1, 0, 0), (29, js_dup, 30, 1, 0, 0), (30, js_iconst 4, 31, 1, 0, 0), (31, js_ldc 17, 33, 2, 1, 5)]) ([(528, js_sipush 4096, 531, 3, 0, 0), (531, js_newarray .int, 533, 2, 0, 0), (533, js_putfield 226, 536, 3, 12, 104), (536, js_aload_n 0, 537, 1, 0, 0), (537, js_bipush 13, 539, 2, 0, 0), (539, js_newarray .int, 541, 2, 0, 0), (541, js_putfield 229, 544, 3, 12, 105)])) (fr_nd 0 ([(272, js_putfield 121, 275, 3, 12, 50), (275, js_aload_n 0, 276, 1, 0, 0), (276, js_bipush 16, 278, 2, 0, 0), (278, js_newarray .long, 280, 2, 1, 0), (280, js_putfield 124, 283, 3, 12, 51), (283, js_aload_n 0, 284, 1, 0, 0), (284, js_iconst 4, 285, 1, 0, 0), (285, js_newarray .int, 287, 2, 0, 0), (287, js_putfield 127, 290, 3, 12, 52)]) ([]))) (fr_nd 1 (fr_nd 0 ([(144, js_aload_n 0, 145, 1, 0, 0), (145, js_bipush 12, 147, 2, 0, 0), (147, js_newarray .int, 149, 2, 0, 0), (149, js_putfield 70, 152, 3, 12, 21), (152, js_aload_n 0, 153, 1, 0, 0), (153, js_bipush 12, 155, 2, 0, 0), (155, js_newarray .int, 157, 2, 0, 0), (157, js_putfield 73, 160, 3, 12, 22)]) ([])) (fr_nd 0 ([(400, js_putfield 172, 403, 3, 12, 75), (403, js_aload_n 0, 404, 1, 0, 0), (404, js_bipush 16, 406, 2, 0, 0), (406, js_newarray .int, 408, 2, 0, 0), (408, js_putfield 175, 411, 3, 12, 76), (411, js_aload_n 0, 412, 1, 0, 0), (412, js_bipush 16, 414, 2, 0, 0), (414, js_newarray .int, 416, 2, 0, 0)]) ([])))) (fr_nd 2 (fr_nd 1 (fr_nd 0 ([(80, js_iconst 4, 81, 1, 0, 0), (81, js_newarray .int, 83, 2, 0, 0), (83, js_putfield 44, 86, 3, 12, 12), (86, js_aload_n 0, 87, 1, 0, 0), (87, js_iconst 4, 88, 1, 0, 0), (88, js_newarray .int, 90, 2, 0, 0), (90, js_putfield 47, 93, 3, 12, 13), (93, js_aload_n 0, 94, 1, 0, 0), (94, js_iconst 4, 95, 1, 0, 0), (95, js_newarray .int, 97, 2, 0, 0)]) ([])) (fr_nd 0 ([(338, js_aload_n 0, 339, 1, 0, 0), (339, js_iconst 4, 340, 1, 0, 0), (340, js_newarray .int, 342, 2, 0, 0), (342, js_putfield 151, 345, 3, 12, 64), (345, js_aload_n 0, 346, 1, 0, 0), (346, js_sipush 512, 349, 3, 0, 0), (349, js_newarray .int, 351, 2, 0, 0), (351, js_putfield 154, 354, 3, 12, 65)]) ([]))) (fr_nd 1 (fr_nd 0 ([(209, js_newarray .int, 211, 2, 0, 0), (211, js_putfield 95, 214, 3, 12, 40), (214, js_aload_n 0, 215, 1, 0, 0), (215, js_bipush 40, 217, 2, 0, 0), (217, js_newarray .int, 219, 2, 0, 0), (219, js_putfield 98, 222, 3, 12, 41), (222, js_aload_n 0, 223, 1, 0, 0), (223, js_sipush 2000, 226, 3, 0, 0)]) ([])) (fr_nd 0 ([(464, js_aload_n 0, 465, 1, 0, 0), (465, js_iconst 3, 466, 1, 0, 0), (466, js_newarray .int, 468, 2, 0, 0), (468, js_putfield 199, 471, 3, 12, 85), (471, js_aload_n 0, 472, 1, 0, 0), (472, js_iconst 3, 473, 1, 0, 0), (473, js_newarray .int, 475, 2, 0, 0), (475, js_putfield 202, 478, 3, 12, 86), (478, js_aload_n 0, 479, 1, 0, 0), (479, js_iconst 4, 480, 1, 0, 0)]) ([]))))) (fr_nd 3 (fr_nd 2 (fr_nd 1 (fr_nd 0 ([(48, js_putfield 29, 51, 3, 12, 7), (51, js_aload_n 0, 52, 1, 0, 0), (52, js_iconst 5, 53, 1, 0, 0), (53, js_newarray .int, 55, 2, 0, 0), (55, js_putfield 32, 58, 3, 12, 8), (58, js_aload_n 0, 59, 1, 0, 0), (59, js_iconst 5, 60, 1, 0, 0), (60, js_newarray .int, 62, 2, 0, 0), (62, js_putfield 35, 65, 3, 12, 9)]) ([(560, js_newarray .int, 562, 2, 0, 0), (562, js_putfield 238, 565, 3, 12, 110), (565, js_aload_n 0, 566, 1, 0, 0), (566, js_bipush 60, 568, 2, 0, 0), (568, js_newarray .int, 570, 2, 0, 0), (570, js_putfield 241, 573, 3, 12, 111), (573, js_aload_n 0, 574, 1, 0, 0), (574, js_bipush 60, 576, 2, 0, 0)])) (fr_nd 0 ([(305, js_aload_n 0, 306, 1, 0, 0), (306, js_iconst 4, 307, 1, 0, 0), (307, js_newarray .int, 309, 2, 0, 0), (309, js_putfield 136, 312, 3, 12, 55), (312, js_aload_n 0, 313, 1, 0, 0), (313, js_iconst 4, 314, 1, 0, 0), (314, js_newarray .int, 316, 2, 0, 0), (316, js_putfield 139, 319, 3, 12, 56), (319, js_aload_n 0, 320, 1, 0, 0)]) ([]))) (fr_nd 1 (fr_nd 0 ([(177, js_aload_n 0, 178, 1, 0, 0), (178, js_sipush 200, 181, 3, 0, 0), (181, js_newarray .int, 183, 2, 0, 0), (183, js_putfield 82, 186, 3, 12, 25), (186, js_aload_n 0, 187, 1, 0, 0), (187, js_iconst (-1), 188, 1, 0, 0), (188, js_putfield 85, 191, 3, 12, 36), (191, js_aload_n 0, 192, 1, 0, 0)]) ([])) (fr_nd 0 ([(434, js_aload_n 0, 435, 1, 0, 0), (435, js_bipush 81, 437, 2, 0, 0), (437, js_newarray .int, 439, 2, 0, 0), (439, js_putfield 187, 442, 3, 12, 80), (442, js_aload_n 0, 443, 1, 0, 0), (443, js_bipush 27, 445, 2, 0, 0), (445, js_newarray .int, 447, 2, 0, 0), (447, js_putfield 190, 450, 3, 12, 81)]) ([])))) (fr_nd 2 (fr_nd 1 (fr_nd 0 ([(114, js_aload_n 0, 115, 1, 0, 0), (115, js_iconst 4, 116, 1, 0, 0), (116, js_newarray .int, 118, 2, 0, 0), (118, js_putfield 59, 121, 3, 12, 17), (121, js_aload_n 0, 122, 1, 0, 0), (122, js_iconst 4, 123, 1, 0, 0), (123, js_newarray .int, 125, 2, 0, 0), (125, js_putfield 62, 128, 3, 12, 18)]) ([])) (fr_nd 0 ([(369, js_putfield 160, 372, 3, 12, 67), (372, js_aload_n 0, 373, 1, 0, 0), (373, js_sipush 1024, 376, 3, 0, 0), (376, js_newarray .int, 378, 2, 0, 0), (378, js_putfield 163, 381, 3, 12, 68), (381, js_aload_n 0, 382, 1, 0, 0), (382, js_bipush 16, 384, 2, 0, 0)]) ([]))) (fr_nd 1 (fr_nd 0 ([(241, js_newarray .int, 243, 2, 0, 0), (243, js_putfield 107, 246, 3, 12, 44), (246, js_aload_n 0, 247, 1, 0, 0), (247, js_iconst 4, 248, 1, 0, 0), (248, js_newarray .boolean, 250, 2, 2, 0), (250, js_putfield 110, 253, 3, 12, 45), (253, js_aload_n 0, 254, 1, 0, 0), (254, js_bipush 100, 256, 2, 0, 0)]) ([])) (fr_nd 0 ([(496, js_putfield 211, 499, 3, 12, 97), (499, js_aload_n 0, 500, 1, 0, 0), (500, js_iconst 4, 501, 1, 0, 0), (501, js_newarray .int, 503, 2, 0, 0), (503, js_putfield 214, 506, 3, 12, 98), (506, js_aload_n 0, 507, 1, 0, 0), (507, js_iconst 4, 508, 1, 0, 0), (508, js_newarray .int, 510, 2, 0, 0), (510, js_putfield 217, 513, 3, 12, 99)]) ([]))))))
noncomputable def cy_167 : ai_MT := (⟨"LightsMarketModel", "<init>", "()V"⟩, prog_14_method_1_code, 1, none, none, 0)
noncomputable def cm_167 : ct_L := some (fr_code 6 ct_167, (fun _ _ => none), (70, 11332), cy_167)
/-- LightsMarketModel.thrown()I -/
noncomputable def ct_168 : ai_T (List fr_I) 0 := [(0, js_aload_n 0, 1, 1, 0, 0), (1, js_getfield 247, 4, 3, 12, 1), (4, js_ireturn, 5, 1, 0, 0)]
noncomputable def cy_168 : ai_MT := (⟨"LightsMarketModel", "thrown", "()I"⟩, prog_14_method_2_code, 1, (some .int), none, 0)
noncomputable def cm_168 : ct_L := some (fr_code 0 ct_168, (fun _ _ => none), (0, 0), cy_168)
/-- LightsMarketModel.fail(I)I -/
noncomputable def ct_169 : ai_T (List fr_I) 0 := [(0, js_aload_n 0, 1, 1, 0, 0), (1, js_iload_n 1, 2, 1, 0, 0), (2, js_putfield 247, 5, 3, 12, 1), (5, js_iconst 0, 6, 1, 0, 0), (6, js_ireturn, 7, 1, 0, 0)]
noncomputable def cy_169 : ai_MT := (⟨"LightsMarketModel", "fail", "(I)I"⟩, prog_14_method_3_code, 2, (some .int), none, 1)
noncomputable def cm_169 : ct_L := some (fr_code 0 ct_169, (fun _ _ => none), (0, 0), cy_169)
/-- LightsMarketModel.refuse(I)Z -/
noncomputable def ct_170 : ai_T (List fr_I) 0 := [(0, js_aload_n 0, 1, 1, 0, 0), (1, js_iload_n 1, 2, 1, 0, 0), (2, js_putfield 247, 5, 3, 12, 1), (5, js_iconst 0, 6, 1, 0, 0), (6, js_ireturn, 7, 1, 2, 0)]
noncomputable def cy_170 : ai_MT := (⟨"LightsMarketModel", "refuse", "(I)Z"⟩, prog_14_method_4_code, 2, (some .boolean), none, 1)
noncomputable def cm_170 : ct_L := some (fr_code 0 ct_170, (fun _ _ => none), (0, 0), cy_170)
/-- LightsMarketModel.isIn(III)Z -/
noncomputable def ct_171 : ai_T (List fr_I) 0 := [(0, js_iload_n 0, 1, 1, 0, 0), (1, js_iload_n 1, 2, 1, 0, 0), (2, js_if_icmp .lt 12, 5, 3, 14, 0), (5, js_iload_n 0, 6, 1, 0, 0), (6, js_iload_n 2, 7, 1, 0, 0), (7, js_if_icmp .gt 7, 10, 3, 14, 0), (10, js_iconst 1, 11, 1, 0, 0), (11, js_goto 4, 14, 3, 15, 0), (14, js_iconst 0, 15, 1, 0, 0), (15, js_ireturn, 16, 1, 2, 0)]
noncomputable def cy_171 : ai_MT := (⟨"LightsMarketModel", "isIn", "(III)Z"⟩, prog_14_method_5_code, 3, (some .boolean), none, 3)
noncomputable def cm_171 : ct_L := some (fr_code 0 ct_171, (fun _ _ => none), (0, 0), cy_171)
/-- LightsMarketModel.isPlace(I)Z -/
noncomputable def ct_172 : ai_T (List fr_I) 0 := [(0, js_iload_n 1, 1, 1, 0, 0), (1, js_iconst 0, 2, 1, 0, 0), (2, js_aload_n 0, 3, 1, 0, 0), (3, js_getfield 250, 6, 3, 12, 2), (6, js_iconst 1, 7, 1, 0, 0), (7, js_isub, 8, 1, 0, 0), (8, js_invokestatic 253, 11, 3, 171, 3), (11, js_ireturn, 12, 1, 2, 0)]
noncomputable def cy_172 : ai_MT := (⟨"LightsMarketModel", "isPlace", "(I)Z"⟩, prog_14_method_6_code, 2, (some .boolean), none, 1)
noncomputable def cm_172 : ct_L := some (fr_code 0 ct_172, (fun _ _ => none), (0, 0), cy_172)
/-- LightsMarketModel.isMill(I)Z -/
noncomputable def ct_173 : ai_T (List fr_I) 0 := [(0, js_iload_n 1, 1, 1, 0, 0), (1, js_iconst 0, 2, 1, 0, 0), (2, js_aload_n 0, 3, 1, 0, 0), (3, js_getfield 257, 6, 3, 12, 4), (6, js_iconst 1, 7, 1, 0, 0), (7, js_isub, 8, 1, 0, 0), (8, js_invokestatic 253, 11, 3, 171, 3), (11, js_ireturn, 12, 1, 2, 0)]
noncomputable def cy_173 : ai_MT := (⟨"LightsMarketModel", "isMill", "(I)Z"⟩, prog_14_method_7_code, 2, (some .boolean), none, 1)
noncomputable def cm_173 : ct_L := some (fr_code 0 ct_173, (fun _ _ => none), (0, 0), cy_173)
/-- LightsMarketModel.isQuarter(I)Z -/
noncomputable def ct_174 : ai_T (List fr_I) 0 := [(0, js_iload_n 0, 1, 1, 0, 0), (1, js_iconst 0, 2, 1, 0, 0), (2, js_iconst 3, 3, 1, 0, 0), (3, js_invokestatic 253, 6, 3, 171, 3), (6, js_ireturn, 7, 1, 2, 0)]
noncomputable def cy_174 : ai_MT := (⟨"LightsMarketModel", "isQuarter", "(I)Z"⟩, prog_14_method_8_code, 1, (some .boolean), none, 1)
noncomputable def cm_174 : ct_L := some (fr_code 0 ct_174, (fun _ _ => none), (0, 0), cy_174)
/-- LightsMarketModel.place()I -/
noncomputable def ct_175 : ai_T (List fr_I) 1 := fr_nd 0 ([(0, js_aload_n 0, 1, 1, 0, 0), (1, js_iconst 0, 2, 1, 0, 0), (2, js_putfield 247, 5, 3, 12, 1), (5, js_aload_n 0, 6, 1, 0, 0), (6, js_getfield 250, 9, 3, 12, 2), (9, js_iconst 4, 10, 1, 0, 0), (10, js_if_icmp .ne 5, 13, 3, 15, 0), (15, js_aload_n 0, 16, 1, 0, 0)]) ([(16, js_dup, 17, 1, 0, 0), (17, js_getfield 250, 20, 3, 12, 2), (20, js_iconst 1, 21, 1, 0, 0), (21, js_iadd, 22, 1, 0, 0), (22, js_putfield 250, 25, 3, 12, 2), (25, js_aload_n 0, 26, 1, 0, 0), (26, js_getfield 250, 29, 3, 12, 2), (29, js_iconst 1, 30, 1, 0, 0), (30, js_isub, 31, 1, 0, 0), (31, js_ireturn, 32, 1, 0, 0)])
noncomputable def cy_175 : ai_MT := (⟨"LightsMarketModel", "place", "()I"⟩, prog_14_method_9_code, 1, (some .int), none, 0)
noncomputable def cm_175 : ct_L := some (fr_code 1 ct_175, (fun _ _ => none), (0, 0), cy_175)
/-- LightsMarketModel.line(IIII)I -/
noncomputable def ct_176 : ai_T (List fr_I) 1 := fr_nd 0 ([(0, js_aload_n 0, 1, 1, 0, 0), (1, js_iconst 0, 2, 1, 0, 0), (2, js_putfield 247, 5, 3, 12, 1), (5, js_aload_n 0, 6, 1, 0, 0), (6, js_iload_n 1, 7, 1, 0, 0), (7, js_invokevirtual 260, 10, 3, 172, 770), (10, js_ifCond .eq 11, 13, 3, 21, 0)]) ([(21, js_aload_n 0, 22, 1, 0, 0), (22, js_iconst 1, 23, 1, 0, 0), (23, js_invokevirtual 264, 26, 3, 169, 770), (26, js_ireturn, 27, 1, 0, 0)])
noncomputable def cy_176 : ai_MT := (⟨"LightsMarketModel", "line", "(IIII)I"⟩, prog_14_method_10_code, 5, (some .int), none, 4)
noncomputable def cm_176 : ct_L := some (fr_code 1 ct_176, (fun _ _ => none), (0, 0), cy_176)
/-- LightsMarketModel.mill(IIIIIIIII)I -/
noncomputable def ct_178 : ai_T (List fr_I) 1 := fr_nd 0 ([(0, js_aload_n 0, 1, 1, 0, 0), (1, js_iconst 0, 2, 1, 0, 0), (2, js_putfield 247, 5, 3, 12, 1), (5, js_aload_n 0, 6, 1, 0, 0), (6, js_iload_n 1, 7, 1, 0, 0), (7, js_invokevirtual 260, 10, 3, 172, 770), (10, js_ifCond .eq 12, 13, 3, 22, 0)]) ([(22, js_aload_n 0, 23, 1, 0, 0), (23, js_iconst 1, 24, 1, 0, 0), (24, js_invokevirtual 264, 27, 3, 169, 770), (27, js_ireturn, 28, 1, 0, 0)])
noncomputable def cy_178 : ai_MT := (⟨"LightsMarketModel", "mill", "(IIIIIIIII)I"⟩, prog_14_method_12_code, 10, (some .int), none, 9)
noncomputable def cm_178 : ct_L := some (fr_code 1 ct_178, (fun _ _ => none), (0, 0), cy_178)
/-- LightsMarketModel.isSheet(I)Z -/
noncomputable def ct_179 : ai_T (List fr_I) 0 := [(0, js_iload_n 1, 1, 1, 0, 0), (1, js_iconst 0, 2, 1, 0, 0), (2, js_aload_n 0, 3, 1, 0, 0), (3, js_getfield 275, 6, 3, 12, 5), (6, js_iconst 1, 7, 1, 0, 0), (7, js_isub, 8, 1, 0, 0), (8, js_invokestatic 253, 11, 3, 171, 3), (11, js_ireturn, 12, 1, 2, 0)]
noncomputable def cy_179 : ai_MT := (⟨"LightsMarketModel", "isSheet", "(I)Z"⟩, prog_14_method_13_code, 2, (some .boolean), none, 1)
noncomputable def cm_179 : ct_L := some (fr_code 0 ct_179, (fun _ _ => none), (0, 0), cy_179)
/-- LightsMarketModel.sheet(II)I -/
noncomputable def ct_180 : ai_T (List fr_I) 3 := fr_nd 2 (fr_nd 1 (fr_nd 0 ([(0, js_aload_n 0, 1, 1, 0, 0), (1, js_iconst 0, 2, 1, 0, 0), (2, js_putfield 247, 5, 3, 12, 1), (5, js_aload_n 0, 6, 1, 0, 0), (6, js_getfield 275, 9, 3, 12, 5), (9, js_bipush 12, 11, 2, 0, 0), (11, js_if_icmp .eq 12, 14, 3, 23, 0), (14, js_iload_n 1, 15, 1, 0, 0), (15, js_iconst 0, 16, 1, 0, 0)]) ([(64, js_if_icmp .ge 24, 67, 3, 88, 0), (67, js_aload_n 0, 68, 1, 0, 0), (68, js_getfield 76, 71, 3, 12, 23), (71, js_bipush 12, 73, 2, 0, 0), (73, js_aload_n 0, 74, 1, 0, 0), (74, js_getfield 275, 77, 3, 12, 5), (77, js_imul, 78, 1, 0, 0), (78, js_iload_n 3, 79, 1, 0, 0), (79, js_iadd, 80, 1, 0, 0)])) (fr_nd 0 ([(33, js_if_icmp .le 6, 36, 3, 39, 0), (36, js_bipush (-2), 38, 2, 0, 0), (38, js_ireturn, 39, 1, 0, 0), (39, js_aload_n 0, 40, 1, 0, 0), (40, js_getfield 70, 43, 3, 12, 21), (43, js_aload_n 0, 44, 1, 0, 0), (44, js_getfield 275, 47, 3, 12, 5), (47, js_iload_n 1, 48, 1, 0, 0)]) ([(98, js_aload_n 0, 99, 1, 0, 0), (99, js_getfield 275, 102, 3, 12, 5), (102, js_iconst 1, 103, 1, 0, 0), (103, js_isub, 104, 1, 0, 0), (104, js_ireturn, 105, 1, 0, 0)]))) (fr_nd 1 (fr_nd 0 ([(16, js_iconst 2, 17, 1, 0, 0), (17, js_invokestatic 253, 20, 3, 171, 3), (20, js_ifCond .ne 5, 23, 3, 25, 0), (23, js_iconst (-1), 24, 1, 0, 0), (24, js_ireturn, 25, 1, 0, 0), (25, js_iload_n 2, 26, 1, 0, 0), (26, js_iconst (-1), 27, 1, 0, 0), (27, js_if_icmp .lt 9, 30, 3, 36, 0), (30, js_iload_n 2, 31, 1, 0, 0), (31, js_bipush 12, 33, 2, 0, 0)]) ([(80, js_iconst 0, 81, 1, 0, 0), (81, js_iastore, 82, 1, 0, 0), (82, js_iinc 3 1, 85, 3, 0, 0), (85, js_goto (-24), 88, 3, 61, 0), (88, js_aload_n 0, 89, 1, 0, 0), (89, js_dup, 90, 1, 0, 0), (90, js_getfield 275, 93, 3, 12, 5), (93, js_iconst 1, 94, 1, 0, 0), (94, js_iadd, 95, 1, 0, 0), (95, js_putfield 275, 98, 3, 12, 5)])) (fr_nd 0 ([(48, js_iastore, 49, 1, 0, 0), (49, js_aload_n 0, 50, 1, 0, 0), (50, js_getfield 73, 53, 3, 12, 22), (53, js_aload_n 0, 54, 1, 0, 0), (54, js_getfield 275, 57, 3, 12, 5), (57, js_iload_n 2, 58, 1, 0, 0), (58, js_iastore, 59, 1, 0, 0), (59, js_iconst 0, 60, 1, 0, 0), (60, js_istore_n 3, 61, 1, 0, 0), (61, js_iload_n 3, 62, 1, 0, 0), (62, js_bipush 12, 64, 2, 0, 0)]) ([])))
noncomputable def cy_180 : ai_MT := (⟨"LightsMarketModel", "sheet", "(II)I"⟩, prog_14_method_14_code, 4, (some .int), none, 2)
noncomputable def cm_180 : ct_L := some (fr_code 3 ct_180, (fun _ _ => none), (0, 0), cy_180)
/-- LightsMarketModel.write(III)I -/
noncomputable def ct_181 : ai_T (List fr_I) 1 := fr_nd 0 ([(0, js_aload_n 0, 1, 1, 0, 0), (1, js_iconst 0, 2, 1, 0, 0), (2, js_putfield 247, 5, 3, 12, 1), (5, js_aload_n 0, 6, 1, 0, 0), (6, js_iload_n 1, 7, 1, 0, 0), (7, js_invokevirtual 278, 10, 3, 179, 770), (10, js_ifCond .ne 9, 13, 3, 19, 0), (13, js_aload_n 0, 14, 1, 0, 0), (14, js_iconst 1, 15, 1, 0, 0), (15, js_invokevirtual 264, 18, 3, 169, 770)]) ([(18, js_ireturn, 19, 1, 0, 0)])
noncomputable def cy_181 : ai_MT := (⟨"LightsMarketModel", "write", "(III)I"⟩, prog_14_method_15_code, 4, (some .int), none, 3)
noncomputable def cm_181 : ct_L := some (fr_code 1 ct_181, (fun _ _ => none), (0, 0), cy_181)
/-- LightsMarketModel.copy(IIIII)I -/
noncomputable def ct_183 : ai_T (List fr_I) 1 := fr_nd 0 ([(0, js_aload_n 0, 1, 1, 0, 0), (1, js_iconst 0, 2, 1, 0, 0), (2, js_putfield 247, 5, 3, 12, 1), (5, js_aload_n 0, 6, 1, 0, 0), (6, js_iload_n 1, 7, 1, 0, 0), (7, js_invokevirtual 278, 10, 3, 179, 770), (10, js_ifCond .eq 11, 13, 3, 21, 0)]) ([(21, js_aload_n 0, 22, 1, 0, 0), (22, js_iconst 1, 23, 1, 0, 0), (23, js_invokevirtual 264, 26, 3, 169, 770), (26, js_ireturn, 27, 1, 0, 0)])
noncomputable def cy_183 : ai_MT := (⟨"LightsMarketModel", "copy", "(IIIII)I"⟩, prog_14_method_17_code, 7, (some .int), none, 5)
noncomputable def cm_183 : ct_L := some (fr_code 1 ct_183, (fun _ _ => none), (0, 0), cy_183)
/-- LightsMarketModel.day(IIII)I -/
noncomputable def ct_184 : ai_T (List fr_I) 3 := fr_nd 2 (fr_nd 1 (fr_nd 0 ([(0, js_aload_n 0, 1, 1, 0, 0), (1, js_iconst 0, 2, 1, 0, 0), (2, js_putfield 247, 5, 3, 12, 1), (5, js_iload_n 1, 6, 1, 0, 0), (6, js_ifCond .ne 11, 9, 3, 17, 0), (9, js_aload_n 0, 10, 1, 0, 0), (10, js_iload_n 2, 11, 1, 0, 0), (11, js_invokevirtual 260, 14, 3, 172, 770), (14, js_goto 31, 17, 3, 45, 0)]) ([(65, js_ireturn, 66, 1, 0, 0)])) (fr_nd 0 ([(44, js_iconst 0, 45, 1, 0, 0), (45, js_istore 5, 47, 2, 0, 0), (47, js_iload 5, 49, 2, 0, 0)]) ([]))) (fr_nd 1 (fr_nd 0 ([(17, js_iload_n 1, 18, 1, 0, 0), (18, js_iconst 1, 19, 1, 0, 0), (19, js_if_icmp .ne 25, 22, 3, 44, 0), (22, js_aload_n 0, 23, 1, 0, 0), (23, js_iload_n 2, 24, 1, 0, 0), (24, js_invokevirtual 284, 27, 3, 173, 770), (27, js_ifCond .eq 17, 30, 3, 44, 0)]) ([])) (fr_nd 0 ([(49, js_ifCond .eq 11, 52, 3, 60, 0), (60, js_aload_n 0, 61, 1, 0, 0), (61, js_iconst 1, 62, 1, 0, 0), (62, js_invokevirtual 264, 65, 3, 169, 770)]) ([])))
noncomputable def cy_184 : ai_MT := (⟨"LightsMarketModel", "day", "(IIII)I"⟩, prog_14_method_18_code, 8, (some .int), none, 4)
noncomputable def cm_184 : ct_L := some (fr_code 3 ct_184, (fun _ _ => none), (0, 0), cy_184)
/-- LightsMarketModel.feed(IIIII)I -/
noncomputable def ct_185 : ai_T (List fr_I) 3 := fr_nd 2 (fr_nd 1 (fr_nd 0 ([(0, js_aload_n 0, 1, 1, 0, 0), (1, js_iconst 0, 2, 1, 0, 0), (2, js_putfield 247, 5, 3, 12, 1), (5, js_aload_n 0, 6, 1, 0, 0), (6, js_getfield 287, 9, 3, 12, 26), (9, js_bipush 20, 11, 2, 0, 0), (11, js_iadd, 12, 1, 0, 0), (12, js_sipush 200, 15, 3, 0, 0), (15, js_if_icmp .le 5, 18, 3, 20, 0)]) ([(64, js_bipush 16, 66, 2, 0, 0), (66, js_if_icmp .ge 8, 69, 3, 74, 0), (69, js_iload 4, 71, 2, 0, 0), (71, js_goto 5, 74, 3, 76, 0), (74, js_iload 5, 76, 2, 0, 0), (76, js_istore 7, 78, 2, 0, 0), (78, js_aload_n 0, 79, 1, 0, 0), (79, js_getfield 82, 82, 3, 12, 25)])) (fr_nd 0 ([(32, js_iconst 4, 33, 1, 0, 0), (33, js_if_icmp .ge 7, 36, 3, 40, 0), (36, js_iload_n 1, 37, 1, 0, 0), (37, js_goto 39, 40, 3, 76, 0), (40, js_iload 6, 42, 2, 0, 0), (42, js_bipush 8, 44, 2, 0, 0), (44, js_if_icmp .ge 7, 47, 3, 51, 0), (47, js_iload_n 2, 48, 1, 0, 0)]) ([(96, js_imul, 97, 1, 0, 0), (97, js_isub, 98, 1, 0, 0), (98, js_ishr, 99, 1, 0, 0), (99, js_sipush 255, 102, 3, 0, 0), (102, js_iand, 103, 1, 0, 0), (103, js_iastore, 104, 1, 0, 0), (104, js_aload_n 0, 105, 1, 0, 0), (105, js_dup, 106, 1, 0, 0), (106, js_getfield 287, 109, 3, 12, 26), (109, js_iconst 1, 110, 1, 0, 0), (110, js_iadd, 111, 1, 0, 0), (111, js_putfield 287, 114, 3, 12, 26)]))) (fr_nd 1 (fr_nd 0 ([(20, js_iconst 0, 21, 1, 0, 0), (21, js_istore 6, 23, 2, 0, 0), (23, js_iload 6, 25, 2, 0, 0), (25, js_bipush 20, 27, 2, 0, 0), (27, js_if_icmp .ge 93, 30, 3, 120, 0), (30, js_iload 6, 32, 2, 0, 0)]) ([(82, js_aload_n 0, 83, 1, 0, 0), (83, js_getfield 287, 86, 3, 12, 26), (86, js_iload 7, 88, 2, 0, 0), (88, js_bipush 24, 90, 2, 0, 0), (90, js_bipush 8, 92, 2, 0, 0), (92, js_iload 6, 94, 2, 0, 0), (94, js_iconst 4, 95, 1, 0, 0), (95, js_irem, 96, 1, 0, 0)])) (fr_nd 0 ([(48, js_goto 28, 51, 3, 76, 0), (51, js_iload 6, 53, 2, 0, 0), (53, js_bipush 12, 55, 2, 0, 0), (55, js_if_icmp .ge 7, 58, 3, 62, 0), (58, js_iload_n 3, 59, 1, 0, 0), (59, js_goto 17, 62, 3, 76, 0), (62, js_iload 6, 64, 2, 0, 0)]) ([(114, js_iinc 6 1, 117, 3, 0, 0), (117, js_goto (-94), 120, 3, 23, 0), (120, js_aload_n 0, 121, 1, 0, 0), (121, js_getfield 287, 124, 3, 12, 26), (124, js_ireturn, 125, 1, 0, 0)])))
noncomputable def cy_185 : ai_MT := (⟨"LightsMarketModel", "feed", "(IIIII)I"⟩, prog_14_method_19_code, 8, (some .int), none, 5)
noncomputable def cm_185 : ct_L := some (fr_code 3 ct_185, (fun _ _ => none), (0, 0), cy_185)
/-- LightsMarketModel.offer(II)I -/
noncomputable def ct_204 : ai_T (List fr_I) 1 := fr_nd 0 ([(0, js_aload_n 0, 1, 1, 0, 0), (1, js_iconst 0, 2, 1, 0, 0), (2, js_putfield 247, 5, 3, 12, 1), (5, js_aload_n 0, 6, 1, 0, 0), (6, js_iload_n 1, 7, 1, 0, 0), (7, js_invokevirtual 284, 10, 3, 173, 770), (10, js_ifCond .ne 9, 13, 3, 19, 0), (13, js_aload_n 0, 14, 1, 0, 0), (14, js_iconst 1, 15, 1, 0, 0), (15, js_invokevirtual 264, 18, 3, 169, 770)]) ([(18, js_ireturn, 19, 1, 0, 0)])
noncomputable def cy_204 : ai_MT := (⟨"LightsMarketModel", "offer", "(II)I"⟩, prog_14_method_38_code, 4, (some .int), none, 2)
noncomputable def cm_204 : ct_L := some (fr_code 1 ct_204, (fun _ _ => none), (0, 0), cy_204)
/-- LightsMarketModel.fault()I -/
noncomputable def ct_205 : ai_T (List fr_I) 0 := [(0, js_aload_n 0, 1, 1, 0, 0), (1, js_iconst 0, 2, 1, 0, 0), (2, js_putfield 247, 5, 3, 12, 1), (5, js_aload_n 0, 6, 1, 0, 0), (6, js_getfield 85, 9, 3, 12, 36), (9, js_ireturn, 10, 1, 0, 0)]
noncomputable def cy_205 : ai_MT := (⟨"LightsMarketModel", "fault", "()I"⟩, prog_14_method_39_code, 1, (some .int), none, 0)
noncomputable def cm_205 : ct_L := some (fr_code 0 ct_205, (fun _ _ => none), (0, 0), cy_205)
/-- LightsMarketModel.loadsOf(I)I -/
noncomputable def ct_209 : ai_T (List fr_I) 2 := fr_nd 1 (fr_nd 0 ([(0, js_iconst 0, 1, 1, 0, 0), (1, js_istore_n 2, 2, 1, 0, 0), (2, js_iconst 0, 3, 1, 0, 0), (3, js_istore_n 3, 4, 1, 0, 0), (4, js_iload_n 3, 5, 1, 0, 0), (5, js_aload_n 0, 6, 1, 0, 0), (6, js_getfield 250, 9, 3, 12, 2), (9, js_if_icmp .ge 22, 12, 3, 31, 0)]) ([(32, js_ireturn, 33, 1, 0, 0)])) (fr_nd 0 ([(31, js_iload_n 2, 32, 1, 0, 0)]) ([]))
noncomputable def cy_209 : ai_MT := (⟨"LightsMarketModel", "loadsOf", "(I)I"⟩, prog_14_method_43_code, 4, (some .int), none, 1)
noncomputable def cm_209 : ct_L := some (fr_code 2 ct_209, (fun _ _ => none), (0, 0), cy_209)
/-- LightsMarketModel.asked(III)I -/
noncomputable def ct_210 : ai_T (List fr_I) 2 := fr_nd 1 (fr_nd 0 ([(0, js_aload_n 0, 1, 1, 0, 0), (1, js_iconst 0, 2, 1, 0, 0), (2, js_putfield 247, 5, 3, 12, 1), (5, js_aload_n 0, 6, 1, 0, 0), (6, js_iload_n 1, 7, 1, 0, 0), (7, js_invokevirtual 284, 10, 3, 173, 770), (10, js_ifCond .eq 24, 13, 3, 34, 0)]) ([(34, js_aload_n 0, 35, 1, 0, 0), (35, js_iconst 1, 36, 1, 0, 0), (36, js_invokevirtual 264, 39, 3, 169, 770), (39, js_ireturn, 40, 1, 0, 0)])) (fr_nd 0 ([]) ([]))
noncomputable def cy_210 : ai_MT := (⟨"LightsMarketModel", "asked", "(III)I"⟩, prog_14_method_44_code, 6, (some .int), none, 3)
noncomputable def cm_210 : ct_L := some (fr_code 2 ct_210, (fun _ _ => none), (0, 0), cy_210)
/-- LightsMarketModel.rules(ZII)Z -/
noncomputable def ct_211 : ai_T (List fr_I) 2 := fr_nd 1 (fr_nd 0 ([(0, js_aload_n 0, 1, 1, 0, 0), (1, js_iconst 0, 2, 1, 0, 0), (2, js_putfield 247, 5, 3, 12, 1), (5, js_iload_n 2, 6, 1, 0, 0), (6, js_iconst 0, 7, 1, 0, 0), (7, js_bipush 99, 9, 2, 0, 0), (9, js_invokestatic 253, 12, 3, 171, 3), (12, js_ifCond .eq 13, 15, 3, 25, 0), (15, js_iload_n 3, 16, 1, 0, 0)]) ([(32, js_aload_n 0, 33, 1, 0, 0), (33, js_iload_n 2, 34, 1, 0, 0), (34, js_putfield 425, 37, 3, 12, 47), (37, js_aload_n 0, 38, 1, 0, 0), (38, js_iload_n 3, 39, 1, 0, 0), (39, js_putfield 114, 42, 3, 12, 48), (42, js_iconst 1, 43, 1, 0, 0), (43, js_ireturn, 44, 1, 2, 0)])) (fr_nd 0 ([(16, js_iconst 0, 17, 1, 0, 0), (17, js_bipush 100, 19, 2, 0, 0), (19, js_invokestatic 253, 22, 3, 171, 3), (22, js_ifCond .ne 5, 25, 3, 27, 0), (25, js_iconst 0, 26, 1, 0, 0), (26, js_ireturn, 27, 1, 2, 0), (27, js_aload_n 0, 28, 1, 0, 0), (28, js_iload_n 1, 29, 1, 0, 0), (29, js_putfield 421, 32, 3, 12, 46)]) ([]))
noncomputable def cy_211 : ai_MT := (⟨"LightsMarketModel", "rules", "(ZII)Z"⟩, prog_14_method_45_code, 4, (some .boolean), none, 3)
noncomputable def cm_211 : ct_L := some (fr_code 2 ct_211, (fun _ _ => none), (0, 0), cy_211)
/-- LightsMarketModel.determinant(II)J -/
noncomputable def ct_212 : ai_T (List fr_I) 0 := [(0, js_iload_n 1, 1, 1, 0, 0), (1, js_ifCond .ne 5, 4, 3, 6, 0), (4, js_lconst 1, 5, 1, 0, 0), (5, js_lreturn, 6, 1, 0, 0)]
noncomputable def cy_212 : ai_MT := (⟨"LightsMarketModel", "determinant", "(II)J"⟩, prog_14_method_46_code, 9, (some .long), none, 2)
noncomputable def cm_212 : ct_L := some (fr_code 0 ct_212, (fun _ _ => none), (0, 0), cy_212)
/-- LightsMarketModel.tellNet(I)V -/
noncomputable def ct_214 : ai_T (List fr_I) 5 := fr_nd 4 (fr_nd 3 (fr_nd 2 (fr_nd 1 (fr_nd 0 ([(0, js_iconst 0, 1, 1, 0, 0), (1, js_istore_n 2, 2, 1, 0, 0), (2, js_iload_n 2, 3, 1, 0, 0), (3, js_bipush 16, 5, 2, 0, 0), (5, js_if_icmp .ge 16, 8, 3, 21, 0), (8, js_aload_n 0, 9, 1, 0, 0), (9, js_getfield 124, 12, 3, 12, 51), (12, js_iload_n 2, 13, 1, 0, 0), (13, js_lconst 0, 14, 1, 0, 0), (14, js_lastore, 15, 1, 0, 0), (15, js_iinc 2 1, 18, 3, 0, 0)]) ([])) (fr_nd 0 ([]) ([]))) (fr_nd 1 (fr_nd 0 ([]) ([])) (fr_nd 0 ([(193, js_iload_n 1, 194, 1, 0, 0), (194, js_aload_n 0, 195, 1, 0, 0), (195, js_iload_n 2, 196, 1, 0, 0), (196, js_iload_n 2, 197, 1, 0, 0), (197, js_invokevirtual 428, 200, 3, 212, 771), (200, js_lastore, 201, 1, 0, 0), (201, js_iconst 0, 202, 1, 0, 0), (202, js_istore_n 3, 203, 1, 0, 0), (203, js_iload_n 3, 204, 1, 0, 0), (204, js_aload_n 0, 205, 1, 0, 0), (205, js_getfield 268, 208, 3, 12, 3)]) ([])))) (fr_nd 2 (fr_nd 1 (fr_nd 0 ([]) ([(294, js_return_, 295, 1, 0, 0)])) (fr_nd 0 ([(167, js_aload_n 0, 168, 1, 0, 0), (168, js_getfield 250, 171, 3, 12, 2), (171, js_ifCond .ne 7, 174, 3, 178, 0), (174, js_iconst 0, 175, 1, 0, 0), (175, js_goto 13, 178, 3, 188, 0)]) ([]))) (fr_nd 1 (fr_nd 0 ([]) ([])) (fr_nd 0 ([]) ([]))))) (fr_nd 3 (fr_nd 2 (fr_nd 1 (fr_nd 0 ([(18, js_goto (-16), 21, 3, 2, 0), (21, js_iconst 0, 22, 1, 0, 0), (22, js_istore_n 2, 23, 1, 0, 0), (23, js_iload_n 2, 24, 1, 0, 0), (24, js_aload_n 0, 25, 1, 0, 0), (25, js_getfield 268, 28, 3, 12, 3), (28, js_if_icmp .ge 139, 31, 3, 167, 0)]) ([])) (fr_nd 0 ([]) ([]))) (fr_nd 1 (fr_nd 0 ([]) ([])) (fr_nd 0 ([(208, js_if_icmp .ge 86, 211, 3, 294, 0)]) ([])))) (fr_nd 2 (fr_nd 1 (fr_nd 0 ([]) ([])) (fr_nd 0 ([(188, js_istore_n 2, 189, 1, 0, 0), (189, js_aload_n 0, 190, 1, 0, 0), (190, js_getfield 117, 193, 3, 12, 49)]) ([]))) (fr_nd 1 (fr_nd 0 ([]) ([])) (fr_nd 0 ([]) ([])))))
noncomputable def cy_214 : ai_MT := (⟨"LightsMarketModel", "tellNet", "(I)V"⟩, prog_14_method_48_code, 5, none, none, 1)
noncomputable def cm_214 : ct_L := some (fr_code 5 ct_214, (fun _ _ => none), (0, 0), cy_214)
/-- LightsMarketModel.tellNets()V -/
noncomputable def ct_215 : ai_T (List fr_I) 2 := fr_nd 1 (fr_nd 0 ([(0, js_aload_n 0, 1, 1, 0, 0), (1, js_iconst 0, 2, 1, 0, 0), (2, js_invokevirtual 435, 5, 3, 214, 770), (5, js_iconst 0, 6, 1, 0, 0), (6, js_istore_n 1, 7, 1, 0, 0), (7, js_iload_n 1, 8, 1, 0, 0), (8, js_aload_n 0, 9, 1, 0, 0), (9, js_getfield 268, 12, 3, 12, 3), (12, js_if_icmp .ge 23, 15, 3, 35, 0)]) ([(35, js_return_, 36, 1, 0, 0)])) (fr_nd 0 ([]) ([]))
noncomputable def cy_215 : ai_MT := (⟨"LightsMarketModel", "tellNets", "()V"⟩, prog_14_method_49_code, 2, none, none, 0)
noncomputable def cm_215 : ct_L := some (fr_code 2 ct_215, (fun _ _ => none), (0, 0), cy_215)
/-- LightsMarketModel.flow(IIII)I -/
noncomputable def ct_216 : ai_T (List fr_I) 2 := fr_nd 1 (fr_nd 0 ([(0, js_aload_n 0, 1, 1, 0, 0), (1, js_iconst 0, 2, 1, 0, 0), (2, js_putfield 247, 5, 3, 12, 1), (5, js_iload_n 1, 6, 1, 0, 0), (6, js_iconst 0, 7, 1, 0, 0), (7, js_aload_n 0, 8, 1, 0, 0), (8, js_getfield 268, 11, 3, 12, 3), (11, js_iconst 1, 12, 1, 0, 0), (12, js_isub, 13, 1, 0, 0), (13, js_invokestatic 253, 16, 3, 171, 3)]) ([(46, js_aload_n 0, 47, 1, 0, 0), (47, js_iconst 1, 48, 1, 0, 0)])) (fr_nd 0 ([(16, js_ifCond .eq 30, 19, 3, 46, 0)]) ([(48, js_invokevirtual 264, 51, 3, 169, 770), (51, js_ireturn, 52, 1, 0, 0)]))
noncomputable def cy_216 : ai_MT := (⟨"LightsMarketModel", "flow", "(IIII)I"⟩, prog_14_method_50_code, 13, (some .int), none, 4)
noncomputable def cm_216 : ct_L := some (fr_code 2 ct_216, (fun _ _ => none), (0, 0), cy_216)
/-- LightsMarketModel.fits()Z -/
noncomputable def ct_217 : ai_T (List fr_I) 4 := fr_nd 3 (fr_nd 2 (fr_nd 1 (fr_nd 0 ([(0, js_iconst 0, 1, 1, 0, 0), (1, js_istore_n 1, 2, 1, 0, 0), (2, js_iload_n 1, 3, 1, 0, 0), (3, js_aload_n 0, 4, 1, 0, 0), (4, js_getfield 421, 7, 3, 12, 46), (7, js_ifCond .eq 10, 10, 3, 17, 0)]) ([])) (fr_nd 0 ([]) ([]))) (fr_nd 1 (fr_nd 0 ([(35, js_iload_n 1, 36, 1, 0, 0), (36, js_ifCond .ne 7, 39, 3, 43, 0), (39, js_iconst 0, 40, 1, 0, 0), (40, js_goto 7, 43, 3, 47, 0), (47, js_istore_n 2, 48, 1, 0, 0)]) ([])) (fr_nd 0 ([]) ([])))) (fr_nd 2 (fr_nd 1 (fr_nd 0 ([(17, js_iconst 0, 18, 1, 0, 0), (18, js_if_icmp .gt 139, 21, 3, 157, 0), (21, js_aload_n 0, 22, 1, 0, 0), (22, js_getfield 117, 25, 3, 12, 49), (25, js_iload_n 1, 26, 1, 0, 0), (26, js_laload, 27, 1, 0, 0), (27, js_lconst 0, 28, 1, 0, 0), (28, js_lcmp, 29, 1, 0, 0), (29, js_ifCond .ne 6, 32, 3, 35, 0)]) ([(151, js_iinc 1 1, 154, 3, 0, 0), (154, js_goto (-152), 157, 3, 2, 0), (157, js_iconst 1, 158, 1, 0, 0), (158, js_ireturn, 159, 1, 2, 0)])) (fr_nd 0 ([]) ([]))) (fr_nd 1 (fr_nd 0 ([(48, js_iconst 0, 49, 1, 0, 0), (49, js_istore_n 3, 50, 1, 0, 0), (50, js_iload_n 3, 51, 1, 0, 0), (51, js_aload_n 0, 52, 1, 0, 0), (52, js_getfield 268, 55, 3, 12, 3), (55, js_if_icmp .ge 96, 58, 3, 151, 0)]) ([])) (fr_nd 0 ([]) ([]))))
noncomputable def cy_217 : ai_MT := (⟨"LightsMarketModel", "fits", "()Z"⟩, prog_14_method_51_code, 7, (some .boolean), none, 0)
noncomputable def cm_217 : ct_L := some (fr_code 4 ct_217, (fun _ _ => none), (0, 0), cy_217)
/-- LightsMarketModel.go(III)V -/
noncomputable def ct_218 : ai_T (List fr_I) 3 := fr_nd 2 (fr_nd 1 (fr_nd 0 ([(0, js_iload_n 1, 1, 1, 0, 0), (1, js_aload_n 0, 2, 1, 0, 0), (2, js_getfield 257, 5, 3, 12, 4), (5, js_if_icmp .ne 68, 8, 3, 73, 0), (8, js_iload_n 2, 9, 1, 0, 0), (9, js_ifCond .ne 63, 12, 3, 72, 0), (12, js_aload_n 0, 13, 1, 0, 0), (13, js_getfield 442, 16, 3, 12, 59)]) ([(72, js_return_, 73, 1, 0, 0)])) (fr_nd 0 ([(32, js_ifCond .eq 40, 35, 3, 72, 0), (35, js_aload_n 0, 36, 1, 0, 0), (36, js_iload_n 3, 37, 1, 0, 0), (37, js_putfield 442, 40, 3, 12, 59), (40, js_iconst 0, 41, 1, 0, 0), (41, js_istore 4, 43, 2, 0, 0), (43, js_iload 4, 45, 2, 0, 0), (45, js_aload_n 0, 46, 1, 0, 0), (46, js_getfield 257, 49, 3, 12, 4)]) ([]))) (fr_nd 1 (fr_nd 0 ([(16, js_iconst (-1), 17, 1, 0, 0), (17, js_if_icmp .eq 11, 20, 3, 28, 0), (28, js_aload_n 0, 29, 1, 0, 0), (29, js_invokevirtual 445, 32, 3, 217, 769)]) ([])) (fr_nd 0 ([(49, js_if_icmp .ge 23, 52, 3, 72, 0)]) ([])))
noncomputable def cy_218 : ai_MT := (⟨"LightsMarketModel", "go", "(III)V"⟩, prog_14_method_52_code, 5, none, none, 3)
noncomputable def cm_218 : ct_L := some (fr_code 3 ct_218, (fun _ _ => none), (0, 0), cy_218)
/-- LightsMarketModel.leastOf(IIII)I -/
noncomputable def ct_221 : ai_T (List fr_I) 4 := fr_nd 3 (fr_nd 2 (fr_nd 1 (fr_nd 0 ([(0, js_aload_n 0, 1, 1, 0, 0), (1, js_iconst (-1), 2, 1, 0, 0), (2, js_putfield 442, 5, 3, 12, 59), (5, js_aload_n 0, 6, 1, 0, 0), (6, js_getfield 117, 9, 3, 12, 49), (9, js_iconst 0, 10, 1, 0, 0), (10, js_laload, 11, 1, 0, 0), (11, js_lconst 0, 12, 1, 0, 0), (12, js_lcmp, 13, 1, 0, 0), (13, js_ifCond .ne 5, 16, 3, 18, 0)]) ([(130, js_ireturn, 131, 1, 0, 0)])) (fr_nd 0 ([]) ([]))) (fr_nd 1 (fr_nd 0 ([(35, js_iadd, 36, 1, 0, 0), (36, js_putfield 456, 39, 3, 12, 60), (39, js_iconst 0, 40, 1, 0, 0), (40, js_istore 5, 42, 2, 0, 0), (42, js_iload 5, 44, 2, 0, 0), (44, js_aload_n 0, 45, 1, 0, 0), (45, js_getfield 250, 48, 3, 12, 2)]) ([])) (fr_nd 0 ([(98, js_if_icmp .ge 18, 101, 3, 116, 0)]) ([])))) (fr_nd 2 (fr_nd 1 (fr_nd 0 ([(18, js_aload_n 0, 19, 1, 0, 0), (19, js_aload_n 0, 20, 1, 0, 0), (20, js_iload_n 1, 21, 1, 0, 0), (21, js_invokevirtual 414, 24, 3, 209, 770), (24, js_iload 4, 26, 2, 0, 0), (26, js_iconst (-1), 27, 1, 0, 0), (27, js_if_icmp .ne 7, 30, 3, 34, 0), (30, js_iconst 0, 31, 1, 0, 0), (31, js_goto 4, 34, 3, 35, 0)]) ([])) (fr_nd 0 ([(89, js_iconst 0, 90, 1, 0, 0), (90, js_istore 5, 92, 2, 0, 0), (92, js_iload 5, 94, 2, 0, 0), (94, js_aload_n 0, 95, 1, 0, 0), (95, js_getfield 257, 98, 3, 12, 4)]) ([]))) (fr_nd 1 (fr_nd 0 ([(48, js_if_icmp .ge 41, 51, 3, 89, 0)]) ([])) (fr_nd 0 ([(116, js_aload_n 0, 117, 1, 0, 0), (117, js_iconst 0, 118, 1, 0, 0), (118, js_aload_n 0, 119, 1, 0, 0), (119, js_getfield 456, 122, 3, 12, 60), (122, js_iconst 0, 123, 1, 0, 0), (123, js_invokevirtual 449, 126, 3, 218, 772), (126, js_aload_n 0, 127, 1, 0, 0), (127, js_getfield 442, 130, 3, 12, 59)]) ([]))))
noncomputable def cy_221 : ai_MT := (⟨"LightsMarketModel", "leastOf", "(IIII)I"⟩, prog_14_method_55_code, 6, (some .int), none, 4)
noncomputable def cm_221 : ct_L := some (fr_code 4 ct_221, (fun _ _ => none), (0, 0), cy_221)
/-- LightsMarketModel.waterMost()I -/
noncomputable def ct_222 : ai_T (List fr_I) 2 := fr_nd 1 (fr_nd 0 ([(0, js_iconst 0, 1, 1, 0, 0), (1, js_istore_n 1, 2, 1, 0, 0), (2, js_iload_n 1, 3, 1, 0, 0), (3, js_aload_n 0, 4, 1, 0, 0), (4, js_getfield 257, 7, 3, 12, 4), (7, js_if_icmp .ge 26, 10, 3, 33, 0)]) ([(33, js_iconst 0, 34, 1, 0, 0), (34, js_ireturn, 35, 1, 0, 0)])) (fr_nd 0 ([]) ([]))
noncomputable def cy_222 : ai_MT := (⟨"LightsMarketModel", "waterMost", "()I"⟩, prog_14_method_56_code, 2, (some .int), none, 0)
noncomputable def cm_222 : ct_L := some (fr_code 2 ct_222, (fun _ _ => none), (0, 0), cy_222)
/-- LightsMarketModel.least(III)I -/
noncomputable def ct_223 : ai_T (List fr_I) 3 := fr_nd 2 (fr_nd 1 (fr_nd 0 ([(0, js_aload_n 0, 1, 1, 0, 0), (1, js_iconst 0, 2, 1, 0, 0), (2, js_putfield 247, 5, 3, 12, 1), (5, js_iload_n 1, 6, 1, 0, 0), (6, js_invokestatic 411, 9, 3, 174, 1), (9, js_ifCond .ne 9, 12, 3, 18, 0), (12, js_aload_n 0, 13, 1, 0, 0), (13, js_iconst 1, 14, 1, 0, 0), (14, js_invokevirtual 264, 17, 3, 169, 770)]) ([(65, js_aload_n 0, 66, 1, 0, 0), (66, js_aload_n 0, 67, 1, 0, 0), (67, js_getfield 257, 70, 3, 12, 4), (70, js_putfield 475, 73, 3, 12, 63), (73, js_iconst 0, 74, 1, 0, 0), (74, js_istore 5, 76, 2, 0, 0), (76, js_iload 5, 78, 2, 0, 0), (78, js_aload_n 0, 79, 1, 0, 0), (79, js_getfield 257, 82, 3, 12, 4)])) (fr_nd 0 ([(33, js_if_icmp .le 5, 36, 3, 38, 0), (36, js_iconst (-1), 37, 1, 0, 0), (37, js_ireturn, 38, 1, 0, 0), (38, js_aload_n 0, 39, 1, 0, 0), (39, js_invokevirtual 466, 42, 3, 215, 769), (42, js_aload_n 0, 43, 1, 0, 0), (43, js_iload_n 1, 44, 1, 0, 0), (44, js_iload_n 2, 45, 1, 0, 0), (45, js_iload_n 3, 46, 1, 0, 0), (46, js_iconst (-1), 47, 1, 0, 0), (47, js_invokevirtual 469, 50, 3, 221, 773)]) ([(105, js_iload 4, 107, 2, 0, 0), (107, js_ireturn, 108, 1, 0, 0)]))) (fr_nd 1 (fr_nd 0 ([(17, js_ireturn, 18, 1, 0, 0), (18, js_iload_n 3, 19, 1, 0, 0), (19, js_ifCond .ge 9, 22, 3, 28, 0), (22, js_aload_n 0, 23, 1, 0, 0), (23, js_iconst 2, 24, 1, 0, 0), (24, js_invokevirtual 264, 27, 3, 169, 770), (27, js_ireturn, 28, 1, 0, 0), (28, js_iload_n 3, 29, 1, 0, 0), (29, js_aload_n 0, 30, 1, 0, 0), (30, js_invokevirtual 463, 33, 3, 222, 769)]) ([(82, js_if_icmp .ge 23, 85, 3, 105, 0)])) (fr_nd 0 ([(50, js_istore 4, 52, 2, 0, 0), (52, js_iload 4, 54, 2, 0, 0), (54, js_iconst (-1), 55, 1, 0, 0), (55, js_if_icmp .ne 5, 58, 3, 60, 0), (60, js_aload_n 0, 61, 1, 0, 0), (61, js_iconst 1, 62, 1, 0, 0), (62, js_putfield 472, 65, 3, 12, 62)]) ([])))
noncomputable def cy_223 : ai_MT := (⟨"LightsMarketModel", "least", "(III)I"⟩, prog_14_method_57_code, 6, (some .int), none, 3)
noncomputable def cm_223 : ct_L := some (fr_code 3 ct_223, (fun _ _ => none), (0, 0), cy_223)
/-- LightsMarketModel.units(I)I -/
noncomputable def ct_224 : ai_T (List fr_I) 1 := fr_nd 0 ([(0, js_aload_n 0, 1, 1, 0, 0), (1, js_iconst 0, 2, 1, 0, 0), (2, js_putfield 247, 5, 3, 12, 1), (5, js_aload_n 0, 6, 1, 0, 0), (6, js_iload_n 1, 7, 1, 0, 0), (7, js_invokevirtual 284, 10, 3, 173, 770), (10, js_ifCond .ne 9, 13, 3, 19, 0), (13, js_aload_n 0, 14, 1, 0, 0), (14, js_iconst 1, 15, 1, 0, 0), (15, js_invokevirtual 264, 18, 3, 169, 770)]) ([(18, js_ireturn, 19, 1, 0, 0)])
noncomputable def cy_224 : ai_MT := (⟨"LightsMarketModel", "units", "(I)I"⟩, prog_14_method_58_code, 2, (some .int), none, 1)
noncomputable def cm_224 : ct_L := some (fr_code 1 ct_224, (fun _ _ => none), (0, 0), cy_224)
/-- LightsMarketModel.startable()I -/
noncomputable def ct_225 : ai_T (List fr_I) 2 := fr_nd 1 (fr_nd 0 ([(0, js_iconst 0, 1, 1, 0, 0), (1, js_istore_n 1, 2, 1, 0, 0), (2, js_iconst 0, 3, 1, 0, 0), (3, js_istore_n 2, 4, 1, 0, 0), (4, js_iload_n 2, 5, 1, 0, 0), (5, js_aload_n 0, 6, 1, 0, 0), (6, js_getfield 257, 9, 3, 12, 4), (9, js_if_icmp .ge 29, 12, 3, 38, 0)]) ([(38, js_iload_n 1, 39, 1, 0, 0), (39, js_ireturn, 40, 1, 0, 0)])) (fr_nd 0 ([]) ([]))
noncomputable def cy_225 : ai_MT := (⟨"LightsMarketModel", "startable", "()I"⟩, prog_14_method_59_code, 3, (some .int), none, 0)
noncomputable def cm_225 : ct_L := some (fr_code 2 ct_225, (fun _ _ => none), (0, 0), cy_225)
/-- LightsMarketModel.coinOf(IIII)I -/
noncomputable def ct_226 : ai_T (List fr_I) 4 := fr_nd 3 (fr_nd 2 (fr_nd 1 (fr_nd 0 ([(0, js_iconst 0, 1, 1, 0, 0), (1, js_istore 5, 3, 2, 0, 0), (3, js_iconst 0, 4, 1, 0, 0), (4, js_istore 6, 6, 2, 0, 0), (6, js_iload 6, 8, 2, 0, 0), (8, js_aload_n 0, 9, 1, 0, 0), (9, js_getfield 257, 12, 3, 12, 4), (12, js_if_icmp .ge 145, 15, 3, 157, 0)]) ([])) (fr_nd 0 ([]) ([]))) (fr_nd 1 (fr_nd 0 ([]) ([])) (fr_nd 0 ([]) ([])))) (fr_nd 2 (fr_nd 1 (fr_nd 0 ([]) ([(157, js_iload 5, 159, 2, 0, 0), (159, js_ireturn, 160, 1, 0, 0)])) (fr_nd 0 ([]) ([]))) (fr_nd 1 (fr_nd 0 ([]) ([])) (fr_nd 0 ([]) ([]))))
noncomputable def cy_226 : ai_MT := (⟨"LightsMarketModel", "coinOf", "(IIII)I"⟩, prog_14_method_60_code, 9, (some .int), none, 4)
noncomputable def cm_226 : ct_L := some (fr_code 4 ct_226, (fun _ _ => none), (0, 0), cy_226)
/-- LightsMarketModel.streamed(II)I -/
noncomputable def ct_227 : ai_T (List fr_I) 2 := fr_nd 1 (fr_nd 0 ([(0, js_iconst 0, 1, 1, 0, 0), (1, js_istore_n 3, 2, 1, 0, 0), (2, js_iconst 0, 3, 1, 0, 0), (3, js_istore 4, 5, 2, 0, 0), (5, js_iload 4, 7, 2, 0, 0), (7, js_aload_n 0, 8, 1, 0, 0), (8, js_getfield 257, 11, 3, 12, 4), (11, js_if_icmp .ge 32, 14, 3, 43, 0)]) ([(43, js_bipush 15, 45, 2, 0, 0), (45, js_iload_n 1, 46, 1, 0, 0), (46, js_iload_n 2, 47, 1, 0, 0), (47, js_isub, 48, 1, 0, 0)])) (fr_nd 0 ([]) ([(48, js_iload_n 3, 49, 1, 0, 0), (49, js_iadd, 50, 1, 0, 0), (50, js_invokestatic 318, 53, 3, 1001, 2), (53, js_ireturn, 54, 1, 0, 0)]))
noncomputable def cy_227 : ai_MT := (⟨"LightsMarketModel", "streamed", "(II)I"⟩, prog_14_method_61_code, 5, (some .int), none, 2)
noncomputable def cm_227 : ct_L := some (fr_code 2 ct_227, (fun _ _ => none), (0, 0), cy_227)
/-- LightsMarketModel.tellBest(IIII)V -/
noncomputable def ct_228 : ai_T (List fr_I) 4 := fr_nd 3 (fr_nd 2 (fr_nd 1 (fr_nd 0 ([(0, js_iload_n 1, 1, 1, 0, 0), (1, js_bipush 16, 3, 2, 0, 0), (3, js_imul, 4, 1, 0, 0), (4, js_iload_n 2, 5, 1, 0, 0), (5, js_iadd, 6, 1, 0, 0), (6, js_bipush 16, 8, 2, 0, 0), (8, js_imul, 9, 1, 0, 0), (9, js_iload_n 3, 10, 1, 0, 0), (10, js_iadd, 11, 1, 0, 0), (11, js_istore 5, 13, 2, 0, 0), (13, js_aload_n 0, 14, 1, 0, 0), (14, js_getfield 157, 17, 3, 12, 66)]) ([(128, js_iconst (-1), 129, 1, 0, 0), (129, js_if_icmp .eq 75, 132, 3, 204, 0), (132, js_iload 10, 134, 2, 0, 0), (134, js_iconst (-1), 135, 1, 0, 0), (135, js_if_icmp .ne 6, 138, 3, 141, 0), (141, js_iload 7, 143, 2, 0, 0), (143, js_iload 9, 145, 2, 0, 0)])) (fr_nd 0 ([(64, js_iload 8, 66, 2, 0, 0), (66, js_aload_n 0, 67, 1, 0, 0), (67, js_invokevirtual 463, 70, 3, 222, 769), (70, js_if_icmp .gt 140, 73, 3, 210, 0), (73, js_iload 8, 75, 2, 0, 0), (75, js_iload_n 3, 76, 1, 0, 0), (76, js_if_icmp .gt 134, 79, 3, 210, 0), (79, js_aload_n 0, 80, 1, 0, 0)]) ([(192, js_iload 6, 194, 2, 0, 0), (194, js_iastore, 195, 1, 0, 0), (195, js_aload_n 0, 196, 1, 0, 0), (196, js_getfield 163, 199, 3, 12, 68), (199, js_iload 5, 201, 2, 0, 0), (201, js_iload 8, 203, 2, 0, 0), (203, js_iastore, 204, 1, 0, 0), (204, js_iinc 8 1, 207, 3, 0, 0), (207, js_goto (-149), 210, 3, 58, 0)]))) (fr_nd 1 (fr_nd 0 ([(33, js_iload 4, 35, 2, 0, 0), (35, js_iconst (-1), 36, 1, 0, 0), (36, js_ixor, 37, 1, 0, 0), (37, js_iand, 38, 1, 0, 0), (38, js_ifCond .eq 6, 41, 3, 44, 0), (41, js_goto 169, 44, 3, 210, 0), (44, js_aload_n 0, 45, 1, 0, 0), (45, js_iload_n 1, 46, 1, 0, 0), (46, js_iload_n 2, 47, 1, 0, 0), (47, js_iload 6, 49, 2, 0, 0)]) ([])) (fr_nd 0 ([(96, js_iaload, 97, 1, 0, 0), (97, js_istore 9, 99, 2, 0, 0), (99, js_aload_n 0, 100, 1, 0, 0), (100, js_getfield 157, 103, 3, 12, 66), (103, js_iload_n 1, 104, 1, 0, 0), (104, js_iconst 1, 105, 1, 0, 0), (105, js_iadd, 106, 1, 0, 0), (106, js_bipush 16, 108, 2, 0, 0), (108, js_imul, 109, 1, 0, 0), (109, js_iload 6, 111, 2, 0, 0), (111, js_iadd, 112, 1, 0, 0)]) ([])))) (fr_nd 2 (fr_nd 1 (fr_nd 0 ([(17, js_iload 5, 19, 2, 0, 0), (19, js_iconst (-1), 20, 1, 0, 0), (20, js_iastore, 21, 1, 0, 0), (21, js_iconst 0, 22, 1, 0, 0), (22, js_istore 6, 24, 2, 0, 0), (24, js_iload 6, 26, 2, 0, 0), (26, js_bipush 16, 28, 2, 0, 0), (28, js_if_icmp .ge 188, 31, 3, 216, 0), (31, js_iload 6, 33, 2, 0, 0)]) ([(145, js_iadd, 146, 1, 0, 0), (146, js_iload 10, 148, 2, 0, 0), (148, js_iadd, 149, 1, 0, 0), (149, js_istore 11, 151, 2, 0, 0), (151, js_aload_n 0, 152, 1, 0, 0), (152, js_getfield 157, 155, 3, 12, 66), (155, js_iload 5, 157, 2, 0, 0), (157, js_iaload, 158, 1, 0, 0), (158, js_iconst (-1), 159, 1, 0, 0), (159, js_if_icmp .eq 18, 162, 3, 177, 0)])) (fr_nd 0 ([(80, js_getfield 154, 83, 3, 12, 65), (83, js_iload_n 1, 84, 1, 0, 0), (84, js_bipush 16, 86, 2, 0, 0), (86, js_imul, 87, 1, 0, 0), (87, js_iload 6, 89, 2, 0, 0), (89, js_iadd, 90, 1, 0, 0), (90, js_bipush 8, 92, 2, 0, 0), (92, js_imul, 93, 1, 0, 0), (93, js_iload 8, 95, 2, 0, 0), (95, js_iadd, 96, 1, 0, 0)]) ([(210, js_iinc 6 1, 213, 3, 0, 0), (213, js_goto (-189), 216, 3, 24, 0), (216, js_return_, 217, 1, 0, 0)]))) (fr_nd 1 (fr_nd 0 ([(49, js_iconst (-1), 50, 1, 0, 0), (50, js_invokevirtual 478, 53, 3, 226, 773), (53, js_istore 7, 55, 2, 0, 0), (55, js_iconst 0, 56, 1, 0, 0), (56, js_istore 8, 58, 2, 0, 0), (58, js_iload 7, 60, 2, 0, 0), (60, js_iconst (-1), 61, 1, 0, 0), (61, js_if_icmp .eq 149, 64, 3, 210, 0)]) ([(177, js_aload_n 0, 178, 1, 0, 0), (178, js_getfield 157, 181, 3, 12, 66), (181, js_iload 5, 183, 2, 0, 0), (183, js_iload 11, 185, 2, 0, 0), (185, js_iastore, 186, 1, 0, 0), (186, js_aload_n 0, 187, 1, 0, 0), (187, js_getfield 160, 190, 3, 12, 67), (190, js_iload 5, 192, 2, 0, 0)])) (fr_nd 0 ([(112, js_bipush 16, 114, 2, 0, 0), (114, js_imul, 115, 1, 0, 0), (115, js_aload_n 0, 116, 1, 0, 0), (116, js_iload_n 3, 117, 1, 0, 0), (117, js_iload 8, 119, 2, 0, 0), (119, js_invokevirtual 481, 122, 3, 227, 771), (122, js_iadd, 123, 1, 0, 0), (123, js_iaload, 124, 1, 0, 0), (124, js_istore 10, 126, 2, 0, 0), (126, js_iload 9, 128, 2, 0, 0)]) ([]))))
noncomputable def cy_228 : ai_MT := (⟨"LightsMarketModel", "tellBest", "(IIII)V"⟩, prog_14_method_62_code, 12, none, none, 4)
noncomputable def cm_228 : ct_L := some (fr_code 4 ct_228, (fun _ _ => none), (0, 0), cy_228)
/-- LightsMarketModel.plan(II)I -/
noncomputable def ct_229 : ai_T (List fr_I) 5 := fr_nd 4 (fr_nd 3 (fr_nd 2 (fr_nd 1 (fr_nd 0 ([(0, js_aload_n 0, 1, 1, 0, 0), (1, js_iconst 0, 2, 1, 0, 0), (2, js_putfield 247, 5, 3, 12, 1), (5, js_iload_n 1, 6, 1, 0, 0), (6, js_iconst 1, 7, 1, 0, 0), (7, js_if_icmp .lt 8, 10, 3, 15, 0), (10, js_iload_n 1, 11, 1, 0, 0), (11, js_iconst 4, 12, 1, 0, 0), (12, js_if_icmp .le 9, 15, 3, 21, 0), (15, js_aload_n 0, 16, 1, 0, 0)]) ([(256, js_goto (-37), 259, 3, 219, 0), (259, js_iinc 6 (-1), 262, 3, 0, 0), (262, js_goto (-51), 265, 3, 211, 0), (265, js_aload_n 0, 266, 1, 0, 0), (266, js_getfield 157, 269, 3, 12, 66), (269, js_iload 4, 271, 2, 0, 0), (271, js_bipush 16, 273, 2, 0, 0)])) (fr_nd 0 ([(129, js_iadd, 130, 1, 0, 0), (130, js_iload 7, 132, 2, 0, 0), (132, js_iload_n 3, 133, 1, 0, 0), (133, js_iconst (-1), 134, 1, 0, 0), (134, js_ixor, 135, 1, 0, 0), (135, js_iand, 136, 1, 0, 0), (136, js_ifCond .ne 17, 139, 3, 153, 0), (139, js_aload_n 0, 140, 1, 0, 0), (140, js_iload 6, 142, 2, 0, 0), (142, js_iload 7, 144, 2, 0, 0)]) ([(384, js_invokevirtual 502, 387, 3, 230, 773), (387, js_aload_n 0, 388, 1, 0, 0), (388, js_getfield 160, 391, 3, 12, 67), (391, js_iload 8, 393, 2, 0, 0), (393, js_iaload, 394, 1, 0, 0), (394, js_istore 4, 396, 2, 0, 0), (396, js_aload_n 0, 397, 1, 0, 0), (397, js_iload 5, 399, 2, 0, 0), (399, js_aload_n 0, 400, 1, 0, 0)]))) (fr_nd 1 (fr_nd 0 ([]) ([(320, js_iload 7, 322, 2, 0, 0), (322, js_iconst 4, 323, 1, 0, 0), (323, js_if_icmp .ge 17, 326, 3, 340, 0), (326, js_aload_n 0, 327, 1, 0, 0), (327, js_getfield 184, 330, 3, 12, 79), (330, js_iload 7, 332, 2, 0, 0), (332, js_iconst 0, 333, 1, 0, 0), (333, js_iastore, 334, 1, 0, 0), (334, js_iinc 7 1, 337, 3, 0, 0)])) (fr_nd 0 ([(192, js_bipush 16, 194, 2, 0, 0), (194, js_imul, 195, 1, 0, 0), (195, js_iload 6, 197, 2, 0, 0), (197, js_iadd, 198, 1, 0, 0), (198, js_iconst 0, 199, 1, 0, 0), (199, js_iastore, 200, 1, 0, 0), (200, js_iinc 6 1, 203, 3, 0, 0), (203, js_goto (-27), 206, 3, 176, 0), (206, js_iload_n 1, 207, 1, 0, 0), (207, js_iconst 1, 208, 1, 0, 0)]) ([])))) (fr_nd 2 (fr_nd 1 (fr_nd 0 ([(32, js_iand, 33, 1, 0, 0), (33, js_istore 4, 35, 2, 0, 0), (35, js_iconst 0, 36, 1, 0, 0), (36, js_istore 5, 38, 2, 0, 0), (38, js_iconst 0, 39, 1, 0, 0), (39, js_istore 6, 41, 2, 0, 0), (41, js_iload 6, 43, 2, 0, 0), (43, js_aload_n 0, 44, 1, 0, 0), (44, js_getfield 257, 47, 3, 12, 4), (47, js_if_icmp .ge 34, 50, 3, 81, 0)]) ([(288, js_aload_n 0, 289, 1, 0, 0), (289, js_iload_n 1, 290, 1, 0, 0), (290, js_putfield 490, 293, 3, 12, 69), (293, js_aload_n 0, 294, 1, 0, 0), (294, js_aload_n 0, 295, 1, 0, 0), (295, js_getfield 114, 298, 3, 12, 48), (298, js_putfield 493, 301, 3, 12, 70), (301, js_aload_n 0, 302, 1, 0, 0), (302, js_aload_n 0, 303, 1, 0, 0), (303, js_getfield 257, 306, 3, 12, 4)])) (fr_nd 0 ([(161, js_iinc 7 1, 164, 3, 0, 0), (164, js_goto (-71), 167, 3, 93, 0), (167, js_iinc 6 1, 170, 3, 0, 0), (170, js_goto (-86), 173, 3, 84, 0), (173, js_iconst 0, 174, 1, 0, 0), (174, js_istore 6, 176, 2, 0, 0)]) ([(417, js_iload 6, 419, 2, 0, 0), (419, js_ireturn, 420, 1, 0, 0)]))) (fr_nd 1 (fr_nd 0 ([(97, js_if_icmp .ge 70, 100, 3, 167, 0), (100, js_iconst 0, 101, 1, 0, 0), (101, js_istore 8, 103, 2, 0, 0), (103, js_iload 8, 105, 2, 0, 0), (105, js_aload_n 0, 106, 1, 0, 0), (106, js_invokevirtual 463, 109, 3, 222, 769), (109, js_if_icmp .gt 52, 112, 3, 161, 0)]) ([(353, js_imul, 354, 1, 0, 0), (354, js_iload 4, 356, 2, 0, 0), (356, js_iadd, 357, 1, 0, 0), (357, js_bipush 16, 359, 2, 0, 0), (359, js_imul, 360, 1, 0, 0), (360, js_iload 5, 362, 2, 0, 0), (362, js_iadd, 363, 1, 0, 0), (363, js_istore 8, 365, 2, 0, 0), (365, js_aload_n 0, 366, 1, 0, 0), (366, js_iload 7, 368, 2, 0, 0)])) (fr_nd 0 ([(226, js_iconst 0, 227, 1, 0, 0), (227, js_istore 8, 229, 2, 0, 0), (229, js_iload 8, 231, 2, 0, 0), (231, js_bipush 16, 233, 2, 0, 0), (233, js_if_icmp .ge 20, 236, 3, 253, 0), (236, js_aload_n 0, 237, 1, 0, 0), (237, js_iload 6, 239, 2, 0, 0), (239, js_iload 7, 241, 2, 0, 0)]) ([]))))) (fr_nd 3 (fr_nd 2 (fr_nd 1 (fr_nd 0 ([(16, js_iconst 1, 17, 1, 0, 0), (17, js_invokevirtual 264, 20, 3, 169, 770), (20, js_ireturn, 21, 1, 0, 0), (21, js_aload_n 0, 22, 1, 0, 0), (22, js_invokevirtual 466, 25, 3, 215, 769), (25, js_aload_n 0, 26, 1, 0, 0), (26, js_invokevirtual 484, 29, 3, 225, 769), (29, js_istore_n 3, 30, 1, 0, 0), (30, js_iload_n 2, 31, 1, 0, 0), (31, js_iload_n 3, 32, 1, 0, 0)]) ([(273, js_imul, 274, 1, 0, 0), (274, js_iload 5, 276, 2, 0, 0), (276, js_iadd, 277, 1, 0, 0), (277, js_iaload, 278, 1, 0, 0), (278, js_istore 6, 280, 2, 0, 0), (280, js_iload 6, 282, 2, 0, 0), (282, js_iconst (-1), 283, 1, 0, 0), (283, js_if_icmp .ne 5, 286, 3, 288, 0)])) (fr_nd 0 ([(144, js_iload 8, 146, 2, 0, 0), (146, js_iconst (-1), 147, 1, 0, 0), (147, js_invokevirtual 469, 150, 3, 221, 773), (150, js_goto 4, 153, 3, 154, 0), (153, js_iconst (-1), 154, 1, 0, 0), (154, js_iastore, 155, 1, 0, 0), (155, js_iinc 8 1, 158, 3, 0, 0), (158, js_goto (-55), 161, 3, 103, 0)]) ([(400, js_getfield 163, 403, 3, 12, 68), (403, js_iload 8, 405, 2, 0, 0), (405, js_iaload, 406, 1, 0, 0), (406, js_invokevirtual 481, 409, 3, 227, 771), (409, js_istore 5, 411, 2, 0, 0), (411, js_iinc 7 1, 414, 3, 0, 0), (414, js_goto (-71), 417, 3, 343, 0)]))) (fr_nd 1 (fr_nd 0 ([(81, js_iconst 0, 82, 1, 0, 0), (82, js_istore 6, 84, 2, 0, 0), (84, js_iload 6, 86, 2, 0, 0), (86, js_iload_n 1, 87, 1, 0, 0), (87, js_if_icmp .ge 86, 90, 3, 173, 0), (90, js_iconst 0, 91, 1, 0, 0), (91, js_istore 7, 93, 2, 0, 0), (93, js_iload 7, 95, 2, 0, 0), (95, js_bipush 16, 97, 2, 0, 0)]) ([(337, js_goto (-17), 340, 3, 320, 0), (340, js_iconst 0, 341, 1, 0, 0), (341, js_istore 7, 343, 2, 0, 0), (343, js_iload 7, 345, 2, 0, 0), (345, js_iload_n 1, 346, 1, 0, 0), (346, js_if_icmp .ge 71, 349, 3, 417, 0), (349, js_iload 7, 351, 2, 0, 0), (351, js_bipush 16, 353, 2, 0, 0)])) (fr_nd 0 ([(208, js_isub, 209, 1, 0, 0), (209, js_istore 6, 211, 2, 0, 0), (211, js_iload 6, 213, 2, 0, 0), (213, js_ifCond .lt 52, 216, 3, 265, 0), (216, js_iconst 0, 217, 1, 0, 0), (217, js_istore 7, 219, 2, 0, 0), (219, js_iload 7, 221, 2, 0, 0), (221, js_bipush 16, 223, 2, 0, 0), (223, js_if_icmp .ge 36, 226, 3, 259, 0)]) ([])))) (fr_nd 2 (fr_nd 1 (fr_nd 0 ([]) ([(306, js_putfield 496, 309, 3, 12, 71), (309, js_aload_n 0, 310, 1, 0, 0), (310, js_aload_n 0, 311, 1, 0, 0), (311, js_getfield 250, 314, 3, 12, 2), (314, js_putfield 499, 317, 3, 12, 72), (317, js_iconst 0, 318, 1, 0, 0), (318, js_istore 7, 320, 2, 0, 0)])) (fr_nd 0 ([(176, js_iload 6, 178, 2, 0, 0), (178, js_sipush 256, 181, 3, 0, 0), (181, js_if_icmp .ge 25, 184, 3, 206, 0), (184, js_aload_n 0, 185, 1, 0, 0), (185, js_getfield 157, 188, 3, 12, 66), (188, js_iload_n 1, 189, 1, 0, 0), (189, js_bipush 16, 191, 2, 0, 0), (191, js_imul, 192, 1, 0, 0)]) ([]))) (fr_nd 1 (fr_nd 0 ([(112, js_aload_n 0, 113, 1, 0, 0), (113, js_getfield 154, 116, 3, 12, 65), (116, js_iload 6, 118, 2, 0, 0), (118, js_bipush 16, 120, 2, 0, 0), (120, js_imul, 121, 1, 0, 0), (121, js_iload 7, 123, 2, 0, 0), (123, js_iadd, 124, 1, 0, 0), (124, js_bipush 8, 126, 2, 0, 0), (126, js_imul, 127, 1, 0, 0), (127, js_iload 8, 129, 2, 0, 0)]) ([(368, js_iload 4, 370, 2, 0, 0), (370, js_aload_n 0, 371, 1, 0, 0), (371, js_getfield 160, 374, 3, 12, 67), (374, js_iload 8, 376, 2, 0, 0), (376, js_iaload, 377, 1, 0, 0), (377, js_aload_n 0, 378, 1, 0, 0), (378, js_getfield 163, 381, 3, 12, 68), (381, js_iload 8, 383, 2, 0, 0), (383, js_iaload, 384, 1, 0, 0)])) (fr_nd 0 ([(241, js_iload 8, 243, 2, 0, 0), (243, js_iload_n 3, 244, 1, 0, 0), (244, js_invokevirtual 487, 247, 3, 228, 773), (247, js_iinc 8 1, 250, 3, 0, 0), (250, js_goto (-21), 253, 3, 229, 0), (253, js_iinc 7 1, 256, 3, 0, 0)]) ([])))))
noncomputable def cy_229 : ai_MT := (⟨"LightsMarketModel", "plan", "(II)I"⟩, prog_14_method_63_code, 9, (some .int), none, 2)
noncomputable def cm_229 : ct_L := some (fr_code 5 ct_229, (fun _ _ => none), (0, 0), cy_229)
/-- LightsMarketModel.keepQuarter(IIII)V -/
noncomputable def ct_230 : ai_T (List fr_I) 4 := fr_nd 3 (fr_nd 2 (fr_nd 1 (fr_nd 0 ([(0, js_aload_n 0, 1, 1, 0, 0), (1, js_getfield 169, 4, 3, 12, 74), (4, js_iload_n 1, 5, 1, 0, 0), (5, js_iload_n 3, 6, 1, 0, 0), (6, js_iastore, 7, 1, 0, 0), (7, js_aload_n 0, 8, 1, 0, 0), (8, js_iload_n 1, 9, 1, 0, 0), (9, js_iload_n 3, 10, 1, 0, 0), (10, js_iload 4, 12, 2, 0, 0), (12, js_iconst (-1), 13, 1, 0, 0), (13, js_invokevirtual 469, 16, 3, 221, 773)]) ([])) (fr_nd 0 ([]) ([(202, js_return_, 203, 1, 0, 0)]))) (fr_nd 1 (fr_nd 0 ([(32, js_getfield 257, 35, 3, 12, 4), (35, js_if_icmp .ge 65, 38, 3, 100, 0)]) ([])) (fr_nd 0 ([(100, js_iconst 0, 101, 1, 0, 0), (101, js_istore 6, 103, 2, 0, 0), (103, js_iload 6, 105, 2, 0, 0), (105, js_aload_n 0, 106, 1, 0, 0), (106, js_getfield 250, 109, 3, 12, 2), (109, js_if_icmp .ge 93, 112, 3, 202, 0)]) ([])))) (fr_nd 2 (fr_nd 1 (fr_nd 0 ([(16, js_istore 5, 18, 2, 0, 0), (18, js_aload_n 0, 19, 1, 0, 0), (19, js_getfield 172, 22, 3, 12, 75), (22, js_iload_n 1, 23, 1, 0, 0), (23, js_iload 5, 25, 2, 0, 0), (25, js_iastore, 26, 1, 0, 0), (26, js_iconst 0, 27, 1, 0, 0), (27, js_istore 6, 29, 2, 0, 0), (29, js_iload 6, 31, 2, 0, 0), (31, js_aload_n 0, 32, 1, 0, 0)]) ([])) (fr_nd 0 ([]) ([]))) (fr_nd 1 (fr_nd 0 ([]) ([])) (fr_nd 0 ([]) ([]))))
noncomputable def cy_230 : ai_MT := (⟨"LightsMarketModel", "keepQuarter", "(IIII)V"⟩, prog_14_method_64_code, 8, none, none, 4)
noncomputable def cm_230 : ct_L := some (fr_code 4 ct_230, (fun _ _ => none), (0, 0), cy_230)
/-- LightsMarketModel.planned(II)I -/
noncomputable def ct_232 : ai_T (List fr_I) 2 := fr_nd 1 (fr_nd 0 ([(0, js_aload_n 0, 1, 1, 0, 0), (1, js_iconst 0, 2, 1, 0, 0), (2, js_putfield 247, 5, 3, 12, 1), (5, js_iload_n 1, 6, 1, 0, 0), (6, js_invokestatic 411, 9, 3, 174, 1), (9, js_ifCond .eq 22, 12, 3, 31, 0), (12, js_iload_n 2, 13, 1, 0, 0), (13, js_ifCond .lt 18, 16, 3, 31, 0)]) ([(32, js_iconst 1, 33, 1, 0, 0), (33, js_invokevirtual 264, 36, 3, 169, 770), (36, js_ireturn, 37, 1, 0, 0), (37, js_iload_n 1, 38, 1, 0, 0), (38, js_aload_n 0, 39, 1, 0, 0), (39, js_getfield 490, 42, 3, 12, 69), (42, js_if_icmp .lt 5, 45, 3, 47, 0), (45, js_iconst (-1), 46, 1, 0, 0), (46, js_ireturn, 47, 1, 0, 0)])) (fr_nd 0 ([(16, js_iload_n 2, 17, 1, 0, 0), (17, js_iconst 1, 18, 1, 0, 0), (18, js_if_icmp .le 19, 21, 3, 37, 0), (21, js_aload_n 0, 22, 1, 0, 0), (22, js_iload_n 2, 23, 1, 0, 0), (23, js_iconst 4, 24, 1, 0, 0), (24, js_isub, 25, 1, 0, 0), (25, js_invokevirtual 284, 28, 3, 173, 770), (28, js_ifCond .ne 9, 31, 3, 37, 0), (31, js_aload_n 0, 32, 1, 0, 0)]) ([]))
noncomputable def cy_232 : ai_MT := (⟨"LightsMarketModel", "planned", "(II)I"⟩, prog_14_method_66_code, 3, (some .int), none, 2)
noncomputable def cm_232 : ct_L := some (fr_code 2 ct_232, (fun _ _ => none), (0, 0), cy_232)
/-- LightsMarketModel.price(II)I -/
noncomputable def ct_233 : ai_T (List fr_I) 1 := fr_nd 0 ([(0, js_aload_n 0, 1, 1, 0, 0), (1, js_iconst 0, 2, 1, 0, 0), (2, js_putfield 247, 5, 3, 12, 1), (5, js_aload_n 0, 6, 1, 0, 0), (6, js_iload_n 1, 7, 1, 0, 0), (7, js_invokevirtual 260, 10, 3, 172, 770), (10, js_ifCond .eq 10, 13, 3, 20, 0)]) ([(20, js_aload_n 0, 21, 1, 0, 0), (21, js_iconst 1, 22, 1, 0, 0), (22, js_invokevirtual 264, 25, 3, 169, 770), (25, js_ireturn, 26, 1, 0, 0)])
noncomputable def cy_233 : ai_MT := (⟨"LightsMarketModel", "price", "(II)I"⟩, prog_14_method_67_code, 3, (some .int), none, 2)
noncomputable def cm_233 : ct_L := some (fr_code 1 ct_233, (fun _ _ => none), (0, 0), cy_233)
/-- LightsMarketModel.pays(II)I -/
noncomputable def ct_236 : ai_T (List fr_I) 2 := fr_nd 1 (fr_nd 0 ([(0, js_aload_n 0, 1, 1, 0, 0), (1, js_iconst 0, 2, 1, 0, 0), (2, js_putfield 247, 5, 3, 12, 1), (5, js_iload_n 1, 6, 1, 0, 0), (6, js_iconst (-1), 7, 1, 0, 0), (7, js_if_icmp .ne 10, 10, 3, 17, 0), (10, js_iload_n 2, 11, 1, 0, 0), (11, js_ifCond .eq 29, 14, 3, 40, 0), (14, js_goto 20, 17, 3, 34, 0)]) ([(34, js_aload_n 0, 35, 1, 0, 0), (35, js_iconst 1, 36, 1, 0, 0), (36, js_invokevirtual 264, 39, 3, 169, 770), (39, js_ireturn, 40, 1, 0, 0), (40, js_aload_n 0, 41, 1, 0, 0), (41, js_getfield 490, 44, 3, 12, 69), (44, js_ifCond .eq 11, 47, 3, 55, 0)])) (fr_nd 0 ([(17, js_aload_n 0, 18, 1, 0, 0), (18, js_iload_n 1, 19, 1, 0, 0), (19, js_invokevirtual 284, 22, 3, 173, 770), (22, js_ifCond .eq 12, 25, 3, 34, 0)]) ([(55, js_iconst 0, 56, 1, 0, 0), (56, js_ireturn, 57, 1, 0, 0)]))
noncomputable def cy_236 : ai_MT := (⟨"LightsMarketModel", "pays", "(II)I"⟩, prog_14_method_70_code, 4, (some .int), none, 2)
noncomputable def cm_236 : ct_L := some (fr_code 2 ct_236, (fun _ _ => none), (0, 0), cy_236)
/-- LightsMarketModel.unitOf(I)I -/
noncomputable def ct_237 : ai_T (List fr_I) 1 := fr_nd 0 ([(0, js_iload_n 0, 1, 1, 0, 0), (1, js_ifCond .ne 7, 4, 3, 8, 0), (4, js_iconst 1, 5, 1, 0, 0), (5, js_goto 14, 8, 3, 19, 0), (8, js_iload_n 0, 9, 1, 0, 0), (9, js_iconst 1, 10, 1, 0, 0), (10, js_if_icmp .ne 7, 13, 3, 17, 0), (13, js_iconst 3, 14, 1, 0, 0), (14, js_goto 5, 17, 3, 19, 0)]) ([(17, js_bipush 9, 19, 2, 0, 0), (19, js_ireturn, 20, 1, 0, 0)])
noncomputable def cy_237 : ai_MT := (⟨"LightsMarketModel", "unitOf", "(I)I"⟩, prog_14_method_71_code, 1, (some .int), none, 1)
noncomputable def cm_237 : ct_L := some (fr_code 1 ct_237, (fun _ _ => none), (0, 0), cy_237)
/-- LightsMarketModel.tellGains(II)V -/
noncomputable def ct_238 : ai_T (List fr_I) 5 := fr_nd 4 (fr_nd 3 (fr_nd 2 (fr_nd 1 (fr_nd 0 ([(0, js_iconst 0, 1, 1, 0, 0), (1, js_istore_n 3, 2, 1, 0, 0), (2, js_iload_n 3, 3, 1, 0, 0), (3, js_iconst 3, 4, 1, 0, 0), (4, js_if_icmp .ge 36, 7, 3, 40, 0), (7, js_aload_n 0, 8, 1, 0, 0), (8, js_getfield 142, 11, 3, 12, 57), (11, js_iload_n 3, 12, 1, 0, 0), (12, js_iload_n 2, 13, 1, 0, 0), (13, js_iload_n 3, 14, 1, 0, 0), (14, js_invokestatic 514, 17, 3, 237, 1)]) ([(258, js_return_, 259, 1, 0, 0)])) (fr_nd 0 ([(129, js_if_icmp .ge 106, 132, 3, 235, 0)]) ([]))) (fr_nd 1 (fr_nd 0 ([(64, js_iload 5, 66, 2, 0, 0), (66, js_aload_n 0, 67, 1, 0, 0), (67, js_getfield 257, 70, 3, 12, 4), (70, js_if_icmp .ge 23, 73, 3, 93, 0)]) ([])) (fr_nd 0 ([]) ([])))) (fr_nd 2 (fr_nd 1 (fr_nd 0 ([(33, js_iastore, 34, 1, 0, 0), (34, js_iinc 3 1, 37, 3, 0, 0), (37, js_goto (-35), 40, 3, 2, 0), (40, js_aload_n 0, 41, 1, 0, 0), (41, js_invokevirtual 484, 44, 3, 225, 769), (44, js_istore_n 3, 45, 1, 0, 0), (45, js_aload_n 0, 46, 1, 0, 0), (46, js_iload_n 1, 47, 1, 0, 0), (47, js_iload_n 3, 48, 1, 0, 0)]) ([])) (fr_nd 0 ([]) ([]))) (fr_nd 1 (fr_nd 0 ([(96, js_iload 5, 98, 2, 0, 0), (98, js_iconst 3, 99, 1, 0, 0), (99, js_if_icmp .ge 21, 102, 3, 120, 0), (102, js_aload_n 0, 103, 1, 0, 0), (103, js_getfield 187, 106, 3, 12, 80), (106, js_iconst 3, 107, 1, 0, 0), (107, js_iload_n 2, 108, 1, 0, 0), (108, js_imul, 109, 1, 0, 0), (109, js_iload 5, 111, 2, 0, 0), (111, js_iadd, 112, 1, 0, 0)]) ([])) (fr_nd 0 ([(235, js_iconst 0, 236, 1, 0, 0), (236, js_istore 5, 238, 2, 0, 0), (238, js_iload 5, 240, 2, 0, 0)]) ([]))))) (fr_nd 3 (fr_nd 2 (fr_nd 1 (fr_nd 0 ([(17, js_idiv, 18, 1, 0, 0), (18, js_iconst 3, 19, 1, 0, 0), (19, js_irem, 20, 1, 0, 0), (20, js_iastore, 21, 1, 0, 0), (21, js_aload_n 0, 22, 1, 0, 0), (22, js_getfield 187, 25, 3, 12, 80), (25, js_iconst 3, 26, 1, 0, 0), (26, js_iload_n 2, 27, 1, 0, 0), (27, js_imul, 28, 1, 0, 0), (28, js_iload_n 3, 29, 1, 0, 0), (29, js_iadd, 30, 1, 0, 0), (30, js_ldc_w 517, 33, 3, 0, 2146483648)]) ([])) (fr_nd 0 ([]) ([]))) (fr_nd 1 (fr_nd 0 ([(93, js_iconst 0, 94, 1, 0, 0), (94, js_istore 5, 96, 2, 0, 0)]) ([])) (fr_nd 0 ([]) ([])))) (fr_nd 2 (fr_nd 1 (fr_nd 0 ([(48, js_iconst 0, 49, 1, 0, 0), (49, js_iconst (-1), 50, 1, 0, 0), (50, js_invokevirtual 469, 53, 3, 221, 773), (53, js_istore 4, 55, 2, 0, 0), (55, js_iload 4, 57, 2, 0, 0), (57, js_iconst (-1), 58, 1, 0, 0), (58, js_if_icmp .eq 177, 61, 3, 235, 0), (61, js_iconst 0, 62, 1, 0, 0), (62, js_istore 5, 64, 2, 0, 0)]) ([])) (fr_nd 0 ([]) ([]))) (fr_nd 1 (fr_nd 0 ([(112, js_iconst 0, 113, 1, 0, 0), (113, js_iastore, 114, 1, 0, 0), (114, js_iinc 5 1, 117, 3, 0, 0), (117, js_goto (-21), 120, 3, 96, 0), (120, js_iconst 0, 121, 1, 0, 0), (121, js_istore 5, 123, 2, 0, 0), (123, js_iload 5, 125, 2, 0, 0), (125, js_aload_n 0, 126, 1, 0, 0), (126, js_getfield 250, 129, 3, 12, 2)]) ([])) (fr_nd 0 ([(240, js_iconst 3, 241, 1, 0, 0), (241, js_if_icmp .ge 17, 244, 3, 258, 0), (244, js_aload_n 0, 245, 1, 0, 0), (245, js_getfield 142, 248, 3, 12, 57), (248, js_iload 5, 250, 2, 0, 0), (250, js_iconst 0, 251, 1, 0, 0), (251, js_iastore, 252, 1, 0, 0), (252, js_iinc 5 1, 255, 3, 0, 0), (255, js_goto (-17), 258, 3, 238, 0)]) ([])))))
noncomputable def cy_238 : ai_MT := (⟨"LightsMarketModel", "tellGains", "(II)V"⟩, prog_14_method_72_code, 9, none, none, 2)
noncomputable def cm_238 : ct_L := some (fr_code 5 ct_238, (fun _ _ => none), (0, 0), cy_238)
/-- LightsMarketModel.round(I)I -/
noncomputable def ct_239 : ai_T (List fr_I) 3 := fr_nd 2 (fr_nd 1 (fr_nd 0 ([(0, js_iload_n 1, 1, 1, 0, 0), (1, js_istore_n 2, 2, 1, 0, 0), (2, js_iconst 0, 3, 1, 0, 0), (3, js_istore_n 3, 4, 1, 0, 0), (4, js_iload_n 3, 5, 1, 0, 0), (5, js_iconst 3, 6, 1, 0, 0), (6, js_if_icmp .ge 89, 9, 3, 95, 0), (9, js_iload_n 2, 10, 1, 0, 0), (10, js_iload_n 2, 11, 1, 0, 0), (11, js_iload_n 3, 12, 1, 0, 0), (12, js_invokestatic 514, 15, 3, 237, 1), (15, js_idiv, 16, 1, 0, 0)]) ([(66, js_iconst 3, 67, 1, 0, 0), (67, js_iload 5, 69, 2, 0, 0), (69, js_imul, 70, 1, 0, 0), (70, js_iload_n 3, 71, 1, 0, 0), (71, js_iadd, 72, 1, 0, 0), (72, js_iaload, 73, 1, 0, 0), (73, js_if_icmp .le 7, 76, 3, 80, 0)])) (fr_nd 0 ([(33, js_iload 6, 35, 2, 0, 0), (35, js_iconst 3, 36, 1, 0, 0), (36, js_if_icmp .ge 50, 39, 3, 86, 0), (39, js_iload 4, 41, 2, 0, 0), (41, js_iload 6, 43, 2, 0, 0), (43, js_iload_n 3, 44, 1, 0, 0), (44, js_invokestatic 514, 47, 3, 237, 1), (47, js_imul, 48, 1, 0, 0)]) ([(96, js_ireturn, 97, 1, 0, 0)]))) (fr_nd 1 (fr_nd 0 ([(16, js_iconst 3, 17, 1, 0, 0), (17, js_irem, 18, 1, 0, 0), (18, js_iload_n 3, 19, 1, 0, 0), (19, js_invokestatic 514, 22, 3, 237, 1), (22, js_imul, 23, 1, 0, 0), (23, js_isub, 24, 1, 0, 0), (24, js_istore 4, 26, 2, 0, 0), (26, js_iload 4, 28, 2, 0, 0), (28, js_istore 5, 30, 2, 0, 0), (30, js_iconst 1, 31, 1, 0, 0), (31, js_istore 6, 33, 2, 0, 0)]) ([(80, js_iinc 6 1, 83, 3, 0, 0), (83, js_goto (-50), 86, 3, 33, 0), (86, js_iload 5, 88, 2, 0, 0), (88, js_istore_n 2, 89, 1, 0, 0), (89, js_iinc 3 1, 92, 3, 0, 0), (92, js_goto (-88), 95, 3, 4, 0), (95, js_iload_n 2, 96, 1, 0, 0)])) (fr_nd 0 ([(48, js_iadd, 49, 1, 0, 0), (49, js_istore 7, 51, 2, 0, 0), (51, js_aload_n 0, 52, 1, 0, 0), (52, js_getfield 187, 55, 3, 12, 80), (55, js_iconst 3, 56, 1, 0, 0), (56, js_iload 7, 58, 2, 0, 0), (58, js_imul, 59, 1, 0, 0), (59, js_iload_n 3, 60, 1, 0, 0), (60, js_iadd, 61, 1, 0, 0), (61, js_iaload, 62, 1, 0, 0), (62, js_aload_n 0, 63, 1, 0, 0), (63, js_getfield 187, 66, 3, 12, 80)]) ([])))
noncomputable def cy_239 : ai_MT := (⟨"LightsMarketModel", "round", "(I)I"⟩, prog_14_method_73_code, 8, (some .int), none, 1)
noncomputable def cm_239 : ct_L := some (fr_code 3 ct_239, (fun _ _ => none), (0, 0), cy_239)
/-- LightsMarketModel.game(I)I -/
noncomputable def ct_240 : ai_T (List fr_I) 4 := fr_nd 3 (fr_nd 2 (fr_nd 1 (fr_nd 0 ([(0, js_aload_n 0, 1, 1, 0, 0), (1, js_iconst 0, 2, 1, 0, 0), (2, js_putfield 247, 5, 3, 12, 1), (5, js_iload_n 1, 6, 1, 0, 0), (6, js_invokestatic 411, 9, 3, 174, 1), (9, js_ifCond .ne 9, 12, 3, 18, 0), (12, js_aload_n 0, 13, 1, 0, 0), (13, js_iconst 1, 14, 1, 0, 0), (14, js_invokevirtual 264, 17, 3, 169, 770)]) ([(129, js_aload_n 0, 130, 1, 0, 0), (130, js_getfield 193, 133, 3, 12, 82), (133, js_iload 5, 135, 2, 0, 0), (135, js_iload_n 2, 136, 1, 0, 0), (136, js_iload 5, 138, 2, 0, 0), (138, js_invokestatic 514, 141, 3, 237, 1), (141, js_idiv, 142, 1, 0, 0), (142, js_iconst 3, 143, 1, 0, 0), (143, js_irem, 144, 1, 0, 0)])) (fr_nd 0 ([(65, js_ifCond .ne 55, 68, 3, 120, 0), (68, js_aload_n 0, 69, 1, 0, 0), (69, js_iload_n 2, 70, 1, 0, 0), (70, js_invokevirtual 522, 73, 3, 239, 770), (73, js_istore 5, 75, 2, 0, 0), (75, js_iinc 3 1, 78, 3, 0, 0), (78, js_iload 5, 80, 2, 0, 0)]) ([(193, js_iload 5, 195, 2, 0, 0), (195, js_iaload, 196, 1, 0, 0), (196, js_iastore, 197, 1, 0, 0), (197, js_iinc 5 1, 200, 3, 0, 0), (200, js_goto (-41), 203, 3, 159, 0), (203, js_iload 4, 205, 2, 0, 0), (205, js_ireturn, 206, 1, 0, 0)]))) (fr_nd 1 (fr_nd 0 ([(32, js_iload_n 2, 33, 1, 0, 0), (33, js_invokevirtual 518, 36, 3, 238, 771), (36, js_aload_n 0, 37, 1, 0, 0), (37, js_getfield 190, 40, 3, 12, 81), (40, js_iload_n 2, 41, 1, 0, 0), (41, js_iconst (-1), 42, 1, 0, 0), (42, js_iastore, 43, 1, 0, 0), (43, js_iinc 2 1, 46, 3, 0, 0), (46, js_goto (-22), 49, 3, 24, 0)]) ([(161, js_iconst 3, 162, 1, 0, 0), (162, js_if_icmp .ge 41, 165, 3, 203, 0), (165, js_aload_n 0, 166, 1, 0, 0), (166, js_getfield 199, 169, 3, 12, 85), (169, js_iload 5, 171, 2, 0, 0), (171, js_aload_n 0, 172, 1, 0, 0), (172, js_getfield 187, 175, 3, 12, 80), (175, js_iconst 3, 176, 1, 0, 0)])) (fr_nd 0 ([(106, js_aload_n 0, 107, 1, 0, 0), (107, js_getfield 190, 110, 3, 12, 81), (110, js_iload 5, 112, 2, 0, 0)]) ([])))) (fr_nd 2 (fr_nd 1 (fr_nd 0 ([(17, js_ireturn, 18, 1, 0, 0), (18, js_aload_n 0, 19, 1, 0, 0), (19, js_invokevirtual 466, 22, 3, 215, 769), (22, js_iconst 0, 23, 1, 0, 0), (23, js_istore_n 2, 24, 1, 0, 0), (24, js_iload_n 2, 25, 1, 0, 0), (25, js_bipush 27, 27, 2, 0, 0), (27, js_if_icmp .ge 22, 30, 3, 49, 0), (30, js_aload_n 0, 31, 1, 0, 0), (31, js_iload_n 1, 32, 1, 0, 0)]) ([(144, js_iastore, 145, 1, 0, 0), (145, js_iinc 5 1, 148, 3, 0, 0), (148, js_goto (-25), 151, 3, 123, 0), (151, js_aload_n 0, 152, 1, 0, 0), (152, js_iconst 1, 153, 1, 0, 0), (153, js_putfield 525, 156, 3, 12, 83), (156, js_iconst 0, 157, 1, 0, 0), (157, js_istore 5, 159, 2, 0, 0), (159, js_iload 5, 161, 2, 0, 0)])) (fr_nd 0 ([(80, js_iload_n 2, 81, 1, 0, 0), (81, js_if_icmp .ne 9, 84, 3, 90, 0), (84, js_iload_n 3, 85, 1, 0, 0), (85, js_istore 4, 87, 2, 0, 0), (87, js_goto 19, 90, 3, 106, 0)]) ([]))) (fr_nd 1 (fr_nd 0 ([(49, js_iconst 0, 50, 1, 0, 0), (50, js_istore_n 2, 51, 1, 0, 0), (51, js_aload_n 0, 52, 1, 0, 0), (52, js_getfield 190, 55, 3, 12, 81), (55, js_iconst 0, 56, 1, 0, 0), (56, js_iconst 0, 57, 1, 0, 0), (57, js_iastore, 58, 1, 0, 0), (58, js_iconst 0, 59, 1, 0, 0), (59, js_istore_n 3, 60, 1, 0, 0), (60, js_iconst 0, 61, 1, 0, 0), (61, js_istore 4, 63, 2, 0, 0), (63, js_iload 4, 65, 2, 0, 0)]) ([(176, js_iload_n 2, 177, 1, 0, 0), (177, js_imul, 178, 1, 0, 0), (178, js_iload 5, 180, 2, 0, 0), (180, js_iadd, 181, 1, 0, 0), (181, js_iaload, 182, 1, 0, 0), (182, js_iastore, 183, 1, 0, 0), (183, js_aload_n 0, 184, 1, 0, 0), (184, js_getfield 202, 187, 3, 12, 86), (187, js_iload 5, 189, 2, 0, 0), (189, js_aload_n 0, 190, 1, 0, 0), (190, js_getfield 187, 193, 3, 12, 80)])) (fr_nd 0 ([(112, js_iload_n 3, 113, 1, 0, 0), (113, js_iastore, 114, 1, 0, 0), (114, js_iload 5, 116, 2, 0, 0), (116, js_istore_n 2, 117, 1, 0, 0), (117, js_goto (-54), 120, 3, 63, 0), (120, js_iconst 0, 121, 1, 0, 0), (121, js_istore 5, 123, 2, 0, 0), (123, js_iload 5, 125, 2, 0, 0), (125, js_iconst 3, 126, 1, 0, 0), (126, js_if_icmp .ge 25, 129, 3, 151, 0)]) ([]))))
noncomputable def cy_240 : ai_MT := (⟨"LightsMarketModel", "game", "(I)I"⟩, prog_14_method_74_code, 6, (some .int), none, 1)
noncomputable def cm_240 : ct_L := some (fr_code 4 ct_240, (fun _ _ => none), (0, 0), cy_240)
/-- LightsMarketModel.hides(II)I -/
noncomputable def ct_241 : ai_T (List fr_I) 2 := fr_nd 1 (fr_nd 0 ([(0, js_aload_n 0, 1, 1, 0, 0), (1, js_iconst 0, 2, 1, 0, 0), (2, js_putfield 247, 5, 3, 12, 1), (5, js_iload_n 1, 6, 1, 0, 0), (6, js_iconst 0, 7, 1, 0, 0), (7, js_iconst 2, 8, 1, 0, 0), (8, js_invokestatic 253, 11, 3, 171, 3), (11, js_ifCond .eq 19, 14, 3, 30, 0), (14, js_iload_n 2, 15, 1, 0, 0), (15, js_ifCond .lt 15, 18, 3, 30, 0)]) ([(32, js_invokevirtual 264, 35, 3, 169, 770), (35, js_ireturn, 36, 1, 0, 0)])) (fr_nd 0 ([(18, js_iload_n 2, 19, 1, 0, 0), (19, js_iconst 2, 20, 1, 0, 0), (20, js_if_icmp .gt 10, 23, 3, 30, 0), (23, js_aload_n 0, 24, 1, 0, 0), (24, js_getfield 525, 27, 3, 12, 83), (27, js_ifCond .ne 9, 30, 3, 36, 0), (30, js_aload_n 0, 31, 1, 0, 0), (31, js_iconst 1, 32, 1, 0, 0)]) ([]))
noncomputable def cy_241 : ai_MT := (⟨"LightsMarketModel", "hides", "(II)I"⟩, prog_14_method_75_code, 3, (some .int), none, 2)
noncomputable def cm_241 : ct_L := some (fr_code 2 ct_241, (fun _ _ => none), (0, 0), cy_241)
/-- LightsMarketModel.alone(II)Z -/
noncomputable def ct_242 : ai_T (List fr_I) 3 := fr_nd 2 (fr_nd 1 (fr_nd 0 ([(0, js_aload_n 0, 1, 1, 0, 0), (1, js_iconst 0, 2, 1, 0, 0), (2, js_putfield 247, 5, 3, 12, 1), (5, js_iload_n 1, 6, 1, 0, 0), (6, js_iconst 0, 7, 1, 0, 0), (7, js_iconst 2, 8, 1, 0, 0), (8, js_invokestatic 253, 11, 3, 171, 3), (11, js_ifCond .eq 10, 14, 3, 21, 0), (14, js_iload_n 2, 15, 1, 0, 0), (15, js_invokestatic 411, 18, 3, 174, 1)]) ([(66, js_iconst (-1), 67, 1, 0, 0), (67, js_if_icmp .ne 7, 70, 3, 74, 0), (74, js_iconst 0, 75, 1, 0, 0), (75, js_istore_n 3, 76, 1, 0, 0), (76, js_iinc 4 1, 79, 3, 0, 0), (79, js_goto (-38), 82, 3, 41, 0)])) (fr_nd 0 ([(32, js_iload_n 1, 33, 1, 0, 0), (33, js_putfield 148, 36, 3, 12, 61), (36, js_iconst 1, 37, 1, 0, 0), (37, js_istore_n 3, 38, 1, 0, 0), (38, js_iconst 0, 39, 1, 0, 0), (39, js_istore 4, 41, 2, 0, 0), (41, js_iload 4, 43, 2, 0, 0), (43, js_aload_n 0, 44, 1, 0, 0), (44, js_invokevirtual 463, 47, 3, 222, 769), (47, js_if_icmp .gt 35, 50, 3, 82, 0)]) ([]))) (fr_nd 1 (fr_nd 0 ([(18, js_ifCond .ne 9, 21, 3, 27, 0), (21, js_aload_n 0, 22, 1, 0, 0), (22, js_iconst 1, 23, 1, 0, 0), (23, js_invokevirtual 528, 26, 3, 170, 770), (26, js_ireturn, 27, 1, 2, 0), (27, js_aload_n 0, 28, 1, 0, 0), (28, js_invokevirtual 466, 31, 3, 215, 769), (31, js_aload_n 0, 32, 1, 0, 0)]) ([(82, js_aload_n 0, 83, 1, 0, 0), (83, js_iconst (-1), 84, 1, 0, 0), (84, js_putfield 148, 87, 3, 12, 61), (87, js_iload_n 3, 88, 1, 0, 0), (88, js_ireturn, 89, 1, 2, 0)])) (fr_nd 0 ([(50, js_iload_n 3, 51, 1, 0, 0), (51, js_ifCond .eq 23, 54, 3, 74, 0), (54, js_aload_n 0, 55, 1, 0, 0), (55, js_iload_n 2, 56, 1, 0, 0), (56, js_aload_n 0, 57, 1, 0, 0), (57, js_invokevirtual 484, 60, 3, 225, 769), (60, js_iload 4, 62, 2, 0, 0), (62, js_iconst (-1), 63, 1, 0, 0), (63, js_invokevirtual 469, 66, 3, 221, 773)]) ([])))
noncomputable def cy_242 : ai_MT := (⟨"LightsMarketModel", "alone", "(II)Z"⟩, prog_14_method_76_code, 5, (some .boolean), none, 2)
noncomputable def cm_242 : ct_L := some (fr_code 3 ct_242, (fun _ _ => none), (0, 0), cy_242)
/-- LightsMarketModel.night(IIII)Z -/
noncomputable def ct_243 : ai_T (List fr_I) 5 := fr_nd 4 (fr_nd 3 (fr_nd 2 (fr_nd 1 (fr_nd 0 ([(0, js_aload_n 0, 1, 1, 0, 0), (1, js_iconst 0, 2, 1, 0, 0), (2, js_putfield 247, 5, 3, 12, 1), (5, js_iload_n 1, 6, 1, 0, 0), (6, js_invokestatic 411, 9, 3, 174, 1), (9, js_ifCond .ne 9, 12, 3, 18, 0), (12, js_aload_n 0, 13, 1, 0, 0), (13, js_iconst 1, 14, 1, 0, 0), (14, js_invokevirtual 528, 17, 3, 170, 770)]) ([])) (fr_nd 0 ([(130, js_iconst 0, 131, 1, 0, 0), (131, js_ireturn, 132, 1, 2, 0), (132, js_aload_n 0, 133, 1, 0, 0), (133, js_iconst 1, 134, 1, 0, 0), (134, js_putfield 531, 137, 3, 12, 87), (137, js_aload_n 0, 138, 1, 0, 0), (138, js_iconst 0, 139, 1, 0, 0), (139, js_putfield 534, 142, 3, 12, 88), (142, js_aload_n 0, 143, 1, 0, 0), (143, js_iload_n 3, 144, 1, 0, 0)]) ([]))) (fr_nd 1 (fr_nd 0 ([(75, js_iconst 0, 76, 1, 0, 0), (76, js_istore 6, 78, 2, 0, 0), (78, js_iconst 0, 79, 1, 0, 0), (79, js_istore 7, 81, 2, 0, 0)]) ([])) (fr_nd 0 ([(205, js_iconst 0, 206, 1, 0, 0), (206, js_iastore, 207, 1, 0, 0), (207, js_aload_n 0, 208, 1, 0, 0)]) ([])))) (fr_nd 2 (fr_nd 1 (fr_nd 0 ([(32, js_getfield 257, 35, 3, 12, 4), (35, js_if_icmp .ge 40, 38, 3, 75, 0)]) ([(288, js_aload_n 0, 289, 1, 0, 0), (289, js_getfield 250, 292, 3, 12, 2), (292, js_putfield 553, 295, 3, 12, 100), (295, js_aload_n 0, 296, 1, 0, 0), (296, js_aload_n 0, 297, 1, 0, 0), (297, js_getfield 257, 300, 3, 12, 4), (300, js_putfield 556, 303, 3, 12, 101), (303, js_iconst 1, 304, 1, 0, 0)])) (fr_nd 0 ([(160, js_iconst 0, 161, 1, 0, 0), (161, js_putfield 547, 164, 3, 12, 93), (164, js_aload_n 0, 165, 1, 0, 0), (165, js_iconst 0, 166, 1, 0, 0), (166, js_putfield 550, 169, 3, 12, 94), (169, js_iconst 0, 170, 1, 0, 0), (170, js_istore 7, 172, 2, 0, 0), (172, js_iload 7, 174, 2, 0, 0), (174, js_iconst 4, 175, 1, 0, 0), (175, js_if_icmp .ge 60, 178, 3, 235, 0)]) ([]))) (fr_nd 1 (fr_nd 0 ([]) ([])) (fr_nd 0 ([(225, js_iload 7, 227, 2, 0, 0), (227, js_iconst (-1), 228, 1, 0, 0), (228, js_iastore, 229, 1, 0, 0), (229, js_iinc 7 1, 232, 3, 0, 0), (232, js_goto (-60), 235, 3, 172, 0), (235, js_iconst 0, 236, 1, 0, 0), (236, js_istore 7, 238, 2, 0, 0), (238, js_iload 7, 240, 2, 0, 0)]) ([]))))) (fr_nd 3 (fr_nd 2 (fr_nd 1 (fr_nd 0 ([(17, js_ireturn, 18, 1, 2, 0), (18, js_iload_n 3, 19, 1, 0, 0), (19, js_iconst 1, 20, 1, 0, 0), (20, js_iconst 3, 21, 1, 0, 0), (21, js_invokestatic 253, 24, 3, 171, 3), (24, js_istore 5, 26, 2, 0, 0), (26, js_iconst 0, 27, 1, 0, 0), (27, js_istore 6, 29, 2, 0, 0), (29, js_iload 6, 31, 2, 0, 0), (31, js_aload_n 0, 32, 1, 0, 0)]) ([(287, js_aload_n 0, 288, 1, 0, 0)])) (fr_nd 0 ([(144, js_putfield 537, 147, 3, 12, 90), (147, js_aload_n 0, 148, 1, 0, 0), (148, js_iconst 0, 149, 1, 0, 0), (149, js_putfield 540, 152, 3, 12, 91), (152, js_aload_n 0, 153, 1, 0, 0), (153, js_ldc_w 543, 156, 3, 0, 2147533648), (156, js_putfield 544, 159, 3, 12, 92), (159, js_aload_n 0, 160, 1, 0, 0)]) ([]))) (fr_nd 1 (fr_nd 0 ([(81, js_iload 7, 83, 2, 0, 0), (83, js_aload_n 0, 84, 1, 0, 0), (84, js_getfield 250, 87, 3, 12, 2), (87, js_if_icmp .ge 25, 90, 3, 112, 0)]) ([])) (fr_nd 0 ([(208, js_getfield 217, 211, 3, 12, 99), (211, js_iload 7, 213, 2, 0, 0), (213, js_aload_n 0, 214, 1, 0, 0), (214, js_getfield 47, 217, 3, 12, 13), (217, js_iload 7, 219, 2, 0, 0), (219, js_iaload, 220, 1, 0, 0), (220, js_iastore, 221, 1, 0, 0), (221, js_aload_n 0, 222, 1, 0, 0), (222, js_getfield 208, 225, 3, 12, 96)]) ([])))) (fr_nd 2 (fr_nd 1 (fr_nd 0 ([]) ([(304, js_ireturn, 305, 1, 2, 0)])) (fr_nd 0 ([(178, js_aload_n 0, 179, 1, 0, 0), (179, js_getfield 205, 182, 3, 12, 95), (182, js_iload 7, 184, 2, 0, 0), (184, js_iload 7, 186, 2, 0, 0), (186, js_aload_n 0, 187, 1, 0, 0), (187, js_getfield 257, 190, 3, 12, 4), (190, js_if_icmp .ge 15, 193, 3, 205, 0)]) ([]))) (fr_nd 1 (fr_nd 0 ([(112, js_iload 5, 114, 2, 0, 0), (114, js_ifCond .eq 16, 117, 3, 130, 0), (117, js_iload 6, 119, 2, 0, 0), (119, js_iconst 1, 120, 1, 0, 0), (120, js_aload_n 0, 121, 1, 0, 0), (121, js_getfield 250, 124, 3, 12, 2), (124, js_ishl, 125, 1, 0, 0), (125, js_iconst 1, 126, 1, 0, 0), (126, js_isub, 127, 1, 0, 0), (127, js_if_icmp .eq 5, 130, 3, 132, 0)]) ([])) (fr_nd 0 ([(240, js_aload_n 0, 241, 1, 0, 0), (241, js_getfield 250, 244, 3, 12, 2), (244, js_if_icmp .ge 43, 247, 3, 287, 0)]) ([])))))
noncomputable def cy_243 : ai_MT := (⟨"LightsMarketModel", "night", "(IIII)Z"⟩, prog_14_method_77_code, 8, (some .boolean), none, 4)
noncomputable def cm_243 : ct_L := some (fr_code 5 ct_243, (fun _ _ => none), (0, 0), cy_243)
/-- LightsMarketModel.falls(II)Z -/
noncomputable def ct_244 : ai_T (List fr_I) 1 := fr_nd 0 ([(0, js_aload_n 0, 1, 1, 0, 0), (1, js_iconst 0, 2, 1, 0, 0), (2, js_putfield 247, 5, 3, 12, 1), (5, js_aload_n 0, 6, 1, 0, 0), (6, js_iload_n 1, 7, 1, 0, 0), (7, js_invokevirtual 284, 10, 3, 173, 770), (10, js_ifCond .ne 9, 13, 3, 19, 0), (13, js_aload_n 0, 14, 1, 0, 0), (14, js_iconst 1, 15, 1, 0, 0), (15, js_invokevirtual 528, 18, 3, 170, 770)]) ([(18, js_ireturn, 19, 1, 2, 0)])
noncomputable def cy_244 : ai_MT := (⟨"LightsMarketModel", "falls", "(II)Z"⟩, prog_14_method_78_code, 3, (some .boolean), none, 2)
noncomputable def cm_244 : ct_L := some (fr_code 1 ct_244, (fun _ _ => none), (0, 0), cy_244)
/-- LightsMarketModel.minutes(I)I -/
noncomputable def ct_247 : ai_T (List fr_I) 0 := [(0, js_aload_n 0, 1, 1, 0, 0), (1, js_iconst 0, 2, 1, 0, 0), (2, js_putfield 247, 5, 3, 12, 1), (5, js_aload_n 0, 6, 1, 0, 0), (6, js_getfield 531, 9, 3, 12, 87), (9, js_ifCond .ne 5, 12, 3, 14, 0), (12, js_iconst (-1), 13, 1, 0, 0), (13, js_ireturn, 14, 1, 0, 0)]
noncomputable def cy_247 : ai_MT := (⟨"LightsMarketModel", "minutes", "(I)I"⟩, prog_14_method_81_code, 3, (some .int), none, 1)
noncomputable def cm_247 : ct_L := some (fr_code 0 ct_247, (fun _ _ => none), (0, 0), cy_247)
/-- LightsMarketModel.ofNight(I)I -/
noncomputable def ct_248 : ai_T (List fr_I) 1 := fr_nd 0 ([(0, js_aload_n 0, 1, 1, 0, 0), (1, js_iconst 0, 2, 1, 0, 0), (2, js_putfield 247, 5, 3, 12, 1), (5, js_iload_n 1, 6, 1, 0, 0), (6, js_ifCond .lt 15, 9, 3, 21, 0), (9, js_iload_n 1, 10, 1, 0, 0), (10, js_iconst 4, 11, 1, 0, 0), (11, js_if_icmp .gt 10, 14, 3, 21, 0), (14, js_aload_n 0, 15, 1, 0, 0), (15, js_getfield 531, 18, 3, 12, 87)]) ([(18, js_ifCond .ne 9, 21, 3, 27, 0), (21, js_aload_n 0, 22, 1, 0, 0), (22, js_iconst 1, 23, 1, 0, 0), (23, js_invokevirtual 264, 26, 3, 169, 770), (26, js_ireturn, 27, 1, 0, 0)])
noncomputable def cy_248 : ai_MT := (⟨"LightsMarketModel", "ofNight", "(I)I"⟩, prog_14_method_82_code, 2, (some .int), none, 1)
noncomputable def cm_248 : ct_L := some (fr_code 1 ct_248, (fun _ _ => none), (0, 0), cy_248)
/-- LightsMarketModel.starts(IZI)Z -/
noncomputable def ct_249 : ai_T (List fr_I) 1 := fr_nd 0 ([(0, js_aload_n 0, 1, 1, 0, 0), (1, js_iconst 0, 2, 1, 0, 0), (2, js_putfield 247, 5, 3, 12, 1), (5, js_aload_n 0, 6, 1, 0, 0), (6, js_iload_n 1, 7, 1, 0, 0), (7, js_invokevirtual 284, 10, 3, 173, 770), (10, js_ifCond .ne 9, 13, 3, 19, 0), (13, js_aload_n 0, 14, 1, 0, 0), (14, js_iconst 1, 15, 1, 0, 0), (15, js_invokevirtual 528, 18, 3, 170, 770)]) ([(18, js_ireturn, 19, 1, 2, 0)])
noncomputable def cy_249 : ai_MT := (⟨"LightsMarketModel", "starts", "(IZI)Z"⟩, prog_14_method_83_code, 4, (some .boolean), none, 3)
noncomputable def cm_249 : ct_L := some (fr_code 1 ct_249, (fun _ _ => none), (0, 0), cy_249)
/-- LightsMarketModel.behind(III)I -/
noncomputable def ct_252 : ai_T (List fr_I) 4 := fr_nd 3 (fr_nd 2 (fr_nd 1 (fr_nd 0 ([(0, js_iload_n 1, 1, 1, 0, 0), (1, js_bipush 15, 3, 2, 0, 0), (3, js_iand, 4, 1, 0, 0), (4, js_istore 4, 6, 2, 0, 0), (6, js_iload_n 1, 7, 1, 0, 0), (7, js_iconst 4, 8, 1, 0, 0), (8, js_ishr, 9, 1, 0, 0), (9, js_bipush 15, 11, 2, 0, 0), (11, js_iand, 12, 1, 0, 0), (12, js_istore 5, 14, 2, 0, 0), (14, js_iload_n 1, 15, 1, 0, 0), (15, js_bipush 8, 17, 2, 0, 0)]) ([(128, js_if_icmp .ge 80, 131, 3, 208, 0), (131, js_iload_n 2, 132, 1, 0, 0), (132, js_iconst 4, 133, 1, 0, 0), (133, js_isub, 134, 1, 0, 0), (134, js_istore 7, 136, 2, 0, 0), (136, js_iload 7, 138, 2, 0, 0), (138, js_aload_n 0, 139, 1, 0, 0), (139, js_getfield 268, 142, 3, 12, 3), (142, js_if_icmp .lt 5, 145, 3, 147, 0)])) (fr_nd 0 ([]) ([]))) (fr_nd 1 (fr_nd 0 ([(43, js_iconst (-1), 44, 1, 0, 0), (44, js_ireturn, 45, 1, 0, 0)]) ([])) (fr_nd 0 ([]) ([])))) (fr_nd 2 (fr_nd 1 (fr_nd 0 ([(17, js_ishr, 18, 1, 0, 0), (18, js_istore 6, 20, 2, 0, 0), (20, js_iload_n 2, 21, 1, 0, 0), (21, js_iconst 4, 22, 1, 0, 0), (22, js_if_icmp .ge 103, 25, 3, 125, 0), (25, js_iload_n 2, 26, 1, 0, 0), (26, js_aload_n 0, 27, 1, 0, 0), (27, js_getfield 257, 30, 3, 12, 4), (30, js_if_icmp .ge 13, 33, 3, 43, 0)]) ([(145, js_iconst (-1), 146, 1, 0, 0), (146, js_ireturn, 147, 1, 0, 0)])) (fr_nd 0 ([]) ([(208, js_iload_n 2, 209, 1, 0, 0), (209, js_bipush 9, 211, 2, 0, 0), (211, js_isub, 212, 1, 0, 0), (212, js_istore 7, 214, 2, 0, 0), (214, js_iload 7, 216, 2, 0, 0), (216, js_aload_n 0, 217, 1, 0, 0), (217, js_getfield 250, 220, 3, 12, 2), (220, js_if_icmp .ge 24, 223, 3, 244, 0)]))) (fr_nd 1 (fr_nd 0 ([]) ([])) (fr_nd 0 ([(125, js_iload_n 2, 126, 1, 0, 0), (126, js_bipush 9, 128, 2, 0, 0)]) ([(244, js_iconst (-1), 245, 1, 0, 0), (245, js_ireturn, 246, 1, 0, 0)]))))
noncomputable def cy_252 : ai_MT := (⟨"LightsMarketModel", "behind", "(III)I"⟩, prog_14_method_86_code, 10, (some .int), none, 3)
noncomputable def cm_252 : ct_L := some (fr_code 4 ct_252, (fun _ _ => none), (0, 0), cy_252)
/-- LightsMarketModel.way(I)I -/
noncomputable def ct_253 : ai_T (List fr_I) 5 := fr_nd 4 (fr_nd 3 (fr_nd 2 (fr_nd 1 (fr_nd 0 ([(0, js_aload_n 0, 1, 1, 0, 0), (1, js_iconst 0, 2, 1, 0, 0), (2, js_putfield 247, 5, 3, 12, 1), (5, js_iload_n 1, 6, 1, 0, 0), (6, js_invokestatic 411, 9, 3, 174, 1), (9, js_ifCond .ne 9, 12, 3, 18, 0), (12, js_aload_n 0, 13, 1, 0, 0), (13, js_iconst 1, 14, 1, 0, 0), (14, js_invokevirtual 264, 17, 3, 169, 770)]) ([])) (fr_nd 0 ([]) ([]))) (fr_nd 1 (fr_nd 0 ([(65, js_ifCond .eq 7, 68, 3, 72, 0), (68, js_iconst 0, 69, 1, 0, 0), (69, js_goto 4, 72, 3, 73, 0), (72, js_iconst (-1), 73, 1, 0, 0), (73, js_iastore, 74, 1, 0, 0), (74, js_iconst 0, 75, 1, 0, 0), (75, js_istore 5, 77, 2, 0, 0), (77, js_iload 5, 79, 2, 0, 0), (79, js_bipush 13, 81, 2, 0, 0)]) ([])) (fr_nd 0 ([(193, js_iconst 0, 194, 1, 0, 0), (194, js_istore_n 3, 195, 1, 0, 0), (195, js_iconst 0, 196, 1, 0, 0), (196, js_istore 4, 198, 2, 0, 0), (198, js_iload 4, 200, 2, 0, 0), (200, js_aload_n 0, 201, 1, 0, 0), (201, js_getfield 232, 204, 3, 12, 106), (204, js_if_icmp .ge 85, 207, 3, 289, 0)]) ([])))) (fr_nd 2 (fr_nd 1 (fr_nd 0 ([(32, js_ifCond .lt 139, 35, 3, 171, 0), (35, js_iload_n 3, 36, 1, 0, 0), (36, js_bipush 15, 38, 2, 0, 0), (38, js_iand, 39, 1, 0, 0), (39, js_iload_n 2, 40, 1, 0, 0), (40, js_if_icmp .ne 15, 43, 3, 55, 0), (43, js_iload_n 3, 44, 1, 0, 0), (44, js_bipush 8, 46, 2, 0, 0), (46, js_ishr, 47, 1, 0, 0), (47, js_iload_n 2, 48, 1, 0, 0)]) ([(289, js_aload_n 0, 290, 1, 0, 0), (290, js_getfield 232, 293, 3, 12, 106), (293, js_ireturn, 294, 1, 0, 0)])) (fr_nd 0 ([(162, js_goto (-85), 165, 3, 77, 0), (165, js_iinc 3 (-1), 168, 3, 0, 0), (168, js_goto (-137), 171, 3, 31, 0), (171, js_aload_n 0, 172, 1, 0, 0), (172, js_getfield 226, 175, 3, 12, 104), (175, js_iconst 0, 176, 1, 0, 0)]) ([]))) (fr_nd 1 (fr_nd 0 ([(97, js_istore 6, 99, 2, 0, 0), (99, js_iload 6, 101, 2, 0, 0), (101, js_iconst (-1), 102, 1, 0, 0), (102, js_if_icmp .eq 57, 105, 3, 159, 0)]) ([])) (fr_nd 0 ([]) ([]))))) (fr_nd 3 (fr_nd 2 (fr_nd 1 (fr_nd 0 ([(17, js_ireturn, 18, 1, 0, 0), (18, js_iconst 1, 19, 1, 0, 0), (19, js_aload_n 0, 20, 1, 0, 0), (20, js_getfield 250, 23, 3, 12, 2), (23, js_ishl, 24, 1, 0, 0), (24, js_iconst 1, 25, 1, 0, 0), (25, js_isub, 26, 1, 0, 0), (26, js_istore_n 2, 27, 1, 0, 0), (27, js_sipush 4095, 30, 3, 0, 0), (30, js_istore_n 3, 31, 1, 0, 0), (31, js_iload_n 3, 32, 1, 0, 0)]) ([])) (fr_nd 0 ([(159, js_iinc 5 1, 162, 3, 0, 0)]) ([]))) (fr_nd 1 (fr_nd 0 ([(81, js_if_icmp .ge 84, 84, 3, 165, 0), (84, js_iload 4, 86, 2, 0, 0), (86, js_ifCond .ne 79, 89, 3, 165, 0), (89, js_aload_n 0, 90, 1, 0, 0), (90, js_iload_n 3, 91, 1, 0, 0), (91, js_iload 5, 93, 2, 0, 0), (93, js_iload_n 1, 94, 1, 0, 0), (94, js_invokevirtual 574, 97, 3, 252, 772)]) ([])) (fr_nd 0 ([]) ([])))) (fr_nd 2 (fr_nd 1 (fr_nd 0 ([(48, js_if_icmp .ne 7, 51, 3, 55, 0), (51, js_iconst 1, 52, 1, 0, 0), (52, js_goto 4, 55, 3, 56, 0), (55, js_iconst 0, 56, 1, 0, 0), (56, js_istore 4, 58, 2, 0, 0), (58, js_aload_n 0, 59, 1, 0, 0), (59, js_getfield 226, 62, 3, 12, 104), (62, js_iload_n 3, 63, 1, 0, 0), (63, js_iload 4, 65, 2, 0, 0)]) ([])) (fr_nd 0 ([(176, js_iaload, 177, 1, 0, 0), (177, js_iconst (-1), 178, 1, 0, 0), (178, js_if_icmp .ne 5, 181, 3, 183, 0), (183, js_aload_n 0, 184, 1, 0, 0), (184, js_aload_n 0, 185, 1, 0, 0), (185, js_getfield 226, 188, 3, 12, 104), (188, js_iconst 0, 189, 1, 0, 0), (189, js_iaload, 190, 1, 0, 0), (190, js_putfield 232, 193, 3, 12, 106)]) ([]))) (fr_nd 1 (fr_nd 0 ([]) ([])) (fr_nd 0 ([]) ([])))))
noncomputable def cy_253 : ai_MT := (⟨"LightsMarketModel", "way", "(I)I"⟩, prog_14_method_87_code, 7, (some .int), none, 1)
noncomputable def cm_253 : ct_L := some (fr_code 5 ct_253, (fun _ _ => none), (0, 0), cy_253)
/-- LightsMarketModel.act(I)I -/
noncomputable def ct_254 : ai_T (List fr_I) 1 := fr_nd 0 ([(0, js_aload_n 0, 1, 1, 0, 0), (1, js_iconst 0, 2, 1, 0, 0), (2, js_putfield 247, 5, 3, 12, 1), (5, js_iload_n 1, 6, 1, 0, 0), (6, js_ifCond .lt 11, 9, 3, 17, 0), (9, js_iload_n 1, 10, 1, 0, 0), (10, js_aload_n 0, 11, 1, 0, 0), (11, js_getfield 232, 14, 3, 12, 106), (14, js_if_icmp .lt 11, 17, 3, 25, 0)]) ([(17, js_aload_n 0, 18, 1, 0, 0), (18, js_iconst 1, 19, 1, 0, 0), (19, js_invokevirtual 264, 22, 3, 169, 770), (22, js_goto 9, 25, 3, 31, 0), (31, js_ireturn, 32, 1, 0, 0)])
noncomputable def cy_254 : ai_MT := (⟨"LightsMarketModel", "act", "(I)I"⟩, prog_14_method_88_code, 2, (some .int), none, 1)
noncomputable def cm_254 : ct_L := some (fr_code 1 ct_254, (fun _ _ => none), (0, 0), cy_254)
/-- LightsMarketModel.evenings(I)I -/
noncomputable def ct_255 : ai_T (List fr_I) 2 := fr_nd 1 (fr_nd 0 ([(0, js_aload_n 0, 1, 1, 0, 0), (1, js_iconst 0, 2, 1, 0, 0), (2, js_putfield 247, 5, 3, 12, 1), (5, js_iload_n 1, 6, 1, 0, 0), (6, js_ifCond .lt 20, 9, 3, 26, 0), (9, js_iload_n 1, 10, 1, 0, 0), (10, js_bipush 99, 12, 2, 0, 0), (12, js_if_icmp .gt 14, 15, 3, 26, 0), (15, js_aload_n 0, 16, 1, 0, 0)]) ([(32, js_aload_n 0, 33, 1, 0, 0), (33, js_dup, 34, 1, 0, 0), (34, js_getfield 577, 37, 3, 12, 107), (37, js_iload_n 1, 38, 1, 0, 0), (38, js_iadd, 39, 1, 0, 0), (39, js_putfield 577, 42, 3, 12, 107), (42, js_aload_n 0, 43, 1, 0, 0), (43, js_getfield 577, 46, 3, 12, 107), (46, js_ireturn, 47, 1, 0, 0)])) (fr_nd 0 ([(16, js_getfield 577, 19, 3, 12, 107), (19, js_iload_n 1, 20, 1, 0, 0), (20, js_iadd, 21, 1, 0, 0), (21, js_bipush 99, 23, 2, 0, 0), (23, js_if_icmp .le 9, 26, 3, 32, 0), (26, js_aload_n 0, 27, 1, 0, 0), (27, js_iconst 1, 28, 1, 0, 0), (28, js_invokevirtual 264, 31, 3, 169, 770), (31, js_ireturn, 32, 1, 0, 0)]) ([]))
noncomputable def cy_255 : ai_MT := (⟨"LightsMarketModel", "evenings", "(I)I"⟩, prog_14_method_89_code, 2, (some .int), none, 1)
noncomputable def cm_255 : ct_L := some (fr_code 2 ct_255, (fun _ _ => none), (0, 0), cy_255)
/-- LightsMarketModel.meter(III)I -/
noncomputable def ct_256 : ai_T (List fr_I) 1 := fr_nd 0 ([(0, js_aload_n 0, 1, 1, 0, 0), (1, js_iconst 0, 2, 1, 0, 0), (2, js_putfield 247, 5, 3, 12, 1), (5, js_aload_n 0, 6, 1, 0, 0), (6, js_iload_n 1, 7, 1, 0, 0), (7, js_invokevirtual 260, 10, 3, 172, 770), (10, js_ifCond .eq 10, 13, 3, 20, 0)]) ([(20, js_aload_n 0, 21, 1, 0, 0), (21, js_iconst 1, 22, 1, 0, 0), (22, js_invokevirtual 264, 25, 3, 169, 770), (25, js_ireturn, 26, 1, 0, 0)])
noncomputable def cy_256 : ai_MT := (⟨"LightsMarketModel", "meter", "(III)I"⟩, prog_14_method_90_code, 4, (some .int), none, 3)
noncomputable def cm_256 : ct_L := some (fr_code 1 ct_256, (fun _ _ => none), (0, 0), cy_256)
/-- LightsMarketModel.bill(II)I -/
noncomputable def ct_257 : ai_T (List fr_I) 1 := fr_nd 0 ([(0, js_aload_n 0, 1, 1, 0, 0), (1, js_iconst 0, 2, 1, 0, 0), (2, js_putfield 247, 5, 3, 12, 1), (5, js_aload_n 0, 6, 1, 0, 0), (6, js_iload_n 1, 7, 1, 0, 0), (7, js_invokevirtual 260, 10, 3, 172, 770), (10, js_ifCond .ne 9, 13, 3, 19, 0), (13, js_aload_n 0, 14, 1, 0, 0), (14, js_iconst 1, 15, 1, 0, 0), (15, js_invokevirtual 264, 18, 3, 169, 770)]) ([(18, js_ireturn, 19, 1, 0, 0)])
noncomputable def cy_257 : ai_MT := (⟨"LightsMarketModel", "bill", "(II)I"⟩, prog_14_method_91_code, 7, (some .int), none, 2)
noncomputable def cm_257 : ct_L := some (fr_code 1 ct_257, (fun _ _ => none), (0, 0), cy_257)
/-- LightsMarketModel.count(I)I -/
noncomputable def ct_258 : ai_T (List fr_I) 3 := fr_nd 2 (fr_nd 1 (fr_nd 0 ([(0, js_aload_n 0, 1, 1, 0, 0), (1, js_iconst 0, 2, 1, 0, 0), (2, js_putfield 247, 5, 3, 12, 1), (5, js_iload_n 1, 6, 1, 0, 0), (6, js_tableswitch 86 0 7 #[46, 51, 56, 61, 66, 71, 76, 81], 52, 46, 0, 0)]) ([(66, js_ireturn, 67, 1, 0, 0), (67, js_aload_n 0, 68, 1, 0, 0), (68, js_getfield 257, 71, 3, 12, 4), (71, js_ireturn, 72, 1, 0, 0), (72, js_aload_n 0, 73, 1, 0, 0), (73, js_getfield 275, 76, 3, 12, 5), (76, js_ireturn, 77, 1, 0, 0), (77, js_aload_n 0, 78, 1, 0, 0), (78, js_getfield 580, 81, 3, 12, 108)])) (fr_nd 0 ([]) ([(97, js_ireturn, 98, 1, 0, 0)]))) (fr_nd 1 (fr_nd 0 ([]) ([(81, js_ireturn, 82, 1, 0, 0), (82, js_aload_n 0, 83, 1, 0, 0), (83, js_getfield 490, 86, 3, 12, 69), (86, js_ireturn, 87, 1, 0, 0), (87, js_aload_n 0, 88, 1, 0, 0), (88, js_getfield 287, 91, 3, 12, 26), (91, js_ireturn, 92, 1, 0, 0), (92, js_aload_n 0, 93, 1, 0, 0), (93, js_iconst 1, 94, 1, 0, 0), (94, js_invokevirtual 264, 97, 3, 169, 770)])) (fr_nd 0 ([(52, js_aload_n 0, 53, 1, 0, 0), (53, js_getfield 577, 56, 3, 12, 107), (56, js_ireturn, 57, 1, 0, 0), (57, js_aload_n 0, 58, 1, 0, 0), (58, js_getfield 250, 61, 3, 12, 2), (61, js_ireturn, 62, 1, 0, 0), (62, js_aload_n 0, 63, 1, 0, 0), (63, js_getfield 268, 66, 3, 12, 3)]) ([])))
noncomputable def cy_258 : ai_MT := (⟨"LightsMarketModel", "count", "(I)I"⟩, prog_14_method_92_code, 2, (some .int), none, 1)
noncomputable def cm_258 : ct_L := some (fr_code 3 ct_258, (fun _ _ => none), (0, 0), cy_258)
/-- LightsMarketLaw.line(LLightsMarket;IIII[J)I -/
noncomputable def ct_259 : ai_T (List fr_I) 1 := fr_nd 0 ([(0, js_aload 5, 2, 2, 0, 0), (2, js_iconst 0, 3, 1, 0, 0), (3, js_aload_n 0, 4, 1, 0, 0), (4, js_iload_n 1, 5, 1, 0, 0), (5, js_iload_n 2, 6, 1, 0, 0), (6, js_iload_n 3, 7, 1, 0, 0), (7, js_iload 4, 9, 2, 0, 0), (9, js_invokevirtual 7, 12, 3, 134, 709)]) ([(19, js_iconst 1, 20, 1, 0, 0), (20, js_ireturn, 21, 1, 0, 0)])
noncomputable def cy_259 : ai_MT := (⟨"LightsMarketLaw", "line", "(LLightsMarket;IIII[J)I"⟩, method_3_code, 7, (some .int), (some [(0, 14, 17, 13)]), 6)
noncomputable def cm_259 : ct_L := some (fr_code 1 ct_259, (ct_hand [(0, 14, 0, 6, 19)]), (1, 6), cy_259)
/-- LightsMarketLaw.mill(LLightsMarket;IIIIIIIII[J)I -/
noncomputable def ct_260 : ai_T (List fr_I) 1 := fr_nd 0 ([(0, js_aload 10, 2, 2, 0, 0), (2, js_iconst 0, 3, 1, 0, 0), (3, js_aload_n 0, 4, 1, 0, 0), (4, js_iload_n 1, 5, 1, 0, 0), (5, js_iload_n 2, 6, 1, 0, 0), (6, js_iload_n 3, 7, 1, 0, 0), (7, js_iload 4, 9, 2, 0, 0), (9, js_iload 5, 11, 2, 0, 0), (11, js_iload 6, 13, 2, 0, 0), (13, js_iload 7, 15, 2, 0, 0), (15, js_iload 8, 17, 2, 0, 0)]) ([(17, js_iload 9, 19, 2, 0, 0), (19, js_invokevirtual 15, 22, 3, 135, 714), (29, js_iconst 1, 30, 1, 0, 0), (30, js_ireturn, 31, 1, 0, 0)])
noncomputable def cy_260 : ai_MT := (⟨"LightsMarketLaw", "mill", "(LLightsMarket;IIIIIIIII[J)I"⟩, method_4_code, 12, (some .int), (some [(0, 24, 27, 13)]), 11)
noncomputable def cm_260 : ct_L := some (fr_code 1 ct_260, (ct_hand [(0, 24, 0, 11, 29)]), (1, 6), cy_260)
/-- LightsMarketLaw.write(LLightsMarket;III[J)I -/
noncomputable def ct_261 : ai_T (List fr_I) 1 := fr_nd 0 ([(0, js_aload 4, 2, 2, 0, 0), (2, js_iconst 0, 3, 1, 0, 0), (3, js_aload_n 0, 4, 1, 0, 0), (4, js_iload_n 1, 5, 1, 0, 0), (5, js_iload_n 2, 6, 1, 0, 0), (6, js_iload_n 3, 7, 1, 0, 0), (7, js_invokevirtual 19, 10, 3, 137, 708)]) ([(17, js_iconst 1, 18, 1, 0, 0), (18, js_ireturn, 19, 1, 0, 0)])
noncomputable def cy_261 : ai_MT := (⟨"LightsMarketLaw", "write", "(LLightsMarket;III[J)I"⟩, method_5_code, 6, (some .int), (some [(0, 12, 15, 13)]), 5)
noncomputable def cm_261 : ct_L := some (fr_code 1 ct_261, (ct_hand [(0, 12, 0, 5, 17)]), (1, 6), cy_261)
/-- LightsMarketLaw.copy(LLightsMarket;IIIII[J)I -/
noncomputable def ct_262 : ai_T (List fr_I) 1 := fr_nd 0 ([(0, js_aload 6, 2, 2, 0, 0), (2, js_iconst 0, 3, 1, 0, 0), (3, js_aload_n 0, 4, 1, 0, 0), (4, js_iload_n 1, 5, 1, 0, 0), (5, js_iload_n 2, 6, 1, 0, 0), (6, js_iload_n 3, 7, 1, 0, 0), (7, js_iload 4, 9, 2, 0, 0), (9, js_iload 5, 11, 2, 0, 0), (11, js_invokevirtual 23, 14, 3, 138, 710)]) ([(21, js_iconst 1, 22, 1, 0, 0), (22, js_ireturn, 23, 1, 0, 0)])
noncomputable def cy_262 : ai_MT := (⟨"LightsMarketLaw", "copy", "(LLightsMarket;IIIII[J)I"⟩, method_6_code, 8, (some .int), (some [(0, 16, 19, 13)]), 7)
noncomputable def cm_262 : ct_L := some (fr_code 1 ct_262, (ct_hand [(0, 16, 0, 7, 21)]), (1, 6), cy_262)
/-- LightsMarketLaw.day(LLightsMarket;IIII[J)I -/
noncomputable def ct_263 : ai_T (List fr_I) 1 := fr_nd 0 ([(0, js_aload 5, 2, 2, 0, 0), (2, js_iconst 0, 3, 1, 0, 0), (3, js_aload_n 0, 4, 1, 0, 0), (4, js_iload_n 1, 5, 1, 0, 0), (5, js_iload_n 2, 6, 1, 0, 0), (6, js_iload_n 3, 7, 1, 0, 0), (7, js_iload 4, 9, 2, 0, 0), (9, js_invokevirtual 27, 12, 3, 139, 709)]) ([(19, js_iconst 1, 20, 1, 0, 0), (20, js_ireturn, 21, 1, 0, 0)])
noncomputable def cy_263 : ai_MT := (⟨"LightsMarketLaw", "day", "(LLightsMarket;IIII[J)I"⟩, method_7_code, 7, (some .int), (some [(0, 14, 17, 13)]), 6)
noncomputable def cm_263 : ct_L := some (fr_code 1 ct_263, (ct_hand [(0, 14, 0, 6, 19)]), (1, 6), cy_263)
/-- LightsMarketLaw.offer(LLightsMarket;II[J)I -/
noncomputable def ct_264 : ai_T (List fr_I) 1 := fr_nd 0 ([(0, js_aload_n 3, 1, 1, 0, 0), (1, js_iconst 0, 2, 1, 0, 0), (2, js_aload_n 0, 3, 1, 0, 0), (3, js_iload_n 1, 4, 1, 0, 0), (4, js_iload_n 2, 5, 1, 0, 0), (5, js_invokevirtual 30, 8, 3, 141, 707), (15, js_iconst 1, 16, 1, 0, 0)]) ([(16, js_ireturn, 17, 1, 0, 0)])
noncomputable def cy_264 : ai_MT := (⟨"LightsMarketLaw", "offer", "(LLightsMarket;II[J)I"⟩, method_8_code, 5, (some .int), (some [(0, 10, 13, 13), (0, 10, 17, 34)]), 4)
noncomputable def cm_264 : ct_L := some (fr_code 1 ct_264, (ct_hand [(0, 10, 0, 4, 15), (0, 10, 1, 4, 19)]), (1, 6), cy_264)
/-- LightsMarketLaw.asked(LLightsMarket;III[J)I -/
noncomputable def ct_265 : ai_T (List fr_I) 1 := fr_nd 0 ([(0, js_aload 4, 2, 2, 0, 0), (2, js_iconst 0, 3, 1, 0, 0), (3, js_aload_n 0, 4, 1, 0, 0), (4, js_iload_n 1, 5, 1, 0, 0), (5, js_iload_n 2, 6, 1, 0, 0), (6, js_iload_n 3, 7, 1, 0, 0), (7, js_invokevirtual 36, 10, 3, 143, 708)]) ([(17, js_iconst 1, 18, 1, 0, 0), (18, js_ireturn, 19, 1, 0, 0)])
noncomputable def cy_265 : ai_MT := (⟨"LightsMarketLaw", "asked", "(LLightsMarket;III[J)I"⟩, method_9_code, 6, (some .int), (some [(0, 12, 15, 13)]), 5)
noncomputable def cm_265 : ct_L := some (fr_code 1 ct_265, (ct_hand [(0, 12, 0, 5, 17)]), (1, 6), cy_265)
/-- LightsMarketLaw.flow(LLightsMarket;IIII[J)I -/
noncomputable def ct_266 : ai_T (List fr_I) 1 := fr_nd 0 ([(0, js_aload 5, 2, 2, 0, 0), (2, js_iconst 0, 3, 1, 0, 0), (3, js_aload_n 0, 4, 1, 0, 0), (4, js_iload_n 1, 5, 1, 0, 0), (5, js_iload_n 2, 6, 1, 0, 0), (6, js_iload_n 3, 7, 1, 0, 0), (7, js_iload 4, 9, 2, 0, 0), (9, js_invokevirtual 39, 12, 3, 145, 709)]) ([(19, js_iconst 1, 20, 1, 0, 0), (20, js_ireturn, 21, 1, 0, 0)])
noncomputable def cy_266 : ai_MT := (⟨"LightsMarketLaw", "flow", "(LLightsMarket;IIII[J)I"⟩, method_10_code, 7, (some .int), (some [(0, 14, 17, 13)]), 6)
noncomputable def cm_266 : ct_L := some (fr_code 1 ct_266, (ct_hand [(0, 14, 0, 6, 19)]), (1, 6), cy_266)
/-- LightsMarketLaw.least(LLightsMarket;III[J)I -/
noncomputable def ct_267 : ai_T (List fr_I) 1 := fr_nd 0 ([(0, js_aload 4, 2, 2, 0, 0), (2, js_iconst 0, 3, 1, 0, 0), (3, js_aload_n 0, 4, 1, 0, 0), (4, js_iload_n 1, 5, 1, 0, 0), (5, js_iload_n 2, 6, 1, 0, 0), (6, js_iload_n 3, 7, 1, 0, 0), (7, js_invokevirtual 42, 10, 3, 146, 708), (10, js_i2l, 11, 1, 0, 0), (11, js_lastore, 12, 1, 0, 0), (12, js_goto 11, 15, 3, 23, 0)]) ([(17, js_iconst 1, 18, 1, 0, 0), (18, js_ireturn, 19, 1, 0, 0), (21, js_iconst 2, 22, 1, 0, 0), (22, js_ireturn, 23, 1, 0, 0), (23, js_iconst 0, 24, 1, 0, 0), (24, js_ireturn, 25, 1, 0, 0)])
noncomputable def cy_267 : ai_MT := (⟨"LightsMarketLaw", "least", "(LLightsMarket;III[J)I"⟩, method_11_code, 6, (some .int), (some [(0, 12, 15, 13), (0, 12, 19, 34)]), 5)
noncomputable def cm_267 : ct_L := some (fr_code 1 ct_267, (ct_hand [(0, 12, 0, 5, 17), (0, 12, 1, 5, 21)]), (1, 6), cy_267)
/-- LightsMarketLaw.units(LLightsMarket;I[J)I -/
noncomputable def ct_268 : ai_T (List fr_I) 0 := [(0, js_aload_n 2, 1, 1, 0, 0), (1, js_iconst 0, 2, 1, 0, 0), (2, js_aload_n 0, 3, 1, 0, 0), (3, js_iload_n 1, 4, 1, 0, 0), (4, js_invokevirtual 45, 7, 3, 147, 706), (13, js_iconst 1, 14, 1, 0, 0), (14, js_ireturn, 15, 1, 0, 0)]
noncomputable def cy_268 : ai_MT := (⟨"LightsMarketLaw", "units", "(LLightsMarket;I[J)I"⟩, method_12_code, 4, (some .int), (some [(0, 9, 12, 13)]), 3)
noncomputable def cm_268 : ct_L := some (fr_code 0 ct_268, (ct_hand [(0, 9, 0, 3, 13)]), (1, 6), cy_268)
/-- LightsMarketLaw.plan(LLightsMarket;II[J)I -/
noncomputable def ct_269 : ai_T (List fr_I) 1 := fr_nd 0 ([(0, js_aload_n 3, 1, 1, 0, 0), (1, js_iconst 0, 2, 1, 0, 0), (2, js_aload_n 0, 3, 1, 0, 0), (3, js_iload_n 1, 4, 1, 0, 0), (4, js_iload_n 2, 5, 1, 0, 0), (5, js_invokevirtual 49, 8, 3, 148, 707), (8, js_i2l, 9, 1, 0, 0), (9, js_lastore, 10, 1, 0, 0), (10, js_goto 7, 13, 3, 17, 0), (15, js_iconst 1, 16, 1, 0, 0)]) ([(16, js_ireturn, 17, 1, 0, 0), (17, js_iconst 0, 18, 1, 0, 0), (18, js_ireturn, 19, 1, 0, 0)])
noncomputable def cy_269 : ai_MT := (⟨"LightsMarketLaw", "plan", "(LLightsMarket;II[J)I"⟩, method_13_code, 5, (some .int), (some [(0, 10, 13, 34)]), 4)
noncomputable def cm_269 : ct_L := some (fr_code 1 ct_269, (ct_hand [(0, 10, 1, 4, 15)]), (1, 6), cy_269)
/-- LightsMarketLaw.planned(LLightsMarket;II[J)I -/
noncomputable def ct_270 : ai_T (List fr_I) 1 := fr_nd 0 ([(0, js_aload_n 3, 1, 1, 0, 0), (1, js_iconst 0, 2, 1, 0, 0), (2, js_aload_n 0, 3, 1, 0, 0), (3, js_iload_n 1, 4, 1, 0, 0), (4, js_iload_n 2, 5, 1, 0, 0), (5, js_invokevirtual 52, 8, 3, 149, 707), (8, js_i2l, 9, 1, 0, 0), (9, js_lastore, 10, 1, 0, 0), (10, js_goto 7, 13, 3, 17, 0), (15, js_iconst 1, 16, 1, 0, 0)]) ([(16, js_ireturn, 17, 1, 0, 0), (17, js_iconst 0, 18, 1, 0, 0), (18, js_ireturn, 19, 1, 0, 0)])
noncomputable def cy_270 : ai_MT := (⟨"LightsMarketLaw", "planned", "(LLightsMarket;II[J)I"⟩, method_14_code, 5, (some .int), (some [(0, 10, 13, 13)]), 4)
noncomputable def cm_270 : ct_L := some (fr_code 1 ct_270, (ct_hand [(0, 10, 0, 4, 15)]), (1, 6), cy_270)
/-- LightsMarketLaw.price(LLightsMarket;II[J)I -/
noncomputable def ct_271 : ai_T (List fr_I) 1 := fr_nd 0 ([(0, js_aload_n 3, 1, 1, 0, 0), (1, js_iconst 0, 2, 1, 0, 0), (2, js_aload_n 0, 3, 1, 0, 0), (3, js_iload_n 1, 4, 1, 0, 0), (4, js_iload_n 2, 5, 1, 0, 0), (5, js_invokevirtual 55, 8, 3, 150, 707), (15, js_iconst 1, 16, 1, 0, 0)]) ([(16, js_ireturn, 17, 1, 0, 0)])
noncomputable def cy_271 : ai_MT := (⟨"LightsMarketLaw", "price", "(LLightsMarket;II[J)I"⟩, method_15_code, 5, (some .int), (some [(0, 10, 13, 13)]), 4)
noncomputable def cm_271 : ct_L := some (fr_code 1 ct_271, (ct_hand [(0, 10, 0, 4, 15)]), (1, 6), cy_271)
/-- LightsMarketLaw.pays(LLightsMarket;II[J)I -/
noncomputable def ct_272 : ai_T (List fr_I) 1 := fr_nd 0 ([(0, js_aload_n 3, 1, 1, 0, 0), (1, js_iconst 0, 2, 1, 0, 0), (2, js_aload_n 0, 3, 1, 0, 0), (3, js_iload_n 1, 4, 1, 0, 0), (4, js_iload_n 2, 5, 1, 0, 0), (5, js_invokevirtual 58, 8, 3, 151, 707), (8, js_i2l, 9, 1, 0, 0), (9, js_lastore, 10, 1, 0, 0), (10, js_goto 7, 13, 3, 17, 0), (15, js_iconst 1, 16, 1, 0, 0)]) ([(16, js_ireturn, 17, 1, 0, 0), (17, js_iconst 0, 18, 1, 0, 0), (18, js_ireturn, 19, 1, 0, 0)])
noncomputable def cy_272 : ai_MT := (⟨"LightsMarketLaw", "pays", "(LLightsMarket;II[J)I"⟩, method_16_code, 5, (some .int), (some [(0, 10, 13, 13)]), 4)
noncomputable def cm_272 : ct_L := some (fr_code 1 ct_272, (ct_hand [(0, 10, 0, 4, 15)]), (1, 6), cy_272)
/-- LightsMarketLaw.game(LLightsMarket;I[J)I -/
noncomputable def ct_273 : ai_T (List fr_I) 1 := fr_nd 0 ([(0, js_aload_n 2, 1, 1, 0, 0), (1, js_iconst 0, 2, 1, 0, 0), (2, js_aload_n 0, 3, 1, 0, 0), (3, js_iload_n 1, 4, 1, 0, 0), (4, js_invokevirtual 61, 7, 3, 152, 706), (7, js_i2l, 8, 1, 0, 0), (8, js_lastore, 9, 1, 0, 0), (9, js_goto 6, 12, 3, 15, 0), (13, js_iconst 1, 14, 1, 0, 0), (14, js_ireturn, 15, 1, 0, 0), (15, js_iconst 0, 16, 1, 0, 0)]) ([(16, js_ireturn, 17, 1, 0, 0)])
noncomputable def cy_273 : ai_MT := (⟨"LightsMarketLaw", "game", "(LLightsMarket;I[J)I"⟩, method_17_code, 4, (some .int), (some [(0, 9, 12, 13)]), 3)
noncomputable def cm_273 : ct_L := some (fr_code 1 ct_273, (ct_hand [(0, 9, 0, 3, 13)]), (1, 6), cy_273)
/-- LightsMarketLaw.hides(LLightsMarket;II[J)I -/
noncomputable def ct_274 : ai_T (List fr_I) 1 := fr_nd 0 ([(0, js_aload_n 3, 1, 1, 0, 0), (1, js_iconst 0, 2, 1, 0, 0), (2, js_aload_n 0, 3, 1, 0, 0), (3, js_iload_n 1, 4, 1, 0, 0), (4, js_iload_n 2, 5, 1, 0, 0), (5, js_invokevirtual 64, 8, 3, 153, 707), (15, js_iconst 1, 16, 1, 0, 0)]) ([(16, js_ireturn, 17, 1, 0, 0)])
noncomputable def cy_274 : ai_MT := (⟨"LightsMarketLaw", "hides", "(LLightsMarket;II[J)I"⟩, method_18_code, 5, (some .int), (some [(0, 10, 13, 13)]), 4)
noncomputable def cm_274 : ct_L := some (fr_code 1 ct_274, (ct_hand [(0, 10, 0, 4, 15)]), (1, 6), cy_274)
/-- LightsMarketLaw.alone(LLightsMarket;II[J)I -/
noncomputable def ct_275 : ai_T (List fr_I) 1 := fr_nd 0 ([(0, js_aload_n 3, 1, 1, 0, 0), (1, js_iconst 0, 2, 1, 0, 0), (2, js_aload_n 0, 3, 1, 0, 0), (3, js_iload_n 1, 4, 1, 0, 0), (4, js_iload_n 2, 5, 1, 0, 0), (5, js_invokevirtual 67, 8, 3, 154, 707), (8, js_ifCond .eq 7, 11, 3, 15, 0), (15, js_lconst 0, 16, 1, 0, 0)]) ([(16, js_lastore, 17, 1, 0, 0), (17, js_goto 7, 20, 3, 24, 0), (22, js_iconst 1, 23, 1, 0, 0), (23, js_ireturn, 24, 1, 0, 0), (24, js_iconst 0, 25, 1, 0, 0), (25, js_ireturn, 26, 1, 0, 0)])
noncomputable def cy_275 : ai_MT := (⟨"LightsMarketLaw", "alone", "(LLightsMarket;II[J)I"⟩, method_19_code, 5, (some .int), (some [(0, 17, 20, 13)]), 4)
noncomputable def cm_275 : ct_L := some (fr_code 1 ct_275, (ct_hand [(0, 17, 0, 4, 22)]), (1, 6), cy_275)
/-- LightsMarketLaw.night(LLightsMarket;IIII[J)I -/
noncomputable def ct_276 : ai_T (List fr_I) 1 := fr_nd 0 ([(0, js_aload 5, 2, 2, 0, 0), (2, js_iconst 0, 3, 1, 0, 0), (3, js_aload_n 0, 4, 1, 0, 0), (4, js_iload_n 1, 5, 1, 0, 0), (5, js_iload_n 2, 6, 1, 0, 0), (6, js_iload_n 3, 7, 1, 0, 0), (7, js_iload 4, 9, 2, 0, 0), (9, js_invokevirtual 71, 12, 3, 155, 709), (12, js_ifCond .eq 7, 15, 3, 19, 0), (15, js_lconst 1, 16, 1, 0, 0)]) ([(16, js_goto 4, 19, 3, 20, 0), (19, js_lconst 0, 20, 1, 0, 0), (20, js_lastore, 21, 1, 0, 0), (21, js_goto 7, 24, 3, 28, 0), (26, js_iconst 1, 27, 1, 0, 0), (27, js_ireturn, 28, 1, 0, 0), (28, js_iconst 0, 29, 1, 0, 0), (29, js_ireturn, 30, 1, 0, 0)])
noncomputable def cy_276 : ai_MT := (⟨"LightsMarketLaw", "night", "(LLightsMarket;IIII[J)I"⟩, method_20_code, 7, (some .int), (some [(0, 21, 24, 13)]), 6)
noncomputable def cm_276 : ct_L := some (fr_code 1 ct_276, (ct_hand [(0, 21, 0, 6, 26)]), (1, 6), cy_276)
/-- LightsMarketLaw.falls(LLightsMarket;II[J)I -/
noncomputable def ct_277 : ai_T (List fr_I) 1 := fr_nd 0 ([(0, js_aload_n 3, 1, 1, 0, 0), (1, js_iconst 0, 2, 1, 0, 0), (2, js_aload_n 0, 3, 1, 0, 0), (3, js_iload_n 1, 4, 1, 0, 0), (4, js_iload_n 2, 5, 1, 0, 0), (5, js_invokevirtual 75, 8, 3, 156, 707)]) ([(22, js_iconst 1, 23, 1, 0, 0), (23, js_ireturn, 24, 1, 0, 0)])
noncomputable def cy_277 : ai_MT := (⟨"LightsMarketLaw", "falls", "(LLightsMarket;II[J)I"⟩, method_21_code, 5, (some .int), (some [(0, 17, 20, 13)]), 4)
noncomputable def cm_277 : ct_L := some (fr_code 1 ct_277, (ct_hand [(0, 17, 0, 4, 22)]), (1, 6), cy_277)
/-- LightsMarketLaw.minutes(LLightsMarket;I[J)I -/
noncomputable def ct_278 : ai_T (List fr_I) 1 := fr_nd 0 ([(0, js_aload_n 2, 1, 1, 0, 0), (1, js_iconst 0, 2, 1, 0, 0), (2, js_aload_n 0, 3, 1, 0, 0), (3, js_iload_n 1, 4, 1, 0, 0), (4, js_invokevirtual 78, 7, 3, 157, 706), (7, js_i2l, 8, 1, 0, 0), (8, js_lastore, 9, 1, 0, 0), (9, js_goto 6, 12, 3, 15, 0), (15, js_iconst 0, 16, 1, 0, 0)]) ([(16, js_ireturn, 17, 1, 0, 0)])
noncomputable def cy_278 : ai_MT := (⟨"LightsMarketLaw", "minutes", "(LLightsMarket;I[J)I"⟩, method_22_code, 4, (some .int), (some [(0, 9, 12, 34)]), 3)
noncomputable def cm_278 : ct_L := some (fr_code 1 ct_278, (ct_hand [(0, 9, 1, 3, 13)]), (1, 6), cy_278)
/-- LightsMarketLaw.ofNight(LLightsMarket;I[J)I -/
noncomputable def ct_279 : ai_T (List fr_I) 0 := [(0, js_aload_n 2, 1, 1, 0, 0), (1, js_iconst 0, 2, 1, 0, 0), (2, js_aload_n 0, 3, 1, 0, 0), (3, js_iload_n 1, 4, 1, 0, 0), (4, js_invokevirtual 81, 7, 3, 158, 706), (13, js_iconst 1, 14, 1, 0, 0), (14, js_ireturn, 15, 1, 0, 0)]
noncomputable def cy_279 : ai_MT := (⟨"LightsMarketLaw", "ofNight", "(LLightsMarket;I[J)I"⟩, method_23_code, 4, (some .int), (some [(0, 9, 12, 13)]), 3)
noncomputable def cm_279 : ct_L := some (fr_code 0 ct_279, (ct_hand [(0, 9, 0, 3, 13)]), (1, 6), cy_279)
/-- LightsMarketLaw.starts(LLightsMarket;IZI[J)I -/
noncomputable def ct_280 : ai_T (List fr_I) 1 := fr_nd 0 ([(0, js_aload 4, 2, 2, 0, 0), (2, js_iconst 0, 3, 1, 0, 0), (3, js_aload_n 0, 4, 1, 0, 0), (4, js_iload_n 1, 5, 1, 0, 0), (5, js_iload_n 2, 6, 1, 0, 0), (6, js_iload_n 3, 7, 1, 0, 0), (7, js_invokevirtual 84, 10, 3, 159, 708)]) ([(24, js_iconst 1, 25, 1, 0, 0), (25, js_ireturn, 26, 1, 0, 0)])
noncomputable def cy_280 : ai_MT := (⟨"LightsMarketLaw", "starts", "(LLightsMarket;IZI[J)I"⟩, method_24_code, 6, (some .int), (some [(0, 19, 22, 13)]), 5)
noncomputable def cm_280 : ct_L := some (fr_code 1 ct_280, (ct_hand [(0, 19, 0, 5, 24)]), (1, 6), cy_280)
/-- LightsMarketLaw.way(LLightsMarket;I[J)I -/
noncomputable def ct_281 : ai_T (List fr_I) 1 := fr_nd 0 ([(0, js_aload_n 2, 1, 1, 0, 0), (1, js_iconst 0, 2, 1, 0, 0), (2, js_aload_n 0, 3, 1, 0, 0), (3, js_iload_n 1, 4, 1, 0, 0), (4, js_invokevirtual 88, 7, 3, 160, 706), (7, js_i2l, 8, 1, 0, 0), (8, js_lastore, 9, 1, 0, 0), (9, js_goto 6, 12, 3, 15, 0), (13, js_iconst 1, 14, 1, 0, 0), (14, js_ireturn, 15, 1, 0, 0), (15, js_iconst 0, 16, 1, 0, 0)]) ([(16, js_ireturn, 17, 1, 0, 0)])
noncomputable def cy_281 : ai_MT := (⟨"LightsMarketLaw", "way", "(LLightsMarket;I[J)I"⟩, method_25_code, 4, (some .int), (some [(0, 9, 12, 13)]), 3)
noncomputable def cm_281 : ct_L := some (fr_code 1 ct_281, (ct_hand [(0, 9, 0, 3, 13)]), (1, 6), cy_281)
/-- LightsMarketLaw.act(LLightsMarket;I[J)I -/
noncomputable def ct_282 : ai_T (List fr_I) 0 := [(0, js_aload_n 2, 1, 1, 0, 0), (1, js_iconst 0, 2, 1, 0, 0), (2, js_aload_n 0, 3, 1, 0, 0), (3, js_iload_n 1, 4, 1, 0, 0), (4, js_invokevirtual 91, 7, 3, 161, 706), (13, js_iconst 1, 14, 1, 0, 0), (14, js_ireturn, 15, 1, 0, 0)]
noncomputable def cy_282 : ai_MT := (⟨"LightsMarketLaw", "act", "(LLightsMarket;I[J)I"⟩, method_26_code, 4, (some .int), (some [(0, 9, 12, 13)]), 3)
noncomputable def cm_282 : ct_L := some (fr_code 0 ct_282, (ct_hand [(0, 9, 0, 3, 13)]), (1, 6), cy_282)
/-- LightsMarketLaw.evenings(LLightsMarket;I[J)I -/
noncomputable def ct_283 : ai_T (List fr_I) 1 := fr_nd 0 ([(0, js_aload_n 2, 1, 1, 0, 0), (1, js_iconst 0, 2, 1, 0, 0), (2, js_aload_n 0, 3, 1, 0, 0), (3, js_iload_n 1, 4, 1, 0, 0), (4, js_invokevirtual 94, 7, 3, 162, 706), (7, js_i2l, 8, 1, 0, 0), (8, js_lastore, 9, 1, 0, 0), (9, js_goto 6, 12, 3, 15, 0), (13, js_iconst 1, 14, 1, 0, 0), (14, js_ireturn, 15, 1, 0, 0), (15, js_iconst 0, 16, 1, 0, 0)]) ([(16, js_ireturn, 17, 1, 0, 0)])
noncomputable def cy_283 : ai_MT := (⟨"LightsMarketLaw", "evenings", "(LLightsMarket;I[J)I"⟩, method_27_code, 4, (some .int), (some [(0, 9, 12, 34)]), 3)
noncomputable def cm_283 : ct_L := some (fr_code 1 ct_283, (ct_hand [(0, 9, 1, 3, 13)]), (1, 6), cy_283)
/-- LightsMarketLaw.meter(LLightsMarket;III[J)I -/
noncomputable def ct_284 : ai_T (List fr_I) 1 := fr_nd 0 ([(0, js_aload 4, 2, 2, 0, 0), (2, js_iconst 0, 3, 1, 0, 0), (3, js_aload_n 0, 4, 1, 0, 0), (4, js_iload_n 1, 5, 1, 0, 0), (5, js_iload_n 2, 6, 1, 0, 0), (6, js_iload_n 3, 7, 1, 0, 0), (7, js_invokevirtual 97, 10, 3, 163, 708)]) ([(17, js_iconst 1, 18, 1, 0, 0), (18, js_ireturn, 19, 1, 0, 0)])
noncomputable def cy_284 : ai_MT := (⟨"LightsMarketLaw", "meter", "(LLightsMarket;III[J)I"⟩, method_28_code, 6, (some .int), (some [(0, 12, 15, 13)]), 5)
noncomputable def cm_284 : ct_L := some (fr_code 1 ct_284, (ct_hand [(0, 12, 0, 5, 17)]), (1, 6), cy_284)
/-- LightsMarketLaw.bill(LLightsMarket;II[J)I -/
noncomputable def ct_285 : ai_T (List fr_I) 1 := fr_nd 0 ([(0, js_aload_n 3, 1, 1, 0, 0), (1, js_iconst 0, 2, 1, 0, 0), (2, js_aload_n 0, 3, 1, 0, 0), (3, js_iload_n 1, 4, 1, 0, 0), (4, js_iload_n 2, 5, 1, 0, 0), (5, js_invokevirtual 100, 8, 3, 164, 707), (15, js_iconst 1, 16, 1, 0, 0)]) ([(16, js_ireturn, 17, 1, 0, 0)])
noncomputable def cy_285 : ai_MT := (⟨"LightsMarketLaw", "bill", "(LLightsMarket;II[J)I"⟩, method_29_code, 5, (some .int), (some [(0, 10, 13, 13), (0, 10, 17, 34)]), 4)
noncomputable def cm_285 : ct_L := some (fr_code 1 ct_285, (ct_hand [(0, 10, 0, 4, 15), (0, 10, 1, 4, 19)]), (1, 6), cy_285)
/-- LightsMarketLaw.count(LLightsMarket;I[J)I -/
noncomputable def ct_286 : ai_T (List fr_I) 1 := fr_nd 0 ([(0, js_aload_n 2, 1, 1, 0, 0), (1, js_iconst 0, 2, 1, 0, 0), (2, js_aload_n 0, 3, 1, 0, 0), (3, js_iload_n 1, 4, 1, 0, 0), (4, js_invokevirtual 103, 7, 3, 166, 706), (7, js_i2l, 8, 1, 0, 0), (8, js_lastore, 9, 1, 0, 0), (9, js_goto 6, 12, 3, 15, 0), (13, js_iconst 1, 14, 1, 0, 0), (14, js_ireturn, 15, 1, 0, 0), (15, js_iconst 0, 16, 1, 0, 0)]) ([(16, js_ireturn, 17, 1, 0, 0)])
noncomputable def cy_286 : ai_MT := (⟨"LightsMarketLaw", "count", "(LLightsMarket;I[J)I"⟩, method_30_code, 4, (some .int), (some [(0, 9, 12, 13)]), 3)
noncomputable def cm_286 : ct_L := some (fr_code 1 ct_286, (ct_hand [(0, 9, 0, 3, 13)]), (1, 6), cy_286)
/-- LightsMarketLaw.law([I)Z -/
noncomputable def ct_287_0 : ai_T (List fr_I) 4 := fr_nd 3 (fr_nd 2 (fr_nd 1 (fr_nd 0 ([(0, js_new 8, 3, 3, 11, 0), (3, js_dup, 4, 1, 0, 0), (4, js_invokespecial 106, 7, 3, 127, 1), (7, js_astore_n 1, 8, 1, 0, 0), (8, js_new 107, 11, 3, 12, 0), (11, js_dup, 12, 1, 0, 0), (12, js_invokespecial 109, 15, 3, 167, 1), (15, js_astore_n 2, 16, 1, 0, 0)]) ([(2050, js_aload_n 1, 2051, 1, 0, 0), (2051, js_aload_n 0, 2052, 1, 0, 0), (2052, js_iload 4, 2054, 2, 0, 0), (2054, js_iconst 1, 2055, 1, 0, 0), (2055, js_iadd, 2056, 1, 0, 0), (2056, js_iaload, 2057, 1, 0, 0), (2057, js_aload_n 0, 2058, 1, 0, 0), (2058, js_iload 4, 2060, 2, 0, 0), (2060, js_iconst 2, 2061, 1, 0, 0), (2061, js_iadd, 2062, 1, 0, 0), (2062, js_iaload, 2063, 1, 0, 0), (2063, js_ifCond .eq 7, 2066, 3, 2070, 0)])) (fr_nd 0 ([(1024, js_iconst 3, 1025, 1, 0, 0), (1025, js_iadd, 1026, 1, 0, 0), (1026, js_iaload, 1027, 1, 0, 0), (1027, js_invokevirtual 158, 1030, 3, 144, 708), (1030, js_aload_n 2, 1031, 1, 0, 0), (1031, js_aload_n 0, 1032, 1, 0, 0), (1032, js_iload 4, 1034, 2, 0, 0), (1034, js_iconst 1, 1035, 1, 0, 0), (1035, js_iadd, 1036, 1, 0, 0), (1036, js_iaload, 1037, 1, 0, 0), (1037, js_ifCond .eq 7, 1040, 3, 1044, 0)]) ([]))) (fr_nd 1 (fr_nd 0 ([(513, js_istore 5, 515, 2, 0, 0), (515, js_aload_n 2, 516, 1, 0, 0), (516, js_aload_n 0, 517, 1, 0, 0), (517, js_iload 4, 519, 2, 0, 0), (519, js_iconst 1, 520, 1, 0, 0), (520, js_iadd, 521, 1, 0, 0), (521, js_iaload, 522, 1, 0, 0), (522, js_aload_n 0, 523, 1, 0, 0), (523, js_iload 4, 525, 2, 0, 0), (525, js_iconst 2, 526, 1, 0, 0), (526, js_iadd, 527, 1, 0, 0), (527, js_iaload, 528, 1, 0, 0)]) ([])) (fr_nd 0 ([(1538, js_iload 5, 1540, 2, 0, 0), (1540, js_if_icmp .eq 5, 1543, 3, 1545, 0), (1545, js_iload 5, 1547, 2, 0, 0), (1547, js_ifCond .ne 15, 1550, 3, 1562, 0), (1550, js_aload_n 3, 1551, 1, 0, 0), (1551, js_iconst 0, 1552, 1, 0, 0)]) ([])))) (fr_nd 2 (fr_nd 1 (fr_nd 0 ([(256, js_iaload, 257, 1, 0, 0), (257, js_invokevirtual 120, 260, 3, 176, 773), (260, js_istore 6, 262, 2, 0, 0), (262, js_aload_n 2, 263, 1, 0, 0), (263, js_invokevirtual 121, 266, 3, 168, 769), (266, js_iload 5, 268, 2, 0, 0), (268, js_if_icmp .eq 5, 271, 3, 273, 0)]) ([(2306, js_aload_n 3, 2307, 1, 0, 0), (2307, js_iconst 0, 2308, 1, 0, 0), (2308, js_laload, 2309, 1, 0, 0), (2309, js_iload 6, 2311, 2, 0, 0), (2311, js_i2l, 2312, 1, 0, 0), (2312, js_lcmp, 2313, 1, 0, 0), (2313, js_ifCond .eq 5, 2316, 3, 2318, 0), (2318, js_goto 207, 2321, 3, 2525, 0)])) (fr_nd 0 ([(1290, js_goto 1235, 1293, 3, 2525, 0), (1293, js_aload_n 1, 1294, 1, 0, 0), (1294, js_aload_n 0, 1295, 1, 0, 0), (1295, js_iload 4, 1297, 2, 0, 0)]) ([]))) (fr_nd 1 (fr_nd 0 ([(768, js_iload 4, 770, 2, 0, 0), (770, js_iconst 1, 771, 1, 0, 0), (771, js_iadd, 772, 1, 0, 0), (772, js_iaload, 773, 1, 0, 0), (773, js_aload_n 0, 774, 1, 0, 0), (774, js_iload 4, 776, 2, 0, 0), (776, js_iconst 2, 777, 1, 0, 0), (777, js_iadd, 778, 1, 0, 0), (778, js_iaload, 779, 1, 0, 0), (779, js_aload_n 0, 780, 1, 0, 0), (780, js_iload 4, 782, 2, 0, 0), (782, js_iconst 3, 783, 1, 0, 0), (783, js_iadd, 784, 1, 0, 0)]) ([])) (fr_nd 0 ([(1793, js_istore 5, 1795, 2, 0, 0), (1795, js_aload_n 2, 1796, 1, 0, 0), (1796, js_aload_n 0, 1797, 1, 0, 0), (1797, js_iload 4, 1799, 2, 0, 0), (1799, js_iconst 1, 1800, 1, 0, 0), (1800, js_iadd, 1801, 1, 0, 0), (1801, js_iaload, 1802, 1, 0, 0), (1802, js_aload_n 0, 1803, 1, 0, 0), (1803, js_iload 4, 1805, 2, 0, 0), (1805, js_iconst 2, 1806, 1, 0, 0), (1806, js_iadd, 1807, 1, 0, 0), (1807, js_iaload, 1808, 1, 0, 0)]) ([]))))
noncomputable def ct_287_1 : ai_T (List fr_I) 4 := fr_nd 3 (fr_nd 2 (fr_nd 1 (fr_nd 0 ([(16, js_iconst 1, 17, 1, 0, 0), (17, js_newarray .long, 19, 2, 1, 0), (19, js_astore_n 3, 20, 1, 0, 0), (20, js_iconst 0, 21, 1, 0, 0), (21, js_istore 4, 23, 2, 0, 0), (23, js_iload 4, 25, 2, 0, 0), (25, js_aload_n 0, 26, 1, 0, 0), (26, js_arraylength, 27, 1, 0, 0), (27, js_bipush 10, 29, 2, 0, 0), (29, js_isub, 30, 1, 0, 0), (30, js_if_icmp .gt 2501, 33, 3, 2531, 0)]) ([(2066, js_iconst 1, 2067, 1, 0, 0), (2067, js_goto 4, 2070, 3, 2071, 0), (2070, js_iconst 0, 2071, 1, 0, 0), (2071, js_aload_n 0, 2072, 1, 0, 0), (2072, js_iload 4, 2074, 2, 0, 0), (2074, js_iconst 3, 2075, 1, 0, 0), (2075, js_iadd, 2076, 1, 0, 0), (2076, js_iaload, 2077, 1, 0, 0), (2077, js_aload_n 3, 2078, 1, 0, 0), (2078, js_invokestatic 206, 2081, 3, 280, 5)])) (fr_nd 0 ([(1040, js_iconst 1, 1041, 1, 0, 0), (1041, js_goto 4, 1044, 3, 1045, 0), (1044, js_iconst 0, 1045, 1, 0, 0), (1045, js_aload_n 0, 1046, 1, 0, 0), (1046, js_iload 4, 1048, 2, 0, 0), (1048, js_iconst 2, 1049, 1, 0, 0), (1049, js_iadd, 1050, 1, 0, 0), (1050, js_iaload, 1051, 1, 0, 0), (1051, js_aload_n 0, 1052, 1, 0, 0), (1052, js_iload 4, 1054, 2, 0, 0), (1054, js_iconst 3, 1055, 1, 0, 0), (1055, js_iadd, 1056, 1, 0, 0)]) ([]))) (fr_nd 1 (fr_nd 0 ([(528, js_aload_n 0, 529, 1, 0, 0), (529, js_iload 4, 531, 2, 0, 0), (531, js_iconst 3, 532, 1, 0, 0), (532, js_iadd, 533, 1, 0, 0), (533, js_iaload, 534, 1, 0, 0), (534, js_invokevirtual 135, 537, 3, 181, 772), (537, js_istore 6, 539, 2, 0, 0), (539, js_aload_n 2, 540, 1, 0, 0), (540, js_invokevirtual 121, 543, 3, 168, 769), (543, js_iload 5, 545, 2, 0, 0)]) ([])) (fr_nd 0 ([(1552, js_laload, 1553, 1, 0, 0), (1553, js_iload 6, 1555, 2, 0, 0), (1555, js_i2l, 1556, 1, 0, 0), (1556, js_lcmp, 1557, 1, 0, 0), (1557, js_ifCond .eq 5, 1560, 3, 1562, 0), (1562, js_goto 963, 1565, 3, 2525, 0), (1565, js_aload_n 1, 1566, 1, 0, 0), (1566, js_aload_n 0, 1567, 1, 0, 0), (1567, js_iload 4, 1569, 2, 0, 0)]) ([])))) (fr_nd 2 (fr_nd 1 (fr_nd 0 ([(273, js_iload 5, 275, 2, 0, 0), (275, js_ifCond .ne 15, 278, 3, 290, 0)]) ([(2321, js_aload_n 1, 2322, 1, 0, 0), (2322, js_aload_n 0, 2323, 1, 0, 0), (2323, js_iload 4, 2325, 2, 0, 0), (2325, js_iconst 1, 2326, 1, 0, 0), (2326, js_iadd, 2327, 1, 0, 0), (2327, js_iaload, 2328, 1, 0, 0), (2328, js_aload_n 0, 2329, 1, 0, 0), (2329, js_iload 4, 2331, 2, 0, 0), (2331, js_iconst 2, 2332, 1, 0, 0), (2332, js_iadd, 2333, 1, 0, 0), (2333, js_iaload, 2334, 1, 0, 0), (2334, js_aload_n 0, 2335, 1, 0, 0), (2335, js_iload 4, 2337, 2, 0, 0)])) (fr_nd 0 ([(1297, js_iconst 1, 1298, 1, 0, 0), (1298, js_iadd, 1299, 1, 0, 0), (1299, js_iaload, 1300, 1, 0, 0), (1300, js_aload_n 0, 1301, 1, 0, 0), (1301, js_iload 4, 1303, 2, 0, 0), (1303, js_iconst 2, 1304, 1, 0, 0), (1304, js_iadd, 1305, 1, 0, 0), (1305, js_iaload, 1306, 1, 0, 0), (1306, js_aload_n 3, 1307, 1, 0, 0), (1307, js_invokestatic 173, 1310, 3, 269, 4), (1310, js_istore 5, 1312, 2, 0, 0)]) ([]))) (fr_nd 1 (fr_nd 0 ([(784, js_iaload, 785, 1, 0, 0), (785, js_aload_n 0, 786, 1, 0, 0), (786, js_iload 4, 788, 2, 0, 0), (788, js_iconst 4, 789, 1, 0, 0), (789, js_iadd, 790, 1, 0, 0), (790, js_iaload, 791, 1, 0, 0), (791, js_aload_n 0, 792, 1, 0, 0), (792, js_iload 4, 794, 2, 0, 0), (794, js_iconst 5, 795, 1, 0, 0), (795, js_iadd, 796, 1, 0, 0), (796, js_iaload, 797, 1, 0, 0), (797, js_invokevirtual 143, 800, 3, 140, 710)]) ([])) (fr_nd 0 ([(1808, js_aload_n 0, 1809, 1, 0, 0), (1809, js_iload 4, 1811, 2, 0, 0), (1811, js_iconst 3, 1812, 1, 0, 0), (1812, js_iadd, 1813, 1, 0, 0), (1813, js_iaload, 1814, 1, 0, 0), (1814, js_aload_n 0, 1815, 1, 0, 0), (1815, js_iload 4, 1817, 2, 0, 0), (1817, js_iconst 4, 1818, 1, 0, 0), (1818, js_iadd, 1819, 1, 0, 0), (1819, js_iaload, 1820, 1, 0, 0), (1820, js_invokevirtual 196, 1823, 3, 243, 773), (1823, js_istore 6, 1825, 2, 0, 0)]) ([]))))
noncomputable def ct_287_2 : ai_T (List fr_I) 4 := fr_nd 3 (fr_nd 2 (fr_nd 1 (fr_nd 0 ([(33, js_aload_n 0, 34, 1, 0, 0), (34, js_iload 4, 36, 2, 0, 0), (36, js_iaload, 37, 1, 0, 0), (37, js_bipush 63, 39, 2, 0, 0), (39, js_iand, 40, 1, 0, 0), (40, js_tableswitch 2485 0 32 #[148, 161, 253, 413, 450, 530, 634, 726, 799, 867, 880, 960, 1025, 1117, 1197, 1253, 1321, 1389, 1457, 1525, 1581, 1649, 1724, 1823, 1898, 1954, 2010, 2113, 2169, 2225, 2281, 2361, 2429], 188, 148, 0, 0)]) ([(2081, js_istore 5, 2083, 2, 0, 0), (2083, js_aload_n 2, 2084, 1, 0, 0), (2084, js_aload_n 0, 2085, 1, 0, 0), (2085, js_iload 4, 2087, 2, 0, 0), (2087, js_iconst 1, 2088, 1, 0, 0), (2088, js_iadd, 2089, 1, 0, 0), (2089, js_iaload, 2090, 1, 0, 0), (2090, js_aload_n 0, 2091, 1, 0, 0), (2091, js_iload 4, 2093, 2, 0, 0), (2093, js_iconst 2, 2094, 1, 0, 0), (2094, js_iadd, 2095, 1, 0, 0), (2095, js_iaload, 2096, 1, 0, 0)])) (fr_nd 0 ([(1056, js_iaload, 1057, 1, 0, 0), (1057, js_invokevirtual 162, 1060, 3, 211, 772), (1060, js_if_icmp .eq 1465, 1063, 3, 2525, 0), (1065, js_aload_n 1, 1066, 1, 0, 0), (1066, js_aload_n 0, 1067, 1, 0, 0), (1067, js_iload 4, 1069, 2, 0, 0), (1069, js_iconst 1, 1070, 1, 0, 0), (1070, js_iadd, 1071, 1, 0, 0), (1071, js_iaload, 1072, 1, 0, 0)]) ([]))) (fr_nd 1 (fr_nd 0 ([(545, js_if_icmp .eq 5, 548, 3, 550, 0), (550, js_iload 5, 552, 2, 0, 0), (552, js_ifCond .ne 15, 555, 3, 567, 0)]) ([])) (fr_nd 0 ([(1569, js_iconst 1, 1570, 1, 0, 0), (1570, js_iadd, 1571, 1, 0, 0), (1571, js_iaload, 1572, 1, 0, 0), (1572, js_aload_n 3, 1573, 1, 0, 0), (1573, js_invokestatic 185, 1576, 3, 273, 3), (1576, js_istore 5, 1578, 2, 0, 0), (1578, js_aload_n 2, 1579, 1, 0, 0), (1579, js_aload_n 0, 1580, 1, 0, 0), (1580, js_iload 4, 1582, 2, 0, 0), (1582, js_iconst 1, 1583, 1, 0, 0), (1583, js_iadd, 1584, 1, 0, 0)]) ([])))) (fr_nd 2 (fr_nd 1 (fr_nd 0 ([(290, js_goto 2235, 293, 3, 2525, 0), (293, js_aload_n 1, 294, 1, 0, 0), (294, js_aload_n 0, 295, 1, 0, 0), (295, js_iload 4, 297, 2, 0, 0), (297, js_iconst 1, 298, 1, 0, 0), (298, js_iadd, 299, 1, 0, 0), (299, js_iaload, 300, 1, 0, 0), (300, js_aload_n 0, 301, 1, 0, 0), (301, js_iload 4, 303, 2, 0, 0), (303, js_iconst 2, 304, 1, 0, 0)]) ([(2337, js_iconst 3, 2338, 1, 0, 0), (2338, js_iadd, 2339, 1, 0, 0), (2339, js_iaload, 2340, 1, 0, 0), (2340, js_aload_n 3, 2341, 1, 0, 0), (2341, js_invokestatic 219, 2344, 3, 284, 5), (2344, js_istore 5, 2346, 2, 0, 0), (2346, js_aload_n 2, 2347, 1, 0, 0), (2347, js_aload_n 0, 2348, 1, 0, 0), (2348, js_iload 4, 2350, 2, 0, 0), (2350, js_iconst 1, 2351, 1, 0, 0), (2351, js_iadd, 2352, 1, 0, 0)])) (fr_nd 0 ([(1312, js_aload_n 2, 1313, 1, 0, 0), (1313, js_aload_n 0, 1314, 1, 0, 0), (1314, js_iload 4, 1316, 2, 0, 0), (1316, js_iconst 1, 1317, 1, 0, 0), (1317, js_iadd, 1318, 1, 0, 0), (1318, js_iaload, 1319, 1, 0, 0), (1319, js_aload_n 0, 1320, 1, 0, 0), (1320, js_iload 4, 1322, 2, 0, 0), (1322, js_iconst 2, 1323, 1, 0, 0), (1323, js_iadd, 1324, 1, 0, 0), (1324, js_iaload, 1325, 1, 0, 0), (1325, js_invokevirtual 175, 1328, 3, 229, 771)]) ([]))) (fr_nd 1 (fr_nd 0 ([(800, js_aload_n 2, 801, 1, 0, 0), (801, js_aload_n 0, 802, 1, 0, 0), (802, js_iload 4, 804, 2, 0, 0), (804, js_iconst 1, 805, 1, 0, 0), (805, js_iadd, 806, 1, 0, 0), (806, js_iaload, 807, 1, 0, 0), (807, js_aload_n 0, 808, 1, 0, 0), (808, js_iload 4, 810, 2, 0, 0), (810, js_iconst 2, 811, 1, 0, 0), (811, js_iadd, 812, 1, 0, 0), (812, js_iaload, 813, 1, 0, 0), (813, js_aload_n 0, 814, 1, 0, 0), (814, js_iload 4, 816, 2, 0, 0)]) ([])) (fr_nd 0 ([(1825, js_aload_n 2, 1826, 1, 0, 0), (1826, js_invokevirtual 121, 1829, 3, 168, 769), (1829, js_iload 5, 1831, 2, 0, 0), (1831, js_if_icmp .eq 5, 1834, 3, 1836, 0), (1836, js_iload 5, 1838, 2, 0, 0), (1838, js_ifCond .ne 22, 1841, 3, 1860, 0)]) ([]))))
noncomputable def ct_287_3 : ai_T (List fr_I) 4 := fr_nd 3 (fr_nd 2 (fr_nd 1 (fr_nd 0 ([]) ([(2096, js_ifCond .eq 7, 2099, 3, 2103, 0), (2099, js_iconst 1, 2100, 1, 0, 0), (2100, js_goto 4, 2103, 3, 2104, 0), (2103, js_iconst 0, 2104, 1, 0, 0), (2104, js_aload_n 0, 2105, 1, 0, 0), (2105, js_iload 4, 2107, 2, 0, 0), (2107, js_iconst 3, 2108, 1, 0, 0), (2108, js_iadd, 2109, 1, 0, 0), (2109, js_iaload, 2110, 1, 0, 0), (2110, js_invokevirtual 209, 2113, 3, 249, 772)])) (fr_nd 0 ([(1072, js_aload_n 0, 1073, 1, 0, 0), (1073, js_iload 4, 1075, 2, 0, 0), (1075, js_iconst 2, 1076, 1, 0, 0), (1076, js_iadd, 1077, 1, 0, 0), (1077, js_iaload, 1078, 1, 0, 0), (1078, js_aload_n 0, 1079, 1, 0, 0), (1079, js_iload 4, 1081, 2, 0, 0), (1081, js_iconst 3, 1082, 1, 0, 0), (1082, js_iadd, 1083, 1, 0, 0), (1083, js_iaload, 1084, 1, 0, 0), (1084, js_aload_n 0, 1085, 1, 0, 0), (1085, js_iload 4, 1087, 2, 0, 0), (1087, js_iconst 4, 1088, 1, 0, 0)]) ([]))) (fr_nd 1 (fr_nd 0 ([(567, js_goto 1958, 570, 3, 2525, 0), (570, js_aload_n 1, 571, 1, 0, 0), (571, js_aload_n 0, 572, 1, 0, 0), (572, js_iload 4, 574, 2, 0, 0), (574, js_iconst 1, 575, 1, 0, 0), (575, js_iadd, 576, 1, 0, 0)]) ([])) (fr_nd 0 ([(1584, js_iaload, 1585, 1, 0, 0), (1585, js_invokevirtual 187, 1588, 3, 240, 770), (1588, js_istore 6, 1590, 2, 0, 0), (1590, js_aload_n 2, 1591, 1, 0, 0), (1591, js_invokevirtual 121, 1594, 3, 168, 769), (1594, js_iload 5, 1596, 2, 0, 0), (1596, js_if_icmp .eq 5, 1599, 3, 1601, 0)]) ([])))) (fr_nd 2 (fr_nd 1 (fr_nd 0 ([(304, js_iadd, 305, 1, 0, 0), (305, js_iaload, 306, 1, 0, 0), (306, js_aload_n 0, 307, 1, 0, 0), (307, js_iload 4, 309, 2, 0, 0), (309, js_iconst 3, 310, 1, 0, 0), (310, js_iadd, 311, 1, 0, 0), (311, js_iaload, 312, 1, 0, 0), (312, js_aload_n 0, 313, 1, 0, 0), (313, js_iload 4, 315, 2, 0, 0), (315, js_iconst 4, 316, 1, 0, 0), (316, js_iadd, 317, 1, 0, 0), (317, js_iaload, 318, 1, 0, 0), (318, js_aload_n 0, 319, 1, 0, 0), (319, js_iload 4, 321, 2, 0, 0)]) ([(2352, js_iaload, 2353, 1, 0, 0), (2353, js_aload_n 0, 2354, 1, 0, 0), (2354, js_iload 4, 2356, 2, 0, 0), (2356, js_iconst 2, 2357, 1, 0, 0), (2357, js_iadd, 2358, 1, 0, 0), (2358, js_iaload, 2359, 1, 0, 0), (2359, js_aload_n 0, 2360, 1, 0, 0), (2360, js_iload 4, 2362, 2, 0, 0), (2362, js_iconst 3, 2363, 1, 0, 0), (2363, js_iadd, 2364, 1, 0, 0), (2364, js_iaload, 2365, 1, 0, 0), (2365, js_invokevirtual 221, 2368, 3, 256, 772)])) (fr_nd 0 ([(1328, js_istore 6, 1330, 2, 0, 0), (1330, js_aload_n 2, 1331, 1, 0, 0), (1331, js_invokevirtual 121, 1334, 3, 168, 769), (1334, js_iload 5, 1336, 2, 0, 0), (1336, js_if_icmp .eq 5, 1339, 3, 1341, 0), (1341, js_iload 5, 1343, 2, 0, 0), (1343, js_ifCond .ne 15, 1346, 3, 1358, 0)]) ([]))) (fr_nd 1 (fr_nd 0 ([(816, js_iconst 3, 817, 1, 0, 0), (817, js_iadd, 818, 1, 0, 0), (818, js_iaload, 819, 1, 0, 0), (819, js_aload_n 0, 820, 1, 0, 0), (820, js_iload 4, 822, 2, 0, 0), (822, js_iconst 4, 823, 1, 0, 0), (823, js_iadd, 824, 1, 0, 0), (824, js_iaload, 825, 1, 0, 0), (825, js_aload_n 0, 826, 1, 0, 0), (826, js_iload 4, 828, 2, 0, 0), (828, js_iconst 5, 829, 1, 0, 0), (829, js_iadd, 830, 1, 0, 0), (830, js_iaload, 831, 1, 0, 0), (831, js_invokevirtual 146, 834, 3, 185, 774)]) ([])) (fr_nd 0 ([(1841, js_aload_n 3, 1842, 1, 0, 0), (1842, js_iconst 0, 1843, 1, 0, 0), (1843, js_laload, 1844, 1, 0, 0), (1844, js_iload 6, 1846, 2, 0, 0), (1846, js_ifCond .eq 7, 1849, 3, 1853, 0), (1849, js_lconst 1, 1850, 1, 0, 0), (1850, js_goto 4, 1853, 3, 1854, 0), (1853, js_lconst 0, 1854, 1, 0, 0), (1854, js_lcmp, 1855, 1, 0, 0), (1855, js_ifCond .eq 5, 1858, 3, 1860, 0)]) ([]))))
noncomputable def ct_287_4 : ai_T (List fr_I) 4 := fr_nd 3 (fr_nd 2 (fr_nd 1 (fr_nd 0 ([]) ([(2113, js_istore 6, 2115, 2, 0, 0), (2115, js_aload_n 2, 2116, 1, 0, 0), (2116, js_invokevirtual 121, 2119, 3, 168, 769), (2119, js_iload 5, 2121, 2, 0, 0), (2121, js_if_icmp .eq 5, 2124, 3, 2126, 0), (2126, js_iload 5, 2128, 2, 0, 0)])) (fr_nd 0 ([(1088, js_iadd, 1089, 1, 0, 0), (1089, js_iaload, 1090, 1, 0, 0), (1090, js_aload_n 3, 1091, 1, 0, 0), (1091, js_invokestatic 163, 1094, 3, 266, 6), (1094, js_istore 5, 1096, 2, 0, 0), (1096, js_aload_n 2, 1097, 1, 0, 0), (1097, js_aload_n 0, 1098, 1, 0, 0), (1098, js_iload 4, 1100, 2, 0, 0), (1100, js_iconst 1, 1101, 1, 0, 0), (1101, js_iadd, 1102, 1, 0, 0), (1102, js_iaload, 1103, 1, 0, 0), (1103, js_aload_n 0, 1104, 1, 0, 0)]) ([]))) (fr_nd 1 (fr_nd 0 ([(576, js_iaload, 577, 1, 0, 0), (577, js_aload_n 0, 578, 1, 0, 0), (578, js_iload 4, 580, 2, 0, 0), (580, js_iconst 2, 581, 1, 0, 0), (581, js_iadd, 582, 1, 0, 0), (582, js_iaload, 583, 1, 0, 0), (583, js_aload_n 0, 584, 1, 0, 0), (584, js_iload 4, 586, 2, 0, 0), (586, js_iconst 3, 587, 1, 0, 0), (587, js_iadd, 588, 1, 0, 0), (588, js_iaload, 589, 1, 0, 0), (589, js_aload_n 0, 590, 1, 0, 0), (590, js_iload 4, 592, 2, 0, 0)]) ([])) (fr_nd 0 ([(1601, js_iload 5, 1603, 2, 0, 0), (1603, js_ifCond .ne 15, 1606, 3, 1618, 0), (1606, js_aload_n 3, 1607, 1, 0, 0), (1607, js_iconst 0, 1608, 1, 0, 0), (1608, js_laload, 1609, 1, 0, 0), (1609, js_iload 6, 1611, 2, 0, 0), (1611, js_i2l, 1612, 1, 0, 0), (1612, js_lcmp, 1613, 1, 0, 0), (1613, js_ifCond .eq 5, 1616, 3, 1618, 0)]) ([])))) (fr_nd 2 (fr_nd 1 (fr_nd 0 ([(321, js_iconst 5, 322, 1, 0, 0), (322, js_iadd, 323, 1, 0, 0), (323, js_iaload, 324, 1, 0, 0), (324, js_aload_n 0, 325, 1, 0, 0), (325, js_iload 4, 327, 2, 0, 0), (327, js_bipush 6, 329, 2, 0, 0), (329, js_iadd, 330, 1, 0, 0), (330, js_iaload, 331, 1, 0, 0), (331, js_aload_n 0, 332, 1, 0, 0), (332, js_iload 4, 334, 2, 0, 0), (334, js_bipush 7, 336, 2, 0, 0)]) ([(2368, js_istore 6, 2370, 2, 0, 0), (2370, js_aload_n 2, 2371, 1, 0, 0), (2371, js_invokevirtual 121, 2374, 3, 168, 769), (2374, js_iload 5, 2376, 2, 0, 0), (2376, js_if_icmp .eq 5, 2379, 3, 2381, 0), (2381, js_iload 5, 2383, 2, 0, 0), (2383, js_ifCond .ne 15, 2386, 3, 2398, 0)])) (fr_nd 0 ([(1346, js_aload_n 3, 1347, 1, 0, 0), (1347, js_iconst 0, 1348, 1, 0, 0), (1348, js_laload, 1349, 1, 0, 0), (1349, js_iload 6, 1351, 2, 0, 0), (1351, js_i2l, 1352, 1, 0, 0), (1352, js_lcmp, 1353, 1, 0, 0), (1353, js_ifCond .eq 5, 1356, 3, 1358, 0), (1358, js_goto 1167, 1361, 3, 2525, 0)]) ([]))) (fr_nd 1 (fr_nd 0 ([(834, js_if_icmp .eq 1691, 837, 3, 2525, 0), (839, js_aload_n 1, 840, 1, 0, 0), (840, js_aload_n 0, 841, 1, 0, 0), (841, js_iload 4, 843, 2, 0, 0), (843, js_iconst 1, 844, 1, 0, 0), (844, js_iadd, 845, 1, 0, 0), (845, js_iaload, 846, 1, 0, 0), (846, js_aload_n 0, 847, 1, 0, 0), (847, js_iload 4, 849, 2, 0, 0)]) ([])) (fr_nd 0 ([(1860, js_goto 665, 1863, 3, 2525, 0), (1863, js_aload_n 1, 1864, 1, 0, 0), (1864, js_aload_n 0, 1865, 1, 0, 0), (1865, js_iload 4, 1867, 2, 0, 0), (1867, js_iconst 1, 1868, 1, 0, 0), (1868, js_iadd, 1869, 1, 0, 0), (1869, js_iaload, 1870, 1, 0, 0), (1870, js_aload_n 0, 1871, 1, 0, 0), (1871, js_iload 4, 1873, 2, 0, 0)]) ([]))))
noncomputable def ct_287_5 : ai_T (List fr_I) 4 := fr_nd 3 (fr_nd 2 (fr_nd 1 (fr_nd 0 ([]) ([(2128, js_ifCond .ne 22, 2131, 3, 2150, 0)])) (fr_nd 0 ([(1104, js_iload 4, 1106, 2, 0, 0), (1106, js_iconst 2, 1107, 1, 0, 0), (1107, js_iadd, 1108, 1, 0, 0), (1108, js_iaload, 1109, 1, 0, 0), (1109, js_aload_n 0, 1110, 1, 0, 0), (1110, js_iload 4, 1112, 2, 0, 0), (1112, js_iconst 3, 1113, 1, 0, 0), (1113, js_iadd, 1114, 1, 0, 0), (1114, js_iaload, 1115, 1, 0, 0), (1115, js_aload_n 0, 1116, 1, 0, 0), (1116, js_iload 4, 1118, 2, 0, 0), (1118, js_iconst 4, 1119, 1, 0, 0), (1119, js_iadd, 1120, 1, 0, 0)]) ([]))) (fr_nd 1 (fr_nd 0 ([(592, js_iconst 4, 593, 1, 0, 0), (593, js_iadd, 594, 1, 0, 0), (594, js_iaload, 595, 1, 0, 0), (595, js_aload_n 0, 596, 1, 0, 0), (596, js_iload 4, 598, 2, 0, 0), (598, js_iconst 5, 599, 1, 0, 0), (599, js_iadd, 600, 1, 0, 0), (600, js_iaload, 601, 1, 0, 0), (601, js_aload_n 3, 602, 1, 0, 0), (602, js_invokestatic 136, 605, 3, 262, 7), (605, js_istore 5, 607, 2, 0, 0), (607, js_aload_n 2, 608, 1, 0, 0)]) ([])) (fr_nd 0 ([(1618, js_goto 907, 1621, 3, 2525, 0), (1621, js_aload_n 1, 1622, 1, 0, 0), (1622, js_aload_n 0, 1623, 1, 0, 0), (1623, js_iload 4, 1625, 2, 0, 0), (1625, js_iconst 1, 1626, 1, 0, 0), (1626, js_iadd, 1627, 1, 0, 0), (1627, js_iaload, 1628, 1, 0, 0), (1628, js_aload_n 0, 1629, 1, 0, 0), (1629, js_iload 4, 1631, 2, 0, 0), (1631, js_iconst 2, 1632, 1, 0, 0)]) ([])))) (fr_nd 2 (fr_nd 1 (fr_nd 0 ([(336, js_iadd, 337, 1, 0, 0), (337, js_iaload, 338, 1, 0, 0), (338, js_aload_n 0, 339, 1, 0, 0), (339, js_iload 4, 341, 2, 0, 0), (341, js_bipush 8, 343, 2, 0, 0), (343, js_iadd, 344, 1, 0, 0), (344, js_iaload, 345, 1, 0, 0), (345, js_aload_n 0, 346, 1, 0, 0), (346, js_iload 4, 348, 2, 0, 0), (348, js_bipush 9, 350, 2, 0, 0), (350, js_iadd, 351, 1, 0, 0), (351, js_iaload, 352, 1, 0, 0)]) ([(2398, js_goto 127, 2401, 3, 2525, 0)])) (fr_nd 0 ([(1361, js_aload_n 1, 1362, 1, 0, 0), (1362, js_aload_n 0, 1363, 1, 0, 0), (1363, js_iload 4, 1365, 2, 0, 0), (1365, js_iconst 1, 1366, 1, 0, 0), (1366, js_iadd, 1367, 1, 0, 0), (1367, js_iaload, 1368, 1, 0, 0), (1368, js_aload_n 0, 1369, 1, 0, 0), (1369, js_iload 4, 1371, 2, 0, 0), (1371, js_iconst 2, 1372, 1, 0, 0), (1372, js_iadd, 1373, 1, 0, 0), (1373, js_iaload, 1374, 1, 0, 0), (1374, js_aload_n 3, 1375, 1, 0, 0), (1375, js_invokestatic 176, 1378, 3, 270, 4)]) ([]))) (fr_nd 1 (fr_nd 0 ([(849, js_iconst 2, 850, 1, 0, 0), (850, js_iadd, 851, 1, 0, 0), (851, js_iaload, 852, 1, 0, 0), (852, js_aload_n 3, 853, 1, 0, 0), (853, js_invokestatic 147, 856, 3, 264, 4), (856, js_istore 5, 858, 2, 0, 0), (858, js_aload_n 2, 859, 1, 0, 0), (859, js_aload_n 0, 860, 1, 0, 0), (860, js_iload 4, 862, 2, 0, 0), (862, js_iconst 1, 863, 1, 0, 0), (863, js_iadd, 864, 1, 0, 0)]) ([])) (fr_nd 0 ([(1873, js_iconst 2, 1874, 1, 0, 0), (1874, js_iadd, 1875, 1, 0, 0), (1875, js_iaload, 1876, 1, 0, 0), (1876, js_aload_n 3, 1877, 1, 0, 0), (1877, js_invokestatic 197, 1880, 3, 277, 4), (1880, js_istore 5, 1882, 2, 0, 0), (1882, js_aload_n 2, 1883, 1, 0, 0), (1883, js_aload_n 0, 1884, 1, 0, 0), (1884, js_iload 4, 1886, 2, 0, 0), (1886, js_iconst 1, 1887, 1, 0, 0), (1887, js_iadd, 1888, 1, 0, 0)]) ([]))))
noncomputable def ct_287_6 : ai_T (List fr_I) 4 := fr_nd 3 (fr_nd 2 (fr_nd 1 (fr_nd 0 ([]) ([(2150, js_goto 375, 2153, 3, 2525, 0), (2153, js_aload_n 1, 2154, 1, 0, 0), (2154, js_aload_n 0, 2155, 1, 0, 0), (2155, js_iload 4, 2157, 2, 0, 0), (2157, js_iconst 1, 2158, 1, 0, 0), (2158, js_iadd, 2159, 1, 0, 0), (2159, js_iaload, 2160, 1, 0, 0)])) (fr_nd 0 ([(1120, js_iaload, 1121, 1, 0, 0), (1121, js_invokevirtual 165, 1124, 3, 216, 773), (1124, js_istore 6, 1126, 2, 0, 0), (1126, js_aload_n 2, 1127, 1, 0, 0), (1127, js_invokevirtual 121, 1130, 3, 168, 769), (1130, js_iload 5, 1132, 2, 0, 0), (1132, js_if_icmp .eq 5, 1135, 3, 1137, 0)]) ([]))) (fr_nd 1 (fr_nd 0 ([(608, js_aload_n 0, 609, 1, 0, 0), (609, js_iload 4, 611, 2, 0, 0), (611, js_iconst 1, 612, 1, 0, 0), (612, js_iadd, 613, 1, 0, 0), (613, js_iaload, 614, 1, 0, 0), (614, js_aload_n 0, 615, 1, 0, 0), (615, js_iload 4, 617, 2, 0, 0), (617, js_iconst 2, 618, 1, 0, 0), (618, js_iadd, 619, 1, 0, 0), (619, js_iaload, 620, 1, 0, 0), (620, js_aload_n 0, 621, 1, 0, 0), (621, js_iload 4, 623, 2, 0, 0), (623, js_iconst 3, 624, 1, 0, 0)]) ([])) (fr_nd 0 ([(1632, js_iadd, 1633, 1, 0, 0), (1633, js_iaload, 1634, 1, 0, 0), (1634, js_aload_n 3, 1635, 1, 0, 0), (1635, js_invokestatic 188, 1638, 3, 274, 4), (1638, js_istore 5, 1640, 2, 0, 0), (1640, js_aload_n 2, 1641, 1, 0, 0), (1641, js_aload_n 0, 1642, 1, 0, 0), (1642, js_iload 4, 1644, 2, 0, 0), (1644, js_iconst 1, 1645, 1, 0, 0), (1645, js_iadd, 1646, 1, 0, 0), (1646, js_iaload, 1647, 1, 0, 0), (1647, js_aload_n 0, 1648, 1, 0, 0)]) ([])))) (fr_nd 2 (fr_nd 1 (fr_nd 0 ([(352, js_aload_n 3, 353, 1, 0, 0), (353, js_invokestatic 124, 356, 3, 260, 11), (356, js_istore 5, 358, 2, 0, 0), (358, js_aload_n 2, 359, 1, 0, 0), (359, js_aload_n 0, 360, 1, 0, 0), (360, js_iload 4, 362, 2, 0, 0), (362, js_iconst 1, 363, 1, 0, 0), (363, js_iadd, 364, 1, 0, 0), (364, js_iaload, 365, 1, 0, 0), (365, js_aload_n 0, 366, 1, 0, 0), (366, js_iload 4, 368, 2, 0, 0)]) ([(2401, js_aload_n 1, 2402, 1, 0, 0), (2402, js_aload_n 0, 2403, 1, 0, 0), (2403, js_iload 4, 2405, 2, 0, 0), (2405, js_iconst 1, 2406, 1, 0, 0), (2406, js_iadd, 2407, 1, 0, 0), (2407, js_iaload, 2408, 1, 0, 0), (2408, js_aload_n 0, 2409, 1, 0, 0), (2409, js_iload 4, 2411, 2, 0, 0), (2411, js_iconst 2, 2412, 1, 0, 0), (2412, js_iadd, 2413, 1, 0, 0), (2413, js_iaload, 2414, 1, 0, 0), (2414, js_aload_n 3, 2415, 1, 0, 0), (2415, js_invokestatic 222, 2418, 3, 285, 4)])) (fr_nd 0 ([(1378, js_istore 5, 1380, 2, 0, 0), (1380, js_aload_n 2, 1381, 1, 0, 0), (1381, js_aload_n 0, 1382, 1, 0, 0), (1382, js_iload 4, 1384, 2, 0, 0), (1384, js_iconst 1, 1385, 1, 0, 0), (1385, js_iadd, 1386, 1, 0, 0), (1386, js_iaload, 1387, 1, 0, 0), (1387, js_aload_n 0, 1388, 1, 0, 0), (1388, js_iload 4, 1390, 2, 0, 0), (1390, js_iconst 2, 1391, 1, 0, 0), (1391, js_iadd, 1392, 1, 0, 0)]) ([]))) (fr_nd 1 (fr_nd 0 ([(864, js_iaload, 865, 1, 0, 0), (865, js_aload_n 0, 866, 1, 0, 0), (866, js_iload 4, 868, 2, 0, 0), (868, js_iconst 2, 869, 1, 0, 0), (869, js_iadd, 870, 1, 0, 0), (870, js_iaload, 871, 1, 0, 0), (871, js_invokevirtual 150, 874, 3, 204, 771), (874, js_istore 6, 876, 2, 0, 0), (876, js_aload_n 2, 877, 1, 0, 0), (877, js_invokevirtual 121, 880, 3, 168, 769)]) ([])) (fr_nd 0 ([(1888, js_iaload, 1889, 1, 0, 0), (1889, js_aload_n 0, 1890, 1, 0, 0), (1890, js_iload 4, 1892, 2, 0, 0), (1892, js_iconst 2, 1893, 1, 0, 0), (1893, js_iadd, 1894, 1, 0, 0), (1894, js_iaload, 1895, 1, 0, 0), (1895, js_invokevirtual 199, 1898, 3, 244, 771), (1898, js_istore 6, 1900, 2, 0, 0), (1900, js_aload_n 2, 1901, 1, 0, 0), (1901, js_invokevirtual 121, 1904, 3, 168, 769)]) ([]))))
noncomputable def ct_287_7 : ai_T (List fr_I) 4 := fr_nd 3 (fr_nd 2 (fr_nd 1 (fr_nd 0 ([]) ([(2160, js_aload_n 3, 2161, 1, 0, 0), (2161, js_invokestatic 210, 2164, 3, 281, 3), (2164, js_istore 5, 2166, 2, 0, 0), (2166, js_aload_n 2, 2167, 1, 0, 0), (2167, js_aload_n 0, 2168, 1, 0, 0), (2168, js_iload 4, 2170, 2, 0, 0), (2170, js_iconst 1, 2171, 1, 0, 0), (2171, js_iadd, 2172, 1, 0, 0), (2172, js_iaload, 2173, 1, 0, 0), (2173, js_invokevirtual 212, 2176, 3, 253, 770)])) (fr_nd 0 ([(1137, js_iload 5, 1139, 2, 0, 0), (1139, js_ifCond .ne 15, 1142, 3, 1154, 0)]) ([]))) (fr_nd 1 (fr_nd 0 ([(624, js_iadd, 625, 1, 0, 0), (625, js_iaload, 626, 1, 0, 0), (626, js_aload_n 0, 627, 1, 0, 0), (627, js_iload 4, 629, 2, 0, 0), (629, js_iconst 4, 630, 1, 0, 0), (630, js_iadd, 631, 1, 0, 0), (631, js_iaload, 632, 1, 0, 0), (632, js_aload_n 0, 633, 1, 0, 0), (633, js_iload 4, 635, 2, 0, 0), (635, js_iconst 5, 636, 1, 0, 0), (636, js_iadd, 637, 1, 0, 0), (637, js_iaload, 638, 1, 0, 0), (638, js_invokevirtual 139, 641, 3, 183, 774)]) ([])) (fr_nd 0 ([(1648, js_iload 4, 1650, 2, 0, 0), (1650, js_iconst 2, 1651, 1, 0, 0), (1651, js_iadd, 1652, 1, 0, 0), (1652, js_iaload, 1653, 1, 0, 0), (1653, js_invokevirtual 190, 1656, 3, 241, 771), (1656, js_istore 6, 1658, 2, 0, 0), (1658, js_aload_n 2, 1659, 1, 0, 0), (1659, js_invokevirtual 121, 1662, 3, 168, 769), (1662, js_iload 5, 1664, 2, 0, 0)]) ([])))) (fr_nd 2 (fr_nd 1 (fr_nd 0 ([(368, js_iconst 2, 369, 1, 0, 0), (369, js_iadd, 370, 1, 0, 0), (370, js_iaload, 371, 1, 0, 0), (371, js_aload_n 0, 372, 1, 0, 0), (372, js_iload 4, 374, 2, 0, 0), (374, js_iconst 3, 375, 1, 0, 0), (375, js_iadd, 376, 1, 0, 0), (376, js_iaload, 377, 1, 0, 0), (377, js_aload_n 0, 378, 1, 0, 0), (378, js_iload 4, 380, 2, 0, 0), (380, js_iconst 4, 381, 1, 0, 0), (381, js_iadd, 382, 1, 0, 0), (382, js_iaload, 383, 1, 0, 0), (383, js_aload_n 0, 384, 1, 0, 0)]) ([(2418, js_istore 5, 2420, 2, 0, 0), (2420, js_aload_n 2, 2421, 1, 0, 0), (2421, js_aload_n 0, 2422, 1, 0, 0), (2422, js_iload 4, 2424, 2, 0, 0), (2424, js_iconst 1, 2425, 1, 0, 0), (2425, js_iadd, 2426, 1, 0, 0), (2426, js_iaload, 2427, 1, 0, 0), (2427, js_aload_n 0, 2428, 1, 0, 0), (2428, js_iload 4, 2430, 2, 0, 0), (2430, js_iconst 2, 2431, 1, 0, 0), (2431, js_iadd, 2432, 1, 0, 0)])) (fr_nd 0 ([(1392, js_iaload, 1393, 1, 0, 0), (1393, js_invokevirtual 178, 1396, 3, 232, 771), (1396, js_istore 6, 1398, 2, 0, 0), (1398, js_aload_n 2, 1399, 1, 0, 0), (1399, js_invokevirtual 121, 1402, 3, 168, 769), (1402, js_iload 5, 1404, 2, 0, 0), (1404, js_if_icmp .eq 5, 1407, 3, 1409, 0)]) ([]))) (fr_nd 1 (fr_nd 0 ([(880, js_iload 5, 882, 2, 0, 0), (882, js_if_icmp .eq 5, 885, 3, 887, 0), (887, js_iload 5, 889, 2, 0, 0), (889, js_ifCond .ne 15, 892, 3, 904, 0)]) ([])) (fr_nd 0 ([(1904, js_iload 5, 1906, 2, 0, 0), (1906, js_if_icmp .eq 5, 1909, 3, 1911, 0), (1911, js_iload 5, 1913, 2, 0, 0), (1913, js_ifCond .ne 22, 1916, 3, 1935, 0)]) ([]))))
noncomputable def ct_287_8 : ai_T (List fr_I) 4 := fr_nd 3 (fr_nd 2 (fr_nd 1 (fr_nd 0 ([]) ([(2176, js_istore 6, 2178, 2, 0, 0), (2178, js_aload_n 2, 2179, 1, 0, 0), (2179, js_invokevirtual 121, 2182, 3, 168, 769), (2182, js_iload 5, 2184, 2, 0, 0), (2184, js_if_icmp .eq 5, 2187, 3, 2189, 0), (2189, js_iload 5, 2191, 2, 0, 0), (2191, js_ifCond .ne 15, 2194, 3, 2206, 0)])) (fr_nd 0 ([(1154, js_goto 1371, 1157, 3, 2525, 0), (1157, js_aload_n 1, 1158, 1, 0, 0), (1158, js_aload_n 0, 1159, 1, 0, 0), (1159, js_iload 4, 1161, 2, 0, 0), (1161, js_iconst 1, 1162, 1, 0, 0), (1162, js_iadd, 1163, 1, 0, 0), (1163, js_iaload, 1164, 1, 0, 0), (1164, js_aload_n 0, 1165, 1, 0, 0), (1165, js_iload 4, 1167, 2, 0, 0), (1167, js_iconst 2, 1168, 1, 0, 0)]) ([]))) (fr_nd 1 (fr_nd 0 ([(641, js_istore 6, 643, 2, 0, 0), (643, js_aload_n 2, 644, 1, 0, 0), (644, js_invokevirtual 121, 647, 3, 168, 769), (647, js_iload 5, 649, 2, 0, 0), (649, js_if_icmp .eq 5, 652, 3, 654, 0), (654, js_iload 5, 656, 2, 0, 0)]) ([])) (fr_nd 0 ([(1664, js_if_icmp .eq 5, 1667, 3, 1669, 0), (1669, js_iload 5, 1671, 2, 0, 0), (1671, js_ifCond .ne 15, 1674, 3, 1686, 0)]) ([])))) (fr_nd 2 (fr_nd 1 (fr_nd 0 ([(384, js_iload 4, 386, 2, 0, 0), (386, js_iconst 5, 387, 1, 0, 0), (387, js_iadd, 388, 1, 0, 0), (388, js_iaload, 389, 1, 0, 0), (389, js_aload_n 0, 390, 1, 0, 0), (390, js_iload 4, 392, 2, 0, 0), (392, js_bipush 6, 394, 2, 0, 0), (394, js_iadd, 395, 1, 0, 0), (395, js_iaload, 396, 1, 0, 0), (396, js_aload_n 0, 397, 1, 0, 0), (397, js_iload 4, 399, 2, 0, 0), (399, js_bipush 7, 401, 2, 0, 0)]) ([(2432, js_iaload, 2433, 1, 0, 0), (2433, js_invokevirtual 224, 2436, 3, 257, 771), (2436, js_istore 6, 2438, 2, 0, 0), (2438, js_aload_n 2, 2439, 1, 0, 0), (2439, js_invokevirtual 121, 2442, 3, 168, 769), (2442, js_iload 5, 2444, 2, 0, 0), (2444, js_if_icmp .eq 5, 2447, 3, 2449, 0)])) (fr_nd 0 ([(1409, js_iload 5, 1411, 2, 0, 0), (1411, js_ifCond .ne 15, 1414, 3, 1426, 0), (1414, js_aload_n 3, 1415, 1, 0, 0), (1415, js_iconst 0, 1416, 1, 0, 0), (1416, js_laload, 1417, 1, 0, 0), (1417, js_iload 6, 1419, 2, 0, 0), (1419, js_i2l, 1420, 1, 0, 0), (1420, js_lcmp, 1421, 1, 0, 0), (1421, js_ifCond .eq 5, 1424, 3, 1426, 0)]) ([]))) (fr_nd 1 (fr_nd 0 ([(904, js_goto 1621, 907, 3, 2525, 0), (907, js_aload_n 1, 908, 1, 0, 0), (908, js_invokevirtual 151, 911, 3, 142, 705), (911, js_aload_n 2, 912, 1, 0, 0)]) ([])) (fr_nd 0 ([(1935, js_goto 590, 1938, 3, 2525, 0)]) ([]))))
noncomputable def ct_287_9 : ai_T (List fr_I) 4 := fr_nd 3 (fr_nd 2 (fr_nd 1 (fr_nd 0 ([]) ([(2194, js_aload_n 3, 2195, 1, 0, 0), (2195, js_iconst 0, 2196, 1, 0, 0), (2196, js_laload, 2197, 1, 0, 0), (2197, js_iload 6, 2199, 2, 0, 0), (2199, js_i2l, 2200, 1, 0, 0), (2200, js_lcmp, 2201, 1, 0, 0), (2201, js_ifCond .eq 5, 2204, 3, 2206, 0), (2206, js_goto 319, 2209, 3, 2525, 0)])) (fr_nd 0 ([(1168, js_iadd, 1169, 1, 0, 0), (1169, js_iaload, 1170, 1, 0, 0), (1170, js_aload_n 0, 1171, 1, 0, 0), (1171, js_iload 4, 1173, 2, 0, 0), (1173, js_iconst 3, 1174, 1, 0, 0), (1174, js_iadd, 1175, 1, 0, 0), (1175, js_iaload, 1176, 1, 0, 0), (1176, js_aload_n 3, 1177, 1, 0, 0), (1177, js_invokestatic 166, 1180, 3, 267, 5), (1180, js_istore 5, 1182, 2, 0, 0), (1182, js_aload_n 2, 1183, 1, 0, 0), (1183, js_aload_n 0, 1184, 1, 0, 0)]) ([]))) (fr_nd 1 (fr_nd 0 ([(656, js_ifCond .ne 15, 659, 3, 671, 0), (671, js_goto 1854, 674, 3, 2525, 0)]) ([])) (fr_nd 0 ([(1686, js_goto 839, 1689, 3, 2525, 0), (1689, js_aload_n 1, 1690, 1, 0, 0), (1690, js_aload_n 0, 1691, 1, 0, 0), (1691, js_iload 4, 1693, 2, 0, 0), (1693, js_iconst 1, 1694, 1, 0, 0), (1694, js_iadd, 1695, 1, 0, 0), (1695, js_iaload, 1696, 1, 0, 0)]) ([])))) (fr_nd 2 (fr_nd 1 (fr_nd 0 ([(401, js_iadd, 402, 1, 0, 0), (402, js_iaload, 403, 1, 0, 0), (403, js_aload_n 0, 404, 1, 0, 0), (404, js_iload 4, 406, 2, 0, 0), (406, js_bipush 8, 408, 2, 0, 0), (408, js_iadd, 409, 1, 0, 0), (409, js_iaload, 410, 1, 0, 0), (410, js_aload_n 0, 411, 1, 0, 0), (411, js_iload 4, 413, 2, 0, 0), (413, js_bipush 9, 415, 2, 0, 0), (415, js_iadd, 416, 1, 0, 0)]) ([(2449, js_iload 5, 2451, 2, 0, 0), (2451, js_ifCond .ne 15, 2454, 3, 2466, 0)])) (fr_nd 0 ([(1426, js_goto 1099, 1429, 3, 2525, 0), (1429, js_aload_n 1, 1430, 1, 0, 0), (1430, js_aload_n 0, 1431, 1, 0, 0), (1431, js_iload 4, 1433, 2, 0, 0), (1433, js_iconst 1, 1434, 1, 0, 0), (1434, js_iadd, 1435, 1, 0, 0), (1435, js_iaload, 1436, 1, 0, 0), (1436, js_aload_n 0, 1437, 1, 0, 0), (1437, js_iload 4, 1439, 2, 0, 0), (1439, js_iconst 2, 1440, 1, 0, 0)]) ([]))) (fr_nd 1 (fr_nd 0 ([(912, js_invokevirtual 154, 915, 3, 205, 769), (915, js_if_icmp .eq 1610, 918, 3, 2525, 0), (920, js_aload_n 1, 921, 1, 0, 0), (921, js_aload_n 0, 922, 1, 0, 0), (922, js_iload 4, 924, 2, 0, 0), (924, js_iconst 1, 925, 1, 0, 0), (925, js_iadd, 926, 1, 0, 0), (926, js_iaload, 927, 1, 0, 0), (927, js_aload_n 0, 928, 1, 0, 0)]) ([])) (fr_nd 0 ([(1938, js_aload_n 1, 1939, 1, 0, 0), (1939, js_aload_n 0, 1940, 1, 0, 0), (1940, js_iload 4, 1942, 2, 0, 0), (1942, js_iconst 1, 1943, 1, 0, 0), (1943, js_iadd, 1944, 1, 0, 0), (1944, js_iaload, 1945, 1, 0, 0), (1945, js_aload_n 3, 1946, 1, 0, 0), (1946, js_invokestatic 200, 1949, 3, 278, 3), (1949, js_istore 5, 1951, 2, 0, 0), (1951, js_aload_n 2, 1952, 1, 0, 0)]) ([]))))
noncomputable def ct_287_10 : ai_T (List fr_I) 4 := fr_nd 3 (fr_nd 2 (fr_nd 1 (fr_nd 0 ([]) ([(2209, js_aload_n 1, 2210, 1, 0, 0), (2210, js_aload_n 0, 2211, 1, 0, 0), (2211, js_iload 4, 2213, 2, 0, 0), (2213, js_iconst 1, 2214, 1, 0, 0), (2214, js_iadd, 2215, 1, 0, 0), (2215, js_iaload, 2216, 1, 0, 0), (2216, js_aload_n 3, 2217, 1, 0, 0), (2217, js_invokestatic 213, 2220, 3, 282, 3), (2220, js_istore 5, 2222, 2, 0, 0), (2222, js_aload_n 2, 2223, 1, 0, 0), (2223, js_aload_n 0, 2224, 1, 0, 0)])) (fr_nd 0 ([(1184, js_iload 4, 1186, 2, 0, 0), (1186, js_iconst 1, 1187, 1, 0, 0), (1187, js_iadd, 1188, 1, 0, 0), (1188, js_iaload, 1189, 1, 0, 0), (1189, js_aload_n 0, 1190, 1, 0, 0), (1190, js_iload 4, 1192, 2, 0, 0), (1192, js_iconst 2, 1193, 1, 0, 0), (1193, js_iadd, 1194, 1, 0, 0), (1194, js_iaload, 1195, 1, 0, 0), (1195, js_aload_n 0, 1196, 1, 0, 0), (1196, js_iload 4, 1198, 2, 0, 0), (1198, js_iconst 3, 1199, 1, 0, 0), (1199, js_iadd, 1200, 1, 0, 0)]) ([]))) (fr_nd 1 (fr_nd 0 ([(674, js_aload_n 1, 675, 1, 0, 0), (675, js_aload_n 0, 676, 1, 0, 0), (676, js_iload 4, 678, 2, 0, 0), (678, js_iconst 1, 679, 1, 0, 0), (679, js_iadd, 680, 1, 0, 0), (680, js_iaload, 681, 1, 0, 0), (681, js_aload_n 0, 682, 1, 0, 0), (682, js_iload 4, 684, 2, 0, 0), (684, js_iconst 2, 685, 1, 0, 0), (685, js_iadd, 686, 1, 0, 0), (686, js_iaload, 687, 1, 0, 0), (687, js_aload_n 0, 688, 1, 0, 0)]) ([])) (fr_nd 0 ([(1696, js_aload_n 0, 1697, 1, 0, 0), (1697, js_iload 4, 1699, 2, 0, 0), (1699, js_iconst 2, 1700, 1, 0, 0), (1700, js_iadd, 1701, 1, 0, 0), (1701, js_iaload, 1702, 1, 0, 0), (1702, js_aload_n 3, 1703, 1, 0, 0), (1703, js_invokestatic 191, 1706, 3, 275, 4), (1706, js_istore 5, 1708, 2, 0, 0), (1708, js_aload_n 2, 1709, 1, 0, 0), (1709, js_aload_n 0, 1710, 1, 0, 0), (1710, js_iload 4, 1712, 2, 0, 0)]) ([])))) (fr_nd 2 (fr_nd 1 (fr_nd 0 ([(416, js_iaload, 417, 1, 0, 0), (417, js_invokevirtual 127, 420, 3, 178, 778), (420, js_istore 6, 422, 2, 0, 0), (422, js_aload_n 2, 423, 1, 0, 0), (423, js_invokevirtual 121, 426, 3, 168, 769), (426, js_iload 5, 428, 2, 0, 0), (428, js_if_icmp .eq 5, 431, 3, 433, 0)]) ([(2466, js_goto 59, 2469, 3, 2525, 0), (2469, js_aload_n 1, 2470, 1, 0, 0), (2470, js_aload_n 0, 2471, 1, 0, 0), (2471, js_iload 4, 2473, 2, 0, 0), (2473, js_iconst 1, 2474, 1, 0, 0), (2474, js_iadd, 2475, 1, 0, 0), (2475, js_iaload, 2476, 1, 0, 0), (2476, js_aload_n 3, 2477, 1, 0, 0), (2477, js_invokestatic 225, 2480, 3, 286, 3)])) (fr_nd 0 ([(1440, js_iadd, 1441, 1, 0, 0), (1441, js_iaload, 1442, 1, 0, 0), (1442, js_aload_n 3, 1443, 1, 0, 0), (1443, js_invokestatic 179, 1446, 3, 271, 4), (1446, js_istore 5, 1448, 2, 0, 0), (1448, js_aload_n 2, 1449, 1, 0, 0), (1449, js_aload_n 0, 1450, 1, 0, 0), (1450, js_iload 4, 1452, 2, 0, 0), (1452, js_iconst 1, 1453, 1, 0, 0), (1453, js_iadd, 1454, 1, 0, 0), (1454, js_iaload, 1455, 1, 0, 0), (1455, js_aload_n 0, 1456, 1, 0, 0)]) ([]))) (fr_nd 1 (fr_nd 0 ([(928, js_iload 4, 930, 2, 0, 0), (930, js_iconst 2, 931, 1, 0, 0), (931, js_iadd, 932, 1, 0, 0), (932, js_iaload, 933, 1, 0, 0), (933, js_aload_n 0, 934, 1, 0, 0), (934, js_iload 4, 936, 2, 0, 0), (936, js_iconst 3, 937, 1, 0, 0), (937, js_iadd, 938, 1, 0, 0), (938, js_iaload, 939, 1, 0, 0), (939, js_aload_n 3, 940, 1, 0, 0), (940, js_invokestatic 155, 943, 3, 265, 5), (943, js_istore 5, 945, 2, 0, 0)]) ([])) (fr_nd 0 ([(1952, js_aload_n 0, 1953, 1, 0, 0), (1953, js_iload 4, 1955, 2, 0, 0), (1955, js_iconst 1, 1956, 1, 0, 0), (1956, js_iadd, 1957, 1, 0, 0), (1957, js_iaload, 1958, 1, 0, 0), (1958, js_invokevirtual 202, 1961, 3, 247, 770), (1961, js_istore 6, 1963, 2, 0, 0), (1963, js_aload_n 2, 1964, 1, 0, 0), (1964, js_invokevirtual 121, 1967, 3, 168, 769), (1967, js_iload 5, 1969, 2, 0, 0)]) ([]))))
noncomputable def ct_287_11 : ai_T (List fr_I) 4 := fr_nd 3 (fr_nd 2 (fr_nd 1 (fr_nd 0 ([(188, js_aload_n 1, 189, 1, 0, 0), (189, js_invokevirtual 110, 192, 3, 133, 705)]) ([(2224, js_iload 4, 2226, 2, 0, 0), (2226, js_iconst 1, 2227, 1, 0, 0), (2227, js_iadd, 2228, 1, 0, 0), (2228, js_iaload, 2229, 1, 0, 0), (2229, js_invokevirtual 215, 2232, 3, 254, 770), (2232, js_istore 6, 2234, 2, 0, 0), (2234, js_aload_n 2, 2235, 1, 0, 0), (2235, js_invokevirtual 121, 2238, 3, 168, 769), (2238, js_iload 5, 2240, 2, 0, 0)])) (fr_nd 0 ([(1200, js_iaload, 1201, 1, 0, 0), (1201, js_invokevirtual 168, 1204, 3, 223, 772), (1204, js_istore 6, 1206, 2, 0, 0), (1206, js_aload_n 2, 1207, 1, 0, 0), (1207, js_invokevirtual 121, 1210, 3, 168, 769), (1210, js_iload 5, 1212, 2, 0, 0), (1212, js_if_icmp .eq 5, 1215, 3, 1217, 0)]) ([]))) (fr_nd 1 (fr_nd 0 ([(688, js_iload 4, 690, 2, 0, 0), (690, js_iconst 3, 691, 1, 0, 0), (691, js_iadd, 692, 1, 0, 0), (692, js_iaload, 693, 1, 0, 0), (693, js_aload_n 0, 694, 1, 0, 0), (694, js_iload 4, 696, 2, 0, 0), (696, js_iconst 4, 697, 1, 0, 0), (697, js_iadd, 698, 1, 0, 0), (698, js_iaload, 699, 1, 0, 0), (699, js_aload_n 3, 700, 1, 0, 0), (700, js_invokestatic 140, 703, 3, 263, 6), (703, js_istore 5, 705, 2, 0, 0)]) ([])) (fr_nd 0 ([(1712, js_iconst 1, 1713, 1, 0, 0), (1713, js_iadd, 1714, 1, 0, 0), (1714, js_iaload, 1715, 1, 0, 0), (1715, js_aload_n 0, 1716, 1, 0, 0), (1716, js_iload 4, 1718, 2, 0, 0), (1718, js_iconst 2, 1719, 1, 0, 0), (1719, js_iadd, 1720, 1, 0, 0), (1720, js_iaload, 1721, 1, 0, 0), (1721, js_invokevirtual 193, 1724, 3, 242, 771), (1724, js_istore 6, 1726, 2, 0, 0), (1726, js_aload_n 2, 1727, 1, 0, 0), (1727, js_invokevirtual 121, 1730, 3, 168, 769)]) ([])))) (fr_nd 2 (fr_nd 1 (fr_nd 0 ([(433, js_iload 5, 435, 2, 0, 0), (435, js_ifCond .ne 15, 438, 3, 450, 0)]) ([(2480, js_istore 5, 2482, 2, 0, 0), (2482, js_aload_n 2, 2483, 1, 0, 0), (2483, js_aload_n 0, 2484, 1, 0, 0), (2484, js_iload 4, 2486, 2, 0, 0), (2486, js_iconst 1, 2487, 1, 0, 0), (2487, js_iadd, 2488, 1, 0, 0), (2488, js_iaload, 2489, 1, 0, 0), (2489, js_invokevirtual 227, 2492, 3, 258, 770), (2492, js_istore 6, 2494, 2, 0, 0), (2494, js_aload_n 2, 2495, 1, 0, 0), (2495, js_invokevirtual 121, 2498, 3, 168, 769)])) (fr_nd 0 ([(1456, js_iload 4, 1458, 2, 0, 0), (1458, js_iconst 2, 1459, 1, 0, 0), (1459, js_iadd, 1460, 1, 0, 0), (1460, js_iaload, 1461, 1, 0, 0), (1461, js_invokevirtual 181, 1464, 3, 233, 771), (1464, js_istore 6, 1466, 2, 0, 0), (1466, js_aload_n 2, 1467, 1, 0, 0), (1467, js_invokevirtual 121, 1470, 3, 168, 769), (1470, js_iload 5, 1472, 2, 0, 0)]) ([]))) (fr_nd 1 (fr_nd 0 ([(945, js_aload_n 2, 946, 1, 0, 0), (946, js_aload_n 0, 947, 1, 0, 0), (947, js_iload 4, 949, 2, 0, 0), (949, js_iconst 1, 950, 1, 0, 0), (950, js_iadd, 951, 1, 0, 0), (951, js_iaload, 952, 1, 0, 0), (952, js_aload_n 0, 953, 1, 0, 0), (953, js_iload 4, 955, 2, 0, 0), (955, js_iconst 2, 956, 1, 0, 0), (956, js_iadd, 957, 1, 0, 0), (957, js_iaload, 958, 1, 0, 0), (958, js_aload_n 0, 959, 1, 0, 0), (959, js_iload 4, 961, 2, 0, 0)]) ([])) (fr_nd 0 ([(1969, js_if_icmp .eq 5, 1972, 3, 1974, 0), (1974, js_iload 5, 1976, 2, 0, 0), (1976, js_ifCond .ne 15, 1979, 3, 1991, 0), (1979, js_aload_n 3, 1980, 1, 0, 0), (1980, js_iconst 0, 1981, 1, 0, 0), (1981, js_laload, 1982, 1, 0, 0), (1982, js_iload 6, 1984, 2, 0, 0)]) ([]))))
noncomputable def ct_287_12 : ai_T (List fr_I) 4 := fr_nd 3 (fr_nd 2 (fr_nd 1 (fr_nd 0 ([(192, js_aload_n 2, 193, 1, 0, 0), (193, js_invokevirtual 114, 196, 3, 175, 769), (196, js_if_icmp .eq 2329, 199, 3, 2525, 0), (201, js_aload_n 1, 202, 1, 0, 0), (202, js_aload_n 0, 203, 1, 0, 0), (203, js_iload 4, 205, 2, 0, 0), (205, js_iconst 1, 206, 1, 0, 0), (206, js_iadd, 207, 1, 0, 0), (207, js_iaload, 208, 1, 0, 0)]) ([(2240, js_if_icmp .eq 5, 2243, 3, 2245, 0), (2245, js_iload 5, 2247, 2, 0, 0), (2247, js_ifCond .ne 15, 2250, 3, 2262, 0)])) (fr_nd 0 ([(1217, js_iload 5, 1219, 2, 0, 0), (1219, js_ifCond .ne 15, 1222, 3, 1234, 0), (1222, js_aload_n 3, 1223, 1, 0, 0), (1223, js_iconst 0, 1224, 1, 0, 0), (1224, js_laload, 1225, 1, 0, 0), (1225, js_iload 6, 1227, 2, 0, 0), (1227, js_i2l, 1228, 1, 0, 0), (1228, js_lcmp, 1229, 1, 0, 0), (1229, js_ifCond .eq 5, 1232, 3, 1234, 0)]) ([]))) (fr_nd 1 (fr_nd 0 ([(705, js_aload_n 2, 706, 1, 0, 0), (706, js_aload_n 0, 707, 1, 0, 0), (707, js_iload 4, 709, 2, 0, 0), (709, js_iconst 1, 710, 1, 0, 0), (710, js_iadd, 711, 1, 0, 0), (711, js_iaload, 712, 1, 0, 0), (712, js_aload_n 0, 713, 1, 0, 0), (713, js_iload 4, 715, 2, 0, 0), (715, js_iconst 2, 716, 1, 0, 0), (716, js_iadd, 717, 1, 0, 0), (717, js_iaload, 718, 1, 0, 0), (718, js_aload_n 0, 719, 1, 0, 0), (719, js_iload 4, 721, 2, 0, 0)]) ([])) (fr_nd 0 ([(1730, js_iload 5, 1732, 2, 0, 0), (1732, js_if_icmp .eq 5, 1735, 3, 1737, 0), (1737, js_iload 5, 1739, 2, 0, 0), (1739, js_ifCond .ne 22, 1742, 3, 1761, 0), (1742, js_aload_n 3, 1743, 1, 0, 0), (1743, js_iconst 0, 1744, 1, 0, 0)]) ([])))) (fr_nd 2 (fr_nd 1 (fr_nd 0 ([(450, js_goto 2075, 453, 3, 2525, 0), (453, js_aload_n 1, 454, 1, 0, 0), (454, js_aload_n 0, 455, 1, 0, 0), (455, js_iload 4, 457, 2, 0, 0), (457, js_iconst 1, 458, 1, 0, 0), (458, js_iadd, 459, 1, 0, 0), (459, js_iaload, 460, 1, 0, 0), (460, js_aload_n 0, 461, 1, 0, 0), (461, js_iload 4, 463, 2, 0, 0), (463, js_iconst 2, 464, 1, 0, 0)]) ([(2498, js_iload 5, 2500, 2, 0, 0), (2500, js_if_icmp .eq 5, 2503, 3, 2505, 0), (2505, js_iload 5, 2507, 2, 0, 0), (2507, js_ifCond .ne 15, 2510, 3, 2522, 0), (2510, js_aload_n 3, 2511, 1, 0, 0), (2511, js_iconst 0, 2512, 1, 0, 0)])) (fr_nd 0 ([(1472, js_if_icmp .eq 5, 1475, 3, 1477, 0), (1477, js_iload 5, 1479, 2, 0, 0), (1479, js_ifCond .ne 15, 1482, 3, 1494, 0)]) ([]))) (fr_nd 1 (fr_nd 0 ([(961, js_iconst 3, 962, 1, 0, 0), (962, js_iadd, 963, 1, 0, 0), (963, js_iaload, 964, 1, 0, 0), (964, js_invokevirtual 157, 967, 3, 210, 772), (967, js_istore 6, 969, 2, 0, 0), (969, js_aload_n 2, 970, 1, 0, 0), (970, js_invokevirtual 121, 973, 3, 168, 769), (973, js_iload 5, 975, 2, 0, 0), (975, js_if_icmp .eq 5, 978, 3, 980, 0)]) ([])) (fr_nd 0 ([(1984, js_i2l, 1985, 1, 0, 0), (1985, js_lcmp, 1986, 1, 0, 0), (1986, js_ifCond .eq 5, 1989, 3, 1991, 0), (1991, js_goto 534, 1994, 3, 2525, 0), (1994, js_aload_n 1, 1995, 1, 0, 0), (1995, js_aload_n 0, 1996, 1, 0, 0), (1996, js_iload 4, 1998, 2, 0, 0), (1998, js_iconst 1, 1999, 1, 0, 0), (1999, js_iadd, 2000, 1, 0, 0)]) ([]))))
noncomputable def ct_287_13 : ai_T (List fr_I) 4 := fr_nd 3 (fr_nd 2 (fr_nd 1 (fr_nd 0 ([(208, js_aload_n 0, 209, 1, 0, 0), (209, js_iload 4, 211, 2, 0, 0), (211, js_iconst 2, 212, 1, 0, 0), (212, js_iadd, 213, 1, 0, 0), (213, js_iaload, 214, 1, 0, 0), (214, js_aload_n 0, 215, 1, 0, 0), (215, js_iload 4, 217, 2, 0, 0), (217, js_iconst 3, 218, 1, 0, 0), (218, js_iadd, 219, 1, 0, 0), (219, js_iaload, 220, 1, 0, 0), (220, js_aload_n 0, 221, 1, 0, 0), (221, js_iload 4, 223, 2, 0, 0), (223, js_iconst 4, 224, 1, 0, 0)]) ([(2262, js_goto 263, 2265, 3, 2525, 0), (2265, js_aload_n 1, 2266, 1, 0, 0), (2266, js_aload_n 0, 2267, 1, 0, 0), (2267, js_iload 4, 2269, 2, 0, 0), (2269, js_iconst 1, 2270, 1, 0, 0), (2270, js_iadd, 2271, 1, 0, 0), (2271, js_iaload, 2272, 1, 0, 0)])) (fr_nd 0 ([(1234, js_goto 1291, 1237, 3, 2525, 0), (1237, js_aload_n 1, 1238, 1, 0, 0), (1238, js_aload_n 0, 1239, 1, 0, 0), (1239, js_iload 4, 1241, 2, 0, 0), (1241, js_iconst 1, 1242, 1, 0, 0), (1242, js_iadd, 1243, 1, 0, 0), (1243, js_iaload, 1244, 1, 0, 0), (1244, js_aload_n 3, 1245, 1, 0, 0), (1245, js_invokestatic 169, 1248, 3, 268, 3)]) ([]))) (fr_nd 1 (fr_nd 0 ([(721, js_iconst 3, 722, 1, 0, 0), (722, js_iadd, 723, 1, 0, 0), (723, js_iaload, 724, 1, 0, 0), (724, js_aload_n 0, 725, 1, 0, 0), (725, js_iload 4, 727, 2, 0, 0), (727, js_iconst 4, 728, 1, 0, 0), (728, js_iadd, 729, 1, 0, 0), (729, js_iaload, 730, 1, 0, 0), (730, js_invokevirtual 142, 733, 3, 184, 773), (733, js_istore 6, 735, 2, 0, 0), (735, js_aload_n 2, 736, 1, 0, 0)]) ([])) (fr_nd 0 ([(1744, js_laload, 1745, 1, 0, 0), (1745, js_iload 6, 1747, 2, 0, 0), (1747, js_ifCond .eq 7, 1750, 3, 1754, 0), (1754, js_lconst 0, 1755, 1, 0, 0), (1755, js_lcmp, 1756, 1, 0, 0), (1756, js_ifCond .eq 5, 1759, 3, 1761, 0)]) ([])))) (fr_nd 2 (fr_nd 1 (fr_nd 0 ([(464, js_iadd, 465, 1, 0, 0), (465, js_iaload, 466, 1, 0, 0), (466, js_invokevirtual 128, 469, 3, 136, 707), (469, js_aload_n 2, 470, 1, 0, 0), (470, js_aload_n 0, 471, 1, 0, 0), (471, js_iload 4, 473, 2, 0, 0), (473, js_iconst 1, 474, 1, 0, 0), (474, js_iadd, 475, 1, 0, 0), (475, js_iaload, 476, 1, 0, 0), (476, js_aload_n 0, 477, 1, 0, 0), (477, js_iload 4, 479, 2, 0, 0), (479, js_iconst 2, 480, 1, 0, 0)]) ([(2512, js_laload, 2513, 1, 0, 0), (2513, js_iload 6, 2515, 2, 0, 0), (2515, js_i2l, 2516, 1, 0, 0), (2516, js_lcmp, 2517, 1, 0, 0), (2517, js_ifCond .eq 5, 2520, 3, 2522, 0), (2522, js_goto 3, 2525, 3, 2525, 0), (2525, js_iinc 4 10, 2528, 3, 0, 0)])) (fr_nd 0 ([(1494, js_goto 1031, 1497, 3, 2525, 0), (1497, js_aload_n 1, 1498, 1, 0, 0), (1498, js_aload_n 0, 1499, 1, 0, 0), (1499, js_iload 4, 1501, 2, 0, 0), (1501, js_iconst 1, 1502, 1, 0, 0), (1502, js_iadd, 1503, 1, 0, 0), (1503, js_iaload, 1504, 1, 0, 0)]) ([]))) (fr_nd 1 (fr_nd 0 ([(980, js_iload 5, 982, 2, 0, 0), (982, js_ifCond .ne 15, 985, 3, 997, 0)]) ([])) (fr_nd 0 ([(2000, js_iaload, 2001, 1, 0, 0), (2001, js_aload_n 3, 2002, 1, 0, 0), (2002, js_invokestatic 203, 2005, 3, 279, 3), (2005, js_istore 5, 2007, 2, 0, 0), (2007, js_aload_n 2, 2008, 1, 0, 0), (2008, js_aload_n 0, 2009, 1, 0, 0), (2009, js_iload 4, 2011, 2, 0, 0), (2011, js_iconst 1, 2012, 1, 0, 0), (2012, js_iadd, 2013, 1, 0, 0), (2013, js_iaload, 2014, 1, 0, 0), (2014, js_invokevirtual 205, 2017, 3, 248, 770)]) ([]))))
noncomputable def ct_287_14 : ai_T (List fr_I) 4 := fr_nd 3 (fr_nd 2 (fr_nd 1 (fr_nd 0 ([(224, js_iadd, 225, 1, 0, 0), (225, js_iaload, 226, 1, 0, 0), (226, js_aload_n 3, 227, 1, 0, 0), (227, js_invokestatic 115, 230, 3, 259, 6), (230, js_istore 5, 232, 2, 0, 0), (232, js_aload_n 2, 233, 1, 0, 0), (233, js_aload_n 0, 234, 1, 0, 0), (234, js_iload 4, 236, 2, 0, 0), (236, js_iconst 1, 237, 1, 0, 0), (237, js_iadd, 238, 1, 0, 0), (238, js_iaload, 239, 1, 0, 0), (239, js_aload_n 0, 240, 1, 0, 0)]) ([(2272, js_aload_n 3, 2273, 1, 0, 0), (2273, js_invokestatic 216, 2276, 3, 283, 3), (2276, js_istore 5, 2278, 2, 0, 0), (2278, js_aload_n 2, 2279, 1, 0, 0), (2279, js_aload_n 0, 2280, 1, 0, 0), (2280, js_iload 4, 2282, 2, 0, 0), (2282, js_iconst 1, 2283, 1, 0, 0), (2283, js_iadd, 2284, 1, 0, 0), (2284, js_iaload, 2285, 1, 0, 0), (2285, js_invokevirtual 218, 2288, 3, 255, 770)])) (fr_nd 0 ([(1248, js_istore 5, 1250, 2, 0, 0), (1250, js_aload_n 2, 1251, 1, 0, 0), (1251, js_aload_n 0, 1252, 1, 0, 0), (1252, js_iload 4, 1254, 2, 0, 0), (1254, js_iconst 1, 1255, 1, 0, 0), (1255, js_iadd, 1256, 1, 0, 0), (1256, js_iaload, 1257, 1, 0, 0), (1257, js_invokevirtual 172, 1260, 3, 224, 770), (1260, js_istore 6, 1262, 2, 0, 0), (1262, js_aload_n 2, 1263, 1, 0, 0), (1263, js_invokevirtual 121, 1266, 3, 168, 769)]) ([]))) (fr_nd 1 (fr_nd 0 ([(736, js_invokevirtual 121, 739, 3, 168, 769), (739, js_iload 5, 741, 2, 0, 0), (741, js_if_icmp .eq 5, 744, 3, 746, 0), (746, js_iload 5, 748, 2, 0, 0), (748, js_ifCond .ne 15, 751, 3, 763, 0)]) ([])) (fr_nd 0 ([(1761, js_goto 764, 1764, 3, 2525, 0), (1764, js_aload_n 1, 1765, 1, 0, 0), (1765, js_aload_n 0, 1766, 1, 0, 0), (1766, js_iload 4, 1768, 2, 0, 0), (1768, js_iconst 1, 1769, 1, 0, 0), (1769, js_iadd, 1770, 1, 0, 0), (1770, js_iaload, 1771, 1, 0, 0), (1771, js_aload_n 0, 1772, 1, 0, 0), (1772, js_iload 4, 1774, 2, 0, 0), (1774, js_iconst 2, 1775, 1, 0, 0), (1775, js_iadd, 1776, 1, 0, 0)]) ([])))) (fr_nd 2 (fr_nd 1 (fr_nd 0 ([(480, js_iadd, 481, 1, 0, 0), (481, js_iaload, 482, 1, 0, 0), (482, js_invokevirtual 131, 485, 3, 180, 771), (485, js_if_icmp .eq 2040, 488, 3, 2525, 0), (490, js_aload_n 1, 491, 1, 0, 0), (491, js_aload_n 0, 492, 1, 0, 0), (492, js_iload 4, 494, 2, 0, 0), (494, js_iconst 1, 495, 1, 0, 0), (495, js_iadd, 496, 1, 0, 0)]) ([(2528, js_goto (-2505), 2531, 3, 23, 0), (2531, js_iconst 1, 2532, 1, 0, 0), (2532, js_ireturn, 2533, 1, 2, 0)])) (fr_nd 0 ([(1504, js_aload_n 0, 1505, 1, 0, 0), (1505, js_iload 4, 1507, 2, 0, 0), (1507, js_iconst 2, 1508, 1, 0, 0), (1508, js_iadd, 1509, 1, 0, 0), (1509, js_iaload, 1510, 1, 0, 0), (1510, js_aload_n 3, 1511, 1, 0, 0), (1511, js_invokestatic 182, 1514, 3, 272, 4), (1514, js_istore 5, 1516, 2, 0, 0), (1516, js_aload_n 2, 1517, 1, 0, 0), (1517, js_aload_n 0, 1518, 1, 0, 0), (1518, js_iload 4, 1520, 2, 0, 0)]) ([]))) (fr_nd 1 (fr_nd 0 ([(997, js_goto 1528, 1000, 3, 2525, 0), (1000, js_aload_n 1, 1001, 1, 0, 0), (1001, js_aload_n 0, 1002, 1, 0, 0), (1002, js_iload 4, 1004, 2, 0, 0), (1004, js_iconst 1, 1005, 1, 0, 0), (1005, js_iadd, 1006, 1, 0, 0), (1006, js_iaload, 1007, 1, 0, 0), (1007, js_ifCond .eq 7, 1010, 3, 1014, 0)]) ([])) (fr_nd 0 ([(2017, js_istore 6, 2019, 2, 0, 0), (2019, js_aload_n 2, 2020, 1, 0, 0), (2020, js_invokevirtual 121, 2023, 3, 168, 769), (2023, js_iload 5, 2025, 2, 0, 0), (2025, js_if_icmp .eq 5, 2028, 3, 2030, 0), (2030, js_iload 5, 2032, 2, 0, 0)]) ([]))))
noncomputable def ct_287_15 : ai_T (List fr_I) 4 := fr_nd 3 (fr_nd 2 (fr_nd 1 (fr_nd 0 ([(240, js_iload 4, 242, 2, 0, 0), (242, js_iconst 2, 243, 1, 0, 0), (243, js_iadd, 244, 1, 0, 0), (244, js_iaload, 245, 1, 0, 0), (245, js_aload_n 0, 246, 1, 0, 0), (246, js_iload 4, 248, 2, 0, 0), (248, js_iconst 3, 249, 1, 0, 0), (249, js_iadd, 250, 1, 0, 0), (250, js_iaload, 251, 1, 0, 0), (251, js_aload_n 0, 252, 1, 0, 0), (252, js_iload 4, 254, 2, 0, 0), (254, js_iconst 4, 255, 1, 0, 0), (255, js_iadd, 256, 1, 0, 0)]) ([(2288, js_istore 6, 2290, 2, 0, 0), (2290, js_aload_n 2, 2291, 1, 0, 0), (2291, js_invokevirtual 121, 2294, 3, 168, 769), (2294, js_iload 5, 2296, 2, 0, 0), (2296, js_if_icmp .eq 5, 2299, 3, 2301, 0), (2301, js_iload 5, 2303, 2, 0, 0), (2303, js_ifCond .ne 15, 2306, 3, 2318, 0)])) (fr_nd 0 ([(1266, js_iload 5, 1268, 2, 0, 0), (1268, js_if_icmp .eq 5, 1271, 3, 1273, 0), (1273, js_iload 5, 1275, 2, 0, 0), (1275, js_ifCond .ne 15, 1278, 3, 1290, 0)]) ([]))) (fr_nd 1 (fr_nd 0 ([(763, js_goto 1762, 766, 3, 2525, 0), (766, js_aload_n 1, 767, 1, 0, 0), (767, js_aload_n 0, 768, 1, 0, 0)]) ([])) (fr_nd 0 ([(1776, js_iaload, 1777, 1, 0, 0), (1777, js_aload_n 0, 1778, 1, 0, 0), (1778, js_iload 4, 1780, 2, 0, 0), (1780, js_iconst 3, 1781, 1, 0, 0), (1781, js_iadd, 1782, 1, 0, 0), (1782, js_iaload, 1783, 1, 0, 0), (1783, js_aload_n 0, 1784, 1, 0, 0), (1784, js_iload 4, 1786, 2, 0, 0), (1786, js_iconst 4, 1787, 1, 0, 0), (1787, js_iadd, 1788, 1, 0, 0), (1788, js_iaload, 1789, 1, 0, 0), (1789, js_aload_n 3, 1790, 1, 0, 0), (1790, js_invokestatic 194, 1793, 3, 276, 6)]) ([])))) (fr_nd 2 (fr_nd 1 (fr_nd 0 ([(496, js_iaload, 497, 1, 0, 0), (497, js_aload_n 0, 498, 1, 0, 0), (498, js_iload 4, 500, 2, 0, 0), (500, js_iconst 2, 501, 1, 0, 0), (501, js_iadd, 502, 1, 0, 0), (502, js_iaload, 503, 1, 0, 0), (503, js_aload_n 0, 504, 1, 0, 0), (504, js_iload 4, 506, 2, 0, 0), (506, js_iconst 3, 507, 1, 0, 0), (507, js_iadd, 508, 1, 0, 0), (508, js_iaload, 509, 1, 0, 0), (509, js_aload_n 3, 510, 1, 0, 0), (510, js_invokestatic 132, 513, 3, 261, 5)]) ([])) (fr_nd 0 ([(1520, js_iconst 1, 1521, 1, 0, 0), (1521, js_iadd, 1522, 1, 0, 0), (1522, js_iaload, 1523, 1, 0, 0), (1523, js_aload_n 0, 1524, 1, 0, 0), (1524, js_iload 4, 1526, 2, 0, 0), (1526, js_iconst 2, 1527, 1, 0, 0), (1527, js_iadd, 1528, 1, 0, 0), (1528, js_iaload, 1529, 1, 0, 0), (1529, js_invokevirtual 184, 1532, 3, 236, 771), (1532, js_istore 6, 1534, 2, 0, 0), (1534, js_aload_n 2, 1535, 1, 0, 0), (1535, js_invokevirtual 121, 1538, 3, 168, 769)]) ([]))) (fr_nd 1 (fr_nd 0 ([(1010, js_iconst 1, 1011, 1, 0, 0), (1011, js_goto 4, 1014, 3, 1015, 0), (1014, js_iconst 0, 1015, 1, 0, 0), (1015, js_aload_n 0, 1016, 1, 0, 0), (1016, js_iload 4, 1018, 2, 0, 0), (1018, js_iconst 2, 1019, 1, 0, 0), (1019, js_iadd, 1020, 1, 0, 0), (1020, js_iaload, 1021, 1, 0, 0), (1021, js_aload_n 0, 1022, 1, 0, 0), (1022, js_iload 4, 1024, 2, 0, 0)]) ([])) (fr_nd 0 ([(2032, js_ifCond .ne 15, 2035, 3, 2047, 0), (2047, js_goto 478, 2050, 3, 2525, 0)]) ([]))))
noncomputable def ct_287 : ai_T (List fr_I) 8 := fr_nd 7 (fr_nd 6 (fr_nd 5 (fr_nd 4 (ct_287_0) (ct_287_8)) (fr_nd 4 (ct_287_4) (ct_287_12))) (fr_nd 5 (fr_nd 4 (ct_287_2) (ct_287_10)) (fr_nd 4 (ct_287_6) (ct_287_14)))) (fr_nd 6 (fr_nd 5 (fr_nd 4 (ct_287_1) (ct_287_9)) (fr_nd 4 (ct_287_5) (ct_287_13))) (fr_nd 5 (fr_nd 4 (ct_287_3) (ct_287_11)) (fr_nd 4 (ct_287_7) (ct_287_15))))
noncomputable def ct_law (ann : Nat → Option ai_AA) : fr_M := (7, fr_code 8 ct_287, (fun _ _ => some (0, 99999)), (600002, 7302232), ann)
/-- java/util/Arrays.fill([II)V -/
noncomputable def ct_288 : ai_T (List fr_I) 1 := fr_nd 0 ([(0, js_iconst 0, 1, 1, 0, 0), (1, js_istore_n 2, 2, 1, 0, 0), (2, js_aload_n 0, 3, 1, 0, 0), (3, js_arraylength, 4, 1, 0, 0), (4, js_istore_n 3, 5, 1, 0, 0), (5, js_iload_n 2, 6, 1, 0, 0), (6, js_iload_n 3, 7, 1, 0, 0), (7, js_if_icmp .ge 13, 10, 3, 20, 0), (10, js_aload_n 0, 11, 1, 0, 0), (11, js_iload_n 2, 12, 1, 0, 0), (12, js_iload_n 1, 13, 1, 0, 0), (13, js_iastore, 14, 1, 0, 0), (14, js_iinc 2 1, 17, 3, 0, 0)]) ([(17, js_goto (-12), 20, 3, 5, 0), (20, js_return_, 21, 1, 0, 0)])
noncomputable def cy_288 : ai_MT := (⟨"java/util/Arrays", "fill", "([II)V"⟩, prog_29_method_103_code, 4, none, none, 2)
noncomputable def cm_288 : ct_L := some (fr_code 1 ct_288, (fun _ _ => none), (0, 0), cy_288)
noncomputable def ct_prog : ai_T ct_L 9 := ai_nd 8 (ai_nd 7 (ai_nd 6 (ai_nd 5 (ai_nd 4 (ai_nd 3 (ai_nd 2 (ai_nd 1 (ai_nd 0 (cm_0) (cm_256)) (ai_nd 0 (cm_128) (none))) (ai_nd 1 (ai_nd 0 (none) (none)) (ai_nd 0 (none) (none)))) (ai_nd 2 (ai_nd 1 (ai_nd 0 (cm_32) (cm_288)) (ai_nd 0 (cm_160) (none))) (ai_nd 1 (ai_nd 0 (none) (none)) (ai_nd 0 (cm_224) (none))))) (ai_nd 3 (ai_nd 2 (ai_nd 1 (ai_nd 0 (cm_16) (cm_272)) (ai_nd 0 (cm_144) (none))) (ai_nd 1 (ai_nd 0 (none) (none)) (ai_nd 0 (none) (none)))) (ai_nd 2 (ai_nd 1 (ai_nd 0 (none) (none)) (ai_nd 0 (cm_176) (none))) (ai_nd 1 (ai_nd 0 (cm_112) (none)) (ai_nd 0 (cm_240) (none)))))) (ai_nd 4 (ai_nd 3 (ai_nd 2 (ai_nd 1 (ai_nd 0 (cm_8) (cm_264)) (ai_nd 0 (cm_136) (none))) (ai_nd 1 (ai_nd 0 (cm_72) (none)) (ai_nd 0 (none) (none)))) (ai_nd 2 (ai_nd 1 (ai_nd 0 (none) (none)) (ai_nd 0 (cm_168) (none))) (ai_nd 1 (ai_nd 0 (none) (none)) (ai_nd 0 (cm_232) (none))))) (ai_nd 3 (ai_nd 2 (ai_nd 1 (ai_nd 0 (none) (cm_280)) (ai_nd 0 (cm_152) (none))) (ai_nd 1 (ai_nd 0 (none) (none)) (ai_nd 0 (cm_216) (none)))) (ai_nd 2 (ai_nd 1 (ai_nd 0 (none) (none)) (ai_nd 0 (cm_184) (none))) (ai_nd 1 (ai_nd 0 (none) (none)) (ai_nd 0 (cm_248) (none))))))) (ai_nd 5 (ai_nd 4 (ai_nd 3 (ai_nd 2 (ai_nd 1 (ai_nd 0 (cm_4) (cm_260)) (ai_nd 0 (cm_132) (none))) (ai_nd 1 (ai_nd 0 (none) (none)) (ai_nd 0 (none) (none)))) (ai_nd 2 (ai_nd 1 (ai_nd 0 (none) (none)) (ai_nd 0 (cm_164) (none))) (ai_nd 1 (ai_nd 0 (none) (none)) (ai_nd 0 (cm_228) (none))))) (ai_nd 3 (ai_nd 2 (ai_nd 1 (ai_nd 0 (cm_20) (cm_276)) (ai_nd 0 (cm_148) (none))) (ai_nd 1 (ai_nd 0 (cm_84) (none)) (ai_nd 0 (cm_212) (none)))) (ai_nd 2 (ai_nd 1 (ai_nd 0 (cm_52) (none)) (ai_nd 0 (cm_180) (none))) (ai_nd 1 (ai_nd 0 (none) (none)) (ai_nd 0 (cm_244) (none)))))) (ai_nd 4 (ai_nd 3 (ai_nd 2 (ai_nd 1 (ai_nd 0 (none) (cm_268)) (ai_nd 0 (cm_140) (none))) (ai_nd 1 (ai_nd 0 (cm_76) (none)) (ai_nd 0 (cm_204) (none)))) (ai_nd 2 (ai_nd 1 (ai_nd 0 (cm_44) (none)) (ai_nd 0 (cm_172) (none))) (ai_nd 1 (ai_nd 0 (none) (none)) (ai_nd 0 (cm_236) (none))))) (ai_nd 3 (ai_nd 2 (ai_nd 1 (ai_nd 0 (none) (cm_284)) (ai_nd 0 (cm_156) (none))) (ai_nd 1 (ai_nd 0 (none) (none)) (ai_nd 0 (none) (none)))) (ai_nd 2 (ai_nd 1 (ai_nd 0 (none) (none)) (ai_nd 0 (none) (none))) (ai_nd 1 (ai_nd 0 (none) (none)) (ai_nd 0 (cm_252) (none)))))))) (ai_nd 6 (ai_nd 5 (ai_nd 4 (ai_nd 3 (ai_nd 2 (ai_nd 1 (ai_nd 0 (none) (cm_258)) (ai_nd 0 (cm_130) (none))) (ai_nd 1 (ai_nd 0 (none) (none)) (ai_nd 0 (none) (none)))) (ai_nd 2 (ai_nd 1 (ai_nd 0 (none) (none)) (ai_nd 0 (cm_162) (none))) (ai_nd 1 (ai_nd 0 (none) (none)) (ai_nd 0 (cm_226) (none))))) (ai_nd 3 (ai_nd 2 (ai_nd 1 (ai_nd 0 (cm_18) (cm_274)) (ai_nd 0 (cm_146) (none))) (ai_nd 1 (ai_nd 0 (cm_82) (none)) (ai_nd 0 (cm_210) (none)))) (ai_nd 2 (ai_nd 1 (ai_nd 0 (none) (none)) (ai_nd 0 (cm_178) (none))) (ai_nd 1 (ai_nd 0 (none) (none)) (ai_nd 0 (cm_242) (none)))))) (ai_nd 4 (ai_nd 3 (ai_nd 2 (ai_nd 1 (ai_nd 0 (cm_10) (cm_266)) (ai_nd 0 (cm_138) (none))) (ai_nd 1 (ai_nd 0 (cm_74) (none)) (ai_nd 0 (none) (none)))) (ai_nd 2 (ai_nd 1 (ai_nd 0 (cm_42) (none)) (ai_nd 0 (cm_170) (none))) (ai_nd 1 (ai_nd 0 (none) (none)) (ai_nd 0 (none) (none))))) (ai_nd 3 (ai_nd 2 (ai_nd 1 (ai_nd 0 (cm_26) (cm_282)) (ai_nd 0 (cm_154) (none))) (ai_nd 1 (ai_nd 0 (none) (none)) (ai_nd 0 (cm_218) (none)))) (ai_nd 2 (ai_nd 1 (ai_nd 0 (none) (none)) (ai_nd 0 (none) (none))) (ai_nd 1 (ai_nd 0 (none) (none)) (ai_nd 0 (none) (none))))))) (ai_nd 5 (ai_nd 4 (ai_nd 3 (ai_nd 2 (ai_nd 1 (ai_nd 0 (none) (cm_262)) (ai_nd 0 (cm_134) (none))) (ai_nd 1 (ai_nd 0 (cm_70) (none)) (ai_nd 0 (none) (none)))) (ai_nd 2 (ai_nd 1 (ai_nd 0 (cm_38) (none)) (ai_nd 0 (cm_166) (none))) (ai_nd 1 (ai_nd 0 (none) (none)) (ai_nd 0 (cm_230) (none))))) (ai_nd 3 (ai_nd 2 (ai_nd 1 (ai_nd 0 (none) (cm_278)) (ai_nd 0 (cm_150) (none))) (ai_nd 1 (ai_nd 0 (cm_86) (none)) (ai_nd 0 (cm_214) (none)))) (ai_nd 2 (ai_nd 1 (ai_nd 0 (cm_54) (none)) (ai_nd 0 (none) (none))) (ai_nd 1 (ai_nd 0 (cm_118) (none)) (ai_nd 0 (none) (none)))))) (ai_nd 4 (ai_nd 3 (ai_nd 2 (ai_nd 1 (ai_nd 0 (cm_14) (cm_270)) (ai_nd 0 (cm_142) (none))) (ai_nd 1 (ai_nd 0 (cm_78) (none)) (ai_nd 0 (none) (none)))) (ai_nd 2 (ai_nd 1 (ai_nd 0 (none) (none)) (ai_nd 0 (cm_174) (none))) (ai_nd 1 (ai_nd 0 (none) (none)) (ai_nd 0 (cm_238) (none))))) (ai_nd 3 (ai_nd 2 (ai_nd 1 (ai_nd 0 (cm_30) (cm_286)) (ai_nd 0 (cm_158) (none))) (ai_nd 1 (ai_nd 0 (none) (none)) (ai_nd 0 (cm_222) (none)))) (ai_nd 2 (ai_nd 1 (ai_nd 0 (cm_62) (none)) (ai_nd 0 (none) (none))) (ai_nd 1 (ai_nd 0 (none) (none)) (ai_nd 0 (cm_254) (none))))))))) (ai_nd 7 (ai_nd 6 (ai_nd 5 (ai_nd 4 (ai_nd 3 (ai_nd 2 (ai_nd 1 (ai_nd 0 (cm_1) (cm_257)) (ai_nd 0 (cm_129) (none))) (ai_nd 1 (ai_nd 0 (none) (none)) (ai_nd 0 (none) (none)))) (ai_nd 2 (ai_nd 1 (ai_nd 0 (none) (none)) (ai_nd 0 (cm_161) (none))) (ai_nd 1 (ai_nd 0 (none) (none)) (ai_nd 0 (cm_225) (none))))) (ai_nd 3 (ai_nd 2 (ai_nd 1 (ai_nd 0 (cm_17) (cm_273)) (ai_nd 0 (cm_145) (none))) (ai_nd 1 (ai_nd 0 (cm_81) (none)) (ai_nd 0 (cm_209) (none)))) (ai_nd 2 (ai_nd 1 (ai_nd 0 (none) (none)) (ai_nd 0 (none) (none))) (ai_nd 1 (ai_nd 0 (cm_113) (none)) (ai_nd 0 (cm_241) (none)))))) (ai_nd 4 (ai_nd 3 (ai_nd 2 (ai_nd 1 (ai_nd 0 (cm_9) (cm_265)) (ai_nd 0 (cm_137) (none))) (ai_nd 1 (ai_nd 0 (cm_73) (none)) (ai_nd 0 (none) (none)))) (ai_nd 2 (ai_nd 1 (ai_nd 0 (cm_41) (none)) (ai_nd 0 (cm_169) (none))) (ai_nd 1 (ai_nd 0 (none) (none)) (ai_nd 0 (cm_233) (none))))) (ai_nd 3 (ai_nd 2 (ai_nd 1 (ai_nd 0 (cm_25) (cm_281)) (ai_nd 0 (cm_153) (none))) (ai_nd 1 (ai_nd 0 (none) (none)) (ai_nd 0 (cm_217) (none)))) (ai_nd 2 (ai_nd 1 (ai_nd 0 (none) (none)) (ai_nd 0 (cm_185) (none))) (ai_nd 1 (ai_nd 0 (cm_121) (none)) (ai_nd 0 (cm_249) (none))))))) (ai_nd 5 (ai_nd 4 (ai_nd 3 (ai_nd 2 (ai_nd 1 (ai_nd 0 (none) (cm_261)) (ai_nd 0 (cm_133) (none))) (ai_nd 1 (ai_nd 0 (none) (none)) (ai_nd 0 (none) (none)))) (ai_nd 2 (ai_nd 1 (ai_nd 0 (none) (none)) (ai_nd 0 (none) (none))) (ai_nd 1 (ai_nd 0 (none) (none)) (ai_nd 0 (cm_229) (none))))) (ai_nd 3 (ai_nd 2 (ai_nd 1 (ai_nd 0 (none) (cm_277)) (ai_nd 0 (cm_149) (none))) (ai_nd 1 (ai_nd 0 (cm_85) (none)) (ai_nd 0 (none) (none)))) (ai_nd 2 (ai_nd 1 (ai_nd 0 (cm_53) (none)) (ai_nd 0 (cm_181) (none))) (ai_nd 1 (ai_nd 0 (none) (none)) (ai_nd 0 (none) (none)))))) (ai_nd 4 (ai_nd 3 (ai_nd 2 (ai_nd 1 (ai_nd 0 (none) (cm_269)) (ai_nd 0 (cm_141) (none))) (ai_nd 1 (ai_nd 0 (cm_77) (none)) (ai_nd 0 (cm_205) (none)))) (ai_nd 2 (ai_nd 1 (ai_nd 0 (cm_45) (none)) (ai_nd 0 (cm_173) (none))) (ai_nd 1 (ai_nd 0 (none) (none)) (ai_nd 0 (cm_237) (none))))) (ai_nd 3 (ai_nd 2 (ai_nd 1 (ai_nd 0 (cm_29) (cm_285)) (ai_nd 0 (cm_157) (none))) (ai_nd 1 (ai_nd 0 (none) (none)) (ai_nd 0 (cm_221) (none)))) (ai_nd 2 (ai_nd 1 (ai_nd 0 (none) (none)) (ai_nd 0 (none) (none))) (ai_nd 1 (ai_nd 0 (none) (none)) (ai_nd 0 (cm_253) (none)))))))) (ai_nd 6 (ai_nd 5 (ai_nd 4 (ai_nd 3 (ai_nd 2 (ai_nd 1 (ai_nd 0 (cm_3) (cm_259)) (ai_nd 0 (cm_131) (none))) (ai_nd 1 (ai_nd 0 (none) (none)) (ai_nd 0 (none) (none)))) (ai_nd 2 (ai_nd 1 (ai_nd 0 (cm_35) (none)) (ai_nd 0 (cm_163) (none))) (ai_nd 1 (ai_nd 0 (none) (none)) (ai_nd 0 (cm_227) (none))))) (ai_nd 3 (ai_nd 2 (ai_nd 1 (ai_nd 0 (cm_19) (cm_275)) (ai_nd 0 (cm_147) (none))) (ai_nd 1 (ai_nd 0 (cm_83) (none)) (ai_nd 0 (cm_211) (none)))) (ai_nd 2 (ai_nd 1 (ai_nd 0 (cm_51) (none)) (ai_nd 0 (cm_179) (none))) (ai_nd 1 (ai_nd 0 (none) (none)) (ai_nd 0 (cm_243) (none)))))) (ai_nd 4 (ai_nd 3 (ai_nd 2 (ai_nd 1 (ai_nd 0 (cm_11) (cm_267)) (ai_nd 0 (cm_139) (none))) (ai_nd 1 (ai_nd 0 (cm_75) (none)) (ai_nd 0 (none) (none)))) (ai_nd 2 (ai_nd 1 (ai_nd 0 (none) (none)) (ai_nd 0 (cm_171) (none))) (ai_nd 1 (ai_nd 0 (none) (none)) (ai_nd 0 (none) (none))))) (ai_nd 3 (ai_nd 2 (ai_nd 1 (ai_nd 0 (cm_27) (cm_283)) (ai_nd 0 (cm_155) (none))) (ai_nd 1 (ai_nd 0 (none) (none)) (ai_nd 0 (none) (none)))) (ai_nd 2 (ai_nd 1 (ai_nd 0 (none) (none)) (ai_nd 0 (none) (none))) (ai_nd 1 (ai_nd 0 (none) (none)) (ai_nd 0 (none) (none))))))) (ai_nd 5 (ai_nd 4 (ai_nd 3 (ai_nd 2 (ai_nd 1 (ai_nd 0 (none) (cm_263)) (ai_nd 0 (cm_135) (none))) (ai_nd 1 (ai_nd 0 (cm_71) (none)) (ai_nd 0 (none) (none)))) (ai_nd 2 (ai_nd 1 (ai_nd 0 (cm_39) (none)) (ai_nd 0 (cm_167) (none))) (ai_nd 1 (ai_nd 0 (none) (none)) (ai_nd 0 (none) (none))))) (ai_nd 3 (ai_nd 2 (ai_nd 1 (ai_nd 0 (cm_23) (cm_279)) (ai_nd 0 (cm_151) (none))) (ai_nd 1 (ai_nd 0 (cm_87) (none)) (ai_nd 0 (cm_215) (none)))) (ai_nd 2 (ai_nd 1 (ai_nd 0 (none) (none)) (ai_nd 0 (cm_183) (none))) (ai_nd 1 (ai_nd 0 (cm_119) (none)) (ai_nd 0 (cm_247) (none)))))) (ai_nd 4 (ai_nd 3 (ai_nd 2 (ai_nd 1 (ai_nd 0 (cm_15) (cm_271)) (ai_nd 0 (cm_143) (none))) (ai_nd 1 (ai_nd 0 (cm_79) (none)) (ai_nd 0 (none) (none)))) (ai_nd 2 (ai_nd 1 (ai_nd 0 (none) (none)) (ai_nd 0 (cm_175) (none))) (ai_nd 1 (ai_nd 0 (cm_111) (none)) (ai_nd 0 (cm_239) (none))))) (ai_nd 3 (ai_nd 2 (ai_nd 1 (ai_nd 0 (cm_31) (none)) (ai_nd 0 (cm_159) (none))) (ai_nd 1 (ai_nd 0 (none) (none)) (ai_nd 0 (cm_223) (none)))) (ai_nd 2 (ai_nd 1 (ai_nd 0 (none) (none)) (ai_nd 0 (none) (none))) (ai_nd 1 (ai_nd 0 (cm_127) (none)) (ai_nd 0 (cm_255) (none)))))))))
noncomputable def ct_mtL : ct_L → ai_MT
  | some (_, _, _, y) => y
  | none => (⟨"", "", ""⟩, ⟨#[]⟩, 0, none, none, 0)
noncomputable def ct_budL : ct_L → Nat × Nat
  | some (_, _, b, _) => b
  | none => (0, 0)
noncomputable def ct_mt (mi : Nat) : ai_MT := ct_mtL (ai_tget 9 ct_prog mi)
noncomputable def ct_bud (mi : Nat) : Nat × Nat := ct_budL (ai_tget 9 ct_prog mi)
noncomputable def ct_with (ann : Nat → Option ai_AA) (q : ct_L) : Option fr_M := match q with
  | none => none
  | some (code, hand, b, y) => some (y.2.2.1, code, hand, b, ann)
noncomputable def ct_meth (mk : Nat → Nat → Option ai_AA) (mi : Nat) : Option fr_M := ct_with (mk mi) (ai_tget 9 ct_prog mi)
noncomputable def ct_dflt : Nat → List ai_V
  | 0 => [.inl (0, 0), .inl (0, 0), .inl (0, 0), .inr (.inr (some none)), .inr (.inr (some none)), .inr (.inr (some none)), .inr (.inr (some none)), .inr (.inr (some none)), .inr (.inr (some none)), .inr (.inr (some none)), .inr (.inr (some none)), .inr (.inr (some none))]
  | 1 => [.inr (.inr (some none)), .inr (.inr (some none)), .inl (0, 0), .inl (0, 0), .inl (0, 0), .inr (.inr (some none)), .inr (.inr (some none)), .inr (.inr (some none)), .inr (.inr (some none)), .inr (.inr (some none)), .inr (.inr (some none)), .inr (.inr (some none))]
  | 2 => [.inl (0, 0), .inl (0, 0), .inr (.inr (some none)), .inr (.inr (some none)), .inr (.inr (some none)), .inr (.inr (some none)), .inr (.inr (some none)), .inr (.inr (some none))]
  | 3 => [.inl (0, 0), .inl (0, 0), .inl (0, 0), .inl (0, 0), .inl (0, 0), .inl (0, 0), .inr (.inr (some none)), .inr (.inr (some none)), .inr (.inr (some none)), .inr (.inr (some none)), .inr (.inr (some none)), .inr (.inr (some none)), .inr (.inr (some none)), .inr (.inr (some none)), .inr (.inr (some none)), .inr (.inr (some none))]
  | 4 => [.inl (0, 0), .inl (0, 0), .inl (0, 0), .inl (0, 0), .inl (0, 0), .inl (0, 0), .inl (0, 0), .inl (0, 0), .inl (0, 0), .inl (0, 0), .inl (0, 0), .inl (0, 0), .inl (0, 0), .inr (.inr (some none)), .inr (.inr (some none))]
  | 5 => [.inl (0, 0), .inl (0, 0), .inl (0, 0), .inl (0, 0), .inl (0, 0), .inr (.inr (some none)), .inl (0, 0), .inl (0, 0), .inl (0, 0), .inl (0, 0), .inr (.inr (some none)), .inr (.inr (some none)), .inr (.inr (some none)), .inr (.inr (some none))]
  | 6 => [.inr (.inr (some none)), .inr (.inr (some none)), .inr (.inr (some none)), .inl (0, 0), .inl (0, 0)]
  | 7 => [.inr (.inr (some none)), .inr (.inr (some none)), .inr (.inr (some none)), .inr (.inr (some none)), .inr (.inr (some none)), .inl (0, 0), .inl (0, 0), .inl (0, 0), .inl (0, 0), .inl (0, 0), .inl (0, 0)]
  | 8 => [.inr (.inr (some none)), .inl (0, 0), .inl (0, 0), .inl (0, 0), .inr (.inr (some none)), .inl (0, 0), .inl (0, 0), .inl (0, 0), .inl (0, 0), .inl (0, 0), .inl (0, 0)]
  | 9 => [.inl (0, 0), .inr (.inr (some none)), .inr (.inr (some none)), .inr (.inr (some none))]
  | 10 => [.inl (0, 0), .inr (.inr (some none)), .inr (.inr (some none)), .inl (0, 0), .inl (0, 0), .inr (.inr (some none)), .inr (.inr (some none))]
  | 11 => [.inr (.inr (some none)), .inr (.inr (some none)), .inr (.inr (some none)), .inr (.inr (some none)), .inr (.inr (some none)), .inr (.inr (some none)), .inr (.inr (some none)), .inr (.inr (some none)), .inr (.inr (some none)), .inr (.inr (some none)), .inl (0, 0), .inr (.inr (some none)), .inl (0, 0), .inl (0, 0)]
  | 12 => [.inr (.inr (some none)), .inl (0, 0), .inl (0, 0), .inl (0, 0), .inl (0, 0), .inl (0, 0), .inr (.inr (some none)), .inr (.inr (some none)), .inr (.inr (some none)), .inr (.inr (some none)), .inr (.inr (some none)), .inr (.inr (some none)), .inr (.inr (some none)), .inr (.inr (some none)), .inr (.inr (some none)), .inr (.inr (some none)), .inr (.inr (some none)), .inr (.inr (some none)), .inr (.inr (some none)), .inr (.inr (some none)), .inr (.inr (some none)), .inr (.inr (some none)), .inr (.inr (some none)), .inr (.inr (some none)), .inr (.inr (some none)), .inr (.inr (some none)), .inl (0, 0), .inl (0, 0), .inl (0, 0), .inl (0, 0), .inl (0, 0), .inl (0, 0), .inl (0, 0), .inl (0, 0), .inl (0, 0), .inl (0, 0), .inl (0, 0), .inl (0, 0), .inr (.inr (some none)), .inr (.inr (some none)), .inr (.inr (some none)), .inr (.inr (some none)), .inr (.inr (some none)), .inr (.inr (some none)), .inr (.inr (some none)), .inr (.inr (some none)), .inl (0, 0), .inl (0, 0), .inl (0, 0), .inr (.inr (some none)), .inr (.inr (some none)), .inr (.inr (some none)), .inr (.inr (some none)), .inr (.inr (some none)), .inr (.inr (some none)), .inr (.inr (some none)), .inr (.inr (some none)), .inr (.inr (some none)), .inr (.inr (some none)), .inl (0, 0), .inl (0, 0), .inl (0, 0), .inl (0, 0), .inl (0, 0), .inr (.inr (some none)), .inr (.inr (some none)), .inr (.inr (some none)), .inr (.inr (some none)), .inr (.inr (some none)), .inl (0, 0), .inl (0, 0), .inl (0, 0), .inl (0, 0), .inr (.inr (some none)), .inr (.inr (some none)), .inr (.inr (some none)), .inr (.inr (some none)), .inr (.inr (some none)), .inr (.inr (some none)), .inr (.inr (some none)), .inr (.inr (some none)), .inr (.inr (some none)), .inr (.inr (some none)), .inl (0, 0), .inr (.inr (some none)), .inr (.inr (some none)), .inr (.inr (some none)), .inl (0, 0), .inl (0, 0), .inl (0, 0), .inl (0, 0), .inl (0, 0), .inl (0, 0), .inl (0, 0), .inl (0, 0), .inr (.inr (some none)), .inr (.inr (some none)), .inr (.inr (some none)), .inr (.inr (some none)), .inr (.inr (some none)), .inl (0, 0), .inl (0, 0), .inr (.inr (some none)), .inr (.inr (some none)), .inr (.inr (some none)), .inr (.inr (some none)), .inl (0, 0), .inl (0, 0), .inl (0, 0), .inr (.inr (some none)), .inr (.inr (some none)), .inr (.inr (some none)), .inr (.inr (some none))]
  | _ => []
noncomputable def ct_kinds : ai_T (List Nat) 4 := ai_nd 3 (ai_nd 2 (ai_nd 1 (ai_nd 0 ([0, 0, 0, 3, 3, 3, 3, 3, 3, 3, 3, 3]) ([3, 0, 0, 0, 3, 0, 0, 0, 0, 0, 0])) (ai_nd 0 ([0, 0, 0, 0, 0, 0, 0, 0, 0, 0, 0, 2, 0, 3, 3]) ([3, 0, 0, 0, 0, 0, 3, 3, 3, 3, 3, 3, 3, 3, 3, 3, 3, 3, 3, 3, 3, 3, 3, 3, 3, 3, 0, 0, 0, 0, 0, 0, 0, 0, 0, 0, 0, 0, 3, 3, 3, 3, 3, 3, 3, 3, 2, 0, 0, 3, 3, 3, 3, 3, 3, 3, 3, 3, 3, 0, 0, 0, 2, 0, 3, 3, 3, 3, 3, 0, 0, 0, 0, 3, 3, 3, 3, 3, 3, 3, 3, 3, 3, 2, 3, 3, 3, 2, 2, 0, 0, 0, 0, 0, 0, 3, 3, 3, 3, 3, 0, 0, 3, 3, 3, 3, 0, 0, 0, 3, 3, 3, 3]))) (ai_nd 1 (ai_nd 0 ([2, 0, 3, 3, 3, 3, 3, 3]) ([0, 3, 3, 0, 0, 3, 3])) (ai_nd 0 ([3, 3, 3, 0, 0]) ([])))) (ai_nd 2 (ai_nd 1 (ai_nd 0 ([3, 3, 0, 0, 0, 3, 3, 3, 3, 3, 3, 3]) ([0, 3, 3, 3])) (ai_nd 0 ([2, 2, 0, 0, 0, 3, 0, 0, 0, 0, 3, 3, 3, 3]) ([]))) (ai_nd 1 (ai_nd 0 ([0, 0, 0, 2, 0, 0, 3, 3, 3, 3, 3, 3, 3, 3, 3, 3]) ([3, 3, 3, 3, 3, 3, 3, 3, 3, 3, 0, 3, 0, 0])) (ai_nd 0 ([3, 3, 3, 3, 3, 0, 0, 0, 0, 0, 0]) ([]))))
noncomputable def ct_kat : List Nat → Nat → Nat
  | [], _ => 9
  | v :: _, 0 => v
  | _ :: l, k + 1 => ct_kat l k
noncomputable def ct_kind (c k : Nat) : Nat := ct_kat (ai_tget 4 ct_kinds c) k
noncomputable def ct_strs : List ai_Z := [("LightsMarketModel", 9, "unit", 0), ("LightsMarketModel", 11, "quarter", 1), ("LightsMarketModel", 13, "load", 2), ("LightsMarketModel", 15, "true", 3), ("LightsMarketModel", 17, "most", 4)]
end
section
/-! WHAT THE TABLES SAY, CHECKED BY EVALUATION -/
noncomputable def ft_mem (w : Cond) : List Cond → Bool
  | [] => false
  | u :: l => match decide (w = u) with
    | true => true
    | false => ft_mem w l
theorem ft_mem_ok {w : Cond} : ∀ {l : List Cond}, ft_mem w l = true → w ∈ l
  | [], h => by cases h
  | u :: l, h => by
    unfold ft_mem at h
    split at h
    · rename_i e
      rw [of_decide_eq_true e]
      exact List.mem_cons_self
    · exact List.mem_cons_of_mem _ (ft_mem_ok h)
/-- words out of the tables, by the gaps between them -/
noncomputable def ft_pick : List Nat → List Cond → List Cond
  | [], _ => []
  | g :: gs, l => match l.drop g with
    | [] => []
    | w :: t => w :: ft_pick gs t
theorem ft_pick_ok {w : Cond} : ∀ {gs : List Nat} {l : List Cond}, w ∈ ft_pick gs l → w ∈ l
  | [], l, h => by cases h
  | g :: gs, l, h => by
    unfold ft_pick at h
    split at h
    · cases h
    · rename_i u t e
      have hd : ∀ z ∈ u :: t, z ∈ l := fun z hz => List.mem_of_mem_drop (by rw [e]; exact hz)
      rcases List.mem_cons.mp h with rfl | h
      · exact hd _ List.mem_cons_self
      · exact hd _ (List.mem_cons_of_mem _ (ft_pick_ok h))
noncomputable def ft_W : List Cond := lw_tbl.filter goodWord
noncomputable def ft_N : List Cond := lw_tbl.filter ai_nk
noncomputable def ft_good (uw : List Cond) (w : Cond) : Bool := match goodWord w with
  | true => ft_mem w uw
  | false => false
noncomputable def ft_nk (uw : List Cond) (w : Cond) : Bool := match ai_nk w with
  | true => ft_mem w uw
  | false => false
theorem ft_good_ok {uw : List Cond} (hu : ∀ u ∈ uw, u ∈ lw_tbl) {w : Cond} (h : ft_good uw w = true) : w ∈ ft_W := by
  unfold ft_good at h
  split at h
  · rename_i e
    exact List.mem_filter.mpr ⟨hu _ (ft_mem_ok h), e⟩
  · cases h
theorem ft_nk_ok {uw : List Cond} (hu : ∀ u ∈ uw, u ∈ lw_tbl) {w : Cond} (h : ft_nk uw w = true) : w ∈ ft_N := by
  unfold ft_nk at h
  split at h
  · rename_i e
    exact List.mem_filter.mpr ⟨hu _ (ft_mem_ok h), e⟩
  · cases h
noncomputable def ft_all (uw ws : List Cond) : Bool := ws.all (ft_good uw)
theorem ft_all_ok {uw ws : List Cond} (hu : ∀ u ∈ uw, u ∈ lw_tbl) (h : ft_all uw ws = true) : ∀ w ∈ ws, w ∈ ft_W := fun w hw => ft_good_ok hu (List.all_eq_true.mp h w hw)
noncomputable def ft_fld (uw : List Cond) (own : String) (idx ci j : Nat) : Bool := match vwCl[ci]? with
  | some (_, T, N) => match Nat.blt j N with
    | true => ft_good uw (Cond.fieldLink own idx (T j).1 (T j).2.1 (T j).2.2.1)
    | false => false
  | none => false
theorem ft_fld_ok {uw : List Cond} (hu : ∀ u ∈ uw, u ∈ lw_tbl) {own : String} {idx ci j : Nat} (h : ft_fld uw own idx ci j = true) : ai_fld ft_W own idx ci j := by
  unfold ft_fld at h
  split at h
  · rename_i C T N e
    have hci : ci < 13 := (List.getElem?_eq_some_iff.mp e).1
    split at h
    · rename_i ej
      refine ⟨hci, fun C' T' N' e' => ?_⟩
      rw [e] at e'
      cases e'
      exact ⟨Nat.le_of_ble_eq_true ej, ft_good_ok hu h⟩
    · cases h
  · cases h
noncomputable def ft_put (own : String) (ini : Bool) (a b : Nat) : Bool := match vwCl[a]? with
  | some (_, T, _) => match (T b).2.2.2 with
    | true => ini && decide ((T b).1 = own)
    | false => true
  | none => false
theorem ft_put_ok {own : String} {ini : Bool} {a b : Nat} (h : ft_put own ini a b = true) : ∀ C T N, vwCl[a]? = some (C, T, N) → (T b).2.2.2 = true → ini = true ∧ (T b).1 = own := by
  intro C T N e hf
  unfold ft_put at h
  rw [e] at h
  dsimp only at h
  rw [hf] at h
  dsimp only at h
  rw [Bool.and_eq_true] at h
  exact ⟨h.1, of_decide_eq_true h.2⟩
noncomputable def ft_new (uw : List Cond) (own : String) (idx a : Nat) : Bool := match vwCl[a]? with
  | some (C, _, _) => ft_good uw (Cond.classLink own idx C)
  | none => false
theorem ft_new_ok {uw : List Cond} (hu : ∀ u ∈ uw, u ∈ lw_tbl) {own : String} {idx a : Nat} (h : ft_new uw own idx a = true) : a < 13 ∧ ∀ C T N, vwCl[a]? = some (C, T, N) → Cond.classLink own idx C ∈ ft_W := by
  unfold ft_new at h
  split at h
  · rename_i C T N e
    refine ⟨(List.getElem?_eq_some_iff.mp e).1, fun C' T' N' e' => ?_⟩
    rw [e] at e'
    cases e'
    exact ft_good_ok hu h
  · cases h
abbrev ft_ex : List String := ["java/lang/RuntimeException", "java/lang/Exception"]
/-- a throw: 'new' of an exception, dup, its constructor, athrow -/
noncomputable def ft_thr (uw : List Cond) (own : String) (cc : ByteArray) (tb : List (Nat × Nat × Nat × Nat)) (pc ik len x ic : Nat) : Bool :=
  decide (len = 3) && (tb.isEmpty && (decide (decode cc (pc + 3) = .ok (.dup, 1)) && (decide (decode cc (pc + 4) = .ok (.invokespecial ic, 3)) && (decide (decode cc (pc + 7) = .ok (.athrow, 1)) &&
  (ft_good uw (Cond.classLink own ik (ai_exn x)) && (ft_good uw (Cond.initialized (ai_exn x)) && ((vx_at0 own ic (ai_exn x) ft_ex).all (fun w => ft_good uw w || ft_nk uw w) &&
  (Cond.classLink own ik (ai_exn x) :: Cond.initialized (ai_exn x) :: vx_at0 own ic (ai_exn x) ft_ex).all vx_ot)))))))
noncomputable def ft_str (strs : List ai_Z) (own : String) (idx b : Nat) : Bool := match strs with
  | [] => false
  | (o, k, _, n) :: l => match decide (o = own) && (Nat.beq k idx && (Nat.beq (n + 1) b && Nat.ble b 10)) with
    | true => true
    | false => ft_str l own idx b
theorem ft_str_ok {own : String} {idx b : Nat} : ∀ {strs : List ai_Z}, ft_str strs own idx b = true → ∃ tx, (1 ≤ b ∧ b ≤ 10) ∧ (own, idx, tx, b - 1) ∈ strs
  | [], h => by cases h
  | (o, k, t, n) :: l, h => by
    unfold ft_str at h
    split at h
    · rename_i e
      simp only [Bool.and_eq_true, decide_eq_true_eq] at e
      obtain ⟨e1, e2, e3, e4⟩ := e
      have e2 := Nat.eq_of_beq_eq_true e2
      have e3 := Nat.eq_of_beq_eq_true e3
      have e4 := Nat.le_of_ble_eq_true e4
      subst e1; subst e2; subst e3
      exact ⟨t, ⟨by omega, e4⟩, List.mem_cons_self⟩
    · obtain ⟨tx, g1, g2⟩ := ft_str_ok h
      exact ⟨tx, g1, List.mem_cons_of_mem _ g2⟩
noncomputable def ft_wd (uw : List Cond) (strs : List ai_Z) (own : String) (ini : Bool) (i : ClassFile.Instr) (a b : Nat) : Bool := match i with
  | .ldc idx => match Nat.beq a 0 with
    | true => ft_good uw (Cond.constant own idx (Int32.ofInt (Int.ofNat b - 2147483648)))
    | false => ft_str strs own idx b
  | .ldc_w idx => ft_good uw (Cond.constant own idx (Int32.ofInt (Int.ofNat b - 2147483648)))
  | .getfield idx => ft_fld uw own idx a b
  | .putfield idx => ft_fld uw own idx a b && ft_put own ini a b
  | .new idx => match Nat.blt a 2000 with
    | true => ft_new uw own idx a
    | false => true
  | .newarray at' => decide (newarray.typeOf at' = ai_tyOf a ∧ (a = 0 ∨ a = 1 ∨ a = 2)) && ft_good uw (Cond.arrayClass (ai_tyOf a))
  | .anewarray idx => match Nat.beq a 4 with
    | true => ft_good uw (Cond.classLink own idx RX4)
    | false => Nat.beq a 5 && ft_good uw (Cond.classLink own idx "java/lang/String")
  | .multianewarray idx _ => ft_all uw [Cond.classLink own idx "[[I", Cond.arrayClass .int]
  | .invokespecial idx => match Nat.beq a 1004 with
    | true => ft_all uw [Cond.methodLink own idx Lib.objectInit, Cond.instanceMethod Lib.objectInit, Cond.code Lib.objectInit ⟨#[0xb1]⟩ 1 none]
    | false => true
  | .invokestatic idx => match Nat.blt a 1000 with
    | true => true
    | false => match Nat.sub a 1000 with
      | 0 => ft_all uw [Cond.methodLink own idx Lib.Math.max.name, Cond.static Lib.Math.max.name, Cond.initialized "java/lang/Math", Cond.code Lib.Math.max.name Lib.Math.max.code 2 (some .int)]
      | 1 => ft_all uw [Cond.methodLink own idx Lib.Math.min.name, Cond.static Lib.Math.min.name, Cond.initialized "java/lang/Math", Cond.code Lib.Math.min.name Lib.Math.min.code 2 (some .int)]
      | 2 => ft_all uw [Cond.methodLink own idx Lib.Math.abs.name, Cond.static Lib.Math.abs.name, Cond.initialized "java/lang/Math", Cond.code Lib.Math.abs.name Lib.Math.abs.code 1 (some .int)]
      | 3 => ft_all uw [Cond.methodLink own idx Lib.MathLoose.abs_long.x, Cond.static Lib.MathLoose.abs_long.x, Cond.initialized "java/lang/Math", Cond.code Lib.MathLoose.abs_long.x Lib.MathLoose.abs_long.code 2 (some .long)]
      | 5 => ft_all uw [Cond.methodLink own idx arraycopyName, Cond.native arraycopyName, Cond.static arraycopyName, Cond.initialized "java/lang/System"]
      | _ => false
  | _ => true
theorem ft_wd_ok {uw : List Cond} {strs : List ai_Z} {own : String} {ini : Bool} {i : ClassFile.Instr} {a b : Nat} (hu : ∀ u ∈ uw, u ∈ lw_tbl) (h : ft_wd uw strs own ini i a b = true) : ai_wd ft_W strs own ini i a b := by
  have K : ∀ {ws : List Cond}, ft_all uw ws = true → ∀ w ∈ ws, w ∈ ft_W := fun g => ft_all_ok hu g
  cases i
  case ldc idx =>
    unfold ft_wd at h
    refine ⟨fun q => ?_, fun q => ?_⟩
    · subst q
      exact ft_good_ok hu h
    · have e : Nat.beq a 0 = false := by
        cases e : Nat.beq a 0 with
        | false => rfl
        | true => exact absurd (Nat.eq_of_beq_eq_true e) q
      dsimp only at h
      rw [e] at h
      exact ft_str_ok h
  case ldc_w idx => exact fun q => ft_good_ok hu h
  case getfield idx => exact ft_fld_ok hu h
  case putfield idx =>
    have h := (Bool.and_eq_true _ _).mp h
    exact ⟨ft_fld_ok hu h.1, ft_put_ok h.2⟩
  case new idx =>
    intro q
    unfold ft_wd at h
    dsimp only at h
    rw [show Nat.blt a 2000 = true from Nat.ble_eq_true_of_le q] at h
    exact ft_new_ok hu h
  case newarray at' =>
    have h := (Bool.and_eq_true _ _).mp h
    have h1 := of_decide_eq_true h.1
    exact ⟨h1.1, h1.2, ft_good_ok hu h.2⟩
  case anewarray idx =>
    unfold ft_wd at h
    dsimp only at h
    split at h
    · rename_i e
      exact Or.inl ⟨Nat.eq_of_beq_eq_true e, ft_good_ok hu h⟩
    · have h := (Bool.and_eq_true _ _).mp h
      exact Or.inr ⟨Nat.eq_of_beq_eq_true h.1, ft_good_ok hu h.2⟩
  case multianewarray idx _ =>
    have h := K h
    exact ⟨h _ List.mem_cons_self, h _ (List.mem_cons_of_mem _ List.mem_cons_self)⟩
  case invokespecial idx =>
    intro q
    subst q
    have h := K (show ft_all uw [Cond.methodLink own idx Lib.objectInit, Cond.instanceMethod Lib.objectInit, Cond.code Lib.objectInit ⟨#[0xb1]⟩ 1 none] = true from h)
    exact ⟨h _ List.mem_cons_self, h _ (List.mem_cons_of_mem _ List.mem_cons_self), h _ (List.mem_cons_of_mem _ (List.mem_cons_of_mem _ List.mem_cons_self))⟩
  case invokestatic idx =>
    have four : ∀ {w1 w2 w3 w4 : Cond}, ft_all uw [w1, w2, w3, w4] = true → w1 ∈ ft_W ∧ w2 ∈ ft_W ∧ w3 ∈ ft_W ∧ w4 ∈ ft_W := fun g => by
      have h := K g
      exact ⟨h _ List.mem_cons_self, h _ (List.mem_cons_of_mem _ List.mem_cons_self), h _ (List.mem_cons_of_mem _ (List.mem_cons_of_mem _ List.mem_cons_self)), h _ (List.mem_cons_of_mem _ (List.mem_cons_of_mem _ (List.mem_cons_of_mem _ List.mem_cons_self)))⟩
    refine ⟨fun q => ?_, fun q => ?_, fun q => ?_, fun q => ?_, fun q => ?_⟩
    · subst q; exact four h
    · subst q; exact four h
    · subst q; exact four h
    · subst q; exact four h
    · subst q; exact four h
  all_goals exact trivial
noncomputable def ft_we (uw : List Cond) (own : String) (ret : Option FieldType) (cc : ByteArray) (tb : List (Nat × Nat × Nat × Nat)) (pc : Nat) (i : ClassFile.Instr) (len a b : Nat) : Bool := match i with
  | .ireturn => decide (len = 1) && (match Nat.beq a 2 with
    | true => decide (ret = some .boolean)
    | false => decide (ret = some .int))
  | .lreturn => decide (len = 1 ∧ ret = some .long)
  | .areturn => decide (len = 1) && (match ret with
    | some (.object _) => true
    | some (.array _) => true
    | _ => false)
  | .return_ => decide (len = 1 ∧ ret = none)
  | .new ik => match Nat.ble 2000 a with
    | true => ft_thr uw own cc tb pc ik len (a - 2000) b
    | false => true
  | _ => true
theorem ft_we_ok {uw : List Cond} {own : String} {ret : Option FieldType} {cc : ByteArray} {tb : List (Nat × Nat × Nat × Nat)} {pc : Nat} {i : ClassFile.Instr} {len a b : Nat} (hu : ∀ u ∈ uw, u ∈ lw_tbl) (h : ft_we uw own ret cc tb pc i len a b = true) : ai_we ft_W ft_N own ret cc tb pc i len a b := by
  cases i
  case ireturn =>
    have h := (Bool.and_eq_true _ _).mp h
    refine ⟨of_decide_eq_true h.1, fun q => ?_, fun q => ?_⟩
    · subst q; exact of_decide_eq_true h.2
    · have e : Nat.beq a 2 = false := by
        cases e : Nat.beq a 2 with
        | false => rfl
        | true => exact absurd (Nat.eq_of_beq_eq_true e) q
      have h2 := h.2
      rw [e] at h2
      exact of_decide_eq_true h2
  case lreturn =>
    have h : decide (len = 1 ∧ ret = some .long) = true := h
    have h := of_decide_eq_true h
    exact h
  case areturn =>
    have h := (Bool.and_eq_true _ _).mp h
    refine ⟨of_decide_eq_true h.1, ?_⟩
    have h2 := h.2
    split at h2
    · exact ⟨_, rfl, Or.inl ⟨_, rfl⟩⟩
    · exact ⟨_, rfl, Or.inr ⟨_, rfl⟩⟩
    · cases h2
  case return_ =>
    have h : decide (len = 1 ∧ ret = none) = true := h
    have h := of_decide_eq_true h
    exact h
  case new ik =>
    intro q
    unfold ft_we at h
    dsimp only at h
    rw [show Nat.ble 2000 a = true from Nat.ble_eq_true_of_le q] at h
    dsimp only at h
    unfold ft_thr at h
    simp only [Bool.and_eq_true, decide_eq_true_eq] at h
    obtain ⟨h1, h2, h3, h4, h5, h6, h7, h8, h9⟩ := h
    refine ⟨h1, List.isEmpty_iff.mp h2, b, h3, h4, h5, ft_good_ok hu h6, ft_good_ok hu h7, fun w hw => ?_, fun w hw => List.all_eq_true.mp h9 w hw⟩
    have := List.all_eq_true.mp h8 w hw
    rw [Bool.or_eq_true] at this
    exact this.imp (ft_good_ok hu) (ft_nk_ok hu)
  all_goals exact trivial
noncomputable def ft_link (uw : List Cond) (own : String) (idx : Nat) (y : MethodName) : Bool := ft_good uw (Cond.methodLink own idx y)
noncomputable def ft_wc (uw : List Cond) (y : ai_MT) (own : String) (i : ClassFile.Instr) (len b : Nat) : Bool := match i with
  | .invokevirtual idx => decide (len = 3) && (y.2.2.2.2.1.isNone && (Nat.beq (b % 64) (y.2.2.2.2.2 + 1) && ((match vwCl[b / 64]? with
    | some (C, _, _) => decide (C = y.1.cls)
    | none => false) && ft_all uw [Cond.methodLink own idx y.1, Cond.instanceMethod y.1, Cond.selects y.1.cls y.1 y.1])))
  | .invokespecial idx => decide (len = 3) && (y.2.2.2.2.1.isNone && (y.2.2.2.1.isNone && (Nat.beq b (y.2.2.2.2.2 + 1) && (decide (y.1.name = "<init>") && (ft_good uw (Cond.instanceMethod y.1) && (ft_good uw (Cond.methodLink own idx y.1) || ft_nk uw (Cond.methodLinkNest own idx y.1 "LightsMarket")))))))
  | .invokestatic idx => decide (len = 3) && (Nat.beq b y.2.2.2.2.2 && (ft_good uw (Cond.static y.1) && (ft_good uw (Cond.methodLink own idx y.1) || (y.2.2.2.2.1.isNone && ft_nk uw (Cond.methodLinkNest own idx y.1 "LightsMarket")))))
  | _ => true
theorem ft_wc_ok {uw : List Cond} {y : ai_MT} {own : String} {i : ClassFile.Instr} {len b : Nat} (hu : ∀ u ∈ uw, u ∈ lw_tbl) (h : ft_wc uw y own i len b = true) : ai_wc ft_W ft_N y own i len b := by
  cases i
  case invokevirtual idx =>
    unfold ft_wc at h
    dsimp only at h
    simp only [Bool.and_eq_true, decide_eq_true_eq, Option.isNone_iff_eq_none] at h
    obtain ⟨h1, h2, h3, h4, h5⟩ := h
    have hk := ft_all_ok hu h5
    refine ⟨h1, h2, Nat.eq_of_beq_eq_true h3, ?_, hk _ List.mem_cons_self, hk _ (List.mem_cons_of_mem _ List.mem_cons_self), hk _ (List.mem_cons_of_mem _ (List.mem_cons_of_mem _ List.mem_cons_self))⟩
    split at h4
    · rename_i C T N e
      have h4 := of_decide_eq_true h4
      subst h4
      exact ⟨T, N, e⟩
    · cases h4
  case invokespecial idx =>
    unfold ft_wc at h
    dsimp only at h
    simp only [Bool.and_eq_true, Bool.or_eq_true, decide_eq_true_eq, Option.isNone_iff_eq_none] at h
    obtain ⟨h1, h2, h3, h4, h5, h6, h7⟩ := h
    exact ⟨h1, h2, h3, Nat.eq_of_beq_eq_true h4, h5, ft_good_ok hu h6, h7.imp (ft_good_ok hu) (fun q => ⟨_, ft_nk_ok hu q⟩)⟩
  case invokestatic idx =>
    unfold ft_wc at h
    dsimp only at h
    simp only [Bool.and_eq_true, Bool.or_eq_true, decide_eq_true_eq, Option.isNone_iff_eq_none] at h
    obtain ⟨h1, h2, h3, h4⟩ := h
    exact ⟨h1, Nat.eq_of_beq_eq_true h2, ft_good_ok hu h3, h4.imp (ft_good_ok hu) (fun q => ⟨q.1, _, ft_nk_ok hu q.2⟩)⟩
  all_goals exact trivial
/-- an entry of a code table -/
noncomputable def ft_ok (uw : List Cond) (strs : List ai_Z) (mt : Nat → ai_MT) (own : String) (ini : Bool) (ret : Option FieldType) (cc : ByteArray) (tb : List (Nat × Nat × Nat × Nat)) (q : fr_I) : Bool := match q with
  | (pc, j, nx, len, a, b) => decide (decode cc pc = .ok (j.1, len)) && (Nat.beq nx (pc + len) && (ai_chk pc j.1 len a b && (ft_wd uw strs own ini j.1 a b && (ft_we uw own ret cc tb pc j.1 len a b && (match Nat.blt a 1000 with
    | true => ft_wc uw (mt a) own j.1 len b
    | false => true)))))
noncomputable def ft_tree (uw : List Cond) (strs : List ai_Z) (mt : Nat → ai_MT) (own : String) (ini : Bool) (ret : Option FieldType) (cc : ByteArray) (tb : List (Nat × Nat × Nat × Nat)) (d : Nat) (t : ai_T (List fr_I) d) : Bool := ai_tall (fun l => l.all (ft_ok uw strs mt own ini ret cc tb)) d t
/-- what the check gives of a table -/
noncomputable def ft_T (strs : List ai_Z) (mt : Nat → ai_MT) (own : String) (ini : Bool) (ret : Option FieldType) (cc : ByteArray) (tb : List (Nat × Nat × Nat × Nat)) (d : Nat) (t : ai_T (List fr_I) d) : Prop :=
  ∀ k, ∀ q ∈ ai_tget d t k, decode cc q.1 = .ok (q.2.1.1, q.2.2.2.1) ∧ q.2.2.1 = q.1 + q.2.2.2.1 ∧ ai_chk q.1 q.2.1.1 q.2.2.2.1 q.2.2.2.2.1 q.2.2.2.2.2 = true ∧ ai_wd ft_W strs own ini q.2.1.1 q.2.2.2.2.1 q.2.2.2.2.2 ∧ ai_we ft_W ft_N own ret cc tb q.1 q.2.1.1 q.2.2.2.1 q.2.2.2.2.1 q.2.2.2.2.2 ∧ (q.2.2.2.2.1 < 1000 → ai_wc ft_W ft_N (mt q.2.2.2.2.1) own q.2.1.1 q.2.2.2.1 q.2.2.2.2.2)
theorem ft_tall_ok {α : Type} {p : α → Bool} : ∀ {d : Nat} {t : ai_T α d}, ai_tall p d t = true → ∀ k, p (ai_tget d t k) = true
  | 0, t, h, k => h
  | d + 1, t, h, k => by
    unfold ai_tall at h
    split at h
    · rename_i e
      unfold ai_tget
      split
      · exact ft_tall_ok e _
      · exact ft_tall_ok h _
    · cases h
theorem ft_tree_ok {gs : List Nat} {strs : List ai_Z} {mt : Nat → ai_MT} {own : String} {ini : Bool} {ret : Option FieldType} {cc : ByteArray} {tb : List (Nat × Nat × Nat × Nat)} {d : Nat} {t : ai_T (List fr_I) d} (h : ft_tree (ft_pick gs lw_tbl) strs mt own ini ret cc tb d t = true) : ft_T strs mt own ini ret cc tb d t := by
  intro k q hq
  have hu : ∀ u ∈ ft_pick gs lw_tbl, u ∈ lw_tbl := fun u hu => ft_pick_ok hu
  have h1 := List.all_eq_true.mp (ft_tall_ok h k) q hq
  obtain ⟨pc, j, nx, len, a, b⟩ := q
  unfold ft_ok at h1
  simp only [Bool.and_eq_true, decide_eq_true_eq] at h1
  obtain ⟨h1, h2, h3, h4, h5, h6⟩ := h1
  refine ⟨h1, Nat.eq_of_beq_eq_true h2, h3, ft_wd_ok hu h4, ft_we_ok hu h5, fun ha => ?_⟩
  have ha : a < 1000 := ha
  rw [show Nat.blt a 1000 = true from Nat.ble_eq_true_of_le ha] at h6
  exact ft_wc_ok hu h6
theorem ft_T.nd {strs : List ai_Z} {mt : Nat → ai_MT} {own : String} {ini : Bool} {ret : Option FieldType} {cc : ByteArray} {tb : List (Nat × Nat × Nat × Nat)} {d : Nat} {a b : ai_T (List fr_I) d} (ha : ft_T strs mt own ini ret cc tb d a) (hb : ft_T strs mt own ini ret cc tb d b) : ft_T strs mt own ini ret cc tb (d + 1) (fr_nd d a b) := by
  intro k q hq
  unfold ai_tget at hq
  split at hq
  · exact ha _ q hq
  · exact hb _ q hq
theorem fr_seek_ok {pc : Nat} {x : fr_Q} : ∀ {l : List fr_I}, fr_seek pc l = some x → (pc, x) ∈ l
  | [], h => by cases h
  | (q, i) :: l, h => by
    unfold fr_seek at h
    split at h
    · rename_i e
      cases h
      rw [Nat.eq_of_beq_eq_true e]
      exact List.mem_cons_self
    · exact List.mem_cons_of_mem _ (fr_seek_ok h)
theorem ft_T.nx {strs : List ai_Z} {mt : Nat → ai_MT} {own : String} {ini : Bool} {ret : Option FieldType} {cc : ByteArray} {tb : List (Nat × Nat × Nat × Nat)} {d : Nat} {t : ai_T (List fr_I) d} (h : ft_T strs mt own ini ret cc tb d t) : fr_nx (fr_code d t) := fun pc q hq => (h _ _ (fr_seek_ok hq)).2.1
theorem ft_T.tab {strs : List ai_Z} {mt : Nat → ai_MT} {own : String} {ini : Bool} {ret : Option FieldType} {cc : ByteArray} {tb : List (Nat × Nat × Nat × Nat)} {d : Nat} {t : ai_T (List fr_I) d} (h : ft_T strs mt own ini ret cc tb d t) : ai_tab ft_W ft_N strs mt own ini ret cc tb (fun pc => (fr_code d t pc).map fr_un) := by
  intro pc i len a b hq
  dsimp only at hq
  cases e : fr_code d t pc with
  | none => rw [e] at hq; cases hq
  | some q =>
    rw [e] at hq
    obtain ⟨j, nx, len', a', b'⟩ := q
    cases hq
    obtain ⟨g1, -, g3, g4, g5, g6⟩ := h _ _ (fr_seek_ok e)
    exact ⟨g1, g3, g4, g5, g6⟩
/-- a method's own words -/
noncomputable def ft_mok (uw : List Cond) (y : ai_MT) : Bool := plainName y.1.cls && (decide (y.1.cls ≠ "java/lang/invoke/MethodHandle") && (decide (y.1.cls ≠ "java/lang/invoke/VarHandle") && (decide ((parseMethodDescriptor y.1.desc).map (fun d => d.parameters.length) = some y.2.2.2.2.2) && (Nat.ble y.2.2.1 45 && (ft_good uw (ai_cw y) && ft_good uw (Cond.initialized y.1.cls))))))
theorem ft_mok_ok {gs : List Nat} {y : ai_MT} (h : ft_mok (ft_pick gs lw_tbl) y = true) : ai_mok ft_W y := by
  have hu : ∀ u ∈ ft_pick gs lw_tbl, u ∈ lw_tbl := fun u hu => ft_pick_ok hu
  unfold ft_mok at h
  simp only [Bool.and_eq_true, decide_eq_true_eq] at h
  obtain ⟨h1, h2, h3, h4, h5, h6, h7⟩ := h
  exact ⟨h1, ⟨h2, h3, h4⟩, Nat.le_of_ble_eq_true h5, ft_good_ok hu h6, ft_good_ok hu h7⟩
end
section
/-! METHODS OF THE PROGRAM -/
noncomputable def ct_S (y : ai_MT) (d : Nat) (t : ai_T (List fr_I) d) : Prop := ft_T ct_strs ct_mt y.1.cls (decide (y.1.name = "<init>")) y.2.2.2.1 y.2.1 (y.2.2.2.2.1.getD []) d t
noncomputable def ct_G (c : ct_L) : Prop := match c with
  | none => True
  | some (code, hand, _, y) => ai_mok ft_W y ∧ fr_nx code ∧ ai_tab ft_W ft_N ct_strs ct_mt y.1.cls (decide (y.1.name = "<init>")) y.2.2.2.1 y.2.1 (y.2.2.2.2.1.getD []) (fun pc => (code pc).map fr_un) ∧ ∀ pc z, match hand pc z with
    | none => ∀ x ∈ ai_rows y.2.2.2.2.1, covers x pc = false
    | some (k, pcn) => (pcn = 99999 ∧ code 99999 = none) ∨ ai_hk ft_W ft_N y.1.cls y.2.2.1 y.2.1 (ai_rows y.2.2.2.2.1) pc z k pcn
theorem ct_G0 {y : ai_MT} {d : Nat} {t : ai_T (List fr_I) d} {b : Nat × Nat} (h1 : ai_mok ft_W y) (h2 : ct_S y d t) (h3 : y.2.2.2.2.1 = none) : ct_G (some (fr_code d t, (fun _ _ => none), b, y)) :=
  ⟨h1, ft_T.nx h2, ft_T.tab h2, fun pc z => by
    show ∀ x ∈ ai_rows y.2.2.2.2.1, covers x pc = false
    rw [h3]
    exact fun x hx => by cases hx⟩
/-- a row of a table of handlers: from, to, exception, local, place behind its store; the class file's row -/
noncomputable def ct_row (uw : List Cond) (own : String) (nL : Nat) (cc : ByteArray) (r : Nat × Nat × Nat × Nat × Nat) (s : Nat × Nat × Nat × Nat) : Bool := match r, s with
  | (a, b, x, k, q), (a', b', h, ct) => Nat.beq a a' && (Nat.beq b b' && (Nat.blt k nL && (Nat.blt 0 ct && (Nat.ble x 1 && (ft_good uw (Cond.classLink own ct (ai_exn x)) && (ft_nk uw (Cond.castable (ai_exn x) (ai_exn x)) &&
    ((decide (decode cc h = .ok (.astore k, 2)) && Nat.beq q (h + 2)) || (Nat.blt k 4 && (decide (decode cc h = .ok (.astore_n (Fin.ofNat 4 k), 1)) && Nat.beq q (h + 1))))))))))
noncomputable def ct_Row (own : String) (nL : Nat) (cc : ByteArray) (r : Nat × Nat × Nat × Nat × Nat) (s : Nat × Nat × Nat × Nat) : Prop :=
  s.1 = r.1 ∧ s.2.1 = r.2.1 ∧ r.2.2.2.1 < nL ∧ s.2.2.2 ≠ 0 ∧ Cond.classLink own s.2.2.2 (ai_exn r.2.2.1) ∈ ft_W ∧ Cond.castable (ai_exn r.2.2.1) (ai_exn r.2.2.1) ∈ ft_N ∧
    ((decode cc s.2.2.1 = .ok (.astore r.2.2.2.1, 2) ∧ r.2.2.2.2 = s.2.2.1 + 2) ∨ ∃ j : Fin 4, (j : Nat) = r.2.2.2.1 ∧ decode cc s.2.2.1 = .ok (.astore_n j, 1) ∧ r.2.2.2.2 = s.2.2.1 + 1)
theorem ct_row_ok {uw : List Cond} (hu : ∀ u ∈ uw, u ∈ lw_tbl) {own : String} {nL : Nat} {cc : ByteArray} {r : Nat × Nat × Nat × Nat × Nat} {s : Nat × Nat × Nat × Nat} (h : ct_row uw own nL cc r s = true) : ct_Row own nL cc r s := by
  obtain ⟨a, b, x, k, q⟩ := r
  obtain ⟨a', b', h', ct⟩ := s
  unfold ct_row at h
  simp only [Bool.and_eq_true, Bool.or_eq_true, decide_eq_true_eq] at h
  obtain ⟨h1, h2, h3, h4, h5, h6, h7, h8⟩ := h
  have h4 : 0 < ct := Nat.le_of_ble_eq_true h4
  refine ⟨(Nat.eq_of_beq_eq_true h1).symm, (Nat.eq_of_beq_eq_true h2).symm, Nat.le_of_ble_eq_true h3, Nat.ne_of_gt h4, ft_good_ok hu h6, ft_nk_ok hu h7, ?_⟩
  rcases h8 with ⟨g1, g2⟩ | ⟨g0, g1, g2⟩
  · exact Or.inl ⟨g1, Nat.eq_of_beq_eq_true g2⟩
  · have g0 : k < 4 := Nat.le_of_ble_eq_true g0
    exact Or.inr ⟨Fin.ofNat 4 k, Nat.mod_eq_of_lt g0, g1, Nat.eq_of_beq_eq_true g2⟩
noncomputable def ct_Hb (uw : List Cond) (y : ai_MT) (l : List (Nat × Nat × Nat × Nat × Nat)) : Bool := match y.2.2.2.2.1 with
  | none => false
  | some tb => match l, tb with
    | [r], [s] => ct_row uw y.1.cls y.2.2.1 y.2.1 r s
    | [r, r'], [s, s'] => ct_row uw y.1.cls y.2.2.1 y.2.1 r s && (ct_row uw y.1.cls y.2.2.1 y.2.1 r' s' && (Nat.beq r.2.2.1 0 && Nat.beq r'.2.2.1 1))
    | _, _ => false
noncomputable def ct_Hp (y : ai_MT) (l : List (Nat × Nat × Nat × Nat × Nat)) : Prop := ∃ tb, y.2.2.2.2.1 = some tb ∧ ((∃ r s, l = [r] ∧ tb = [s] ∧ ct_Row y.1.cls y.2.2.1 y.2.1 r s) ∨
  ∃ r s r' s', l = [r, r'] ∧ tb = [s, s'] ∧ ct_Row y.1.cls y.2.2.1 y.2.1 r s ∧ ct_Row y.1.cls y.2.2.1 y.2.1 r' s' ∧ r.2.2.1 = 0 ∧ r'.2.2.1 = 1)
theorem ct_H_ok {gs : List Nat} {y : ai_MT} {l : List (Nat × Nat × Nat × Nat × Nat)} (h : ct_Hb (ft_pick gs lw_tbl) y l = true) : ct_Hp y l := by
  have hu : ∀ u ∈ ft_pick gs lw_tbl, u ∈ lw_tbl := fun u hu => ft_pick_ok hu
  unfold ct_Hb at h
  split at h
  · cases h
  · rename_i tb e
    refine ⟨tb, e, ?_⟩
    split at h
    · exact Or.inl ⟨_, _, rfl, rfl, ct_row_ok hu h⟩
    · simp only [Bool.and_eq_true] at h
      obtain ⟨h1, h2, h3, h4⟩ := h
      exact Or.inr ⟨_, _, _, _, rfl, rfl, ct_row_ok hu h1, ct_row_ok hu h2, Nat.eq_of_beq_eq_true h3, Nat.eq_of_beq_eq_true h4⟩
    · cases h
theorem ct_cover {s : Nat × Nat × Nat × Nat} {a b pc : Nat} (h1 : s.1 = a) (h2 : s.2.1 = b) : covers ⟨s.1, s.2.1, s.2.2.1, s.2.2.2⟩ pc = (Nat.ble a pc && Nat.blt pc b) := by
  subst h1
  subst h2
  unfold covers
  congr 1
  · cases e : Nat.ble s.1 pc with
    | true => exact decide_eq_true (Nat.le_of_ble_eq_true e)
    | false => exact decide_eq_false (fun q => by rw [Nat.ble_eq_true_of_le q] at e; cases e)
  · cases e : Nat.blt pc s.2.1 with
    | true => exact decide_eq_true (Nat.le_of_ble_eq_true e)
    | false => exact decide_eq_false (fun q => by rw [show Nat.blt pc s.2.1 = true from Nat.ble_eq_true_of_le q] at e; cases e)
theorem ct_G1 {y : ai_MT} {d : Nat} {t : ai_T (List fr_I) d} {b : Nat × Nat} {l : List (Nat × Nat × Nat × Nat × Nat)} (h1 : ai_mok ft_W y) (h2 : ct_S y d t) (h3 : ct_Hp y l) (h4 : fr_code d t 99999 = none) : ct_G (some (fr_code d t, ct_hand l, b, y)) := by
  refine ⟨h1, ft_T.nx h2, ft_T.tab h2, fun pc z => ?_⟩
  obtain ⟨tb, e, h⟩ := h3
  rw [e]
  have esc : (99999 = 99999 ∧ fr_code d t 99999 = none) := ⟨rfl, h4⟩
  rcases h with ⟨⟨a, bb, x, k, q⟩, s, rfl, rfl, hr⟩ | ⟨⟨a, bb, x, k, q⟩, s, ⟨a', bb', x', k', q'⟩, s', rfl, rfl, hr, hr', hx, hx'⟩
  · obtain ⟨r1, r2, r3, r4, r5, r6, r7⟩ := hr
    have hc := ct_cover (pc := pc) r1 r2
    unfold ct_hand ai_hand ai_hand ct_cov ct_cov
    cases e1 : Nat.ble a pc <;> cases e2 : Nat.blt pc bb <;> dsimp only <;> dsimp only at hc <;> rw [e1, e2] at hc
    · intro w hw; rcases List.mem_cons.mp hw with rfl | hw; exact hc; cases hw
    · intro w hw; rcases List.mem_cons.mp hw with rfl | hw; exact hc; cases hw
    · intro w hw; rcases List.mem_cons.mp hw with rfl | hw; exact hc; cases hw
    · cases e3 : Nat.beq x z with
      | false => exact Or.inl esc
      | true =>
        have e3 := Nat.eq_of_beq_eq_true e3
        subst e3
        exact Or.inr ⟨r3, [], _, [], ai_exn x, rfl, fun w hw => (by cases hw), hc, r4, r5, r6, r7⟩
  · have hx : x = 0 := hx
    have hx' : x' = 1 := hx'
    subst hx
    subst hx'
    obtain ⟨r1, r2, r3, r4, r5, r6, r7⟩ := hr
    obtain ⟨t1, t2, t3, t4, t5, t6, t7⟩ := hr'
    have hc := ct_cover (pc := pc) r1 r2
    have hc' := ct_cover (pc := pc) t1 t2
    have both : ∀ {u v : Bool}, covers ⟨s.1, s.2.1, s.2.2.1, s.2.2.2⟩ pc = false → covers ⟨s'.1, s'.2.1, s'.2.2.1, s'.2.2.2⟩ pc = false → ∀ w ∈ ai_rows (some [s, s']), covers w pc = false := fun {u v} g g' w hw => by
      rcases List.mem_cons.mp hw with rfl | hw
      · exact g
      · rcases List.mem_cons.mp hw with rfl | hw
        · exact g'
        · cases hw
    have one : covers ⟨s.1, s.2.1, s.2.2.1, s.2.2.2⟩ pc = true → ai_hk ft_W ft_N y.1.cls y.2.2.1 y.2.1 (ai_rows (some [s, s'])) pc 0 k q := fun g => ⟨r3, [], _, [_], ai_exn 0, rfl, fun w hw => (by cases hw), g, r4, r5, r6, r7⟩
    have two : covers ⟨s'.1, s'.2.1, s'.2.2.1, s'.2.2.2⟩ pc = true → ai_hk ft_W ft_N y.1.cls y.2.2.1 y.2.1 (ai_rows (some [s, s'])) pc 1 k' q' := fun g => ⟨t3, [_], _, [], ai_exn 1, rfl, (fun w hw => by
      rcases List.mem_cons.mp hw with rfl | hw
      · exact Or.inr ⟨r4, _, r5, List.mem_cons_self⟩
      · cases hw), g, t4, t5, t6, t7⟩
    have key : (match ct_hand [(a, bb, 0, k, q), (a', bb', 1, k', q')] pc z with
      | none => ∀ w ∈ ai_rows (some [s, s']), covers w pc = false
      | some (k, pcn) => (pcn = 99999 ∧ fr_code d t 99999 = none) ∨ ai_hk ft_W ft_N y.1.cls y.2.2.1 y.2.1 (ai_rows (some [s, s'])) pc z k pcn) := by
      dsimp only at hc hc'
      have z0 : Nat.beq 0 z = true → z = 0 := fun g => (Nat.eq_of_beq_eq_true g).symm
      have z1 : Nat.beq 1 z = true → z = 1 := fun g => (Nat.eq_of_beq_eq_true g).symm
      unfold ct_hand ai_hand ai_hand ai_hand ct_cov ct_cov ct_cov
      cases e1 : Nat.ble a pc <;> cases e2 : Nat.blt pc bb <;> cases e3 : Nat.ble a' pc <;> cases e4 : Nat.blt pc bb' <;> rw [e1, e2] at hc <;> rw [e3, e4] at hc' <;> cases e5 : Nat.beq 0 z <;> cases e6 : Nat.beq 1 z <;> dsimp only <;>
        first
        | exact both (u := true) (v := true) hc hc'
        | exact Or.inl esc
        | (have q := z0 e5; subst q; exact Or.inr (one hc))
        | (have q := z1 e6; subst q; exact Or.inr (two hc'))
    exact key
/-- all methods -/
noncomputable def ct_A (d : Nat) (t : ai_T ct_L d) : Prop := ∀ k, ct_G (ai_tget d t k)
theorem ct_A.leaf {c : ct_L} (h : ct_G c) : ct_A 0 c := fun _ => h
theorem ct_A.no : ct_A 0 (none : ct_L) := fun _ => trivial
theorem ct_A.nd {d : Nat} {a b : ai_T ct_L d} (ha : ct_A d a) (hb : ct_A d b) : ct_A (d + 1) (ai_nd d a b) := by
  intro k
  unfold ai_tget
  split
  · exact ha _
  · exact hb _
end
section
/-! WHAT THE TABLES SAY OF EACH METHOD (printed by gen3.py) 0 -/
theorem ck_0 : ct_S cy_0 3 ct_0 := ft_tree_ok (gs := [156, 0, 37, 284, 0, 8, 2, 1, 2, 2, 2, 2, 2, 2]) (by decide +kernel)
theorem cw_0 : ai_mok ft_W cy_0 := ft_mok_ok (gs := [133, 345]) (by decide +kernel)
theorem pm_0 : ct_G cm_0 := ct_G0 cw_0 ck_0 rfl
theorem ck_1 : ct_S cy_1 2 ct_1 := ft_tree_ok (gs := [277, 204, 2, 1, 19, 2, 2, 817]) (by decide +kernel)
theorem cw_1 : ai_mok ft_W cy_1 := ft_mok_ok (gs := [133, 1196]) (by decide +kernel)
theorem pm_1 : ct_G cm_1 := ct_G0 cw_1 ck_1 rfl
theorem ck_3 : ct_S cy_3 3 ct_3 := ft_tree_ok (gs := [156, 0, 37, 237, 0, 0, 3, 3, 0, 0, 0, 0, 0, 0]) (by decide +kernel)
theorem cw_3 : ai_mok ft_W cy_3 := ft_mok_ok (gs := [132, 299]) (by decide +kernel)
theorem pm_3 : ct_G cm_3 := ct_G0 cw_3 ck_3 rfl
theorem ck_4 : ct_S cy_4 3 ct_4 := ft_tree_ok (gs := [306, 132, 0, 0, 1, 0, 0, 685, 0, 0]) (by decide +kernel)
theorem cw_4 : ai_mok ft_W cy_4 := ft_mok_ok (gs := [132, 997]) (by decide +kernel)
theorem pm_4 : ct_G cm_4 := ct_G0 cw_4 ck_4 rfl
theorem ck_8 : ct_S cy_8 2 ct_8 := ft_tree_ok (gs := [34, 2, 401, 1, 0, 739, 0, 28, 0, 1, 27, 1]) (by decide +kernel)
theorem cw_8 : ai_mok ft_W cy_8 := ft_mok_ok (gs := [132, 1078]) (by decide +kernel)
theorem pm_8 : ct_G cm_8 := ct_G0 cw_8 ck_8 rfl
theorem ck_9 : ct_S cy_9 4 ct_9 := ft_tree_ok (gs := [37, 0, 0, 103, 291, 6, 1, 1, 0, 0, 476, 0, 316, 1, 1, 1, 7, 0, 1]) (by decide +kernel)
theorem cw_9 : ai_mok ft_W cy_9 := ft_mok_ok (gs := [132, 1113]) (by decide +kernel)
theorem pm_9 : ct_G cm_9 := ct_G0 cw_9 ck_9 rfl
theorem ck_10 : ct_S cy_10 1 ct_10 := ft_tree_ok (gs := [447]) (by decide +kernel)
theorem cw_10 : ai_mok ft_W cy_10 := ft_mok_ok (gs := [132, 1128]) (by decide +kernel)
theorem pm_10 : ct_G cm_10 := ct_G0 cw_10 ck_10 rfl
theorem ck_11 : ct_S cy_11 4 ct_11 := ft_tree_ok (gs := [306, 132, 6, 0, 434, 0, 256]) (by decide +kernel)
theorem cw_11 : ai_mok ft_W cy_11 := ft_mok_ok (gs := [132, 1083]) (by decide +kernel)
theorem pm_11 : ct_G cm_11 := ct_G0 cw_11 ck_11 rfl
theorem ck_14 : ct_S cy_14 4 ct_14 := ft_tree_ok (gs := [199, 112, 126, 3, 4, 0, 432, 0, 256, 110, 0, 0]) (by decide +kernel)
theorem cw_14 : ai_mok ft_W cy_14 := ft_mok_ok (gs := [132, 1117]) (by decide +kernel)
theorem pm_14 : ct_G cm_14 := ct_G0 cw_14 ck_14 rfl
theorem ck_15 : ct_S cy_15 2 ct_15 := ft_tree_ok (gs := [156, 0, 37, 391, 0, 4, 0, 0, 0, 0, 0, 17]) (by decide +kernel)
theorem cw_15 : ai_mok ft_W cy_15 := ft_mok_ok (gs := [135, 450]) (by decide +kernel)
theorem pm_15 : ct_G cm_15 := ct_G0 cw_15 ck_15 rfl
theorem ck_16 : ct_S cy_16 1 ct_16 := ft_tree_ok (gs := []) (by decide +kernel)
theorem cw_16 : ai_mok ft_W cy_16 := ft_mok_ok (gs := [135, 1094]) (by decide +kernel)
theorem pm_16 : ct_G cm_16 := ct_G0 cw_16 ck_16 rfl
theorem ck_17 : ct_S cy_17 0 ct_17 := ft_tree_ok (gs := [1228, 0]) (by decide +kernel)
theorem cw_17 : ai_mok ft_W cy_17 := ft_mok_ok (gs := [135, 1091]) (by decide +kernel)
theorem pm_17 : ct_G cm_17 := ct_G0 cw_17 ck_17 rfl
theorem ck_18 : ct_S cy_18 1 ct_18 := ft_tree_ok (gs := [597, 273, 538]) (by decide +kernel)
theorem cw_18 : ai_mok ft_W cy_18 := ft_mok_ok (gs := [135, 1287]) (by decide +kernel)
theorem pm_18 : ct_G cm_18 := ct_G0 cw_18 ck_18 rfl
theorem ck_19 : ct_S cy_19 2 ct_19 := ft_tree_ok (gs := [53, 2, 243, 288, 3, 799, 1, 15, 1]) (by decide +kernel)
theorem cw_19 : ai_mok ft_W cy_19 := ft_mok_ok (gs := [135, 1256]) (by decide +kernel)
theorem pm_19 : ct_G cm_19 := ct_G0 cw_19 ck_19 rfl
theorem ck_20 : ct_S cy_20 3 ct_20 := ft_tree_ok (gs := [277, 158, 157, 0, 0, 0, 530, 0, 79, 0, 186, 0, 1]) (by decide +kernel)
theorem cw_20 : ai_mok ft_W cy_20 := ft_mok_ok (gs := [135, 1260]) (by decide +kernel)
theorem pm_20 : ct_G cm_20 := ct_G0 cw_20 ck_20 rfl
theorem ck_23 : ct_S cy_23 3 ct_23 := ft_tree_ok (gs := [57, 533, 6, 816, 1]) (by decide +kernel)
theorem cw_23 : ai_mok ft_W cy_23 := ft_mok_ok (gs := [135, 1278]) (by decide +kernel)
theorem pm_23 : ct_G cm_23 := ct_G0 cw_23 ck_23 rfl
theorem ck_25 : ct_S cy_25 3 ct_25 := ft_tree_ok (gs := [1226, 1, 0, 189, 0, 0, 0]) (by decide +kernel)
theorem cw_25 : ai_mok ft_W cy_25 := ft_mok_ok (gs := [135, 1282]) (by decide +kernel)
theorem pm_25 : ct_G cm_25 := ct_G0 cw_25 ck_25 rfl
theorem ck_26 : ct_S cy_26 3 ct_26 := ft_tree_ok (gs := [0, 155, 0, 5, 0, 1, 2, 0, 24, 72, 1, 45, 2, 1, 0, 0, 0, 0, 0, 0, 0, 0]) (by decide +kernel)
theorem cw_26 : ai_mok ft_W cy_26 := ft_mok_ok (gs := [126, 35]) (by decide +kernel)
theorem pm_26 : ct_G cm_26 := ct_G0 cw_26 ck_26 rfl
theorem ck_27 : ct_S cy_27 1 ct_27 := ft_tree_ok (gs := [0, 267, 1, 24]) (by decide +kernel)
theorem cw_27 : ai_mok ft_W cy_27 := ft_mok_ok (gs := [126, 625]) (by decide +kernel)
theorem pm_27 : ct_G cm_27 := ct_G0 cw_27 ck_27 rfl
theorem ck_29 : ct_S cy_29 1 ct_29 := ft_tree_ok (gs := [321]) (by decide +kernel)
theorem cw_29 : ai_mok ft_W cy_29 := ft_mok_ok (gs := [126, 757]) (by decide +kernel)
theorem pm_29 : ct_G cm_29 := ct_G0 cw_29 ck_29 rfl
theorem ck_30 : ct_S cy_30 1 ct_30 := ft_tree_ok (gs := [319, 805, 9]) (by decide +kernel)
theorem cw_30 : ai_mok ft_W cy_30 := ft_mok_ok (gs := [126, 1007]) (by decide +kernel)
theorem pm_30 : ct_G cm_30 := ct_G0 cw_30 ck_30 rfl
theorem ck_31 : ct_S cy_31 2 ct_31 := ft_tree_ok (gs := [310]) (by decide +kernel)
theorem cw_31 : ai_mok ft_W cy_31 := ft_mok_ok (gs := [126, 753]) (by decide +kernel)
theorem pm_31 : ct_G cm_31 := ct_G0 cw_31 ck_31 rfl
theorem ck_32 : ct_S cy_32 1 ct_32 := ft_tree_ok (gs := [878, 0, 326]) (by decide +kernel)
theorem cw_32 : ai_mok ft_W cy_32 := ft_mok_ok (gs := [126, 1078]) (by decide +kernel)
theorem pm_32 : ct_G cm_32 := ct_G0 cw_32 ck_32 rfl
theorem ck_35 : ct_S cy_35 1 ct_35 := ft_tree_ok (gs := [326]) (by decide +kernel)
theorem cw_35 : ai_mok ft_W cy_35 := ft_mok_ok (gs := [126, 1057]) (by decide +kernel)
theorem pm_35 : ct_G cm_35 := ct_G0 cw_35 ck_35 rfl
theorem ck_38 : ct_S cy_38 3 ct_38 := ft_tree_ok (gs := [1, 1, 0, 267, 1, 8, 1, 1, 1, 11, 24, 1, 0]) (by decide +kernel)
theorem cw_38 : ai_mok ft_W cy_38 := ft_mok_ok (gs := [126, 144]) (by decide +kernel)
theorem pm_38 : ct_G cm_38 := ct_G0 cw_38 ck_38 rfl
theorem ck_39 : ct_S cy_39 3 ct_39 := ft_tree_ok (gs := [276, 0, 17, 5, 26]) (by decide +kernel)
theorem cw_39 : ai_mok ft_W cy_39 := ft_mok_ok (gs := [126, 148]) (by decide +kernel)
theorem pm_39 : ct_G cm_39 := ct_G0 cw_39 ck_39 rfl
theorem ck_41 : ct_S cy_41 3 ct_41 := ft_tree_ok (gs := [328, 0]) (by decide +kernel)
theorem cw_41 : ai_mok ft_W cy_41 := ft_mok_ok (gs := [126, 159]) (by decide +kernel)
theorem pm_41 : ct_G cm_41 := ct_G0 cw_41 ck_41 rfl
theorem ck_42 : ct_S cy_42 3 ct_42 := ft_tree_ok (gs := [301]) (by decide +kernel)
theorem cw_42 : ai_mok ft_W cy_42 := ft_mok_ok (gs := [126, 163]) (by decide +kernel)
theorem pm_42 : ct_G cm_42 := ct_G0 cw_42 ck_42 rfl
theorem ck_44 : ct_S cy_44 3 ct_44 := ft_tree_ok (gs := [301, 880, 0, 71]) (by decide +kernel)
theorem cw_44 : ai_mok ft_W cy_44 := ft_mok_ok (gs := [126, 1127]) (by decide +kernel)
theorem pm_44 : ct_G cm_44 := ct_G0 cw_44 ck_44 rfl
theorem ck_45 : ct_S cy_45 1 ct_45 := ft_tree_ok (gs := [156, 0, 14, 0, 1, 0, 18, 36, 1]) (by decide +kernel)
theorem cw_45 : ai_mok ft_W cy_45 := ft_mok_ok (gs := [127, 43]) (by decide +kernel)
theorem pm_45 : ct_G cm_45 := ct_G0 cw_45 ck_45 rfl
theorem ck_51 : ct_S cy_51 2 ct_51 := ft_tree_ok (gs := [156, 0, 37, 426, 10, 4, 0, 0, 0]) (by decide +kernel)
theorem cw_51 : ai_mok ft_W cy_51 := ft_mok_ok (gs := [136, 484]) (by decide +kernel)
theorem pm_51 : ct_G cm_51 := ct_G0 cw_51 ck_51 rfl
theorem ck_52 : ct_S cy_52 4 ct_52 := ft_tree_ok (gs := [59, 0, 236, 7, 317, 1, 1, 1, 1, 1, 0, 0, 0, 0, 0, 0, 0, 0, 120, 369, 0, 321, 0, 1, 1, 1, 2, 0]) (by decide +kernel)
end
section
/-! WHAT THE TABLES SAY OF EACH METHOD (printed by gen3.py) 1 -/
theorem cw_52 : ai_mok ft_W cy_52 := ft_mok_ok (gs := [136, 1317]) (by decide +kernel)
theorem pm_52 : ct_G cm_52 := ct_G0 cw_52 ck_52 rfl
theorem ck_53 : ct_S cy_53 2 ct_53 := ft_tree_ok (gs := [297, 335]) (by decide +kernel)
theorem cw_53 : ai_mok ft_W cy_53 := ft_mok_ok (gs := [136, 1322]) (by decide +kernel)
theorem pm_53 : ct_G cm_53 := ct_G0 cw_53 ck_53 rfl
theorem ck_54 : ct_S cy_54 2 ct_54 := ft_tree_ok (gs := [305, 327]) (by decide +kernel)
theorem cw_54 : ai_mok ft_W cy_54 := ft_mok_ok (gs := [136, 1326]) (by decide +kernel)
theorem pm_54 : ct_G cm_54 := ct_G0 cw_54 ck_54 rfl
theorem ck_62 : ct_S cy_62 1 ct_62 := ft_tree_ok (gs := [156, 0, 20, 0, 0, 0, 13]) (by decide +kernel)
theorem cw_62 : ai_mok ft_W cy_62 := ft_mok_ok (gs := [128, 48]) (by decide +kernel)
theorem pm_62 : ct_G cm_62 := ct_G0 cw_62 ck_62 rfl
theorem ck_70 : ct_S cy_70 2 ct_70 := ft_tree_ok (gs := [156, 0, 37, 350, 0, 0, 0, 0, 0, 0]) (by decide +kernel)
theorem cw_70 : ai_mok ft_W cy_70 := ft_mok_ok (gs := [134, 410]) (by decide +kernel)
theorem pm_70 : ct_G cm_70 := ct_G0 cw_70 ck_70 rfl
theorem ck_71 : ct_S cy_71 5 ct_71 := ft_tree_ok (gs := [40, 0, 6, 0, 0, 0, 0, 96, 127, 20, 8, 183, 56, 1, 1, 0, 0, 0, 0, 321, 0, 285, 0, 1, 0, 33, 0, 75, 0, 0, 0, 2, 1, 3, 0, 0, 1, 26, 1, 1, 0, 0, 2, 1, 1, 1, 5, 1, 3, 1]) (by decide +kernel)
theorem cw_71 : ai_mok ft_W cy_71 := ft_mok_ok (gs := [134, 1144]) (by decide +kernel)
theorem pm_71 : ct_G cm_71 := ct_G0 cw_71 ck_71 rfl
theorem ck_72 : ct_S cy_72 3 ct_72 := ft_tree_ok (gs := [549, 1, 1, 0, 573, 0, 79, 0, 79, 0, 0]) (by decide +kernel)
theorem cw_72 : ai_mok ft_W cy_72 := ft_mok_ok (gs := [134, 1154]) (by decide +kernel)
theorem pm_72 : ct_G cm_72 := ct_G0 cw_72 ck_72 rfl
theorem ck_73 : ct_S cy_73 3 ct_73 := ft_tree_ok (gs := [42, 509, 0, 2, 735, 5, 1]) (by decide +kernel)
theorem cw_73 : ai_mok ft_W cy_73 := ft_mok_ok (gs := [134, 1162]) (by decide +kernel)
theorem pm_73 : ct_G cm_73 := ct_G0 cw_73 ck_73 rfl
theorem ck_74 : ct_S cy_74 2 ct_74 := ft_tree_ok (gs := [551, 573, 192]) (by decide +kernel)
theorem cw_74 : ai_mok ft_W cy_74 := ft_mok_ok (gs := [134, 1182]) (by decide +kernel)
theorem pm_74 : ct_G cm_74 := ct_G0 cw_74 ck_74 rfl
theorem ck_75 : ct_S cy_75 2 ct_75 := ft_tree_ok (gs := [552]) (by decide +kernel)
theorem cw_75 : ai_mok ft_W cy_75 := ft_mok_ok (gs := [134, 1191]) (by decide +kernel)
theorem pm_75 : ct_G cm_75 := ct_G0 cw_75 ck_75 rfl
theorem ck_76 : ct_S cy_76 0 ct_76 := ft_tree_ok (gs := [149, 405, 609, 0, 113]) (by decide +kernel)
theorem cw_76 : ai_mok ft_W cy_76 := ft_mok_ok (gs := [134, 1187]) (by decide +kernel)
theorem pm_76 : ct_G cm_76 := ct_G0 cw_76 ck_76 rfl
theorem ck_77 : ct_S cy_77 4 ct_77 := ft_tree_ok (gs := [43, 0, 1, 0, 0, 100, 403, 0, 2, 0, 606, 0, 113, 11, 9, 1, 1, 1, 5, 1, 2, 1, 1, 1]) (by decide +kernel)
theorem cw_77 : ai_mok ft_W cy_77 := ft_mok_ok (gs := [134, 1166]) (by decide +kernel)
theorem pm_77 : ct_G cm_77 := ct_G0 cw_77 ck_77 rfl
theorem ck_78 : ct_S cy_78 2 ct_78 := ft_tree_ok (gs := []) (by decide +kernel)
theorem cw_78 : ai_mok ft_W cy_78 := ft_mok_ok (gs := [134, 1170]) (by decide +kernel)
theorem pm_78 : ct_G cm_78 := ct_G0 cw_78 ck_78 rfl
theorem ck_79 : ct_S cy_79 2 ct_79 := ft_tree_ok (gs := [307, 240]) (by decide +kernel)
theorem cw_79 : ai_mok ft_W cy_79 := ft_mok_ok (gs := [134, 1174]) (by decide +kernel)
theorem pm_79 : ct_G cm_79 := ct_G0 cw_79 ck_79 rfl
theorem ck_81 : ct_S cy_81 3 ct_81 := ft_tree_ok (gs := [42, 4, 435, 7, 2, 55, 6, 0, 739, 1, 18, 1]) (by decide +kernel)
theorem cw_81 : ai_mok ft_W cy_81 := ft_mok_ok (gs := [134, 1200]) (by decide +kernel)
theorem pm_81 : ct_G cm_81 := ct_G0 cw_81 ck_81 rfl
theorem ck_82 : ct_S cy_82 4 ct_82 := ft_tree_ok (gs := [307, 183, 2, 1, 2, 11, 36, 0, 0, 577, 0, 79, 0, 79, 0]) (by decide +kernel)
theorem cw_82 : ai_mok ft_W cy_82 := ft_mok_ok (gs := [134, 1204]) (by decide +kernel)
theorem pm_82 : ct_G cm_82 := ct_G0 cw_82 ck_82 rfl
theorem ck_83 : ct_S cy_83 3 ct_83 := ft_tree_ok (gs := [298, 203, 2, 42, 1, 581, 0, 214, 0]) (by decide +kernel)
theorem cw_83 : ai_mok ft_W cy_83 := ft_mok_ok (gs := [134, 1212]) (by decide +kernel)
theorem pm_83 : ct_G cm_83 := ct_G0 cw_83 ck_83 rfl
theorem ck_84 : ct_S cy_84 4 ct_84 := ft_tree_ok (gs := [149, 148, 8, 9, 165, 4, 19, 2, 2, 33, 1, 617, 0, 111]) (by decide +kernel)
theorem cw_84 : ai_mok ft_W cy_84 := ft_mok_ok (gs := [134, 1218]) (by decide +kernel)
theorem pm_84 : ct_G cm_84 := ct_G0 cw_84 ck_84 rfl
theorem ck_85 : ct_S cy_85 1 ct_85 := ft_tree_ok (gs := [156, 0, 37, 193, 0, 5, 1]) (by decide +kernel)
theorem cw_85 : ai_mok ft_W cy_85 := ft_mok_ok (gs := [131, 256]) (by decide +kernel)
theorem pm_85 : ct_G cm_85 := ct_G0 cw_85 ck_85 rfl
theorem ck_86 : ct_S cy_86 2 ct_86 := ft_tree_ok (gs := [6, 387, 377, 1]) (by decide +kernel)
theorem cw_86 : ai_mok ft_W cy_86 := ft_mok_ok (gs := [131, 639]) (by decide +kernel)
theorem pm_86 : ct_G cm_86 := ct_G0 cw_86 ck_86 rfl
theorem ck_87 : ct_S cy_87 2 ct_87 := ft_tree_ok (gs := [394, 3]) (by decide +kernel)
end
section
/-! WHAT THE TABLES SAY OF EACH METHOD (printed by gen3.py) 2 -/
theorem cw_87 : ai_mok ft_W cy_87 := ft_mok_ok (gs := [131, 643]) (by decide +kernel)
theorem pm_87 : ct_G cm_87 := ct_G0 cw_87 ck_87 rfl
theorem ck_111 : ct_S cy_111 2 ct_111 := ft_tree_ok (gs := [156, 0, 37, 172, 0, 2, 0, 0]) (by decide +kernel)
theorem cw_111 : ai_mok ft_W cy_111 := ft_mok_ok (gs := [130, 236]) (by decide +kernel)
theorem pm_111 : ct_G cm_111 := ct_G0 cw_111 ck_111 rfl
theorem ck_112 : ct_S cy_112 1 ct_112 := ft_tree_ok (gs := [370]) (by decide +kernel)
theorem cw_112 : ai_mok ft_W cy_112 := ft_mok_ok (gs := [130, 772]) (by decide +kernel)
theorem pm_112 : ct_G cm_112 := ct_G0 cw_112 ck_112 rfl
theorem ck_113 : ct_S cy_113 3 ct_113 := ft_tree_ok (gs := [370, 2, 0, 386, 0]) (by decide +kernel)
theorem cw_113 : ai_mok ft_W cy_113 := ft_mok_ok (gs := [130, 629]) (by decide +kernel)
theorem pm_113 : ct_G cm_113 := ct_G0 cw_113 ck_113 rfl
theorem ck_118 : ct_S cy_118 2 ct_118 := ft_tree_ok (gs := [156, 0, 37, 480, 2, 1, 2, 0]) (by decide +kernel)
theorem cw_118 : ai_mok ft_W cy_118 := ft_mok_ok (gs := [137, 537]) (by decide +kernel)
theorem pm_118 : ct_G cm_118 := ct_G0 cw_118 ck_118 rfl
theorem ck_119 : ct_S cy_119 3 ct_119 := ft_tree_ok (gs := [65, 211, 18, 384, 0, 0, 0, 0, 853, 0, 1]) (by decide +kernel)
theorem cw_119 : ai_mok ft_W cy_119 := ft_mok_ok (gs := [137, 1400]) (by decide +kernel)
theorem pm_119 : ct_G cm_119 := ct_G0 cw_119 ck_119 rfl
theorem ck_121 : ct_S cy_121 4 ct_121 := ft_tree_ok (gs := [677]) (by decide +kernel)
theorem cw_121 : ai_mok ft_W cy_121 := ft_mok_ok (gs := [137, 1405]) (by decide +kernel)
theorem pm_121 : ct_G cm_121 := ct_G0 cw_121 ck_121 rfl
theorem ck_127 : ct_S cy_127 4 ct_127 := ft_tree_ok (gs := [155, 0, 0, 0, 1, 0, 33, 167, 1, 0, 17, 1, 0, 40, 1, 0, 43, 1, 0, 62, 1, 0, 37, 1, 0, 31, 1, 0, 50, 1, 0, 26, 0, 0, 0, 0, 0, 0, 0, 0, 0, 0, 1]) (by decide +kernel)
theorem cw_127 : ai_mok ft_W cy_127 := ft_mok_ok (gs := [125, 28]) (by decide +kernel)
theorem pm_127 : ct_G cm_127 := ct_G0 cw_127 ck_127 rfl
theorem ck_128 : ct_S cy_128 0 ct_128 := ft_tree_ok (gs := []) (by decide +kernel)
theorem cw_128 : ai_mok ft_W cy_128 := ft_mok_ok (gs := [125, 637]) (by decide +kernel)
theorem pm_128 : ct_G cm_128 := ct_G0 cw_128 ck_128 rfl
theorem ck_129 : ct_S cy_129 1 ct_129 := ft_tree_ok (gs := [299, 402]) (by decide +kernel)
theorem cw_129 : ai_mok ft_W cy_129 := ft_mok_ok (gs := [125, 670]) (by decide +kernel)
theorem pm_129 : ct_G cm_129 := ct_G0 cw_129 ck_129 rfl
theorem ck_130 : ct_S cy_130 1 ct_130 := ft_tree_ok (gs := [308, 393]) (by decide +kernel)
theorem cw_130 : ai_mok ft_W cy_130 := ft_mok_ok (gs := [125, 815]) (by decide +kernel)
theorem pm_130 : ct_G cm_130 := ct_G0 cw_130 ck_130 rfl
theorem ck_131 : ct_S cy_131 0 ct_131 := ft_tree_ok (gs := []) (by decide +kernel)
theorem cw_131 : ai_mok ft_W cy_131 := ft_mok_ok (gs := [125, 1000]) (by decide +kernel)
theorem pm_131 : ct_G cm_131 := ct_G0 cw_131 ck_131 rfl
theorem ck_132 : ct_S cy_132 0 ct_132 := ft_tree_ok (gs := []) (by decide +kernel)
theorem cw_132 : ai_mok ft_W cy_132 := ft_mok_ok (gs := [125, 746]) (by decide +kernel)
theorem pm_132 : ct_G cm_132 := ct_G0 cw_132 ck_132 rfl
theorem ck_133 : ct_S cy_133 0 ct_133 := ft_tree_ok (gs := [702, 46, 0, 0]) (by decide +kernel)
theorem cw_133 : ai_mok ft_W cy_133 := ft_mok_ok (gs := [125, 622]) (by decide +kernel)
theorem pm_133 : ct_G cm_133 := ct_G0 cw_133 ck_133 rfl
theorem ck_134 : ct_S cy_134 1 ct_134 := ft_tree_ok (gs := [7, 0, 130, 0, 0, 0, 1, 11, 0, 630, 4, 1, 1, 0, 0, 0, 0, 0, 0, 0, 0, 0, 0, 0, 0, 0, 0, 0, 0, 0, 0, 0, 0, 0, 0, 0, 0, 0, 0, 0, 0, 0, 0, 0, 0, 0, 0, 0, 0, 0, 0, 0, 0, 0, 0, 0, 0, 0, 0, 0, 0, 0, 1, 0, 0, 0, 0, 0, 0, 0, 0, 0, 0, 86, 4, 0, 0, 0, 0, 0, 0, 0, 0, 0, 0, 0, 0, 0, 0, 1383, 13, 0, 0]) (by decide +kernel)
theorem cw_134 : ai_mok ft_W cy_134 := ft_mok_ok (gs := [125, 666]) (by decide +kernel)
theorem pm_134 : ct_G cm_134 := ct_G0 cw_134 ck_134 rfl
theorem ck_135 : ct_S cy_135 1 ct_135 := ft_tree_ok (gs := [7, 0, 130, 0, 0, 0, 1, 11, 0, 630, 4, 1, 1, 0, 0, 0, 0, 0, 0, 0, 0, 0, 0, 0, 0, 0, 0, 0, 0, 0, 0, 0, 0, 0, 0, 0, 0, 0, 0, 0, 0, 0, 0, 0, 0, 0, 0, 0, 0, 0, 0, 0, 0, 0, 0, 0, 0, 0, 0, 0, 0, 0, 1, 0, 0, 0, 0, 0, 0, 0, 0, 0, 0, 86, 4, 0, 0, 0, 0, 0, 0, 0, 0, 0, 0, 0, 0, 0, 0, 1383, 13, 0, 0]) (by decide +kernel)
theorem cw_135 : ai_mok ft_W cy_135 := ft_mok_ok (gs := [125, 743]) (by decide +kernel)
theorem pm_135 : ct_G cm_135 := ct_G0 cw_135 ck_135 rfl
theorem ck_136 : ct_S cy_136 0 ct_136 := ft_tree_ok (gs := [703, 53, 0, 0]) (by decide +kernel)
theorem cw_136 : ai_mok ft_W cy_136 := ft_mok_ok (gs := [125, 630]) (by decide +kernel)
theorem pm_136 : ct_G cm_136 := ct_G0 cw_136 ck_136 rfl
theorem ck_137 : ct_S cy_137 0 ct_137 := ft_tree_ok (gs := [8, 130, 0, 0, 0, 1, 11, 0, 545, 84, 8, 0, 0, 0, 0, 0, 0, 0, 0, 0, 0, 0, 0, 0, 0, 0, 0, 0, 0, 0, 0, 0, 0, 0, 0, 0, 0, 0, 0, 0, 0, 0, 0, 0, 0, 0, 0, 0, 0, 0, 0, 0, 0, 0, 0, 0, 0, 0, 0, 0, 1, 0, 0, 0, 0, 0, 0, 0, 0, 0, 0, 41, 0, 0, 42, 4, 0, 0, 0, 0, 0, 0, 0, 0, 0, 0, 0, 0, 0, 0, 1383, 13, 0, 0]) (by decide +kernel)
theorem cw_137 : ai_mok ft_W cy_137 := ft_mok_ok (gs := [125, 773]) (by decide +kernel)
theorem pm_137 : ct_G cm_137 := ct_G0 cw_137 ck_137 rfl
theorem ck_138 : ct_S cy_138 1 ct_138 := ft_tree_ok (gs := [8, 130, 0, 0, 0, 1, 11, 0, 545, 84, 8, 0, 0, 0, 0, 0, 0, 0, 0, 0, 0, 0, 0, 0, 0, 0, 0, 0, 0, 0, 0, 0, 0, 0, 0, 0, 0, 0, 0, 0, 0, 0, 0, 0, 0, 0, 0, 0, 0, 0, 0, 0, 0, 0, 0, 0, 0, 0, 0, 0, 1, 0, 0, 0, 0, 0, 0, 0, 0, 0, 0, 41, 0, 0, 42, 4, 0, 0, 0, 0, 0, 0, 0, 0, 0, 0, 0, 0, 0, 0, 1383, 13, 0, 0]) (by decide +kernel)
theorem cw_138 : ai_mok ft_W cy_138 := ft_mok_ok (gs := [125, 793]) (by decide +kernel)
theorem pm_138 : ct_G cm_138 := ct_G0 cw_138 ck_138 rfl
theorem ck_139 : ct_S cy_139 1 ct_139 := ft_tree_ok (gs := [8, 130, 0, 0, 0, 1, 11, 0, 545, 84, 8, 0, 0, 0, 0, 0, 0, 0, 0, 0, 0, 0, 0, 0, 0, 0, 0, 0, 0, 0, 0, 0, 0, 0, 0, 0, 0, 0, 0, 0, 0, 0, 0, 0, 0, 0, 0, 0, 0, 0, 0, 0, 0, 0, 0, 0, 0, 0, 0, 0, 1, 0, 0, 0, 0, 0, 0, 0, 0, 0, 0, 41, 0, 0, 42, 4, 0, 0, 0, 0, 0, 0, 0, 0, 0, 0, 0, 0, 0, 0, 1383, 13, 0, 0]) (by decide +kernel)
theorem cw_139 : ai_mok ft_W cy_139 := ft_mok_ok (gs := [125, 807]) (by decide +kernel)
theorem pm_139 : ct_G cm_139 := ct_G0 cw_139 ck_139 rfl
theorem ck_140 : ct_S cy_140 0 ct_140 := ft_tree_ok (gs := [704, 63, 0, 0]) (by decide +kernel)
theorem cw_140 : ai_mok ft_W cy_140 := ft_mok_ok (gs := [125, 641]) (by decide +kernel)
theorem pm_140 : ct_G cm_140 := ct_G0 cw_140 ck_140 rfl
theorem ck_141 : ct_S cy_141 0 ct_141 := ft_tree_ok (gs := [8, 1, 128, 0, 0, 0, 1, 11, 0, 630, 8, 0, 0, 0, 0, 0, 0, 0, 0, 0, 0, 0, 0, 0, 0, 0, 0, 0, 0, 0, 0, 0, 0, 0, 0, 0, 0, 0, 0, 0, 0, 0, 0, 0, 0, 0, 0, 0, 0, 0, 0, 0, 0, 0, 0, 0, 0, 0, 0, 0, 1, 0, 0, 0, 0, 0, 0, 0, 0, 0, 0, 79, 1, 4, 4, 0, 0, 0, 0, 0, 0, 0, 0, 0, 0, 0, 0, 0, 0, 1383, 13, 0, 0]) (by decide +kernel)
theorem cw_141 : ai_mok ft_W cy_141 := ft_mok_ok (gs := [125, 823]) (by decide +kernel)
theorem pm_141 : ct_G cm_141 := ct_G0 cw_141 ck_141 rfl
theorem ck_142 : ct_S cy_142 0 ct_142 := ft_tree_ok (gs := [397, 306]) (by decide +kernel)
theorem cw_142 : ai_mok ft_W cy_142 := ft_mok_ok (gs := [125, 653]) (by decide +kernel)
theorem pm_142 : ct_G cm_142 := ct_G0 cw_142 ck_142 rfl
theorem ck_143 : ct_S cy_143 0 ct_143 := ft_tree_ok (gs := [8, 1, 128, 0, 0, 0, 1, 11, 0, 630, 8, 0, 0, 0, 0, 0, 0, 0, 0, 0, 0, 0, 0, 0, 0, 0, 0, 0, 0, 0, 0, 0, 0, 0, 0, 0, 0, 0, 0, 0, 0, 0, 0, 0, 0, 0, 0, 0, 0, 0, 0, 0, 0, 0, 0, 0, 0, 0, 0, 0, 1, 0, 0, 0, 0, 0, 0, 0, 0, 0, 0, 79, 1, 4, 4, 0, 0, 0, 0, 0, 0, 0, 0, 0, 0, 0, 0, 0, 0, 1383, 13, 0, 0]) (by decide +kernel)
theorem cw_143 : ai_mok ft_W cy_143 := ft_mok_ok (gs := [125, 997]) (by decide +kernel)
theorem pm_143 : ct_G cm_143 := ct_G0 cw_143 ck_143 rfl
theorem ck_144 : ct_S cy_144 2 ct_144 := ft_tree_ok (gs := [313, 0, 3, 383, 59, 21]) (by decide +kernel)
theorem cw_144 : ai_mok ft_W cy_144 := ft_mok_ok (gs := [125, 657]) (by decide +kernel)
theorem pm_144 : ct_G cm_144 := ct_G0 cw_144 ck_144 rfl
theorem ck_145 : ct_S cy_145 1 ct_145 := ft_tree_ok (gs := [8, 130, 0, 0, 0, 1, 11, 0, 146, 397, 85, 8, 0, 0, 0, 0, 0, 0, 0, 0, 0, 0, 0, 0, 0, 0, 0, 0, 0, 0, 0, 0, 0, 0, 0, 0, 0, 0, 0, 0, 0, 0, 0, 0, 0, 0, 0, 0, 0, 0, 0, 0, 0, 0, 0, 0, 0, 0, 0, 0, 0, 1, 0, 0, 0, 0, 0, 0, 0, 0, 0, 0, 86, 4, 0, 0, 0, 0, 0, 0, 0, 0, 0, 0, 0, 0, 0, 0, 1383, 13, 0, 0]) (by decide +kernel)
theorem cw_145 : ai_mok ft_W cy_145 := ft_mok_ok (gs := [125, 1054]) (by decide +kernel)
theorem pm_145 : ct_G cm_145 := ct_G0 cw_145 ck_145 rfl
theorem ck_146 : ct_S cy_146 3 ct_146 := ft_tree_ok (gs := [8, 130, 0, 0, 0, 1, 11, 0, 150, 129, 263, 2, 5, 0, 75, 8, 0, 0, 0, 0, 0, 0, 0, 0, 0, 0, 0, 0, 0, 0, 0, 0, 0, 0, 0, 0, 0, 0, 0, 0, 0, 0, 0, 0, 0, 0, 0, 0, 0, 0, 0, 0, 0, 0, 0, 0, 0, 0, 0, 0, 0, 0, 0, 0, 0, 1, 0, 0, 0, 0, 0, 0, 0, 0, 0, 0, 86, 4, 0, 0, 0, 0, 0, 0, 0, 0, 0, 0, 0, 0, 0, 0, 159, 0, 1, 0, 0, 72, 0, 0, 3, 0, 0, 1137, 13, 0, 0]) (by decide +kernel)
theorem cw_146 : ai_mok ft_W cy_146 := ft_mok_ok (gs := [125, 1075]) (by decide +kernel)
theorem pm_146 : ct_G cm_146 := ct_G0 cw_146 ck_146 rfl
theorem ck_147 : ct_S cy_147 0 ct_147 := ft_tree_ok (gs := [8, 1, 128, 0, 0, 0, 1, 11, 0, 630, 8, 0, 0, 0, 0, 0, 0, 0, 0, 0, 0, 0, 0, 0, 0, 0, 0, 0, 0, 0, 0, 0, 0, 0, 0, 0, 0, 0, 0, 0, 0, 0, 0, 0, 0, 0, 0, 0, 0, 0, 0, 0, 0, 0, 0, 0, 0, 0, 0, 0, 1, 0, 0, 0, 0, 0, 0, 0, 0, 0, 0, 79, 1, 4, 4, 0, 0, 0, 0, 0, 0, 0, 0, 0, 0, 0, 0, 0, 0, 1383, 13, 0, 0]) (by decide +kernel)
theorem cw_147 : ai_mok ft_W cy_147 := ft_mok_ok (gs := [125, 1142]) (by decide +kernel)
theorem pm_147 : ct_G cm_147 := ct_G0 cw_147 ck_147 rfl
theorem ck_148 : ct_S cy_148 1 ct_148 := ft_tree_ok (gs := [8, 130, 0, 0, 0, 1, 11, 0, 549, 54, 21, 3, 8, 0, 0, 0, 0, 0, 0, 0, 0, 0, 0, 0, 0, 0, 0, 0, 0, 0, 0, 0, 0, 0, 0, 0, 0, 0, 0, 0, 0, 0, 0, 0, 0, 0, 0, 0, 0, 0, 0, 0, 0, 0, 0, 0, 0, 0, 0, 0, 0, 0, 1, 0, 0, 0, 0, 0, 0, 0, 0, 0, 0, 86, 4, 0, 0, 0, 0, 0, 0, 0, 0, 0, 0, 0, 0, 0, 0, 311, 0, 0, 1069, 13, 0, 0]) (by decide +kernel)
theorem cw_148 : ai_mok ft_W cy_148 := ft_mok_ok (gs := [125, 1149]) (by decide +kernel)
theorem pm_148 : ct_G cm_148 := ct_G0 cw_148 ck_148 rfl
theorem ck_149 : ct_S cy_149 2 ct_149 := ft_tree_ok (gs := [8, 1, 128, 0, 0, 0, 1, 11, 0, 326, 221, 81, 8, 0, 0, 0, 0, 0, 0, 0, 0, 0, 0, 0, 0, 0, 0, 0, 0, 0, 0, 0, 0, 0, 0, 0, 0, 0, 0, 0, 0, 0, 0, 0, 0, 0, 0, 0, 0, 0, 0, 0, 0, 0, 0, 0, 0, 0, 0, 0, 0, 0, 1, 0, 0, 0, 0, 0, 0, 0, 0, 0, 0, 79, 1, 4, 4, 0, 0, 0, 0, 0, 0, 0, 0, 0, 0, 0, 0, 0, 0, 159, 0, 1222, 13, 0, 0]) (by decide +kernel)
theorem cw_149 : ai_mok ft_W cy_149 := ft_mok_ok (gs := [125, 1240]) (by decide +kernel)
theorem pm_149 : ct_G cm_149 := ct_G0 cw_149 ck_149 rfl
theorem ck_150 : ct_S cy_150 0 ct_150 := ft_tree_ok (gs := [7, 0, 130, 0, 0, 0, 1, 11, 0, 630, 4, 1, 1, 0, 0, 0, 0, 0, 0, 0, 0, 0, 0, 0, 0, 0, 0, 0, 0, 0, 0, 0, 0, 0, 0, 0, 0, 0, 0, 0, 0, 0, 0, 0, 0, 0, 0, 0, 0, 0, 0, 0, 0, 0, 0, 0, 0, 0, 0, 0, 0, 0, 1, 0, 0, 0, 0, 0, 0, 0, 0, 0, 0, 86, 4, 0, 0, 0, 0, 0, 0, 0, 0, 0, 0, 0, 0, 0, 0, 1383, 13, 0, 0]) (by decide +kernel)
theorem cw_150 : ai_mok ft_W cy_150 := ft_mok_ok (gs := [125, 1247]) (by decide +kernel)
theorem pm_150 : ct_G cm_150 := ct_G0 cw_150 ck_150 rfl
theorem ck_151 : ct_S cy_151 2 ct_151 := ft_tree_ok (gs := [8, 1, 128, 0, 0, 0, 1, 11, 0, 331, 216, 81, 8, 0, 0, 0, 0, 0, 0, 0, 0, 0, 0, 0, 0, 0, 0, 0, 0, 0, 0, 0, 0, 0, 0, 0, 0, 0, 0, 0, 0, 0, 0, 0, 0, 0, 0, 0, 0, 0, 0, 0, 0, 0, 0, 0, 0, 0, 0, 0, 0, 0, 1, 0, 0, 0, 0, 0, 0, 0, 0, 0, 0, 79, 1, 4, 4, 0, 0, 0, 0, 0, 0, 0, 0, 0, 0, 0, 0, 0, 0, 1383, 13, 0, 0]) (by decide +kernel)
theorem cw_151 : ai_mok ft_W cy_151 := ft_mok_ok (gs := [125, 1255]) (by decide +kernel)
theorem pm_151 : ct_G cm_151 := ct_G0 cw_151 ck_151 rfl
theorem ck_152 : ct_S cy_152 1 ct_152 := ft_tree_ok (gs := [8, 130, 0, 0, 0, 1, 11, 0, 550, 79, 8, 0, 0, 0, 0, 0, 0, 0, 0, 0, 0, 0, 0, 0, 0, 0, 0, 0, 0, 0, 0, 0, 0, 0, 0, 0, 0, 0, 0, 0, 0, 0, 0, 0, 0, 0, 0, 0, 0, 0, 0, 0, 0, 0, 0, 0, 0, 0, 0, 0, 1, 0, 0, 0, 0, 0, 0, 0, 0, 0, 0, 86, 4, 0, 0, 0, 0, 0, 0, 0, 0, 0, 0, 0, 0, 0, 0, 159, 0, 263, 0, 0, 956, 13, 0, 0]) (by decide +kernel)
theorem cw_152 : ai_mok ft_W cy_152 := ft_mok_ok (gs := [125, 1262]) (by decide +kernel)
theorem pm_152 : ct_G cm_152 := ct_G0 cw_152 ck_152 rfl
theorem ck_153 : ct_S cy_153 1 ct_153 := ft_tree_ok (gs := [8, 130, 0, 0, 0, 1, 11, 0, 432, 117, 53, 21, 3, 8, 0, 0, 0, 0, 0, 0, 0, 0, 0, 0, 0, 0, 0, 0, 0, 0, 0, 0, 0, 0, 0, 0, 0, 0, 0, 0, 0, 0, 0, 0, 0, 0, 0, 0, 0, 0, 0, 0, 0, 0, 0, 0, 0, 0, 0, 0, 0, 0, 0, 1, 0, 0, 0, 0, 0, 0, 0, 0, 0, 0, 11, 0, 73, 4, 0, 0, 0, 0, 0, 0, 0, 0, 0, 0, 0, 0, 0, 0, 1383, 13, 0, 0]) (by decide +kernel)
theorem cw_153 : ai_mok ft_W cy_153 := ft_mok_ok (gs := [125, 1308]) (by decide +kernel)
theorem pm_153 : ct_G cm_153 := ct_G0 cw_153 ck_153 rfl
theorem ck_154 : ct_S cy_154 3 ct_154 := ft_tree_ok (gs := [8, 130, 0, 0, 0, 1, 11, 0, 544, 2, 82, 8, 0, 0, 0, 0, 0, 0, 0, 0, 0, 0, 0, 0, 0, 0, 0, 0, 0, 0, 0, 0, 0, 0, 0, 0, 0, 0, 0, 0, 0, 0, 0, 0, 0, 0, 0, 0, 0, 0, 0, 0, 0, 0, 0, 0, 0, 0, 0, 0, 0, 1, 0, 0, 0, 0, 0, 0, 0, 0, 0, 0, 11, 0, 73, 4, 0, 0, 0, 0, 0, 0, 0, 0, 0, 0, 0, 0, 0, 0, 159, 0, 1, 0, 0, 72, 0, 0, 3, 0, 0, 1137, 13, 0, 0]) (by decide +kernel)
theorem cw_154 : ai_mok ft_W cy_154 := ft_mok_ok (gs := [125, 1317]) (by decide +kernel)
theorem pm_154 : ct_G cm_154 := ct_G0 cw_154 ck_154 rfl
theorem ck_155 : ct_S cy_155 1 ct_155 := ft_tree_ok (gs := [8, 130, 0, 0, 0, 1, 11, 0, 551, 78, 8, 0, 0, 0, 0, 0, 0, 0, 0, 0, 0, 0, 0, 0, 0, 0, 0, 0, 0, 0, 0, 0, 0, 0, 0, 0, 0, 0, 0, 0, 0, 0, 0, 0, 0, 0, 0, 0, 0, 0, 0, 0, 0, 0, 0, 0, 0, 0, 0, 0, 1, 0, 0, 0, 0, 0, 0, 0, 0, 0, 0, 86, 4, 0, 0, 0, 0, 0, 0, 0, 0, 0, 0, 0, 0, 0, 0, 159, 0, 325, 0, 0, 894, 13, 0, 0]) (by decide +kernel)
theorem cw_155 : ai_mok ft_W cy_155 := ft_mok_ok (gs := [125, 1324]) (by decide +kernel)
theorem pm_155 : ct_G cm_155 := ct_G0 cw_155 ck_155 rfl
theorem ck_156 : ct_S cy_156 0 ct_156 := ft_tree_ok (gs := [8, 1, 128, 0, 0, 0, 1, 11, 0, 630, 8, 0, 0, 0, 0, 0, 0, 0, 0, 0, 0, 0, 0, 0, 0, 0, 0, 0, 0, 0, 0, 0, 0, 0, 0, 0, 0, 0, 0, 0, 0, 0, 0, 0, 0, 0, 0, 0, 0, 0, 0, 0, 0, 0, 0, 0, 0, 0, 0, 0, 1, 0, 0, 0, 0, 0, 0, 0, 0, 0, 0, 79, 1, 4, 4, 0, 0, 0, 0, 0, 0, 0, 0, 0, 0, 0, 0, 0, 0, 1383, 13, 0, 0]) (by decide +kernel)
theorem cw_156 : ai_mok ft_W cy_156 := ft_mok_ok (gs := [125, 1347]) (by decide +kernel)
theorem pm_156 : ct_G cm_156 := ct_G0 cw_156 ck_156 rfl
theorem ck_157 : ct_S cy_157 0 ct_157 := ft_tree_ok (gs := [624, 84]) (by decide +kernel)
theorem cw_157 : ai_mok ft_W cy_157 := ft_mok_ok (gs := [125, 1358]) (by decide +kernel)
theorem pm_157 : ct_G cm_157 := ct_G0 cw_157 ck_157 rfl
theorem ck_158 : ct_S cy_158 1 ct_158 := ft_tree_ok (gs := [8, 130, 0, 0, 0, 1, 11, 0, 466, 84, 78, 8, 0, 0, 0, 0, 0, 0, 0, 0, 0, 0, 0, 0, 0, 0, 0, 0, 0, 0, 0, 0, 0, 0, 0, 0, 0, 0, 0, 0, 0, 0, 0, 0, 0, 0, 0, 0, 0, 0, 0, 0, 0, 0, 0, 0, 0, 0, 0, 0, 0, 1, 0, 0, 0, 0, 0, 0, 0, 0, 0, 0, 86, 4, 0, 0, 0, 0, 0, 0, 0, 0, 0, 0, 0, 0, 0, 0, 1383, 13, 0, 0]) (by decide +kernel)
theorem cw_158 : ai_mok ft_W cy_158 := ft_mok_ok (gs := [125, 1393]) (by decide +kernel)
theorem pm_158 : ct_G cm_158 := ct_G0 cw_158 ck_158 rfl
theorem ck_159 : ct_S cy_159 0 ct_159 := ft_tree_ok (gs := [8, 1, 128, 0, 0, 0, 1, 11, 0, 630, 8, 0, 0, 0, 0, 0, 0, 0, 0, 0, 0, 0, 0, 0, 0, 0, 0, 0, 0, 0, 0, 0, 0, 0, 0, 0, 0, 0, 0, 0, 0, 0, 0, 0, 0, 0, 0, 0, 0, 0, 0, 0, 0, 0, 0, 0, 0, 0, 0, 0, 1, 0, 0, 0, 0, 0, 0, 0, 0, 0, 0, 79, 1, 4, 4, 0, 0, 0, 0, 0, 0, 0, 0, 0, 0, 0, 0, 0, 0, 1383, 13, 0, 0]) (by decide +kernel)
theorem cw_159 : ai_mok ft_W cy_159 := ft_mok_ok (gs := [125, 1401]) (by decide +kernel)
theorem pm_159 : ct_G cm_159 := ct_G0 cw_159 ck_159 rfl
theorem ck_160 : ct_S cy_160 1 ct_160 := ft_tree_ok (gs := [8, 130, 0, 0, 0, 1, 11, 0, 552, 77, 8, 0, 0, 0, 0, 0, 0, 0, 0, 0, 0, 0, 0, 0, 0, 0, 0, 0, 0, 0, 0, 0, 0, 0, 0, 0, 0, 0, 0, 0, 0, 0, 0, 0, 0, 0, 0, 0, 0, 0, 0, 0, 0, 0, 0, 0, 0, 0, 0, 0, 1, 0, 0, 0, 0, 0, 0, 0, 0, 0, 0, 86, 4, 0, 0, 0, 0, 0, 0, 0, 0, 0, 0, 0, 0, 0, 0, 159, 0, 409, 0, 0, 810, 13, 0, 0]) (by decide +kernel)
theorem cw_160 : ai_mok ft_W cy_160 := ft_mok_ok (gs := [125, 1408]) (by decide +kernel)
theorem pm_160 : ct_G cm_160 := ct_G0 cw_160 ck_160 rfl
theorem ck_161 : ct_S cy_161 0 ct_161 := ft_tree_ok (gs := [8, 130, 0, 0, 0, 1, 11, 0, 520, 31, 77, 8, 0, 0, 0, 0, 0, 0, 0, 0, 0, 0, 0, 0, 0, 0, 0, 0, 0, 0, 0, 0, 0, 0, 0, 0, 0, 0, 0, 0, 0, 0, 0, 0, 0, 0, 0, 0, 0, 0, 0, 0, 0, 0, 0, 0, 0, 0, 0, 0, 0, 1, 0, 0, 0, 0, 0, 0, 0, 0, 0, 0, 86, 4, 0, 0, 0, 0, 0, 0, 0, 0, 0, 0, 0, 0, 0, 0, 1383, 13, 0, 0]) (by decide +kernel)
theorem cw_161 : ai_mok ft_W cy_161 := ft_mok_ok (gs := [125, 1459]) (by decide +kernel)
theorem pm_161 : ct_G cm_161 := ct_G0 cw_161 ck_161 rfl
theorem ck_162 : ct_S cy_162 2 ct_162 := ft_tree_ok (gs := [8, 130, 0, 0, 0, 1, 11, 0, 557, 72, 8, 0, 0, 0, 0, 0, 0, 0, 0, 0, 0, 0, 0, 0, 0, 0, 0, 0, 0, 0, 0, 0, 0, 0, 0, 0, 0, 0, 0, 0, 0, 0, 0, 0, 0, 0, 0, 0, 0, 0, 0, 0, 0, 0, 0, 0, 0, 0, 0, 0, 1, 0, 0, 0, 0, 0, 0, 0, 0, 0, 0, 86, 4, 0, 0, 0, 0, 0, 0, 0, 0, 0, 0, 0, 0, 0, 0, 1383, 13, 0, 0]) (by decide +kernel)
theorem cw_162 : ai_mok ft_W cy_162 := ft_mok_ok (gs := [125, 1466]) (by decide +kernel)
theorem pm_162 : ct_G cm_162 := ct_G0 cw_162 ck_162 rfl
theorem ck_163 : ct_S cy_163 0 ct_163 := ft_tree_ok (gs := [7, 0, 130, 0, 0, 0, 1, 11, 0, 630, 4, 1, 1, 0, 0, 0, 0, 0, 0, 0, 0, 0, 0, 0, 0, 0, 0, 0, 0, 0, 0, 0, 0, 0, 0, 0, 0, 0, 0, 0, 0, 0, 0, 0, 0, 0, 0, 0, 0, 0, 0, 0, 0, 0, 0, 0, 0, 0, 0, 0, 0, 0, 1, 0, 0, 0, 0, 0, 0, 0, 0, 0, 0, 86, 4, 0, 0, 0, 0, 0, 0, 0, 0, 0, 0, 0, 0, 0, 0, 1383, 13, 0, 0]) (by decide +kernel)
theorem cw_163 : ai_mok ft_W cy_163 := ft_mok_ok (gs := [125, 1473]) (by decide +kernel)
theorem pm_163 : ct_G cm_163 := ct_G0 cw_163 ck_163 rfl
theorem ck_164 : ct_S cy_164 0 ct_164 := ft_tree_ok (gs := [7, 0, 130, 0, 0, 0, 1, 11, 0, 630, 4, 1, 1, 0, 0, 0, 0, 0, 0, 0, 0, 0, 0, 0, 0, 0, 0, 0, 0, 0, 0, 0, 0, 0, 0, 0, 0, 0, 0, 0, 0, 0, 0, 0, 0, 0, 0, 0, 0, 0, 0, 0, 0, 0, 0, 0, 0, 0, 0, 0, 0, 0, 1, 0, 0, 0, 0, 0, 0, 0, 0, 0, 0, 86, 4, 0, 0, 0, 0, 0, 0, 0, 0, 0, 0, 0, 0, 0, 0, 1383, 13, 0, 0]) (by decide +kernel)
theorem cw_164 : ai_mok ft_W cy_164 := ft_mok_ok (gs := [125, 1480]) (by decide +kernel)
theorem pm_164 : ct_G cm_164 := ct_G0 cw_164 ck_164 rfl
theorem ck_166 : ct_S cy_166 3 ct_166 := ft_tree_ok (gs := [8, 130, 0, 0, 0, 1, 11, 0, 141, 4, 3, 62, 23, 88, 217, 0, 0, 1, 7, 0, 72, 8, 0, 0, 0, 0, 0, 0, 0, 0, 0, 0, 0, 0, 0, 0, 0, 0, 0, 0, 0, 0, 0, 0, 0, 0, 0, 0, 0, 0, 0, 0, 0, 0, 0, 0, 0, 0, 0, 0, 0, 0, 0, 0, 0, 0, 0, 0, 0, 0, 0, 1, 0, 0, 0, 0, 0, 0, 0, 0, 0, 0, 86, 4, 0, 0, 0, 0, 0, 0, 0, 0, 0, 0, 0, 0, 0, 0, 1383, 13, 0, 0]) (by decide +kernel)
theorem cw_166 : ai_mok ft_W cy_166 := ft_mok_ok (gs := [125, 1492]) (by decide +kernel)
theorem pm_166 : ct_G cm_166 := ct_G0 cw_166 ck_166 rfl
theorem ck_167 : ct_S cy_167 6 ct_167 := ft_tree_ok (gs := [156, 0, 37, 420, 1007, 0, 6, 5, 0, 0, 0, 0, 0, 0, 0, 0, 0, 0, 0, 0, 0, 0, 0, 0, 0, 0, 0, 10, 1, 0, 0, 0, 0, 0, 0, 0, 2, 0, 0, 0, 0, 0, 0, 0, 0, 0, 0, 2, 2, 0, 0, 0, 0, 4, 0, 0, 0, 0, 0, 0, 0, 0, 0, 1, 0, 0, 7, 0, 0, 0, 0, 2, 0, 0, 0, 0, 2, 0, 0, 0, 227]) (by decide +kernel)
end
