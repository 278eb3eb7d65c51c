section
-- ===== PART A: goes FIRST, ahead of the names: the tables' words, and 'selects' of the private methods out of them =====
/-- a private method of a class that the tables say can be made, by its rows of tables_1 -/
def lw_okq (q : MethodName × Nat) : Prop := (q.1.cls ≠ "java/lang/invoke/MethodHandle" ∧ q.1.cls ≠ "java/lang/invoke/VarHandle") ∧ Cond.instantiable q.1.cls q.2 ∈ tables_1 ∧ Cond.privateMethod q.1 ∈ tables_1 ∧ Cond.instanceMethod q.1 ∈ tables_1
theorem lw_p0 : lw_okq (⟨"PriceBench$Net", "changed", "(I)V"⟩, 11) := ⟨⟨by decide +kernel, by decide +kernel⟩, List.mem_of_getElem? (i := 27) (by decide +kernel), List.mem_of_getElem? (i := 207) (by decide +kernel), List.mem_of_getElem? (i := 208) (by decide +kernel)⟩
theorem lw_p1 : lw_okq (⟨"PriceBench", "someOfferNeeds", "(I)Z"⟩, 8) := ⟨⟨by decide +kernel, by decide +kernel⟩, List.mem_of_getElem? (i := 19) (by decide +kernel), List.mem_of_getElem? (i := 251) (by decide +kernel), List.mem_of_getElem? (i := 252) (by decide +kernel)⟩
theorem lw_p2 : lw_okq (⟨"PriceBench", "addOffer", "(LPriceBench$Offer;)I"⟩, 8) := ⟨⟨by decide +kernel, by decide +kernel⟩, List.mem_of_getElem? (i := 19) (by decide +kernel), List.mem_of_getElem? (i := 364) (by decide +kernel), List.mem_of_getElem? (i := 365) (by decide +kernel)⟩
theorem lw_p3 : lw_okq (⟨"PriceBench", "offerAt", "(I)LPriceBench$Offer;"⟩, 8) := ⟨⟨by decide +kernel, by decide +kernel⟩, List.mem_of_getElem? (i := 19) (by decide +kernel), List.mem_of_getElem? (i := 372) (by decide +kernel), List.mem_of_getElem? (i := 373) (by decide +kernel)⟩
theorem lw_p4 : lw_okq (⟨"PriceBench$Choices", "widen", "()V"⟩, 4) := ⟨⟨by decide +kernel, by decide +kernel⟩, List.mem_of_getElem? (i := 296) (by decide +kernel), List.mem_of_getElem? (i := 405) (by decide +kernel), List.mem_of_getElem? (i := 406) (by decide +kernel)⟩
theorem lw_p5 : lw_okq (⟨"PriceBench$Choices", "leadsAmongLike", "(III)Z"⟩, 4) := ⟨⟨by decide +kernel, by decide +kernel⟩, List.mem_of_getElem? (i := 296) (by decide +kernel), List.mem_of_getElem? (i := 641) (by decide +kernel), List.mem_of_getElem? (i := 642) (by decide +kernel)⟩
theorem lw_p6 : lw_okq (⟨"PriceBench", "offerWithChoices", "(I)LPriceBench$Offer;"⟩, 8) := ⟨⟨by decide +kernel, by decide +kernel⟩, List.mem_of_getElem? (i := 19) (by decide +kernel), List.mem_of_getElem? (i := 649) (by decide +kernel), List.mem_of_getElem? (i := 650) (by decide +kernel)⟩
theorem lw_p7 : lw_okq (⟨"PriceBench", "findTop", "(LPriceBench$Offer;)V"⟩, 8) := ⟨⟨by decide +kernel, by decide +kernel⟩, List.mem_of_getElem? (i := 19) (by decide +kernel), List.mem_of_getElem? (i := 690) (by decide +kernel), List.mem_of_getElem? (i := 691) (by decide +kernel)⟩
theorem lw_p8 : lw_okq (⟨"PriceBench$Choices", "meetsSooner", "(III)Z"⟩, 4) := ⟨⟨by decide +kernel, by decide +kernel⟩, List.mem_of_getElem? (i := 296) (by decide +kernel), List.mem_of_getElem? (i := 715) (by decide +kernel), List.mem_of_getElem? (i := 716) (by decide +kernel)⟩
theorem lw_p9 : lw_okq (⟨"PriceBench$Rows", "makeRoomFor", "(I)V"⟩, 2) := ⟨⟨by decide +kernel, by decide +kernel⟩, List.mem_of_getElem? (i := 125) (by decide +kernel), List.mem_of_getElem? (i := 724) (by decide +kernel), List.mem_of_getElem? (i := 725) (by decide +kernel)⟩
theorem lw_p10 : lw_okq (⟨"PriceBench", "isCalmer", "(LPriceBench$Choices;II)Z"⟩, 8) := ⟨⟨by decide +kernel, by decide +kernel⟩, List.mem_of_getElem? (i := 19) (by decide +kernel), List.mem_of_getElem? (i := 759) (by decide +kernel), List.mem_of_getElem? (i := 760) (by decide +kernel)⟩
theorem lw_p11 : lw_okq (⟨"PriceBench$Net", "isBetween", "(III)Z"⟩, 11) := ⟨⟨by decide +kernel, by decide +kernel⟩, List.mem_of_getElem? (i := 27) (by decide +kernel), List.mem_of_getElem? (i := 771) (by decide +kernel), List.mem_of_getElem? (i := 772) (by decide +kernel)⟩
theorem lw_p12 : lw_okq (⟨"PriceBench", "howWrong", "(LPriceBench$Choices;I)I"⟩, 8) := ⟨⟨by decide +kernel, by decide +kernel⟩, List.mem_of_getElem? (i := 19) (by decide +kernel), List.mem_of_getElem? (i := 820) (by decide +kernel), List.mem_of_getElem? (i := 821) (by decide +kernel)⟩
theorem lw_p13 : lw_okq (⟨"PriceBench$Acts", "note", "(I)V"⟩, 2) := ⟨⟨by decide +kernel, by decide +kernel⟩, List.mem_of_getElem? (i := 139) (by decide +kernel), List.mem_of_getElem? (i := 853) (by decide +kernel), List.mem_of_getElem? (i := 854) (by decide +kernel)⟩
theorem lw_p14 : lw_okq (⟨"PriceBench", "sheetAt", "(I)LPriceBench$Sheet;"⟩, 8) := ⟨⟨by decide +kernel, by decide +kernel⟩, List.mem_of_getElem? (i := 19) (by decide +kernel), List.mem_of_getElem? (i := 869) (by decide +kernel), List.mem_of_getElem? (i := 870) (by decide +kernel)⟩
theorem lw_p15 : lw_okq (⟨"PriceBenchModel", "things", "()I"⟩, 36) := ⟨⟨by decide +kernel, by decide +kernel⟩, List.mem_of_getElem? (i := 898) (by decide +kernel), List.mem_of_getElem? (i := 1017) (by decide +kernel), List.mem_of_getElem? (i := 1018) (by decide +kernel)⟩
def lw_privs_1 : List (MethodName × Nat) := [(⟨"PriceBench$Net", "changed", "(I)V"⟩, 11), (⟨"PriceBench", "someOfferNeeds", "(I)Z"⟩, 8), (⟨"PriceBench", "addOffer", "(LPriceBench$Offer;)I"⟩, 8), (⟨"PriceBench", "offerAt", "(I)LPriceBench$Offer;"⟩, 8), (⟨"PriceBench$Choices", "widen", "()V"⟩, 4), (⟨"PriceBench$Choices", "leadsAmongLike", "(III)Z"⟩, 4), (⟨"PriceBench", "offerWithChoices", "(I)LPriceBench$Offer;"⟩, 8), (⟨"PriceBench", "findTop", "(LPriceBench$Offer;)V"⟩, 8), (⟨"PriceBench$Choices", "meetsSooner", "(III)Z"⟩, 4), (⟨"PriceBench$Rows", "makeRoomFor", "(I)V"⟩, 2), (⟨"PriceBench", "isCalmer", "(LPriceBench$Choices;II)Z"⟩, 8), (⟨"PriceBench$Net", "isBetween", "(III)Z"⟩, 11), (⟨"PriceBench", "howWrong", "(LPriceBench$Choices;I)I"⟩, 8), (⟨"PriceBench$Acts", "note", "(I)V"⟩, 2), (⟨"PriceBench", "sheetAt", "(I)LPriceBench$Sheet;"⟩, 8), (⟨"PriceBenchModel", "things", "()I"⟩, 36)]
theorem lw_r1 : ∀ q ∈ lw_privs_1, lw_okq q := List.forall_mem_cons.mpr ⟨lw_p0, List.forall_mem_cons.mpr ⟨lw_p1, List.forall_mem_cons.mpr ⟨lw_p2, List.forall_mem_cons.mpr ⟨lw_p3, List.forall_mem_cons.mpr ⟨lw_p4, List.forall_mem_cons.mpr ⟨lw_p5, List.forall_mem_cons.mpr ⟨lw_p6, List.forall_mem_cons.mpr ⟨lw_p7, List.forall_mem_cons.mpr ⟨lw_p8, List.forall_mem_cons.mpr ⟨lw_p9, List.forall_mem_cons.mpr ⟨lw_p10, List.forall_mem_cons.mpr ⟨lw_p11, List.forall_mem_cons.mpr ⟨lw_p12, List.forall_mem_cons.mpr ⟨lw_p13, List.forall_mem_cons.mpr ⟨lw_p14, List.forall_mem_cons.mpr ⟨lw_p15, fun _ h => absurd h List.not_mem_nil⟩⟩⟩⟩⟩⟩⟩⟩⟩⟩⟩⟩⟩⟩⟩⟩
theorem lw_p16 : lw_okq (⟨"PriceBenchModel", "keeps", "()V"⟩, 36) := ⟨⟨by decide +kernel, by decide +kernel⟩, List.mem_of_getElem? (i := 898) (by decide +kernel), List.mem_of_getElem? (i := 1021) (by decide +kernel), List.mem_of_getElem? (i := 1022) (by decide +kernel)⟩
theorem lw_p17 : lw_okq (⟨"PriceBenchModel", "isThing", "(I)Z"⟩, 36) := ⟨⟨by decide +kernel, by decide +kernel⟩, List.mem_of_getElem? (i := 898) (by decide +kernel), List.mem_of_getElem? (i := 1029) (by decide +kernel), List.mem_of_getElem? (i := 1030) (by decide +kernel)⟩
theorem lw_p18 : lw_okq (⟨"PriceBenchModel", "lines", "()I"⟩, 36) := ⟨⟨by decide +kernel, by decide +kernel⟩, List.mem_of_getElem? (i := 898) (by decide +kernel), List.mem_of_getElem? (i := 1039) (by decide +kernel), List.mem_of_getElem? (i := 1040) (by decide +kernel)⟩
theorem lw_p19 : lw_okq (⟨"PriceBenchModel", "made", "(III)I"⟩, 36) := ⟨⟨by decide +kernel, by decide +kernel⟩, List.mem_of_getElem? (i := 898) (by decide +kernel), List.mem_of_getElem? (i := 1063) (by decide +kernel), List.mem_of_getElem? (i := 1064) (by decide +kernel)⟩
theorem lw_p20 : lw_okq (⟨"PriceBenchModel", "isOffer", "(I)Z"⟩, 36) := ⟨⟨by decide +kernel, by decide +kernel⟩, List.mem_of_getElem? (i := 898) (by decide +kernel), List.mem_of_getElem? (i := 1071) (by decide +kernel), List.mem_of_getElem? (i := 1072) (by decide +kernel)⟩
theorem lw_p21 : lw_okq (⟨"PriceBenchModel", "gathers", "(I)V"⟩, 36) := ⟨⟨by decide +kernel, by decide +kernel⟩, List.mem_of_getElem? (i := 898) (by decide +kernel), List.mem_of_getElem? (i := 1091) (by decide +kernel), List.mem_of_getElem? (i := 1092) (by decide +kernel)⟩
theorem lw_p22 : lw_okq (⟨"PriceBenchModel", "isChoice", "(II)Z"⟩, 36) := ⟨⟨by decide +kernel, by decide +kernel⟩, List.mem_of_getElem? (i := 898) (by decide +kernel), List.mem_of_getElem? (i := 1098) (by decide +kernel), List.mem_of_getElem? (i := 1099) (by decide +kernel)⟩
theorem lw_p23 : lw_okq (⟨"PriceBenchModel", "allLines", "()I"⟩, 36) := ⟨⟨by decide +kernel, by decide +kernel⟩, List.mem_of_getElem? (i := 898) (by decide +kernel), List.mem_of_getElem? (i := 1102) (by decide +kernel), List.mem_of_getElem? (i := 1103) (by decide +kernel)⟩
theorem lw_p24 : lw_okq (⟨"PriceBenchModel", "isTree", "(I)Z"⟩, 36) := ⟨⟨by decide +kernel, by decide +kernel⟩, List.mem_of_getElem? (i := 898) (by decide +kernel), List.mem_of_getElem? (i := 1106) (by decide +kernel), List.mem_of_getElem? (i := 1107) (by decide +kernel)⟩
theorem lw_p25 : lw_okq (⟨"PriceBenchModel", "reached", "(IIZ)I"⟩, 36) := ⟨⟨by decide +kernel, by decide +kernel⟩, List.mem_of_getElem? (i := 898) (by decide +kernel), List.mem_of_getElem? (i := 1113) (by decide +kernel), List.mem_of_getElem? (i := 1114) (by decide +kernel)⟩
theorem lw_p26 : lw_okq (⟨"PriceBenchModel", "from", "(I)I"⟩, 36) := ⟨⟨by decide +kernel, by decide +kernel⟩, List.mem_of_getElem? (i := 898) (by decide +kernel), List.mem_of_getElem? (i := 1117) (by decide +kernel), List.mem_of_getElem? (i := 1118) (by decide +kernel)⟩
theorem lw_p27 : lw_okq (⟨"PriceBenchModel", "to", "(I)I"⟩, 36) := ⟨⟨by decide +kernel, by decide +kernel⟩, List.mem_of_getElem? (i := 898) (by decide +kernel), List.mem_of_getElem? (i := 1121) (by decide +kernel), List.mem_of_getElem? (i := 1122) (by decide +kernel)⟩
theorem lw_p28 : lw_okq (⟨"PriceBenchModel", "allThings", "()I"⟩, 36) := ⟨⟨by decide +kernel, by decide +kernel⟩, List.mem_of_getElem? (i := 898) (by decide +kernel), List.mem_of_getElem? (i := 1125) (by decide +kernel), List.mem_of_getElem? (i := 1126) (by decide +kernel)⟩
theorem lw_p29 : lw_okq (⟨"PriceBenchModel", "isWay", "(III)Z"⟩, 36) := ⟨⟨by decide +kernel, by decide +kernel⟩, List.mem_of_getElem? (i := 898) (by decide +kernel), List.mem_of_getElem? (i := 1129) (by decide +kernel), List.mem_of_getElem? (i := 1130) (by decide +kernel)⟩
theorem lw_p30 : lw_okq (⟨"PriceBenchModel", "isPairing", "(II)Z"⟩, 36) := ⟨⟨by decide +kernel, by decide +kernel⟩, List.mem_of_getElem? (i := 898) (by decide +kernel), List.mem_of_getElem? (i := 1133) (by decide +kernel), List.mem_of_getElem? (i := 1134) (by decide +kernel)⟩
theorem lw_p31 : lw_okq (⟨"PriceBenchModel", "isTold", "(II)Z"⟩, 36) := ⟨⟨by decide +kernel, by decide +kernel⟩, List.mem_of_getElem? (i := 898) (by decide +kernel), List.mem_of_getElem? (i := 1137) (by decide +kernel), List.mem_of_getElem? (i := 1138) (by decide +kernel)⟩
def lw_privs_2 : List (MethodName × Nat) := [(⟨"PriceBenchModel", "keeps", "()V"⟩, 36), (⟨"PriceBenchModel", "isThing", "(I)Z"⟩, 36), (⟨"PriceBenchModel", "lines", "()I"⟩, 36), (⟨"PriceBenchModel", "made", "(III)I"⟩, 36), (⟨"PriceBenchModel", "isOffer", "(I)Z"⟩, 36), (⟨"PriceBenchModel", "gathers", "(I)V"⟩, 36), (⟨"PriceBenchModel", "isChoice", "(II)Z"⟩, 36), (⟨"PriceBenchModel", "allLines", "()I"⟩, 36), (⟨"PriceBenchModel", "isTree", "(I)Z"⟩, 36), (⟨"PriceBenchModel", "reached", "(IIZ)I"⟩, 36), (⟨"PriceBenchModel", "from", "(I)I"⟩, 36), (⟨"PriceBenchModel", "to", "(I)I"⟩, 36), (⟨"PriceBenchModel", "allThings", "()I"⟩, 36), (⟨"PriceBenchModel", "isWay", "(III)Z"⟩, 36), (⟨"PriceBenchModel", "isPairing", "(II)Z"⟩, 36), (⟨"PriceBenchModel", "isTold", "(II)Z"⟩, 36)]
theorem lw_r2 : ∀ q ∈ lw_privs_2, lw_okq q := List.forall_mem_cons.mpr ⟨lw_p16, List.forall_mem_cons.mpr ⟨lw_p17, List.forall_mem_cons.mpr ⟨lw_p18, List.forall_mem_cons.mpr ⟨lw_p19, List.forall_mem_cons.mpr ⟨lw_p20, List.forall_mem_cons.mpr ⟨lw_p21, List.forall_mem_cons.mpr ⟨lw_p22, List.forall_mem_cons.mpr ⟨lw_p23, List.forall_mem_cons.mpr ⟨lw_p24, List.forall_mem_cons.mpr ⟨lw_p25, List.forall_mem_cons.mpr ⟨lw_p26, List.forall_mem_cons.mpr ⟨lw_p27, List.forall_mem_cons.mpr ⟨lw_p28, List.forall_mem_cons.mpr ⟨lw_p29, List.forall_mem_cons.mpr ⟨lw_p30, List.forall_mem_cons.mpr ⟨lw_p31, fun _ h => absurd h List.not_mem_nil⟩⟩⟩⟩⟩⟩⟩⟩⟩⟩⟩⟩⟩⟩⟩⟩
theorem lw_p32 : lw_okq (⟨"PriceBenchModel", "startOf", "(I)I"⟩, 36) := ⟨⟨by decide +kernel, by decide +kernel⟩, List.mem_of_getElem? (i := 898) (by decide +kernel), List.mem_of_getElem? (i := 1141) (by decide +kernel), List.mem_of_getElem? (i := 1142) (by decide +kernel)⟩
theorem lw_p33 : lw_okq (⟨"PriceBenchModel", "riseOf", "(I)I"⟩, 36) := ⟨⟨by decide +kernel, by decide +kernel⟩, List.mem_of_getElem? (i := 898) (by decide +kernel), List.mem_of_getElem? (i := 1145) (by decide +kernel), List.mem_of_getElem? (i := 1146) (by decide +kernel)⟩
theorem lw_p34 : lw_okq (⟨"PriceBenchModel", "barsOf", "(I)I"⟩, 36) := ⟨⟨by decide +kernel, by decide +kernel⟩, List.mem_of_getElem? (i := 898) (by decide +kernel), List.mem_of_getElem? (i := 1149) (by decide +kernel), List.mem_of_getElem? (i := 1150) (by decide +kernel)⟩
theorem lw_p35 : lw_okq (⟨"PriceBenchModel", "beside", "(I)I"⟩, 36) := ⟨⟨by decide +kernel, by decide +kernel⟩, List.mem_of_getElem? (i := 898) (by decide +kernel), List.mem_of_getElem? (i := 1153) (by decide +kernel), List.mem_of_getElem? (i := 1154) (by decide +kernel)⟩
theorem lw_p36 : lw_okq (⟨"PriceBenchModel", "bestAt", "(JJI)I"⟩, 36) := ⟨⟨by decide +kernel, by decide +kernel⟩, List.mem_of_getElem? (i := 898) (by decide +kernel), List.mem_of_getElem? (i := 1179) (by decide +kernel), List.mem_of_getElem? (i := 1180) (by decide +kernel)⟩
theorem lw_p37 : lw_okq (⟨"PriceBenchModel", "leastAt", "(JJ)J"⟩, 36) := ⟨⟨by decide +kernel, by decide +kernel⟩, List.mem_of_getElem? (i := 898) (by decide +kernel), List.mem_of_getElem? (i := 1183) (by decide +kernel), List.mem_of_getElem? (i := 1184) (by decide +kernel)⟩
theorem lw_p38 : lw_okq (⟨"PriceBenchModel", "costAt", "(IJJ)J"⟩, 36) := ⟨⟨by decide +kernel, by decide +kernel⟩, List.mem_of_getElem? (i := 898) (by decide +kernel), List.mem_of_getElem? (i := 1187) (by decide +kernel), List.mem_of_getElem? (i := 1188) (by decide +kernel)⟩
theorem lw_p39 : lw_okq (⟨"PriceBenchModel", "prepares", "(I)Z"⟩, 36) := ⟨⟨by decide +kernel, by decide +kernel⟩, List.mem_of_getElem? (i := 898) (by decide +kernel), List.mem_of_getElem? (i := 1203) (by decide +kernel), List.mem_of_getElem? (i := 1204) (by decide +kernel)⟩
theorem lw_p40 : lw_okq (⟨"PriceBenchModel", "walks", "()V"⟩, 36) := ⟨⟨by decide +kernel, by decide +kernel⟩, List.mem_of_getElem? (i := 898) (by decide +kernel), List.mem_of_getElem? (i := 1207) (by decide +kernel), List.mem_of_getElem? (i := 1208) (by decide +kernel)⟩
theorem lw_p41 : lw_okq (⟨"PriceBenchModel", "point", "(JJ)V"⟩, 36) := ⟨⟨by decide +kernel, by decide +kernel⟩, List.mem_of_getElem? (i := 898) (by decide +kernel), List.mem_of_getElem? (i := 1211) (by decide +kernel), List.mem_of_getElem? (i := 1212) (by decide +kernel)⟩
theorem lw_p42 : lw_okq (⟨"PriceBenchModel", "bendOf", "(II)J"⟩, 36) := ⟨⟨by decide +kernel, by decide +kernel⟩, List.mem_of_getElem? (i := 898) (by decide +kernel), List.mem_of_getElem? (i := 1219) (by decide +kernel), List.mem_of_getElem? (i := 1220) (by decide +kernel)⟩
theorem lw_p43 : lw_okq (⟨"PriceBenchModel", "placeOf", "(I)I"⟩, 36) := ⟨⟨by decide +kernel, by decide +kernel⟩, List.mem_of_getElem? (i := 898) (by decide +kernel), List.mem_of_getElem? (i := 1227) (by decide +kernel), List.mem_of_getElem? (i := 1228) (by decide +kernel)⟩
theorem lw_p44 : lw_okq (⟨"PriceBenchModel", "spans", "(I)Z"⟩, 36) := ⟨⟨by decide +kernel, by decide +kernel⟩, List.mem_of_getElem? (i := 898) (by decide +kernel), List.mem_of_getElem? (i := 1231) (by decide +kernel), List.mem_of_getElem? (i := 1232) (by decide +kernel)⟩
theorem lw_p45 : lw_okq (⟨"PriceBenchModel", "regrets", "(I)V"⟩, 36) := ⟨⟨by decide +kernel, by decide +kernel⟩, List.mem_of_getElem? (i := 898) (by decide +kernel), List.mem_of_getElem? (i := 1247) (by decide +kernel), List.mem_of_getElem? (i := 1248) (by decide +kernel)⟩
theorem lw_p46 : lw_okq (⟨"PriceBenchModel", "dearest", "(IIII)I"⟩, 36) := ⟨⟨by decide +kernel, by decide +kernel⟩, List.mem_of_getElem? (i := 898) (by decide +kernel), List.mem_of_getElem? (i := 1259) (by decide +kernel), List.mem_of_getElem? (i := 1260) (by decide +kernel)⟩
theorem lw_p47 : lw_okq (⟨"PriceBenchModel", "lineCost", "(III)J"⟩, 36) := ⟨⟨by decide +kernel, by decide +kernel⟩, List.mem_of_getElem? (i := 898) (by decide +kernel), List.mem_of_getElem? (i := 1263) (by decide +kernel), List.mem_of_getElem? (i := 1264) (by decide +kernel)⟩
def lw_privs_3 : List (MethodName × Nat) := [(⟨"PriceBenchModel", "startOf", "(I)I"⟩, 36), (⟨"PriceBenchModel", "riseOf", "(I)I"⟩, 36), (⟨"PriceBenchModel", "barsOf", "(I)I"⟩, 36), (⟨"PriceBenchModel", "beside", "(I)I"⟩, 36), (⟨"PriceBenchModel", "bestAt", "(JJI)I"⟩, 36), (⟨"PriceBenchModel", "leastAt", "(JJ)J"⟩, 36), (⟨"PriceBenchModel", "costAt", "(IJJ)J"⟩, 36), (⟨"PriceBenchModel", "prepares", "(I)Z"⟩, 36), (⟨"PriceBenchModel", "walks", "()V"⟩, 36), (⟨"PriceBenchModel", "point", "(JJ)V"⟩, 36), (⟨"PriceBenchModel", "bendOf", "(II)J"⟩, 36), (⟨"PriceBenchModel", "placeOf", "(I)I"⟩, 36), (⟨"PriceBenchModel", "spans", "(I)Z"⟩, 36), (⟨"PriceBenchModel", "regrets", "(I)V"⟩, 36), (⟨"PriceBenchModel", "dearest", "(IIII)I"⟩, 36), (⟨"PriceBenchModel", "lineCost", "(III)J"⟩, 36)]
theorem lw_r3 : ∀ q ∈ lw_privs_3, lw_okq q := List.forall_mem_cons.mpr ⟨lw_p32, List.forall_mem_cons.mpr ⟨lw_p33, List.forall_mem_cons.mpr ⟨lw_p34, List.forall_mem_cons.mpr ⟨lw_p35, List.forall_mem_cons.mpr ⟨lw_p36, List.forall_mem_cons.mpr ⟨lw_p37, List.forall_mem_cons.mpr ⟨lw_p38, List.forall_mem_cons.mpr ⟨lw_p39, List.forall_mem_cons.mpr ⟨lw_p40, List.forall_mem_cons.mpr ⟨lw_p41, List.forall_mem_cons.mpr ⟨lw_p42, List.forall_mem_cons.mpr ⟨lw_p43, List.forall_mem_cons.mpr ⟨lw_p44, List.forall_mem_cons.mpr ⟨lw_p45, List.forall_mem_cons.mpr ⟨lw_p46, List.forall_mem_cons.mpr ⟨lw_p47, fun _ h => absurd h List.not_mem_nil⟩⟩⟩⟩⟩⟩⟩⟩⟩⟩⟩⟩⟩⟩⟩⟩
theorem lw_p48 : lw_okq (⟨"PriceBenchModel", "wrong", "(I)I"⟩, 36) := ⟨⟨by decide +kernel, by decide +kernel⟩, List.mem_of_getElem? (i := 898) (by decide +kernel), List.mem_of_getElem? (i := 1285) (by decide +kernel), List.mem_of_getElem? (i := 1286) (by decide +kernel)⟩
theorem lw_p49 : lw_okq (⟨"PriceBenchModel", "asks", "(II)I"⟩, 36) := ⟨⟨by decide +kernel, by decide +kernel⟩, List.mem_of_getElem? (i := 898) (by decide +kernel), List.mem_of_getElem? (i := 1296) (by decide +kernel), List.mem_of_getElem? (i := 1297) (by decide +kernel)⟩
theorem lw_p50 : lw_okq (⟨"PriceBenchModel", "treeAsks", "(II)I"⟩, 36) := ⟨⟨by decide +kernel, by decide +kernel⟩, List.mem_of_getElem? (i := 898) (by decide +kernel), List.mem_of_getElem? (i := 1300) (by decide +kernel), List.mem_of_getElem? (i := 1301) (by decide +kernel)⟩
theorem lw_p51 : lw_okq (⟨"PriceBenchModel", "ran", "(I)V"⟩, 36) := ⟨⟨by decide +kernel, by decide +kernel⟩, List.mem_of_getElem? (i := 898) (by decide +kernel), List.mem_of_getElem? (i := 1304) (by decide +kernel), List.mem_of_getElem? (i := 1305) (by decide +kernel)⟩
theorem lw_p52 : lw_okq (⟨"PriceBenchModel", "shows", "(II)I"⟩, 36) := ⟨⟨by decide +kernel, by decide +kernel⟩, List.mem_of_getElem? (i := 898) (by decide +kernel), List.mem_of_getElem? (i := 1308) (by decide +kernel), List.mem_of_getElem? (i := 1309) (by decide +kernel)⟩
theorem lw_p53 : lw_okq (⟨"PriceBenchModel", "toldShows", "(II)I"⟩, 36) := ⟨⟨by decide +kernel, by decide +kernel⟩, List.mem_of_getElem? (i := 898) (by decide +kernel), List.mem_of_getElem? (i := 1312) (by decide +kernel), List.mem_of_getElem? (i := 1313) (by decide +kernel)⟩
theorem lw_p54 : lw_okq (⟨"PriceBenchModel", "turns", "(II)I"⟩, 36) := ⟨⟨by decide +kernel, by decide +kernel⟩, List.mem_of_getElem? (i := 898) (by decide +kernel), List.mem_of_getElem? (i := 1316) (by decide +kernel), List.mem_of_getElem? (i := 1317) (by decide +kernel)⟩
theorem lw_p55 : lw_okq (⟨"PriceBenchModel", "toldTurns", "(II)I"⟩, 36) := ⟨⟨by decide +kernel, by decide +kernel⟩, List.mem_of_getElem? (i := 898) (by decide +kernel), List.mem_of_getElem? (i := 1320) (by decide +kernel), List.mem_of_getElem? (i := 1321) (by decide +kernel)⟩
def lw_privs_4 : List (MethodName × Nat) := [(⟨"PriceBenchModel", "wrong", "(I)I"⟩, 36), (⟨"PriceBenchModel", "asks", "(II)I"⟩, 36), (⟨"PriceBenchModel", "treeAsks", "(II)I"⟩, 36), (⟨"PriceBenchModel", "ran", "(I)V"⟩, 36), (⟨"PriceBenchModel", "shows", "(II)I"⟩, 36), (⟨"PriceBenchModel", "toldShows", "(II)I"⟩, 36), (⟨"PriceBenchModel", "turns", "(II)I"⟩, 36), (⟨"PriceBenchModel", "toldTurns", "(II)I"⟩, 36)]
theorem lw_r4 : ∀ q ∈ lw_privs_4, lw_okq q := List.forall_mem_cons.mpr ⟨lw_p48, List.forall_mem_cons.mpr ⟨lw_p49, List.forall_mem_cons.mpr ⟨lw_p50, List.forall_mem_cons.mpr ⟨lw_p51, List.forall_mem_cons.mpr ⟨lw_p52, List.forall_mem_cons.mpr ⟨lw_p53, List.forall_mem_cons.mpr ⟨lw_p54, List.forall_mem_cons.mpr ⟨lw_p55, fun _ h => absurd h List.not_mem_nil⟩⟩⟩⟩⟩⟩⟩⟩
def lw_privs : List (MethodName × Nat) := lw_privs_1 ++ (lw_privs_2 ++ (lw_privs_3 ++ (lw_privs_4)))
def lw_tbl : List Cond := k2_sels lw_privs ++ tables_1
theorem lw_privs_ok : ∀ q ∈ lw_privs, lw_okq q := by
  show ∀ q ∈ lw_privs_1 ++ (lw_privs_2 ++ (lw_privs_3 ++ (lw_privs_4))), lw_okq q
  exact List.forall_mem_append.mpr ⟨lw_r1, List.forall_mem_append.mpr ⟨lw_r2, List.forall_mem_append.mpr ⟨lw_r3, lw_r4⟩⟩⟩
end
section
/-! ===== BEGIN words of one list among another's, by their places ===== -/
theorem goodIn_r {big : List Cond} (ws : List Cond) (ps : List Nat) (hp : ws = ps.filterMap (fun i => big[i]?)) (h : ws.all goodWord = true) : GoodIn big ws := by
  intro w hw
  have h1 := List.all_eq_true.mp h w hw
  rw [hp] at hw
  obtain ⟨i, -, hi⟩ := List.mem_filterMap.mp hw
  have hm : w ∈ big := by first | exact List.mem_of_getElem? hi | exact List.getElem?_mem hi
  exact ⟨hm, good_of_word h1⟩
theorem goodIn_app {big a b : List Cond} (ha : GoodIn big a) (hb : GoodIn big b) : GoodIn big (a ++ b) := fun w h => (List.mem_append.mp h).elim (ha w) (hb w)
theorem goodIn_ca {big a b : List Cond} {c : Cond} (ha : GoodIn big (c :: a)) (hb : GoodIn big b) : GoodIn big (c :: (a ++ b)) := fun w h => (List.mem_cons.mp h).elim (fun e => ha w (List.mem_cons.mpr (Or.inl e))) (fun h => (List.mem_append.mp h).elim (fun h => ha w (List.mem_cons.mpr (Or.inr h))) (hb w))
theorem goodIn_sub {big ws : List Cond} (hm : ∀ w ∈ ws, w ∈ big) (h : ws.all goodWord = true) : GoodIn big ws := fun w hw => ⟨hm w hw, good_of_word (List.all_eq_true.mp h w hw)⟩
/-! ===== END ===== -/

/-! ===== BEGIN printed: names, fields, word lists, decode rows ===== -/
def RX0 : String := "PriceBench$Acts"
def TX0 : u_T := fun k => match k with
  | 0 => ("PriceBench$Acts", "kept", "[I", true)
  | _ => ("PriceBench$Acts", "ran", "I", false)
def tyX0 : Nat → FieldType := fun k => match k with
  | 0 => .array .int
  | _ => .int
abbrev wsX00 : List Cond := u_ws RX0 TX0 2
theorem nmX0 : ∀ a, a < 2 → ∀ b, b < 2 → a ≠ b → (TX0 a).2.1 ≠ (TX0 b).2.1 := by decide +kernel
theorem tyX0_ok : ∀ k, k < 2 → parseFieldDescriptor (TX0 k).2.2.1 = some (tyX0 k) := by decide +kernel
abbrev cX0_init : ByteArray := prog_2_method_1_code
def yX0_init : MethodName := ⟨RX0, "<init>", "()V"⟩
abbrev cX0_isUnder : ByteArray := prog_2_method_2_code
def yX0_isUnder : MethodName := ⟨RX0, "isUnder", "(II)Z"⟩
abbrev cX0_kindAbove : ByteArray := prog_2_method_3_code
def yX0_kindAbove : MethodName := ⟨RX0, "kindAbove", "(I)I"⟩
abbrev cX0_forget : ByteArray := prog_2_method_4_code
def yX0_forget : MethodName := ⟨RX0, "forget", "()V"⟩
abbrev cX0_start : ByteArray := prog_2_method_5_code
def yX0_start : MethodName := ⟨RX0, "start", "(LPriceBench$Offer;II)I"⟩
abbrev cX0_play : ByteArray := prog_2_method_6_code
def yX0_play : MethodName := ⟨RX0, "play", "(LPriceBench$Acts;LPriceBench$Offer;IIII)I"⟩
abbrev cX0_kindWithBody : ByteArray := prog_2_method_7_code
def yX0_kindWithBody : MethodName := ⟨RX0, "kindWithBody", "(II)I"⟩
abbrev cX0_note : ByteArray := prog_2_method_8_code
def yX0_note : MethodName := ⟨RX0, "note", "(I)V"⟩
def RX1 : String := "PriceBench$Choices"
def TX1 : u_T := fun k => match k with
  | 0 => ("PriceBench$Choices", "sets", "[I", false)
  | 1 => ("PriceBench$Choices", "starts", "[I", false)
  | 2 => ("PriceBench$Choices", "rises", "[I", false)
  | _ => ("PriceBench$Choices", "many", "I", false)
def tyX1 : Nat → FieldType := fun k => match k with
  | 0 => .array .int
  | 1 => .array .int
  | 2 => .array .int
  | _ => .int
abbrev wsX10 : List Cond := u_ws RX1 TX1 4
theorem nmX1 : ∀ a, a < 4 → ∀ b, b < 4 → a ≠ b → (TX1 a).2.1 ≠ (TX1 b).2.1 := by decide +kernel
theorem tyX1_ok : ∀ k, k < 4 → parseFieldDescriptor (TX1 k).2.2.1 = some (tyX1 k) := by decide +kernel
abbrev cX1_init : ByteArray := prog_3_method_1_code
def yX1_init : MethodName := ⟨RX1, "<init>", "()V"⟩
abbrev cX1_clear : ByteArray := prog_3_method_2_code
def yX1_clear : MethodName := ⟨RX1, "clear", "()V"⟩
abbrev cX1_put : ByteArray := prog_3_method_3_code
def yX1_put : MethodName := ⟨RX1, "put", "(LPriceBench$Net;I)V"⟩
abbrev cX1_widen : ByteArray := prog_3_method_4_code
def yX1_widen : MethodName := ⟨RX1, "widen", "()V"⟩
abbrev cX1_comesAhead : ByteArray := prog_3_method_5_code
def yX1_comesAhead : MethodName := ⟨RX1, "comesAhead", "(II)Z"⟩
abbrev cX1_placeOf : ByteArray := prog_3_method_6_code
def yX1_placeOf : MethodName := ⟨RX1, "placeOf", "(I)I"⟩
abbrev cX1_costAt : ByteArray := prog_3_method_7_code
def yX1_costAt : MethodName := ⟨RX1, "costAt", "(III)J"⟩
abbrev cX1_cheapestAt : ByteArray := prog_3_method_8_code
def yX1_cheapestAt : MethodName := ⟨RX1, "cheapestAt", "(III)I"⟩
abbrev cX1_leadsAmongLike : ByteArray := prog_3_method_9_code
def yX1_leadsAmongLike : MethodName := ⟨RX1, "leadsAmongLike", "(III)Z"⟩
abbrev cX1_leastAt : ByteArray := prog_3_method_10_code
def yX1_leastAt : MethodName := ⟨RX1, "leastAt", "(II)J"⟩
abbrev cX1_nextAbove : ByteArray := prog_3_method_11_code
def yX1_nextAbove : MethodName := ⟨RX1, "nextAbove", "(I)I"⟩
abbrev cX1_meetsSooner : ByteArray := prog_3_method_12_code
def yX1_meetsSooner : MethodName := ⟨RX1, "meetsSooner", "(III)Z"⟩
abbrev cX1_findSpan : ByteArray := prog_3_method_13_code
def yX1_findSpan : MethodName := ⟨RX1, "findSpan", "(I[J)Z"⟩
abbrev cX1_leastRatio : ByteArray := prog_3_method_14_code
def yX1_leastRatio : MethodName := ⟨RX1, "leastRatio", "()I"⟩
abbrev cX1_findRegret : ByteArray := prog_3_method_15_code
def yX1_findRegret : MethodName := ⟨RX1, "findRegret", "(ILPriceBench$Window;[J)V"⟩
def RX2 : String := "PriceBench$Net"
def TX2 : u_T := fun k => match k with
  | 0 => ("PriceBench$Net", "from", "[I", true)
  | 1 => ("PriceBench$Net", "to", "[I", true)
  | 2 => ("PriceBench$Net", "start", "[I", true)
  | 3 => ("PriceBench$Net", "rise", "[I", true)
  | 4 => ("PriceBench$Net", "things", "I", false)
  | 5 => ("PriceBench$Net", "lines", "I", false)
  | 6 => ("PriceBench$Net", "latest", "I", false)
  | 7 => ("PriceBench$Net", "stamp", "I", false)
  | 8 => ("PriceBench$Net", "alteredLine", "I", false)
  | 9 => ("PriceBench$Net", "startBefore", "I", false)
  | _ => ("PriceBench$Net", "riseBefore", "I", false)
def tyX2 : Nat → FieldType := fun k => match k with
  | 0 => .array .int
  | 1 => .array .int
  | 2 => .array .int
  | 3 => .array .int
  | 4 => .int
  | 5 => .int
  | 6 => .int
  | 7 => .int
  | 8 => .int
  | 9 => .int
  | _ => .int
abbrev wsX20 : List Cond := u_ws RX2 TX2 11
theorem nmX2 : ∀ a, a < 11 → ∀ b, b < 11 → a ≠ b → (TX2 a).2.1 ≠ (TX2 b).2.1 := by decide +kernel
theorem tyX2_ok : ∀ k, k < 11 → parseFieldDescriptor (TX2 k).2.2.1 = some (tyX2 k) := by decide +kernel
abbrev cX2_init : ByteArray := prog_4_method_1_code
def yX2_init : MethodName := ⟨RX2, "<init>", "()V"⟩
abbrev cX2_isThing : ByteArray := prog_4_method_2_code
def yX2_isThing : MethodName := ⟨RX2, "isThing", "(I)Z"⟩
abbrev cX2_isLine : ByteArray := prog_4_method_3_code
def yX2_isLine : MethodName := ⟨RX2, "isLine", "(I)Z"⟩
abbrev cX2_allThings : ByteArray := prog_4_method_4_code
def yX2_allThings : MethodName := ⟨RX2, "allThings", "()I"⟩
abbrev cX2_addThing : ByteArray := prog_4_method_5_code
def yX2_addThing : MethodName := ⟨RX2, "addThing", "()I"⟩
abbrev cX2_addLine : ByteArray := prog_4_method_6_code
def yX2_addLine : MethodName := ⟨RX2, "addLine", "(IIII)I"⟩
abbrev cX2_changeLine : ByteArray := prog_4_method_7_code
def yX2_changeLine : MethodName := ⟨RX2, "changeLine", "(III)V"⟩
abbrev cX2_dropLine : ByteArray := prog_4_method_8_code
def yX2_dropLine : MethodName := ⟨RX2, "dropLine", "()I"⟩
abbrev cX2_stepBack : ByteArray := prog_4_method_9_code
def yX2_stepBack : MethodName := ⟨RX2, "stepBack", "()V"⟩
abbrev cX2_changed : ByteArray := prog_4_method_10_code
def yX2_changed : MethodName := ⟨RX2, "changed", "(I)V"⟩
abbrev cX2_numberOf : ByteArray := prog_4_method_11_code
def yX2_numberOf : MethodName := ⟨RX2, "numberOf", "(II)I"⟩
abbrev cX2_sumOver : ByteArray := prog_4_method_12_code
def yX2_sumOver : MethodName := ⟨RX2, "sumOver", "([II)I"⟩
abbrev cX2_lineCost : ByteArray := prog_4_method_13_code
def yX2_lineCost : MethodName := ⟨RX2, "lineCost", "(III)J"⟩
abbrev cX2_hangingWith : ByteArray := prog_4_method_14_code
def yX2_hangingWith : MethodName := ⟨RX2, "hangingWith", "(II)I"⟩
abbrev cX2_ledToFrom : ByteArray := prog_4_method_15_code
def yX2_ledToFrom : MethodName := ⟨RX2, "ledToFrom", "(I)I"⟩
abbrev cX2_beside : ByteArray := prog_4_method_16_code
def yX2_beside : MethodName := ⟨RX2, "beside", "(II)I"⟩
abbrev cX2_dearestBetween : ByteArray := prog_4_method_17_code
def yX2_dearestBetween : MethodName := ⟨RX2, "dearestBetween", "(IIII)I"⟩
abbrev cX2_isBetween : ByteArray := prog_4_method_18_code
def yX2_isBetween : MethodName := ⟨RX2, "isBetween", "(III)Z"⟩
def RX3 : String := "PriceBench$Offer"
def TX3 : u_T := fun k => match k with
  | _ => ("", "", "", false)
def tyX3 : Nat → FieldType := fun k => match k with
  | _ => .int
abbrev wsX30 : List Cond := u_ws RX3 TX3 0
theorem nmX3 : ∀ a, a < 0 → ∀ b, b < 0 → a ≠ b → (TX3 a).2.1 ≠ (TX3 b).2.1 := by decide +kernel
theorem tyX3_ok : ∀ k, k < 0 → parseFieldDescriptor (TX3 k).2.2.1 = some (tyX3 k) := by decide +kernel
abbrev cX3_init : ByteArray := prog_5_method_1_code
def yX3_init : MethodName := ⟨RX3, "<init>", "(II)V"⟩
abbrev cX3_renewChoices : ByteArray := prog_5_method_7_code
def yX3_renewChoices : MethodName := ⟨RX3, "renewChoices", "(LPriceBench$Net;)V"⟩
abbrev cX3_outdate : ByteArray := prog_5_method_8_code
def yX3_outdate : MethodName := ⟨RX3, "outdate", "()V"⟩
abbrev cX3_bendsIn : ByteArray := prog_5_method_9_code
def yX3_bendsIn : MethodName := ⟨RX3, "bendsIn", "(LPriceBench$Window;)LPriceBench$Rows;"⟩
abbrev cX3_findBends : ByteArray := prog_5_method_10_code
def yX3_findBends : MethodName := ⟨RX3, "findBends", "(LPriceBench$Window;)V"⟩
def RX4 : String := "PriceBench$Pairing"
def TX4 : u_T := fun k => match k with
  | 0 => ("PriceBench$Offer", "number", "I", true)
  | 1 => ("PriceBench$Offer", "kind", "I", true)
  | 2 => ("PriceBench$Offer", "choices", "LPriceBench$Choices;", true)
  | 3 => ("PriceBench$Offer", "bends", "LPriceBench$Rows;", true)
  | 4 => ("PriceBench$Offer", "choicesStamp", "I", false)
  | 5 => ("PriceBench$Offer", "bendsStamp", "I", false)
  | _ => ("PriceBench$Pairing", "side", "I", true)
def tyX4 : Nat → FieldType := fun k => match k with
  | 0 => .int
  | 1 => .int
  | 2 => .object "PriceBench$Choices"
  | 3 => .object "PriceBench$Rows"
  | 4 => .int
  | 5 => .int
  | _ => .int
abbrev wsX40 : List Cond := u_ws RX4 TX4 7
theorem nmX4 : ∀ a, a < 7 → ∀ b, b < 7 → a ≠ b → (TX4 a).2.1 ≠ (TX4 b).2.1 := by decide +kernel
theorem tyX4_ok : ∀ k, k < 7 → parseFieldDescriptor (TX4 k).2.2.1 = some (tyX4 k) := by decide +kernel
abbrev cX4_init : ByteArray := prog_6_method_1_code
def yX4_init : MethodName := ⟨RX4, "<init>", "(II)V"⟩
abbrev cX4_gather : ByteArray := prog_6_method_2_code
def yX4_gather : MethodName := ⟨RX4, "gather", "(LPriceBench$Net;)V"⟩
abbrev cX4_pair : ByteArray := prog_6_method_3_code
def yX4_pair : MethodName := ⟨RX4, "pair", "(LPriceBench$Pairing;LPriceBench$Net;III)V"⟩
abbrev cX4_barsIn : ByteArray := prog_6_method_4_code
def yX4_barsIn : MethodName := ⟨RX4, "barsIn", "(LPriceBench$Net;)I"⟩
abbrev cX4_needs : ByteArray := prog_6_method_5_code
def yX4_needs : MethodName := ⟨RX4, "needs", "(I)Z"⟩
abbrev cX4_firstNumber : ByteArray := prog_6_method_6_code
def yX4_firstNumber : MethodName := ⟨RX4, "firstNumber", "()I"⟩
abbrev cX4_secondNumber : ByteArray := prog_6_method_7_code
def yX4_secondNumber : MethodName := ⟨RX4, "secondNumber", "()I"⟩
def RX5 : String := "PriceBench$Rows"
def TX5 : u_T := fun k => match k with
  | 0 => ("PriceBench$Rows", "numbers", "[I", false)
  | _ => ("PriceBench$Rows", "many", "I", false)
def tyX5 : Nat → FieldType := fun k => match k with
  | 0 => .array .int
  | _ => .int
abbrev wsX50 : List Cond := u_ws RX5 TX5 2
theorem nmX5 : ∀ a, a < 2 → ∀ b, b < 2 → a ≠ b → (TX5 a).2.1 ≠ (TX5 b).2.1 := by decide +kernel
theorem tyX5_ok : ∀ k, k < 2 → parseFieldDescriptor (TX5 k).2.2.1 = some (tyX5 k) := by decide +kernel
abbrev cX5_init : ByteArray := prog_7_method_1_code
def yX5_init : MethodName := ⟨RX5, "<init>", "()V"⟩
abbrev cX5_clear : ByteArray := prog_7_method_2_code
def yX5_clear : MethodName := ⟨RX5, "clear", "()V"⟩
abbrev cX5_has : ByteArray := prog_7_method_3_code
def yX5_has : MethodName := ⟨RX5, "has", "(II)Z"⟩
abbrev cX5_number : ByteArray := prog_7_method_4_code
def yX5_number : MethodName := ⟨RX5, "number", "(II)I"⟩
abbrev cX5_set : ByteArray := prog_7_method_5_code
def yX5_set : MethodName := ⟨RX5, "set", "(III)V"⟩
abbrev cX5_put : ByteArray := prog_7_method_6_code
def yX5_put : MethodName := ⟨RX5, "put", "(JJII)V"⟩
abbrev cX5_becomeLike : ByteArray := prog_7_method_7_code
def yX5_becomeLike : MethodName := ⟨RX5, "becomeLike", "(LPriceBench$Rows;)V"⟩
abbrev cX5_makeRoomFor : ByteArray := prog_7_method_8_code
def yX5_makeRoomFor : MethodName := ⟨RX5, "makeRoomFor", "(I)V"⟩
def RX6 : String := "PriceBench$Sheet"
def TX6 : u_T := fun k => match k with
  | 0 => ("PriceBench$Sheet", "sort", "I", false)
  | 1 => ("PriceBench$Sheet", "size", "I", false)
  | _ => ("PriceBench$Sheet", "items", "[J", true)
def tyX6 : Nat → FieldType := fun k => match k with
  | 0 => .int
  | 1 => .int
  | _ => .array .long
abbrev wsX60 : List Cond := u_ws RX6 TX6 3
theorem nmX6 : ∀ a, a < 3 → ∀ b, b < 3 → a ≠ b → (TX6 a).2.1 ≠ (TX6 b).2.1 := by decide +kernel
theorem tyX6_ok : ∀ k, k < 3 → parseFieldDescriptor (TX6 k).2.2.1 = some (tyX6 k) := by decide +kernel
abbrev cX6_init : ByteArray := prog_8_method_1_code
def yX6_init : MethodName := ⟨RX6, "<init>", "()V"⟩
abbrev cX6_become : ByteArray := prog_8_method_2_code
def yX6_become : MethodName := ⟨RX6, "become", "(II)V"⟩
abbrev cX6_holds : ByteArray := prog_8_method_3_code
def yX6_holds : MethodName := ⟨RX6, "holds", "(II)Z"⟩
def RX7 : String := "PriceBench$Told"
def TX7 : u_T := fun k => match k with
  | 0 => ("PriceBench$Offer", "number", "I", true)
  | 1 => ("PriceBench$Offer", "kind", "I", true)
  | 2 => ("PriceBench$Offer", "choices", "LPriceBench$Choices;", true)
  | 3 => ("PriceBench$Offer", "bends", "LPriceBench$Rows;", true)
  | 4 => ("PriceBench$Offer", "choicesStamp", "I", false)
  | 5 => ("PriceBench$Offer", "bendsStamp", "I", false)
  | 6 => ("PriceBench$Told", "sets", "[I", true)
  | _ => ("PriceBench$Told", "many", "I", false)
def tyX7 : Nat → FieldType := fun k => match k with
  | 0 => .int
  | 1 => .int
  | 2 => .object "PriceBench$Choices"
  | 3 => .object "PriceBench$Rows"
  | 4 => .int
  | 5 => .int
  | 6 => .array .int
  | _ => .int
abbrev wsX70 : List Cond := u_ws RX7 TX7 8
theorem nmX7 : ∀ a, a < 8 → ∀ b, b < 8 → a ≠ b → (TX7 a).2.1 ≠ (TX7 b).2.1 := by decide +kernel
theorem tyX7_ok : ∀ k, k < 8 → parseFieldDescriptor (TX7 k).2.2.1 = some (tyX7 k) := by decide +kernel
abbrev cX7_init : ByteArray := prog_9_method_1_code
def yX7_init : MethodName := ⟨RX7, "<init>", "(I)V"⟩
abbrev cX7_take : ByteArray := prog_9_method_2_code
def yX7_take : MethodName := ⟨RX7, "take", "(I)I"⟩
abbrev cX7_gather : ByteArray := prog_9_method_3_code
def yX7_gather : MethodName := ⟨RX7, "gather", "(LPriceBench$Net;)V"⟩
abbrev cX7_barsIn : ByteArray := prog_9_method_4_code
def yX7_barsIn : MethodName := ⟨RX7, "barsIn", "(LPriceBench$Net;)I"⟩
abbrev cX7_needs : ByteArray := prog_9_method_5_code
def yX7_needs : MethodName := ⟨RX7, "needs", "(I)Z"⟩
abbrev cX7_firstNumber : ByteArray := prog_9_method_6_code
def yX7_firstNumber : MethodName := ⟨RX7, "firstNumber", "()I"⟩
abbrev cX7_secondNumber : ByteArray := prog_9_method_7_code
def yX7_secondNumber : MethodName := ⟨RX7, "secondNumber", "()I"⟩
def RX8 : String := "PriceBench$Tree"
def TX8 : u_T := fun k => match k with
  | 0 => ("PriceBench$Offer", "number", "I", true)
  | 1 => ("PriceBench$Offer", "kind", "I", true)
  | 2 => ("PriceBench$Offer", "choices", "LPriceBench$Choices;", true)
  | 3 => ("PriceBench$Offer", "bends", "LPriceBench$Rows;", true)
  | 4 => ("PriceBench$Offer", "choicesStamp", "I", false)
  | _ => ("PriceBench$Offer", "bendsStamp", "I", false)
def tyX8 : Nat → FieldType := fun k => match k with
  | 0 => .int
  | 1 => .int
  | 2 => .object "PriceBench$Choices"
  | 3 => .object "PriceBench$Rows"
  | 4 => .int
  | _ => .int
abbrev wsX80 : List Cond := u_ws RX8 TX8 6
theorem nmX8 : ∀ a, a < 6 → ∀ b, b < 6 → a ≠ b → (TX8 a).2.1 ≠ (TX8 b).2.1 := by decide +kernel
theorem tyX8_ok : ∀ k, k < 6 → parseFieldDescriptor (TX8 k).2.2.1 = some (tyX8 k) := by decide +kernel
abbrev cX8_init : ByteArray := prog_10_method_1_code
def yX8_init : MethodName := ⟨RX8, "<init>", "(I)V"⟩
abbrev cX8_gather : ByteArray := prog_10_method_2_code
def yX8_gather : MethodName := ⟨RX8, "gather", "(LPriceBench$Net;)V"⟩
abbrev cX8_grow : ByteArray := prog_10_method_3_code
def yX8_grow : MethodName := ⟨RX8, "grow", "(LPriceBench$Tree;LPriceBench$Net;IIII)V"⟩
abbrev cX8_groupOf : ByteArray := prog_10_method_4_code
def yX8_groupOf : MethodName := ⟨RX8, "groupOf", "(II)I"⟩
abbrev cX8_join : ByteArray := prog_10_method_5_code
def yX8_join : MethodName := ⟨RX8, "join", "(IIII)I"⟩
abbrev cX8_barsIn : ByteArray := prog_10_method_6_code
def yX8_barsIn : MethodName := ⟨RX8, "barsIn", "(LPriceBench$Net;)I"⟩
abbrev cX8_needs : ByteArray := prog_10_method_7_code
def yX8_needs : MethodName := ⟨RX8, "needs", "(I)Z"⟩
abbrev cX8_firstNumber : ByteArray := prog_10_method_8_code
def yX8_firstNumber : MethodName := ⟨RX8, "firstNumber", "()I"⟩
abbrev cX8_secondNumber : ByteArray := prog_10_method_9_code
def yX8_secondNumber : MethodName := ⟨RX8, "secondNumber", "()I"⟩
def RX9 : String := "PriceBench$Way"
def TX9 : u_T := fun k => match k with
  | 0 => ("PriceBench$Offer", "number", "I", true)
  | 1 => ("PriceBench$Offer", "kind", "I", true)
  | 2 => ("PriceBench$Offer", "choices", "LPriceBench$Choices;", true)
  | 3 => ("PriceBench$Offer", "bends", "LPriceBench$Rows;", true)
  | 4 => ("PriceBench$Offer", "choicesStamp", "I", false)
  | 5 => ("PriceBench$Offer", "bendsStamp", "I", false)
  | 6 => ("PriceBench$Way", "first", "I", true)
  | _ => ("PriceBench$Way", "last", "I", true)
def tyX9 : Nat → FieldType := fun k => match k with
  | 0 => .int
  | 1 => .int
  | 2 => .object "PriceBench$Choices"
  | 3 => .object "PriceBench$Rows"
  | 4 => .int
  | 5 => .int
  | 6 => .int
  | _ => .int
abbrev wsX90 : List Cond := u_ws RX9 TX9 8
theorem nmX9 : ∀ a, a < 8 → ∀ b, b < 8 → a ≠ b → (TX9 a).2.1 ≠ (TX9 b).2.1 := by decide +kernel
theorem tyX9_ok : ∀ k, k < 8 → parseFieldDescriptor (TX9 k).2.2.1 = some (tyX9 k) := by decide +kernel
abbrev cX9_init : ByteArray := prog_11_method_1_code
def yX9_init : MethodName := ⟨RX9, "<init>", "(III)V"⟩
abbrev cX9_gather : ByteArray := prog_11_method_2_code
def yX9_gather : MethodName := ⟨RX9, "gather", "(LPriceBench$Net;)V"⟩
abbrev cX9_walk : ByteArray := prog_11_method_3_code
def yX9_walk : MethodName := ⟨RX9, "walk", "(LPriceBench$Way;LPriceBench$Net;IIII)V"⟩
abbrev cX9_barsIn : ByteArray := prog_11_method_4_code
def yX9_barsIn : MethodName := ⟨RX9, "barsIn", "(LPriceBench$Net;)I"⟩
abbrev cX9_needs : ByteArray := prog_11_method_5_code
def yX9_needs : MethodName := ⟨RX9, "needs", "(I)Z"⟩
abbrev cX9_firstNumber : ByteArray := prog_11_method_6_code
def yX9_firstNumber : MethodName := ⟨RX9, "firstNumber", "()I"⟩
abbrev cX9_secondNumber : ByteArray := prog_11_method_7_code
def yX9_secondNumber : MethodName := ⟨RX9, "secondNumber", "()I"⟩
def RX10 : String := "PriceBench$Window"
def TX10 : u_T := fun k => match k with
  | 0 => ("PriceBench$Window", "p", "I", false)
  | 1 => ("PriceBench$Window", "q", "I", false)
  | 2 => ("PriceBench$Window", "p2", "I", false)
  | 3 => ("PriceBench$Window", "q2", "I", false)
  | _ => ("PriceBench$Window", "stamp", "I", false)
def tyX10 : Nat → FieldType := fun k => match k with
  | 0 => .int
  | 1 => .int
  | 2 => .int
  | 3 => .int
  | _ => .int
abbrev wsX100 : List Cond := u_ws RX10 TX10 5
theorem nmX10 : ∀ a, a < 5 → ∀ b, b < 5 → a ≠ b → (TX10 a).2.1 ≠ (TX10 b).2.1 := by decide +kernel
theorem tyX10_ok : ∀ k, k < 5 → parseFieldDescriptor (TX10 k).2.2.1 = some (tyX10 k) := by decide +kernel
abbrev cX10_init : ByteArray := prog_12_method_1_code
def yX10_init : MethodName := ⟨RX10, "<init>", "()V"⟩
abbrev cX10_become : ByteArray := prog_12_method_2_code
def yX10_become : MethodName := ⟨RX10, "become", "(IIII)V"⟩
abbrev cX10_holdsInside : ByteArray := prog_12_method_3_code
def yX10_holdsInside : MethodName := ⟨RX10, "holdsInside", "(II)Z"⟩
def RX11 : String := "PriceBench"
def TX11 : u_T := fun k => match k with
  | 0 => ("PriceBench", "net", "LPriceBench$Net;", true)
  | 1 => ("PriceBench", "offers", "[LPriceBench$Offer;", true)
  | 2 => ("PriceBench", "offerCount", "I", false)
  | 3 => ("PriceBench", "window", "LPriceBench$Window;", true)
  | 4 => ("PriceBench", "rows", "LPriceBench$Rows;", true)
  | 5 => ("PriceBench", "acts", "LPriceBench$Acts;", true)
  | 6 => ("PriceBench", "sheets", "[LPriceBench$Sheet;", true)
  | _ => ("PriceBench", "found", "[J", true)
def tyX11 : Nat → FieldType := fun k => match k with
  | 0 => .object "PriceBench$Net"
  | 1 => .array (.object "PriceBench$Offer")
  | 2 => .int
  | 3 => .object "PriceBench$Window"
  | 4 => .object "PriceBench$Rows"
  | 5 => .object "PriceBench$Acts"
  | 6 => .array (.object "PriceBench$Sheet")
  | _ => .array .long
abbrev wsX110 : List Cond := u_ws RX11 TX11 8
theorem nmX11 : ∀ a, a < 8 → ∀ b, b < 8 → a ≠ b → (TX11 a).2.1 ≠ (TX11 b).2.1 := by decide +kernel
theorem tyX11_ok : ∀ k, k < 8 → parseFieldDescriptor (TX11 k).2.2.1 = some (tyX11 k) := by decide +kernel
abbrev cX11_init : ByteArray := prog_1_method_1_code
def yX11_init : MethodName := ⟨RX11, "<init>", "()V"⟩
abbrev cX11_thing : ByteArray := prog_1_method_2_code
def yX11_thing : MethodName := ⟨RX11, "thing", "()I"⟩
abbrev cX11_line : ByteArray := prog_1_method_3_code
def yX11_line : MethodName := ⟨RX11, "line", "(IIII)I"⟩
abbrev cX11_alter : ByteArray := prog_1_method_4_code
def yX11_alter : MethodName := ⟨RX11, "alter", "(III)I"⟩
abbrev cX11_close : ByteArray := prog_1_method_5_code
def yX11_close : MethodName := ⟨RX11, "close", "()I"⟩
abbrev cX11_undo : ByteArray := prog_1_method_6_code
def yX11_undo : MethodName := ⟨RX11, "undo", "()I"⟩
abbrev cX11_lineTold : ByteArray := prog_1_method_7_code
def yX11_lineTold : MethodName := ⟨RX11, "lineTold", "(II)I"⟩
abbrev cX11_isLineCost : ByteArray := prog_1_method_8_code
def yX11_isLineCost : MethodName := ⟨RX11, "isLineCost", "(II)Z"⟩
abbrev cX11_told : ByteArray := prog_1_method_9_code
def yX11_told : MethodName := ⟨RX11, "told", "()I"⟩
abbrev cX11_tell : ByteArray := prog_1_method_10_code
def yX11_tell : MethodName := ⟨RX11, "tell", "(II)I"⟩
abbrev cX11_tree : ByteArray := prog_1_method_11_code
def yX11_tree : MethodName := ⟨RX11, "tree", "()I"⟩
abbrev cX11_way : ByteArray := prog_1_method_12_code
def yX11_way : MethodName := ⟨RX11, "way", "(II)I"⟩
abbrev cX11_pairing : ByteArray := prog_1_method_13_code
def yX11_pairing : MethodName := ⟨RX11, "pairing", "(I)I"⟩
abbrev cX11_offerTold : ByteArray := prog_1_method_14_code
def yX11_offerTold : MethodName := ⟨RX11, "offerTold", "(II)I"⟩
abbrev cX11_choice : ByteArray := prog_1_method_15_code
def yX11_choice : MethodName := ⟨RX11, "choice", "(II)I"⟩
abbrev cX11_taken : ByteArray := prog_1_method_16_code
def yX11_taken : MethodName := ⟨RX11, "taken", "(II)I"⟩
abbrev cX11_addOffer : ByteArray := prog_1_method_17_code
def yX11_addOffer : MethodName := ⟨RX11, "addOffer", "(LPriceBench$Offer;)I"⟩
abbrev cX11_offerAt : ByteArray := prog_1_method_18_code
def yX11_offerAt : MethodName := ⟨RX11, "offerAt", "(I)LPriceBench$Offer;"⟩
abbrev cX11_offerWithChoices : ByteArray := prog_1_method_19_code
def yX11_offerWithChoices : MethodName := ⟨RX11, "offerWithChoices", "(I)LPriceBench$Offer;"⟩
abbrev cX11_placeIn : ByteArray := prog_1_method_20_code
def yX11_placeIn : MethodName := ⟨RX11, "placeIn", "(LPriceBench$Offer;I)I"⟩
abbrev cX11_someOfferNeeds : ByteArray := prog_1_method_21_code
def yX11_someOfferNeeds : MethodName := ⟨RX11, "someOfferNeeds", "(I)Z"⟩
abbrev cX11_cost : ByteArray := prog_1_method_22_code
def yX11_cost : MethodName := ⟨RX11, "cost", "(IIII)J"⟩
abbrev cX11_best : ByteArray := prog_1_method_23_code
def yX11_best : MethodName := ⟨RX11, "best", "(IIII)I"⟩
abbrev cX11_least : ByteArray := prog_1_method_24_code
def yX11_least : MethodName := ⟨RX11, "least", "(IIII)J"⟩
abbrev cX11_window : ByteArray := prog_1_method_25_code
def yX11_window : MethodName := ⟨RX11, "window", "(IIII)I"⟩
abbrev cX11_span : ByteArray := prog_1_method_26_code
def yX11_span : MethodName := ⟨RX11, "span", "(III)J"⟩
abbrev cX11_top : ByteArray := prog_1_method_27_code
def yX11_top : MethodName := ⟨RX11, "top", "(II)J"⟩
abbrev cX11_ratio : ByteArray := prog_1_method_28_code
def yX11_ratio : MethodName := ⟨RX11, "ratio", "(II)J"⟩
abbrev cX11_regret : ByteArray := prog_1_method_29_code
def yX11_regret : MethodName := ⟨RX11, "regret", "(III)J"⟩
abbrev cX11_calm : ByteArray := prog_1_method_30_code
def yX11_calm : MethodName := ⟨RX11, "calm", "(I)I"⟩
abbrev cX11_why : ByteArray := prog_1_method_31_code
def yX11_why : MethodName := ⟨RX11, "why", "(IIII)I"⟩
abbrev cX11_findTop : ByteArray := prog_1_method_32_code
def yX11_findTop : MethodName := ⟨RX11, "findTop", "(LPriceBench$Offer;)V"⟩
abbrev cX11_isCalmer : ByteArray := prog_1_method_33_code
def yX11_isCalmer : MethodName := ⟨RX11, "isCalmer", "(LPriceBench$Choices;II)Z"⟩
abbrev cX11_isPrice : ByteArray := prog_1_method_34_code
def yX11_isPrice : MethodName := ⟨RX11, "isPrice", "(II)Z"⟩
abbrev cX11_isLess : ByteArray := prog_1_method_35_code
def yX11_isLess : MethodName := ⟨RX11, "isLess", "(JJJJ)Z"⟩
abbrev cX11_lowest : ByteArray := prog_1_method_36_code
def yX11_lowest : MethodName := ⟨RX11, "lowest", "(JJI)J"⟩
abbrev cX11_commonOf : ByteArray := prog_1_method_37_code
def yX11_commonOf : MethodName := ⟨RX11, "commonOf", "(JJ)J"⟩
abbrev cX11_bends : ByteArray := prog_1_method_38_code
def yX11_bends : MethodName := ⟨RX11, "bends", "(I)I"⟩
abbrev cX11_bend : ByteArray := prog_1_method_39_code
def yX11_bend : MethodName := ⟨RX11, "bend", "(III)J"⟩
abbrev cX11_write : ByteArray := prog_1_method_40_code
def yX11_write : MethodName := ⟨RX11, "write", "(I)I"⟩
abbrev cX11_row : ByteArray := prog_1_method_41_code
def yX11_row : MethodName := ⟨RX11, "row", "(II)J"⟩
abbrev cX11_forge : ByteArray := prog_1_method_42_code
def yX11_forge : MethodName := ⟨RX11, "forge", "(III)I"⟩
abbrev cX11_check : ByteArray := prog_1_method_43_code
def yX11_check : MethodName := ⟨RX11, "check", "(I)I"⟩
abbrev cX11_numberOrNo : ByteArray := prog_1_method_44_code
def yX11_numberOrNo : MethodName := ⟨RX11, "numberOrNo", "(LPriceBench$Rows;II)J"⟩
abbrev cX11_howWrong : ByteArray := prog_1_method_45_code
def yX11_howWrong : MethodName := ⟨RX11, "howWrong", "(LPriceBench$Choices;I)I"⟩
abbrev cX11_act : ByteArray := prog_1_method_46_code
def yX11_act : MethodName := ⟨RX11, "act", "(III)I"⟩
abbrev cX11_trace : ByteArray := prog_1_method_47_code
def yX11_trace : MethodName := ⟨RX11, "trace", "(I)I"⟩
abbrev cX11_count : ByteArray := prog_1_method_48_code
def yX11_count : MethodName := ⟨RX11, "count", "(I)I"⟩
abbrev cX11_sheet : ByteArray := prog_1_method_49_code
def yX11_sheet : MethodName := ⟨RX11, "sheet", "(III)I"⟩
abbrev cX11_cell : ByteArray := prog_1_method_50_code
def yX11_cell : MethodName := ⟨RX11, "cell", "(III)I"⟩
abbrev cX11_lay : ByteArray := prog_1_method_51_code
def yX11_lay : MethodName := ⟨RX11, "lay", "(III)I"⟩
abbrev cX11_copy : ByteArray := prog_1_method_52_code
def yX11_copy : MethodName := ⟨RX11, "copy", "(IIIII)I"⟩
abbrev cX11_sheetAt : ByteArray := prog_1_method_53_code
def yX11_sheetAt : MethodName := ⟨RX11, "sheetAt", "(I)LPriceBench$Sheet;"⟩
def RX12 : String := "PriceBenchModel"
def TX12 : u_T := fun k => match k with
  | 0 => ("PriceBenchModel", "net", "[I", true)
  | 1 => ("PriceBenchModel", "before", "[I", true)
  | 2 => ("PriceBenchModel", "mayUndo", "Z", false)
  | 3 => ("PriceBenchModel", "offers", "I", false)
  | 4 => ("PriceBenchModel", "kind", "[I", true)
  | 5 => ("PriceBenchModel", "first", "[I", true)
  | 6 => ("PriceBenchModel", "second", "[I", true)
  | 7 => ("PriceBenchModel", "many", "[I", true)
  | 8 => ("PriceBenchModel", "sets", "[I", true)
  | 9 => ("PriceBenchModel", "p1", "I", false)
  | 10 => ("PriceBenchModel", "q1", "I", false)
  | 11 => ("PriceBenchModel", "p2", "I", false)
  | 12 => ("PriceBenchModel", "q2", "I", false)
  | 13 => ("PriceBenchModel", "rows", "I", false)
  | 14 => ("PriceBenchModel", "row", "[J", true)
  | 15 => ("PriceBenchModel", "traced", "[I", true)
  | 16 => ("PriceBenchModel", "traces", "I", false)
  | 17 => ("PriceBenchModel", "sort", "[I", true)
  | 18 => ("PriceBenchModel", "size", "[I", true)
  | 19 => ("PriceBenchModel", "cells", "[J", true)
  | 20 => ("PriceBenchModel", "choices", "I", false)
  | 21 => ("PriceBenchModel", "set", "[I", true)
  | 22 => ("PriceBenchModel", "start", "[I", true)
  | 23 => ("PriceBenchModel", "rise", "[I", true)
  | 24 => ("PriceBenchModel", "points", "I", false)
  | 25 => ("PriceBenchModel", "px", "[J", true)
  | 26 => ("PriceBenchModel", "pq", "[J", true)
  | 27 => ("PriceBenchModel", "pl", "[J", true)
  | 28 => ("PriceBenchModel", "lowP", "J", false)
  | 29 => ("PriceBenchModel", "lowQ", "J", false)
  | 30 => ("PriceBenchModel", "highP", "J", false)
  | 31 => ("PriceBenchModel", "highQ", "J", false)
  | 32 => ("PriceBenchModel", "above", "J", false)
  | 33 => ("PriceBenchModel", "below", "J", false)
  | 34 => ("PriceBenchModel", "m", "I", false)
  | _ => ("PriceBenchModel", "between", "[J", true)
def tyX12 : Nat → FieldType := fun k => match k with
  | 0 => .array .int
  | 1 => .array .int
  | 2 => .boolean
  | 3 => .int
  | 4 => .array .int
  | 5 => .array .int
  | 6 => .array .int
  | 7 => .array .int
  | 8 => .array .int
  | 9 => .int
  | 10 => .int
  | 11 => .int
  | 12 => .int
  | 13 => .int
  | 14 => .array .long
  | 15 => .array .int
  | 16 => .int
  | 17 => .array .int
  | 18 => .array .int
  | 19 => .array .long
  | 20 => .int
  | 21 => .array .int
  | 22 => .array .int
  | 23 => .array .int
  | 24 => .int
  | 25 => .array .long
  | 26 => .array .long
  | 27 => .array .long
  | 28 => .long
  | 29 => .long
  | 30 => .long
  | 31 => .long
  | 32 => .long
  | 33 => .long
  | 34 => .int
  | _ => .array .long
abbrev wsX120 : List Cond := u_ws RX12 TX12 36
theorem nmX12 : ∀ a, a < 36 → ∀ b, b < 36 → a ≠ b → (TX12 a).2.1 ≠ (TX12 b).2.1 := by decide +kernel
theorem tyX12_ok : ∀ k, k < 36 → parseFieldDescriptor (TX12 k).2.2.1 = some (tyX12 k) := by decide +kernel
abbrev cX12_init : ByteArray := prog_14_method_1_code
def yX12_init : MethodName := ⟨RX12, "<init>", "()V"⟩
abbrev cX12_in : ByteArray := prog_14_method_2_code
def yX12_in : MethodName := ⟨RX12, "in", "(III)Z"⟩
abbrev cX12_things : ByteArray := prog_14_method_3_code
def yX12_things : MethodName := ⟨RX12, "things", "()I"⟩
abbrev cX12_lines : ByteArray := prog_14_method_4_code
def yX12_lines : MethodName := ⟨RX12, "lines", "()I"⟩
abbrev cX12_from : ByteArray := prog_14_method_5_code
def yX12_from : MethodName := ⟨RX12, "from", "(I)I"⟩
abbrev cX12_to : ByteArray := prog_14_method_6_code
def yX12_to : MethodName := ⟨RX12, "to", "(I)I"⟩
abbrev cX12_startOf : ByteArray := prog_14_method_7_code
def yX12_startOf : MethodName := ⟨RX12, "startOf", "(I)I"⟩
abbrev cX12_riseOf : ByteArray := prog_14_method_8_code
def yX12_riseOf : MethodName := ⟨RX12, "riseOf", "(I)I"⟩
abbrev cX12_isThing : ByteArray := prog_14_method_9_code
def yX12_isThing : MethodName := ⟨RX12, "isThing", "(I)Z"⟩
abbrev cX12_isOffer : ByteArray := prog_14_method_10_code
def yX12_isOffer : MethodName := ⟨RX12, "isOffer", "(I)Z"⟩
abbrev cX12_isPrice : ByteArray := prog_14_method_11_code
def yX12_isPrice : MethodName := ⟨RX12, "isPrice", "(II)Z"⟩
abbrev cX12_common : ByteArray := prog_14_method_12_code
def yX12_common : MethodName := ⟨RX12, "common", "(JJ)J"⟩
abbrev cX12_lowest : ByteArray := prog_14_method_13_code
def yX12_lowest : MethodName := ⟨RX12, "lowest", "(JJI)J"⟩
abbrev cX12_keeps : ByteArray := prog_14_method_14_code
def yX12_keeps : MethodName := ⟨RX12, "keeps", "()V"⟩
abbrev cX12_thing : ByteArray := prog_14_method_15_code
def yX12_thing : MethodName := ⟨RX12, "thing", "()I"⟩
abbrev cX12_areTold : ByteArray := prog_14_method_16_code
def yX12_areTold : MethodName := ⟨RX12, "areTold", "(II)Z"⟩
abbrev cX12_line : ByteArray := prog_14_method_17_code
def yX12_line : MethodName := ⟨RX12, "line", "(IIII)I"⟩
abbrev cX12_alter : ByteArray := prog_14_method_18_code
def yX12_alter : MethodName := ⟨RX12, "alter", "(III)I"⟩
abbrev cX12_close : ByteArray := prog_14_method_19_code
def yX12_close : MethodName := ⟨RX12, "close", "()I"⟩
abbrev cX12_undo : ByteArray := prog_14_method_20_code
def yX12_undo : MethodName := ⟨RX12, "undo", "()I"⟩
abbrev cX12_lineTold : ByteArray := prog_14_method_21_code
def yX12_lineTold : MethodName := ⟨RX12, "lineTold", "(II)I"⟩
abbrev cX12_made : ByteArray := prog_14_method_22_code
def yX12_made : MethodName := ⟨RX12, "made", "(III)I"⟩
abbrev cX12_told : ByteArray := prog_14_method_23_code
def yX12_told : MethodName := ⟨RX12, "told", "()I"⟩
abbrev cX12_tell : ByteArray := prog_14_method_24_code
def yX12_tell : MethodName := ⟨RX12, "tell", "(II)I"⟩
abbrev cX12_tree : ByteArray := prog_14_method_25_code
def yX12_tree : MethodName := ⟨RX12, "tree", "()I"⟩
abbrev cX12_way : ByteArray := prog_14_method_26_code
def yX12_way : MethodName := ⟨RX12, "way", "(II)I"⟩
abbrev cX12_pairing : ByteArray := prog_14_method_27_code
def yX12_pairing : MethodName := ⟨RX12, "pairing", "(I)I"⟩
abbrev cX12_bits : ByteArray := prog_14_method_28_code
def yX12_bits : MethodName := ⟨RX12, "bits", "(I)I"⟩
abbrev cX12_reached : ByteArray := prog_14_method_29_code
def yX12_reached : MethodName := ⟨RX12, "reached", "(IIZ)I"⟩
abbrev cX12_allThings : ByteArray := prog_14_method_30_code
def yX12_allThings : MethodName := ⟨RX12, "allThings", "()I"⟩
abbrev cX12_allLines : ByteArray := prog_14_method_31_code
def yX12_allLines : MethodName := ⟨RX12, "allLines", "()I"⟩
abbrev cX12_isTree : ByteArray := prog_14_method_32_code
def yX12_isTree : MethodName := ⟨RX12, "isTree", "(I)Z"⟩
abbrev cX12_isWay : ByteArray := prog_14_method_33_code
def yX12_isWay : MethodName := ⟨RX12, "isWay", "(III)Z"⟩
abbrev cX12_isPairing : ByteArray := prog_14_method_34_code
def yX12_isPairing : MethodName := ⟨RX12, "isPairing", "(II)Z"⟩
abbrev cX12_isTold : ByteArray := prog_14_method_35_code
def yX12_isTold : MethodName := ⟨RX12, "isTold", "(II)Z"⟩
abbrev cX12_isChoice : ByteArray := prog_14_method_36_code
def yX12_isChoice : MethodName := ⟨RX12, "isChoice", "(II)Z"⟩
abbrev cX12_ordered : ByteArray := prog_14_method_37_code
def yX12_ordered : MethodName := ⟨RX12, "ordered", "(I)I"⟩
abbrev cX12_gathers : ByteArray := prog_14_method_38_code
def yX12_gathers : MethodName := ⟨RX12, "gathers", "(I)V"⟩
abbrev cX12_placeOf : ByteArray := prog_14_method_39_code
def yX12_placeOf : MethodName := ⟨RX12, "placeOf", "(I)I"⟩
abbrev cX12_barsOf : ByteArray := prog_14_method_40_code
def yX12_barsOf : MethodName := ⟨RX12, "barsOf", "(I)I"⟩
abbrev cX12_beside : ByteArray := prog_14_method_41_code
def yX12_beside : MethodName := ⟨RX12, "beside", "(I)I"⟩
abbrev cX12_offerTold : ByteArray := prog_14_method_42_code
def yX12_offerTold : MethodName := ⟨RX12, "offerTold", "(II)I"⟩
abbrev cX12_choice : ByteArray := prog_14_method_43_code
def yX12_choice : MethodName := ⟨RX12, "choice", "(II)I"⟩
abbrev cX12_cost : ByteArray := prog_14_method_44_code
def yX12_cost : MethodName := ⟨RX12, "cost", "(IIII)J"⟩
abbrev cX12_costAt : ByteArray := prog_14_method_45_code
def yX12_costAt : MethodName := ⟨RX12, "costAt", "(IJJ)J"⟩
abbrev cX12_leastAt : ByteArray := prog_14_method_46_code
def yX12_leastAt : MethodName := ⟨RX12, "leastAt", "(JJ)J"⟩
abbrev cX12_bestAt : ByteArray := prog_14_method_47_code
def yX12_bestAt : MethodName := ⟨RX12, "bestAt", "(JJI)I"⟩
abbrev cX12_best : ByteArray := prog_14_method_48_code
def yX12_best : MethodName := ⟨RX12, "best", "(IIII)I"⟩
abbrev cX12_least : ByteArray := prog_14_method_49_code
def yX12_least : MethodName := ⟨RX12, "least", "(IIII)J"⟩
abbrev cX12_window : ByteArray := prog_14_method_50_code
def yX12_window : MethodName := ⟨RX12, "window", "(IIII)I"⟩
abbrev cX12_point : ByteArray := prog_14_method_51_code
def yX12_point : MethodName := ⟨RX12, "point", "(JJ)V"⟩
abbrev cX12_walks : ByteArray := prog_14_method_52_code
def yX12_walks : MethodName := ⟨RX12, "walks", "()V"⟩
abbrev cX12_prepares : ByteArray := prog_14_method_53_code
def yX12_prepares : MethodName := ⟨RX12, "prepares", "(I)Z"⟩
abbrev cX12_bends : ByteArray := prog_14_method_54_code
def yX12_bends : MethodName := ⟨RX12, "bends", "(I)I"⟩
abbrev cX12_bendOf : ByteArray := prog_14_method_55_code
def yX12_bendOf : MethodName := ⟨RX12, "bendOf", "(II)J"⟩
abbrev cX12_bend : ByteArray := prog_14_method_56_code
def yX12_bend : MethodName := ⟨RX12, "bend", "(III)J"⟩
abbrev cX12_spans : ByteArray := prog_14_method_57_code
def yX12_spans : MethodName := ⟨RX12, "spans", "(I)Z"⟩
abbrev cX12_span : ByteArray := prog_14_method_58_code
def yX12_span : MethodName := ⟨RX12, "span", "(III)J"⟩
abbrev cX12_top : ByteArray := prog_14_method_59_code
def yX12_top : MethodName := ⟨RX12, "top", "(II)J"⟩
abbrev cX12_ratio : ByteArray := prog_14_method_60_code
def yX12_ratio : MethodName := ⟨RX12, "ratio", "(II)J"⟩
abbrev cX12_regrets : ByteArray := prog_14_method_61_code
def yX12_regrets : MethodName := ⟨RX12, "regrets", "(I)V"⟩
abbrev cX12_regret : ByteArray := prog_14_method_62_code
def yX12_regret : MethodName := ⟨RX12, "regret", "(III)J"⟩
abbrev cX12_calm : ByteArray := prog_14_method_63_code
def yX12_calm : MethodName := ⟨RX12, "calm", "(I)I"⟩
abbrev cX12_lineCost : ByteArray := prog_14_method_64_code
def yX12_lineCost : MethodName := ⟨RX12, "lineCost", "(III)J"⟩
abbrev cX12_dearest : ByteArray := prog_14_method_65_code
def yX12_dearest : MethodName := ⟨RX12, "dearest", "(IIII)I"⟩
abbrev cX12_why : ByteArray := prog_14_method_66_code
def yX12_why : MethodName := ⟨RX12, "why", "(IIII)I"⟩
abbrev cX12_write : ByteArray := prog_14_method_67_code
def yX12_write : MethodName := ⟨RX12, "write", "(I)I"⟩
abbrev cX12_row : ByteArray := prog_14_method_68_code
def yX12_row : MethodName := ⟨RX12, "row", "(II)J"⟩
abbrev cX12_forge : ByteArray := prog_14_method_69_code
def yX12_forge : MethodName := ⟨RX12, "forge", "(III)I"⟩
abbrev cX12_wrong : ByteArray := prog_14_method_70_code
def yX12_wrong : MethodName := ⟨RX12, "wrong", "(I)I"⟩
abbrev cX12_check : ByteArray := prog_14_method_71_code
def yX12_check : MethodName := ⟨RX12, "check", "(I)I"⟩
abbrev cX12_ran : ByteArray := prog_14_method_72_code
def yX12_ran : MethodName := ⟨RX12, "ran", "(I)V"⟩
abbrev cX12_treeAsks : ByteArray := prog_14_method_73_code
def yX12_treeAsks : MethodName := ⟨RX12, "treeAsks", "(II)I"⟩
abbrev cX12_asks : ByteArray := prog_14_method_74_code
def yX12_asks : MethodName := ⟨RX12, "asks", "(II)I"⟩
abbrev cX12_toldShows : ByteArray := prog_14_method_75_code
def yX12_toldShows : MethodName := ⟨RX12, "toldShows", "(II)I"⟩
abbrev cX12_shows : ByteArray := prog_14_method_76_code
def yX12_shows : MethodName := ⟨RX12, "shows", "(II)I"⟩
abbrev cX12_toldTurns : ByteArray := prog_14_method_77_code
def yX12_toldTurns : MethodName := ⟨RX12, "toldTurns", "(II)I"⟩
abbrev cX12_turns : ByteArray := prog_14_method_78_code
def yX12_turns : MethodName := ⟨RX12, "turns", "(II)I"⟩
abbrev cX12_act : ByteArray := prog_14_method_79_code
def yX12_act : MethodName := ⟨RX12, "act", "(III)I"⟩
abbrev cX12_trace : ByteArray := prog_14_method_80_code
def yX12_trace : MethodName := ⟨RX12, "trace", "(I)I"⟩
abbrev cX12_count : ByteArray := prog_14_method_81_code
def yX12_count : MethodName := ⟨RX12, "count", "(I)I"⟩
abbrev cX12_isSheet : ByteArray := prog_14_method_82_code
def yX12_isSheet : MethodName := ⟨RX12, "isSheet", "(I)Z"⟩
abbrev cX12_sheet : ByteArray := prog_14_method_83_code
def yX12_sheet : MethodName := ⟨RX12, "sheet", "(III)I"⟩
abbrev cX12_cell : ByteArray := prog_14_method_84_code
def yX12_cell : MethodName := ⟨RX12, "cell", "(III)I"⟩
abbrev cX12_lay : ByteArray := prog_14_method_85_code
def yX12_lay : MethodName := ⟨RX12, "lay", "(III)I"⟩
abbrev cX12_copy : ByteArray := prog_14_method_86_code
def yX12_copy : MethodName := ⟨RX12, "copy", "(IIIII)I"⟩
abbrev cX12_taken : ByteArray := prog_14_method_87_code
def yX12_taken : MethodName := ⟨RX12, "taken", "(II)I"⟩
def RJx8e188 : String := "java/lang/Cloneable"
def TJx8e188 : u_T := fun k => match k with
  | _ => ("", "", "", false)
def tyJx8e188 : Nat → FieldType := fun k => match k with
  | _ => .int
abbrev wsJx8e1880 : List Cond := u_ws RJx8e188 TJx8e188 0
theorem nmJx8e188 : ∀ a, a < 0 → ∀ b, b < 0 → a ≠ b → (TJx8e188 a).2.1 ≠ (TJx8e188 b).2.1 := by decide +kernel
theorem tyJx8e188_ok : ∀ k, k < 0 → parseFieldDescriptor (TJx8e188 k).2.2.1 = some (tyJx8e188 k) := by decide +kernel
def RJ6 : String := "java/lang/Integer"
def TJ6 : u_T := fun k => match k with
  | _ => ("", "", "", false)
def tyJ6 : Nat → FieldType := fun k => match k with
  | _ => .int
abbrev wsJ60 : List Cond := u_ws RJ6 TJ6 0
theorem nmJ6 : ∀ a, a < 0 → ∀ b, b < 0 → a ≠ b → (TJ6 a).2.1 ≠ (TJ6 b).2.1 := by decide +kernel
theorem tyJ6_ok : ∀ k, k < 0 → parseFieldDescriptor (TJ6 k).2.2.1 = some (tyJ6 k) := by decide +kernel
abbrev cJ6_bitCount_0f7a4 : ByteArray := prog_16_method_49_code
def yJ6_bitCount_0f7a4 : MethodName := ⟨RJ6, "bitCount", "(I)I"⟩
def RJ9 : String := "java/lang/Math"
def TJ9 : u_T := fun k => match k with
  | _ => ("", "", "", false)
def tyJ9 : Nat → FieldType := fun k => match k with
  | _ => .int
abbrev wsJ90 : List Cond := u_ws RJ9 TJ9 0
theorem nmJ9 : ∀ a, a < 0 → ∀ b, b < 0 → a ≠ b → (TJ9 a).2.1 ≠ (TJ9 b).2.1 := by decide +kernel
theorem tyJ9_ok : ∀ k, k < 0 → parseFieldDescriptor (TJ9 k).2.2.1 = some (tyJ9 k) := by decide +kernel
abbrev cJ9_abs_0f7a4 : ByteArray := prog_17_method_59_code
def yJ9_abs_0f7a4 : MethodName := ⟨RJ9, "abs", "(I)I"⟩
abbrev cJ9_abs_067f4 : ByteArray := prog_17_method_61_code
def yJ9_abs_067f4 : MethodName := ⟨RJ9, "abs", "(J)J"⟩
abbrev cJ9_min_7cf53 : ByteArray := prog_17_method_69_code
def yJ9_min_7cf53 : MethodName := ⟨RJ9, "min", "(II)I"⟩
def RJ10 : String := "java/lang/System"
def TJ10 : u_T := fun k => match k with
  | _ => ("", "", "", false)
def tyJ10 : Nat → FieldType := fun k => match k with
  | _ => .int
abbrev wsJ100 : List Cond := u_ws RJ10 TJ10 0
theorem nmJ10 : ∀ a, a < 0 → ∀ b, b < 0 → a ≠ b → (TJ10 a).2.1 ≠ (TJ10 b).2.1 := by decide +kernel
theorem tyJ10_ok : ∀ k, k < 0 → parseFieldDescriptor (TJ10 k).2.2.1 = some (tyJ10 k) := by decide +kernel
def RJ7 : String := "java/util/Arrays"
def TJ7 : u_T := fun k => match k with
  | _ => ("", "", "", false)
def tyJ7 : Nat → FieldType := fun k => match k with
  | _ => .int
abbrev wsJ70 : List Cond := u_ws RJ7 TJ7 0
theorem nmJ7 : ∀ a, a < 0 → ∀ b, b < 0 → a ≠ b → (TJ7 a).2.1 ≠ (TJ7 b).2.1 := by decide +kernel
theorem tyJ7_ok : ∀ k, k < 0 → parseFieldDescriptor (TJ7 k).2.2.1 = some (tyJ7 k) := by decide +kernel
abbrev cJ7_fill_d0a16 : ByteArray := prog_19_method_101_code
def yJ7_fill_d0a16 : MethodName := ⟨RJ7, "fill", "([JJ)V"⟩
abbrev cJ7_copyOf_59c91 : ByteArray := prog_19_method_123_code
def yJ7_copyOf_59c91 : MethodName := ⟨RJ7, "copyOf", "([II)[I"⟩
def RL : String := "PriceBenchLaw"
abbrev cL_law : ByteArray := code
def yL_law : MethodName := ⟨RL, "law", "([I)Z"⟩
abbrev vwCl : List vw_C := [(RX0, TX0, 2), (RX1, TX1, 4), (RX2, TX2, 11), (RX4, TX4, 7), (RX5, TX5, 2), (RX6, TX6, 3), (RX7, TX7, 8), (RX8, TX8, 6), (RX9, TX9, 8), (RX10, TX10, 5), (RX11, TX11, 8), (RX12, TX12, 36)]
theorem inX0 : ∀ w ∈ wsX00, w ∈ lw_tbl := by decide +kernel
theorem inX1 : ∀ w ∈ wsX10, w ∈ lw_tbl := by decide +kernel
theorem inX2 : ∀ w ∈ wsX20, w ∈ lw_tbl := by decide +kernel
theorem inX3 : ∀ w ∈ wsX30, w ∈ lw_tbl := by decide +kernel
theorem inX4 : ∀ w ∈ wsX40, w ∈ lw_tbl := by decide +kernel
theorem inX5 : ∀ w ∈ wsX50, w ∈ lw_tbl := by decide +kernel
theorem inX6 : ∀ w ∈ wsX60, w ∈ lw_tbl := by decide +kernel
theorem inX7 : ∀ w ∈ wsX70, w ∈ lw_tbl := by decide +kernel
theorem inX8 : ∀ w ∈ wsX80, w ∈ lw_tbl := by decide +kernel
theorem inX9 : ∀ w ∈ wsX90, w ∈ lw_tbl := by decide +kernel
theorem inX10 : ∀ w ∈ wsX100, w ∈ lw_tbl := by decide +kernel
theorem inX11 : ∀ w ∈ wsX110, w ∈ lw_tbl := by decide +kernel
theorem inX12 : ∀ w ∈ wsX120, w ∈ lw_tbl := by decide +kernel
theorem inJx8e188 : ∀ w ∈ wsJx8e1880, w ∈ lw_tbl := by decide +kernel
theorem inJ6 : ∀ w ∈ wsJ60, w ∈ lw_tbl := by decide +kernel
theorem inJ9 : ∀ w ∈ wsJ90, w ∈ lw_tbl := by decide +kernel
theorem inJ10 : ∀ w ∈ wsJ100, w ∈ lw_tbl := by decide +kernel
theorem inJ7 : ∀ w ∈ wsJ70, w ∈ lw_tbl := by decide +kernel
end
section
/-! A JUDGEMENT OF ITS OWN: a method's frame over a heap that is a function. Wp .. Q: from pc, with these locals and this stack, the method comes to its end with an answer and a heap of which Q holds. -/
/-- a method: name, bytes, locals, what it returns -/
abbrev ev_M : Type := MethodName × ByteArray × Nat × Option FieldType
/-- a cell: an array (its kind: 0 ints, 1 longs, 2 offers, 3 sheets; its content), or an object (its class's number, its fields) -/
abbrev ev_E : Type := (Nat × vp_A) ⊕ (Nat × (Nat → Value))
/-- the heap: cells, the next address, what was made so far (cells and slots together) -/
abbrev ev_H : Type := (Nat → Option ev_E) × Nat × Nat
/-- what never changes: where the part that may be written begins, the addresses of the two static arrays, the int arrays that are only read -/
abbrev ev_B : Type := Nat × (Nat → Nat) × (Nat → Option (Nat × (Nat → Int32)))
abbrev ev_D : Type := va_G × (Nat → ClassId)
def ev_yf : MethodName := ⟨"PriceBench$Offer", "findBends", "(LPriceBench$Window;)V"⟩
/-- a private method of the class above, whatever the receiver's class -/
def ev_x : List Cond := [.selects "PriceBench$Pairing" ev_yf ev_yf, .selects "PriceBench$Told" ev_yf ev_yf, .selects "PriceBench$Tree" ev_yf ev_yf, .selects "PriceBench$Way" ev_yf ev_yf]
def ev_tb : List Cond := (ev_x ++ lw_tbl).filter goodWord
theorem ev_mem {w : Cond} (h : w ∈ lw_tbl) (g : goodWord w = true) : w ∈ ev_tb := List.mem_filter.mpr ⟨List.mem_append_right _ h, g⟩
theorem ev_memx {w : Cond} (h : w ∈ ev_x) (g : goodWord w = true) : w ∈ ev_tb := List.mem_filter.mpr ⟨List.mem_append_left _ h, g⟩
def ev_ty : Nat → FieldType := fun t => match t with
  | 0 => .int
  | 1 => .long
  | 2 => .object "PriceBench$Offer"
  | _ => .object "PriceBench$Sheet"
def ev_at (D : ev_D) (a : Nat) (e : ev_E) (H : Heap) : Prop := match e with
  | .inl x => H[a]? = some (vp_cell (D.2 x.1) x.2)
  | .inr o => ∃ r : vw_C, vwCl[o.1]? = some r ∧ t_OB a (D.1.1 o.1) r.2.2 (D.1.2 o.1) H o.2
def ev_R (B : ev_B) (D : ev_D) (h : ev_H) (H : Heap) : Prop := H.size = h.2.1 ∧ ∀ (a : Nat) (e : ev_E), h.1 a = some e → B.1 ≤ a ∧ ev_at D a e H
/-- the links of nest mates, by class and number -/
def ev_nest : List Cond := lw_tbl.filter (fun w => match w with | .methodLinkNest .. => true | .declares _ => true | _ => false)
def ev_Yc (C T : String) (U : State) : Prop := ∃ c t : ClassId, U.vm.findClass C = some c ∧ U.vm.findClass T = some t ∧ U.vm.assignable c t = true
def ev_K (D : ev_D) (s : State) : Prop := va_K D.1 vwCl [] s ∧ (∀ t : Nat, t < 4 → ArrOfT s (D.2 t) (ev_ty t) ∧ va_RA s (D.2 t) (ev_ty t)) ∧ (∀ w ∈ ev_nest, va_Nw w s) ∧
  (va_Nc "PriceBench$Tree" "PriceBench$Told" s ∧ va_Nc "PriceBench$Way" "PriceBench$Told" s ∧ va_Nc "PriceBench$Pairing" "PriceBench$Told" s) ∧ va_AO "PriceBench$Offer" s ∧ va_AO "PriceBench$Sheet" s ∧
  ∀ C ∈ ["PriceBench$Pairing", "PriceBench$Told", "PriceBench$Tree", "PriceBench$Way"], ev_Yc C "PriceBench$Offer" s
def ev_A (B : ev_B) : Nat → Prop := fun q => B.1 ≤ q
def ev_Z (B : ev_B) (s : State) (H : Heap) : Prop := va_Z "PriceBench$Acts" "KIND_ABOVE" "[I" (.ref (B.2.1 0)) (ev_A B) s H ∧ va_Z "PriceBench$Acts" "BODIES" "[I" (.ref (B.2.1 1)) (ev_A B) s H ∧
  ∀ (t N : Nat) (f : Nat → Int32), B.2.2 t = some (N, f) → va_T .int t N (fun j => .int (f j)) (ev_A B) s H
def ev_G (B : ev_B) (D : ev_D) (d : Nat) (M : ev_M) (p : Program) (R : Room) (s : State) (m : MethodId) (args : Array Value) (meth : Method) (c : Code) : Prop :=
  p.tables.exec = Jvm.exec ∧ c.code = M.2.1 ∧ c.maxLocals = M.2.2.1 ∧ meth.sig.returnType = M.2.2.2 ∧ meth.locks = false ∧ s.vm.findClass M.1.cls = some m.cls ∧ meth.name = M.1.name ∧ (∀ w ∈ ev_tb, w.before args s = true) ∧ ev_K D s ∧
  d ≤ R.frames ∧ 40 * d ≤ R.locals ∧ B.1 ≤ s.heap.size ∧ ev_Z B s s.heap
/-- the locals: a place each; none: nothing is known of it -/
def ev_L (ls : List (Option Value)) (a : Array Slot) (n : Nat) : Prop := a.size = n ∧ lv_wf a ∧ ∀ (i : Nat) (v : Value), ls[i]? = some (some v) → a[i]? = some (.val v)
def ev_Q (B : ev_B) (D : ev_D) (v : Option Value) (h' : ev_H) : Array Value → State → Outcome → State → Prop := fun _ st o t => o = .returned v ∧ ev_R B D h' t.heap ∧ va_F (ev_A B) st t
def Ev (B : ev_B) (d : Nat) (M : ev_M) (pc : Nat) (ls : List (Option Value)) (st : List Value) (h : ev_H) (v : Option Value) (h' : ev_H) : Prop :=
  h.2.2 ≤ h'.2.2 ∧ ∀ (D : ev_D) (p : Program) (l : Launch) (e : Env) (R : Room) (s : State) (m : MethodId) (args : Array Value) (below : List Frame) (meth : Method) (c : Code), ev_G B D d M p R s m args meth c →
    ∀ (H : Heap) (locs : List Loc) (a : Array Slot) (cells slots : Nat), ev_R B D h H → va_S (ev_A B) s.heap H locs → ev_L ls a M.2.2.1 → cells + (h'.2.2 - h.2.2) ≤ R.cells → slots + (h'.2.2 - h.2.2) ≤ R.slots →
      W p l e R s m args below meth c H locs cells slots (MQ below (ev_Q B D v h') args s (cells + (h'.2.2 - h.2.2)) (slots + (h'.2.2 - h.2.2)) (ev_A B)) (F0 m pc a st)
def Wp (B : ev_B) (d : Nat) (M : ev_M) (pc : Nat) (ls : List (Option Value)) (st : List Value) (h : ev_H) (Q : Option Value → ev_H → Prop) : Prop := ∃ (v : Option Value) (h' : ev_H), Ev B d M pc ls st h v h' ∧ Q v h'
theorem Wp.mono {B : ev_B} {d : Nat} {M : ev_M} {pc : Nat} {ls : List (Option Value)} {st : List Value} {h : ev_H} {Q Q' : Option Value → ev_H → Prop} (k : Wp B d M pc ls st h Q) (f : ∀ v h', Q v h' → Q' v h') : Wp B d M pc ls st h Q' := by
  obtain ⟨v, h', hE, hQ⟩ := k
  exact ⟨v, h', hE, f v h' hQ⟩
theorem Wp.eqs {B : ev_B} {d : Nat} {M : ev_M} {pc pc' : Nat} {ls ls' : List (Option Value)} {st st' : List Value} {h h' : ev_H} {Q : Option Value → ev_H → Prop} (k : Wp B d M pc' ls' st' h' Q) (e1 : pc = pc') (e2 : ls = ls') (e3 : st = st') (e4 : h = h') : Wp B d M pc ls st h Q := by
  subst e1; subst e2; subst e3; subst e4; exact k
section EV
variable {B : ev_B} {d : Nat} {M : ev_M} {pc n : Nat} {ls ls' : List (Option Value)} {st st' : List Value} {h : ev_H} {Q : Option Value → ev_H → Prop}
/-- one instruction that leaves the heap -/
theorem Wp.go {pc' : Nat} (f : ∀ (D : ev_D) (p : Program) (l : Launch) (e : Env) (R : Room) (s : State) (m : MethodId) (args : Array Value) (below : List Frame) (meth : Method) (c : Code) (H : Heap) (locs : List Loc) (a : Array Slot) (cells slots : Nat) (Qf : State → Prop),
      ev_G B D d M p R s m args meth c → ev_R B D h H → va_S (ev_A B) s.heap H locs → ev_L ls a M.2.2.1 →
      (∀ a' : Array Slot, ev_L ls' a' M.2.2.1 → W p l e R s m args below meth c H locs cells slots Qf (F0 m pc' a' st')) → W p l e R s m args below meth c H locs cells slots Qf (F0 m pc a st))
    (k : Wp B d M pc' ls' st' h Q) : Wp B d M pc ls st h Q := by
  obtain ⟨v, h', ⟨hw, hE⟩, hQ⟩ := k
  refine ⟨v, h', ⟨hw, fun D p l e R s m args below meth c hG H locs a cells slots hR hS hL h1 h2 => ?_⟩, hQ⟩
  exact f D p l e R s m args below meth c H locs a cells slots _ hG hR hS hL (fun a' hL' => hE D p l e R s m args below meth c hG H locs a' cells slots hR hS hL' h1 h2)
end EV
/-! the locals -/
def ev_pr (ls : List (Option Value)) : List (Nat × Value) := (List.range ls.length).filterMap (fun i => match ls[i]? with | some (some v) => some (i, v) | _ => none)
theorem ev_pr_mem {ls : List (Option Value)} {q : Nat × Value} : q ∈ ev_pr ls ↔ ls[q.1]? = some (some q.2) := by
  unfold ev_pr
  rw [List.mem_filterMap]
  constructor
  · rintro ⟨i, hi, h⟩
    split at h
    next v hv => cases h; exact hv
    next => cases h
  · intro h
    refine ⟨q.1, List.mem_range.mpr (List.getElem?_eq_some_iff.mp h).1, ?_⟩
    rw [h]
theorem ev_L.has {ls : List (Option Value)} {a : Array Slot} {n : Nat} (h : ev_L ls a n) : lv_has a n (ev_pr ls) := ⟨h.1, h.2.1, fun q hq => h.2.2 q.1 q.2 (ev_pr_mem.mp hq)⟩
theorem ev_L.get {ls : List (Option Value)} {a : Array Slot} {n i : Nat} {v : Value} (h : ev_L ls a n) (hi : ls[i]? = some (some v)) : a[i]? = some (.val v) := h.2.2 i v hi
def ev_cl : Option Value → Option Value
  | some v => if v.category = 2 then none else some v
  | none => none
/-- a value of one slot is stored -/
def ev_st1 : List (Option Value) → Nat → Value → List (Option Value)
  | [], _, _ => []
  | _ :: t, 0, v => some v :: t
  | x :: t, 1, v => ev_cl x :: ev_st1 t 0 v
  | x :: t, i + 2, v => x :: ev_st1 t (i + 1) v
/-- a long is stored -/
def ev_st2 : List (Option Value) → Nat → Value → List (Option Value)
  | [], _, _ => []
  | [_], 0, _ => [none]
  | _ :: _ :: t, 0, v => some v :: none :: t
  | x :: t, 1, v => ev_cl x :: ev_st2 t 0 v
  | x :: t, i + 2, v => x :: ev_st2 t (i + 1) v
theorem ev_cl_some {x : Option Value} {w : Value} (h : ev_cl x = some w) : x = some w ∧ ¬ w.category = 2 := by
  cases x with
  | none => cases h
  | some v =>
    simp only [ev_cl] at h
    split at h
    · cases h
    · next hc => cases h; exact ⟨rfl, hc⟩
theorem ev_st1_spec : ∀ (ls : List (Option Value)) (i : Nat) (v : Value) (j : Nat) (w : Value), (ev_st1 ls i v)[j]? = some (some w) → (j = i ∧ w = v) ∨ (j ≠ i ∧ ls[j]? = some (some w) ∧ ¬ (j + 1 = i ∧ w.category = 2))
  | [], _, _, j, w, h => by simp [ev_st1] at h
  | x :: t, 0, v, 0, w, h => by
    simp [ev_st1] at h
    exact Or.inl ⟨rfl, h.symm⟩
  | x :: t, 0, v, j + 1, w, h => by
    simp [ev_st1] at h
    exact Or.inr ⟨by omega, by simpa using h, by omega⟩
  | x :: t, 1, v, 0, w, h => by
    simp [ev_st1] at h
    obtain ⟨h1, h2⟩ := ev_cl_some h
    exact Or.inr ⟨by omega, by simp [h1], fun z => h2 z.2⟩
  | x :: t, 1, v, j + 1, w, h => by
    simp only [ev_st1, List.getElem?_cons_succ] at h
    rcases ev_st1_spec t 0 v j w h with ⟨a, b⟩ | ⟨a, b, c⟩
    · exact Or.inl ⟨by omega, b⟩
    · exact Or.inr ⟨by omega, by simpa using b, by omega⟩
  | x :: t, i + 2, v, 0, w, h => by
    simp [ev_st1] at h
    exact Or.inr ⟨by omega, by simp [h], by omega⟩
  | x :: t, i + 2, v, j + 1, w, h => by
    simp only [ev_st1, List.getElem?_cons_succ] at h
    rcases ev_st1_spec t (i + 1) v j w h with ⟨a, b⟩ | ⟨a, b, c⟩
    · exact Or.inl ⟨by omega, b⟩
    · exact Or.inr ⟨by omega, by simpa using b, fun z => c ⟨by omega, z.2⟩⟩
theorem ev_st2_spec : ∀ (ls : List (Option Value)) (i : Nat) (v : Value) (j : Nat) (w : Value), (ev_st2 ls i v)[j]? = some (some w) → (j = i ∧ w = v) ∨ (j ≠ i ∧ j ≠ i + 1 ∧ ls[j]? = some (some w) ∧ ¬ (j + 1 = i ∧ w.category = 2))
  | [], _, _, j, w, h => by simp [ev_st2] at h
  | [x], 0, v, j, w, h => by
    cases j <;> simp [ev_st2] at h
  | x :: y :: t, 0, v, 0, w, h => by
    simp [ev_st2] at h
    exact Or.inl ⟨rfl, h.symm⟩
  | x :: y :: t, 0, v, 1, w, h => by simp [ev_st2] at h
  | x :: y :: t, 0, v, j + 2, w, h => by
    simp [ev_st2] at h
    exact Or.inr ⟨by omega, by omega, by simpa using h, by omega⟩
  | x :: t, 1, v, 0, w, h => by
    cases t <;> simp [ev_st2] at h <;> (obtain ⟨h1, h2⟩ := ev_cl_some h; exact Or.inr ⟨by omega, by omega, by simp [h1], fun z => h2 z.2⟩)
  | x :: t, 1, v, j + 1, w, h => by
    have h' : (ev_st2 t 0 v)[j]? = some (some w) := by cases t <;> simpa [ev_st2] using h
    rcases ev_st2_spec t 0 v j w h' with ⟨a, b⟩ | ⟨a, a2, b, c⟩
    · exact Or.inl ⟨by omega, b⟩
    · exact Or.inr ⟨by omega, by omega, by simpa using b, by omega⟩
  | x :: t, i + 2, v, 0, w, h => by
    have h' : x = some w := by cases t <;> simpa [ev_st2] using h
    exact Or.inr ⟨by omega, by omega, by simp [h'], by omega⟩
  | x :: t, i + 2, v, j + 1, w, h => by
    have h' : (ev_st2 t (i + 1) v)[j]? = some (some w) := by cases t <;> simpa [ev_st2] using h
    rcases ev_st2_spec t (i + 1) v j w h' with ⟨a, b⟩ | ⟨a, a2, b, c⟩
    · exact Or.inl ⟨by omega, b⟩
    · exact Or.inr ⟨by omega, by omega, by simpa using b, fun z => c ⟨by omega, z.2⟩⟩
theorem ev_L.st1 {ls : List (Option Value)} {a : Array Slot} {n i : Nat} {v : Value} (h : lv_has a n ((i, v) :: (ev_pr ls).filter (fun q => !(q.1 == i) && !(q.1 + 1 == i && q.2.category == 2)))) : ev_L (ev_st1 ls i v) a n := by
  refine ⟨h.1, h.2.1, fun j w hj => ?_⟩
  rcases ev_st1_spec ls i v j w hj with ⟨rfl, rfl⟩ | ⟨h1, h2, h3⟩
  · exact h.2.2 (j, w) List.mem_cons_self
  · refine h.2.2 (j, w) (List.mem_cons_of_mem _ (List.mem_filter.mpr ⟨ev_pr_mem.mpr h2, ?_⟩))
    by_cases h4 : w.category = 2
    · have : ¬ j + 1 = i := fun z => h3 ⟨z, h4⟩
      simp [h1, this]
    · simp [h1, h4]
theorem ev_L.st2 {ls : List (Option Value)} {a : Array Slot} {n i : Nat} {v : Value} (h : lv_has a n ((i, v) :: (ev_pr ls).filter (fun q => !(q.1 == i) && (!(q.1 == i + 1) && !(q.1 + 1 == i && q.2.category == 2))))) : ev_L (ev_st2 ls i v) a n := by
  refine ⟨h.1, h.2.1, fun j w hj => ?_⟩
  rcases ev_st2_spec ls i v j w hj with ⟨rfl, rfl⟩ | ⟨h1, h1', h2, h3⟩
  · exact h.2.2 (j, w) List.mem_cons_self
  · refine h.2.2 (j, w) (List.mem_cons_of_mem _ (List.mem_filter.mpr ⟨ev_pr_mem.mpr h2, ?_⟩))
    by_cases h4 : w.category = 2
    · have : ¬ j + 1 = i := fun z => h3 ⟨z, h4⟩
      simp [h1, h1', this]
    · simp [h1, h1', h4]
end
section
theorem ev_lc_eq {x y : Int64} : (lg_cmp x y = 0) ↔ x = y := by
  unfold lg_cmp
  by_cases h1 : x > y
  · rw [if_pos h1]; exact ⟨fun z => absurd z (by decide), fun z => by subst z; exact absurd h1 (by simp)⟩
  · rw [if_neg h1]
    by_cases h2 : x = y
    · rw [if_pos h2]; simp [h2]
    · rw [if_neg h2]; exact ⟨fun z => absurd z (by decide), fun z => absurd z h2⟩
theorem ev_lc_ne {x y : Int64} : (¬ lg_cmp x y = 0) ↔ ¬ x = y := not_congr ev_lc_eq
theorem ev_lc_ge {x y : Int64} : (0 ≤ lg_cmp x y) ↔ y ≤ x := lg_cmp_ge x y
theorem ev_lc_le {x y : Int64} : (lg_cmp x y ≤ 0) ↔ x ≤ y := lg_cmp_le x y
theorem ev_lc_lt {x y : Int64} : (lg_cmp x y < 0) ↔ x < y := by
  have h := @ev_lc_ge x y
  constructor
  · intro z
    refine Int64.not_le.mp fun q => ?_
    exact absurd (h.mpr q) (Int32.not_le.mpr z)
  · intro z
    refine Int32.not_le.mp fun q => ?_
    exact absurd (h.mp q) (Int64.not_le.mpr z)
theorem ev_lc_gt {x y : Int64} : (0 < lg_cmp x y) ↔ y < x := by
  have h := @ev_lc_le x y
  constructor
  · intro z
    refine Int64.not_le.mp fun q => ?_
    exact absurd (h.mpr q) (Int32.not_le.mpr z)
  · intro z
    refine Int32.not_le.mp fun q => ?_
    exact absurd (h.mp q) (Int64.not_le.mpr z)
/-! one row an instruction: those that leave the heap -/
def ev_isr (v : Value) : Prop := v = .null ∨ ∃ a : Nat, v = .ref a
section EVI
variable {B : ev_B} {d : Nat} {M : ev_M} {pc n : Nat} {ls ls' : List (Option Value)} {st st' : List Value} {h : ev_H} {Q : Option Value → ev_H → Prop}
theorem Wp.iadd {x y : Int32} (hd : decode M.2.1 pc = .ok (.iadd, 1)) (hn : pc + 1 = n) (k : Wp B d M n ls (.int (x + y) :: st) h Q) : Wp B d M pc ls (.int y :: .int x :: st) h Q := by
  subst hn
  exact Wp.go (fun D p l e R s m args below meth c H locs a cells slots Qf hG hR hS hL kk => lv_iadd hG.1 hG.2.1 hd (kk a hL)) k
theorem Wp.isub {x y : Int32} (hd : decode M.2.1 pc = .ok (.isub, 1)) (hn : pc + 1 = n) (k : Wp B d M n ls (.int (x - y) :: st) h Q) : Wp B d M pc ls (.int y :: .int x :: st) h Q := by
  subst hn
  exact Wp.go (fun D p l e R s m args below meth c H locs a cells slots Qf hG hR hS hL kk => lv_isub hG.1 hG.2.1 hd (kk a hL)) k
theorem Wp.imul {x y : Int32} (hd : decode M.2.1 pc = .ok (.imul, 1)) (hn : pc + 1 = n) (k : Wp B d M n ls (.int (x * y) :: st) h Q) : Wp B d M pc ls (.int y :: .int x :: st) h Q := by
  subst hn
  exact Wp.go (fun D p l e R s m args below meth c H locs a cells slots Qf hG hR hS hL kk => lv_imul hG.1 hG.2.1 hd (kk a hL)) k
theorem Wp.iand {x y : Int32} (hd : decode M.2.1 pc = .ok (.iand, 1)) (hn : pc + 1 = n) (k : Wp B d M n ls (.int (x &&& y) :: st) h Q) : Wp B d M pc ls (.int y :: .int x :: st) h Q := by
  subst hn
  exact Wp.go (fun D p l e R s m args below meth c H locs a cells slots Qf hG hR hS hL kk => lv_iand hG.1 hG.2.1 hd (kk a hL)) k
theorem Wp.ior {x y : Int32} (hd : decode M.2.1 pc = .ok (.ior, 1)) (hn : pc + 1 = n) (k : Wp B d M n ls (.int (x ||| y) :: st) h Q) : Wp B d M pc ls (.int y :: .int x :: st) h Q := by
  subst hn
  exact Wp.go (fun D p l e R s m args below meth c H locs a cells slots Qf hG hR hS hL kk => lv_ior hG.1 hG.2.1 hd (kk a hL)) k
theorem Wp.ixor {x y : Int32} (hd : decode M.2.1 pc = .ok (.ixor, 1)) (hn : pc + 1 = n) (k : Wp B d M n ls (.int (x ^^^ y) :: st) h Q) : Wp B d M pc ls (.int y :: .int x :: st) h Q := by
  subst hn
  exact Wp.go (fun D p l e R s m args below meth c H locs a cells slots Qf hG hR hS hL kk => lv_ixor hG.1 hG.2.1 hd (kk a hL)) k
theorem Wp.ishl {x y : Int32} (hd : decode M.2.1 pc = .ok (.ishl, 1)) (hn : pc + 1 = n) (k : Wp B d M n ls (.int (x <<< (y &&& 31)) :: st) h Q) : Wp B d M pc ls (.int y :: .int x :: st) h Q := by
  subst hn
  exact Wp.go (fun D p l e R s m args below meth c H locs a cells slots Qf hG hR hS hL kk => lv_ishl hG.1 hG.2.1 hd (kk a hL)) k
theorem Wp.ishr {x y : Int32} (hd : decode M.2.1 pc = .ok (.ishr, 1)) (hn : pc + 1 = n) (k : Wp B d M n ls (.int (x >>> (y &&& 31)) :: st) h Q) : Wp B d M pc ls (.int y :: .int x :: st) h Q := by
  subst hn
  exact Wp.go (fun D p l e R s m args below meth c H locs a cells slots Qf hG hR hS hL kk => lv_ishr hG.1 hG.2.1 hd (kk a hL)) k
theorem Wp.irem {x y : Int32} (hd : decode M.2.1 pc = .ok (.irem, 1)) (hne : ¬ y = 0) (hn : pc + 1 = n) (k : Wp B d M n ls (.int (x - x / y * y) :: st) h Q) : Wp B d M pc ls (.int y :: .int x :: st) h Q := by
  subst hn
  exact Wp.go (fun D p l e R s m args below meth c H locs a cells slots Qf hG hR hS hL kk => lv_irem hG.1 hG.2.1 hd hne (kk a hL)) k
theorem Wp.ladd {x y : Int64} (hd : decode M.2.1 pc = .ok (.ladd, 1)) (hn : pc + 1 = n) (k : Wp B d M n ls (.long (x + y) :: st) h Q) : Wp B d M pc ls (.long y :: .long x :: st) h Q := by
  subst hn
  exact Wp.go (fun D p l e R s m args below meth c H locs a cells slots Qf hG hR hS hL kk => lv_ladd hG.1 hG.2.1 hd (kk a hL)) k
theorem Wp.lsub {x y : Int64} (hd : decode M.2.1 pc = .ok (.lsub, 1)) (hn : pc + 1 = n) (k : Wp B d M n ls (.long (x - y) :: st) h Q) : Wp B d M pc ls (.long y :: .long x :: st) h Q := by
  subst hn
  exact Wp.go (fun D p l e R s m args below meth c H locs a cells slots Qf hG hR hS hL kk => lv_lsub hG.1 hG.2.1 hd (kk a hL)) k
theorem Wp.lmul {x y : Int64} (hd : decode M.2.1 pc = .ok (.lmul, 1)) (hn : pc + 1 = n) (k : Wp B d M n ls (.long (x * y) :: st) h Q) : Wp B d M pc ls (.long y :: .long x :: st) h Q := by
  subst hn
  exact Wp.go (fun D p l e R s m args below meth c H locs a cells slots Qf hG hR hS hL kk => lv_lmul hG.1 hG.2.1 hd (kk a hL)) k
theorem Wp.ldiv {x y : Int64} (hd : decode M.2.1 pc = .ok (.ldiv, 1)) (hne : ¬ y = 0) (hn : pc + 1 = n) (k : Wp B d M n ls (.long (x / y) :: st) h Q) : Wp B d M pc ls (.long y :: .long x :: st) h Q := by
  subst hn
  exact Wp.go (fun D p l e R s m args below meth c H locs a cells slots Qf hG hR hS hL kk => lv_ldiv hG.1 hG.2.1 hd hne (kk a hL)) k
theorem Wp.lrem {x y : Int64} (hd : decode M.2.1 pc = .ok (.lrem, 1)) (hne : ¬ y = 0) (hn : pc + 1 = n) (k : Wp B d M n ls (.long (x - x / y * y) :: st) h Q) : Wp B d M pc ls (.long y :: .long x :: st) h Q := by
  subst hn
  exact Wp.go (fun D p l e R s m args below meth c H locs a cells slots Qf hG hR hS hL kk => lv_lrem hG.1 hG.2.1 hd hne (kk a hL)) k
theorem Wp.iushr {x y : Int32} (hd : decode M.2.1 pc = .ok (.iushr, 1)) (hn : pc + 1 = n) (k : Wp B d M n ls (.int ((x.toUInt32 >>> (y.toUInt32 &&& Int32.toUInt32 31)).toInt32) :: st) h Q) : Wp B d M pc ls (.int y :: .int x :: st) h Q := by
  subst hn
  exact Wp.go (fun D p l e R s m args below meth c H locs a cells slots Qf hG hR hS hL kk => lv_iushr hG.1 hG.2.1 hd rfl (kk a hL)) k
theorem Wp.ineg {x : Int32} (hd : decode M.2.1 pc = .ok (.ineg, 1)) (hn : pc + 1 = n) (k : Wp B d M n ls (.int (-x) :: st) h Q) : Wp B d M pc ls (.int x :: st) h Q := by
  subst hn
  exact Wp.go (fun D p l e R s m args below meth c H locs a cells slots Qf hG hR hS hL kk => lv_ineg hG.1 hG.2.1 hd (kk a hL)) k
theorem Wp.lneg {x : Int64} (hd : decode M.2.1 pc = .ok (.lneg, 1)) (hn : pc + 1 = n) (k : Wp B d M n ls (.long (-x) :: st) h Q) : Wp B d M pc ls (.long x :: st) h Q := by
  subst hn
  exact Wp.go (fun D p l e R s m args below meth c H locs a cells slots Qf hG hR hS hL kk => lv_lneg hG.1 hG.2.1 hd (kk a hL)) k
theorem Wp.i2l {x : Int32} (hd : decode M.2.1 pc = .ok (.i2l, 1)) (hn : pc + 1 = n) (k : Wp B d M n ls (.long x.toInt64 :: st) h Q) : Wp B d M pc ls (.int x :: st) h Q := by
  subst hn
  exact Wp.go (fun D p l e R s m args below meth c H locs a cells slots Qf hG hR hS hL kk => lv_i2l hG.1 hG.2.1 hd rfl (kk a hL)) k
theorem Wp.l2i {x : Int64} (hd : decode M.2.1 pc = .ok (.l2i, 1)) (hn : pc + 1 = n) (k : Wp B d M n ls (.int x.toInt32 :: st) h Q) : Wp B d M pc ls (.long x :: st) h Q := by
  subst hn
  exact Wp.go (fun D p l e R s m args below meth c H locs a cells slots Qf hG hR hS hL kk => lv_l2i hG.1 hG.2.1 hd rfl (kk a hL)) k
theorem Wp.i2b {x : Int32} (hd : decode M.2.1 pc = .ok (.i2b, 1)) (hn : pc + 1 = n) (k : Wp B d M n ls (.int x.toInt8.toInt32 :: st) h Q) : Wp B d M pc ls (.int x :: st) h Q := by
  subst hn
  exact Wp.go (fun D p l e R s m args below meth c H locs a cells slots Qf hG hR hS hL kk => lv_i2b hG.1 hG.2.1 hd rfl (kk a hL)) k
theorem Wp.lcmp {x y : Int64} (hd : decode M.2.1 pc = .ok (.lcmp, 1)) (hn : pc + 1 = n) (k : Wp B d M n ls (.int (lg_cmp x y) :: st) h Q) : Wp B d M pc ls (.long y :: .long x :: st) h Q := by
  subst hn
  exact Wp.go (fun D p l e R s m args below meth c H locs a cells slots Qf hG hR hS hL kk => W.lcmp hG.1 hG.2.1 hd (kk a hL)) k
theorem Wp.iconst {i : Int} {v : Int32} (hd : decode M.2.1 pc = .ok (.iconst i, 1)) (hv : Int32.ofInt i = v) (hn : pc + 1 = n) (k : Wp B d M n ls (.int v :: st) h Q) : Wp B d M pc ls st h Q := by
  subst hn
  exact Wp.go (fun D p l e R s m args below meth c H locs a cells slots Qf hG hR hS hL kk => lv_iconst hG.1 hG.2.1 hd hv (kk a hL)) k
theorem Wp.bipush {i : Int} {v : Int32} (hd : decode M.2.1 pc = .ok (.bipush i, 2)) (hv : (Int8.ofInt i).toInt32 = v) (hn : pc + 2 = n) (k : Wp B d M n ls (.int v :: st) h Q) : Wp B d M pc ls st h Q := by
  subst hn
  exact Wp.go (fun D p l e R s m args below meth c H locs a cells slots Qf hG hR hS hL kk => lv_bipush hG.1 hG.2.1 hd hv (kk a hL)) k
theorem Wp.sipush {i : Int} {v : Int32} (hd : decode M.2.1 pc = .ok (.sipush i, 3)) (hv : (Int16.ofInt i).toInt32 = v) (hn : pc + 3 = n) (k : Wp B d M n ls (.int v :: st) h Q) : Wp B d M pc ls st h Q := by
  subst hn
  exact Wp.go (fun D p l e R s m args below meth c H locs a cells slots Qf hG hR hS hL kk => lv_sipush hG.1 hG.2.1 hd hv (kk a hL)) k
theorem Wp.lconst {i : Fin 2} {v : Int64} (hd : decode M.2.1 pc = .ok (.lconst i, 1)) (hv : Int64.ofNat (i : Nat) = v) (hn : pc + 1 = n) (k : Wp B d M n ls (.long v :: st) h Q) : Wp B d M pc ls st h Q := by
  subst hn
  exact Wp.go (fun D p l e R s m args below meth c H locs a cells slots Qf hG hR hS hL kk => lv_lconst hG.1 hG.2.1 hd hv (kk a hL)) k
theorem Wp.aconst_null (hd : decode M.2.1 pc = .ok (.aconst_null, 1)) (hn : pc + 1 = n) (k : Wp B d M n ls (.null :: st) h Q) : Wp B d M pc ls st h Q := by
  subst hn
  exact Wp.go (fun D p l e R s m args below meth c H locs a cells slots Qf hG hR hS hL kk => lv_null hG.1 hG.2.1 hd (kk a hL)) k
theorem Wp.dup {x : Value} (hd : decode M.2.1 pc = .ok (.dup, 1)) (hx : x.category = 1) (hn : pc + 1 = n) (k : Wp B d M n ls (x :: x :: st) h Q) : Wp B d M pc ls (x :: st) h Q := by
  subst hn
  exact Wp.go (fun D p l e R s m args below meth c H locs a cells slots Qf hG hR hS hL kk => lv_dup hG.1 hG.2.1 hd hx (kk a hL)) k
theorem Wp.pop {x : Value} (hd : decode M.2.1 pc = .ok (.pop, 1)) (hx : x.category = 1) (hn : pc + 1 = n) (k : Wp B d M n ls st h Q) : Wp B d M pc ls (x :: st) h Q := by
  subst hn
  exact Wp.go (fun D p l e R s m args below meth c H locs a cells slots Qf hG hR hS hL kk => lv_pop hG.1 hG.2.1 hd hx (kk a hL)) k
theorem Wp.dup_x1 {x y : Value} (hd : decode M.2.1 pc = .ok (.dup_x1, 1)) (hx : x.category = 1) (hy : y.category = 1) (hn : pc + 1 = n) (k : Wp B d M n ls (x :: y :: x :: st) h Q) : Wp B d M pc ls (x :: y :: st) h Q := by
  subst hn
  exact Wp.go (fun D p l e R s m args below meth c H locs a cells slots Qf hG hR hS hL kk => lv_dup_x1 hG.1 hG.2.1 hd hx hy (kk a hL)) k
theorem Wp.dup2 {x y : Value} (hd : decode M.2.1 pc = .ok (.dup2, 1)) (hx : x.category = 1) (hy : y.category = 1) (hn : pc + 1 = n) (k : Wp B d M n ls (x :: y :: x :: y :: st) h Q) : Wp B d M pc ls (x :: y :: st) h Q := by
  subst hn
  exact Wp.go (fun D p l e R s m args below meth c H locs a cells slots Qf hG hR hS hL kk => lv_dup2_11 hG.1 hG.2.1 hd hx hy (kk a hL)) k
theorem Wp.iload_n {k : Fin 4} {x : Int32} (hd : decode M.2.1 pc = .ok (.iload_n k, 1)) (hl : ls[(k : Nat)]? = some (some (.int x))) (hn : pc + 1 = n) (k : Wp B d M n ls (.int x :: st) h Q) : Wp B d M pc ls st h Q := by
  subst hn
  exact Wp.go (fun D p l e R s m args below meth c H locs a cells slots Qf hG hR hS hL kk => lv_iload_n hG.1 hG.2.1 hd rfl (hL.get hl) (kk a hL)) k
theorem Wp.iload {i : Nat} {x : Int32} (hd : decode M.2.1 pc = .ok (.iload i, 2)) (hl : ls[i]? = some (some (.int x))) (hn : pc + 2 = n) (k : Wp B d M n ls (.int x :: st) h Q) : Wp B d M pc ls st h Q := by
  subst hn
  exact Wp.go (fun D p l e R s m args below meth c H locs a cells slots Qf hG hR hS hL kk => lv_iload hG.1 hG.2.1 hd (hL.get hl) (kk a hL)) k
theorem Wp.lload_n {k : Fin 4} {x : Int64} (hd : decode M.2.1 pc = .ok (.lload_n k, 1)) (hl : ls[(k : Nat)]? = some (some (.long x))) (hn : pc + 1 = n) (k : Wp B d M n ls (.long x :: st) h Q) : Wp B d M pc ls st h Q := by
  subst hn
  exact Wp.go (fun D p l e R s m args below meth c H locs a cells slots Qf hG hR hS hL kk => lv_lload_n hG.1 hG.2.1 hd rfl (hL.get hl) (kk a hL)) k
theorem Wp.lload {i : Nat} {x : Int64} (hd : decode M.2.1 pc = .ok (.lload i, 2)) (hl : ls[i]? = some (some (.long x))) (hn : pc + 2 = n) (k : Wp B d M n ls (.long x :: st) h Q) : Wp B d M pc ls st h Q := by
  subst hn
  exact Wp.go (fun D p l e R s m args below meth c H locs a cells slots Qf hG hR hS hL kk => lv_lload hG.1 hG.2.1 hd (hL.get hl) (kk a hL)) k
theorem Wp.aload_n {k : Fin 4} {x : Value} (hd : decode M.2.1 pc = .ok (.aload_n k, 1)) (hl : ls[(k : Nat)]? = some (some x)) (hx : ev_isr x) (hn : pc + 1 = n) (k' : Wp B d M n ls (x :: st) h Q) : Wp B d M pc ls st h Q := by
  subst hn
  rcases hx with rfl | ⟨b, rfl⟩
  · exact Wp.go (fun D p l e R s m args below meth c H locs a cells slots Qf hG hR hS hL kk => lv_aload_nN hG.1 hG.2.1 hd rfl (hL.get hl) (kk a hL)) k'
  · exact Wp.go (fun D p l e R s m args below meth c H locs a cells slots Qf hG hR hS hL kk => lv_aload_n hG.1 hG.2.1 hd rfl (hL.get hl) (kk a hL)) k'
theorem Wp.aload {i : Nat} {x : Value} (hd : decode M.2.1 pc = .ok (.aload i, 2)) (hl : ls[i]? = some (some x)) (hx : ev_isr x) (hn : pc + 2 = n) (k' : Wp B d M n ls (x :: st) h Q) : Wp B d M pc ls st h Q := by
  subst hn
  rcases hx with rfl | ⟨b, rfl⟩
  · exact Wp.go (fun D p l e R s m args below meth c H locs a cells slots Qf hG hR hS hL kk => lv_aloadN hG.1 hG.2.1 hd (hL.get hl) (kk a hL)) k'
  · exact Wp.go (fun D p l e R s m args below meth c H locs a cells slots Qf hG hR hS hL kk => lv_aload hG.1 hG.2.1 hd (hL.get hl) (kk a hL)) k'
theorem Wp.istore_n {i : Fin 4} {x : Int32} (hd : decode M.2.1 pc = .ok (.istore_n i, 1)) (hi : (i : Nat) < M.2.2.1) (hl : ev_st1 ls (i : Nat) (.int x) = ls') (hn : pc + 1 = n) (k : Wp B d M n ls' st h Q) : Wp B d M pc ls (.int x :: st) h Q := by
  subst hn; subst hl
  exact Wp.go (fun D p l e R s m args below meth c H locs a cells slots Qf hG hR hS hL kk => lv_istore_n hG.1 hG.2.1 hd rfl hL.has hi rfl (fun a' h' => kk a' (ev_L.st1 h'))) k
theorem Wp.istore {i : Nat} {x : Int32} (hd : decode M.2.1 pc = .ok (.istore i, 2)) (hi : i < M.2.2.1) (hl : ev_st1 ls i (.int x) = ls') (hn : pc + 2 = n) (k : Wp B d M n ls' st h Q) : Wp B d M pc ls (.int x :: st) h Q := by
  subst hn; subst hl
  exact Wp.go (fun D p l e R s m args below meth c H locs a cells slots Qf hG hR hS hL kk => lv_istore hG.1 hG.2.1 hd hL.has hi rfl (fun a' h' => kk a' (ev_L.st1 h'))) k
theorem Wp.lstore_n {i : Fin 4} {x : Int64} (hd : decode M.2.1 pc = .ok (.lstore_n i, 1)) (hi : (i : Nat) + 1 < M.2.2.1) (hl : ev_st2 ls (i : Nat) (.long x) = ls') (hn : pc + 1 = n) (k : Wp B d M n ls' st h Q) : Wp B d M pc ls (.long x :: st) h Q := by
  subst hn; subst hl
  exact Wp.go (fun D p l e R s m args below meth c H locs a cells slots Qf hG hR hS hL kk => lv_lstore_n hG.1 hG.2.1 hd rfl hL.has hi rfl (fun a' h' => kk a' (ev_L.st2 h'))) k
theorem Wp.lstore {i : Nat} {x : Int64} (hd : decode M.2.1 pc = .ok (.lstore i, 2)) (hi : i + 1 < M.2.2.1) (hl : ev_st2 ls i (.long x) = ls') (hn : pc + 2 = n) (k : Wp B d M n ls' st h Q) : Wp B d M pc ls (.long x :: st) h Q := by
  subst hn; subst hl
  exact Wp.go (fun D p l e R s m args below meth c H locs a cells slots Qf hG hR hS hL kk => lv_lstore hG.1 hG.2.1 hd hL.has hi rfl (fun a' h' => kk a' (ev_L.st2 h'))) k
theorem Wp.astore_n {i : Fin 4} {x : Value} (hd : decode M.2.1 pc = .ok (.astore_n i, 1)) (hx : ev_isr x) (hi : (i : Nat) < M.2.2.1) (hl : ev_st1 ls (i : Nat) x = ls') (hn : pc + 1 = n) (k : Wp B d M n ls' st h Q) : Wp B d M pc ls (x :: st) h Q := by
  subst hn; subst hl
  rcases hx with rfl | ⟨b, rfl⟩
  · exact Wp.go (fun D p l e R s m args below meth c H locs a cells slots Qf hG hR hS hL kk => lv_astore_nN hG.1 hG.2.1 hd rfl hL.has hi rfl (fun a' h' => kk a' (ev_L.st1 h'))) k
  · exact Wp.go (fun D p l e R s m args below meth c H locs a cells slots Qf hG hR hS hL kk => lv_astore_n hG.1 hG.2.1 hd rfl hL.has hi rfl (fun a' h' => kk a' (ev_L.st1 h'))) k
theorem Wp.astore {i : Nat} {x : Value} (hd : decode M.2.1 pc = .ok (.astore i, 2)) (hx : ev_isr x) (hi : i < M.2.2.1) (hl : ev_st1 ls i x = ls') (hn : pc + 2 = n) (k : Wp B d M n ls' st h Q) : Wp B d M pc ls (x :: st) h Q := by
  subst hn; subst hl
  rcases hx with rfl | ⟨b, rfl⟩
  · exact Wp.go (fun D p l e R s m args below meth c H locs a cells slots Qf hG hR hS hL kk => lv_astoreN hG.1 hG.2.1 hd hL.has hi rfl (fun a' h' => kk a' (ev_L.st1 h'))) k
  · exact Wp.go (fun D p l e R s m args below meth c H locs a cells slots Qf hG hR hS hL kk => lv_astore hG.1 hG.2.1 hd hL.has hi rfl (fun a' h' => kk a' (ev_L.st1 h'))) k
theorem Wp.iinc {i : Nat} {z : Int} {x v : Int32} (hd : decode M.2.1 pc = .ok (.iinc i z, 3)) (hx : ls[i]? = some (some (.int x))) (hv : x + Int32.ofInt z = v) (hi : i < M.2.2.1) (hl : ev_st1 ls i (.int v) = ls') (hn : pc + 3 = n) (k : Wp B d M n ls' st h Q) : Wp B d M pc ls st h Q := by
  subst hn; subst hl
  refine Wp.go (fun D p l e R s m args below meth c H locs a cells slots Qf hG hR hS hL kk => ?_) k
  obtain ⟨j, hj⟩ := List.getElem?_of_mem (ev_pr_mem (q := (i, .int x)).mpr hx)
  exact lv_iinc hG.1 hG.2.1 hd hL.has hj hv hi rfl (fun a' h' => kk a' (ev_L.st1 h'))
theorem Wp.goto {off : Int} (hd : decode M.2.1 pc = .ok (.goto off, 3)) (ht : (pc : Int) + off = (n : Int)) (k : Wp B d M n ls st h Q) : Wp B d M pc ls st h Q :=
  Wp.go (fun D p l e R s m args below meth c H locs a cells slots Qf hG hR hS hL kk => lv_goto hG.1 hG.2.1 hd ht (kk a hL)) k
theorem Wp.icmp_eq {x y : Int32} {off : Int} {tgt : Nat} (hd : decode M.2.1 pc = .ok (.if_icmp .eq off, 3)) (ht : (pc : Int) + off = (tgt : Int)) (hn : pc + 3 = n) (kt : x = y → Wp B d M tgt ls st h Q) (kf : ¬ x = y → Wp B d M n ls st h Q) : Wp B d M pc ls (.int y :: .int x :: st) h Q := by
  subst hn
  by_cases hc : x = y
  · exact Wp.go (fun D p l e R s m args below meth c H locs a cells slots Qf hG hR hS hL kk => lv_icmp_eq hG.1 hG.2.1 hd ht (fun _ => kk a hL) (fun z => absurd hc z)) (kt hc)
  · exact Wp.go (fun D p l e R s m args below meth c H locs a cells slots Qf hG hR hS hL kk => lv_icmp_eq hG.1 hG.2.1 hd ht (fun z => absurd z hc) (fun _ => kk a hL)) (kf hc)
theorem Wp.if_eq {x : Int32} {off : Int} {tgt : Nat} (hd : decode M.2.1 pc = .ok (.ifCond .eq off, 3)) (ht : (pc : Int) + off = (tgt : Int)) (hn : pc + 3 = n) (kt : x = 0 → Wp B d M tgt ls st h Q) (kf : ¬ x = 0 → Wp B d M n ls st h Q) : Wp B d M pc ls (.int x :: st) h Q := by
  subst hn
  by_cases hc : x = 0
  · exact Wp.go (fun D p l e R s m args below meth c H locs a cells slots Qf hG hR hS hL kk => lv_if_eq hG.1 hG.2.1 hd ht (fun _ => kk a hL) (fun z => absurd hc z)) (kt hc)
  · exact Wp.go (fun D p l e R s m args below meth c H locs a cells slots Qf hG hR hS hL kk => lv_if_eq hG.1 hG.2.1 hd ht (fun z => absurd z hc) (fun _ => kk a hL)) (kf hc)
theorem Wp.icmp_ne {x y : Int32} {off : Int} {tgt : Nat} (hd : decode M.2.1 pc = .ok (.if_icmp .ne off, 3)) (ht : (pc : Int) + off = (tgt : Int)) (hn : pc + 3 = n) (kt : ¬ x = y → Wp B d M tgt ls st h Q) (kf : x = y → Wp B d M n ls st h Q) : Wp B d M pc ls (.int y :: .int x :: st) h Q := by
  subst hn
  by_cases hc : ¬ x = y
  · exact Wp.go (fun D p l e R s m args below meth c H locs a cells slots Qf hG hR hS hL kk => lv_icmp_ne hG.1 hG.2.1 hd ht (fun _ => kk a hL) (fun z => absurd z hc)) (kt hc)
  · exact Wp.go (fun D p l e R s m args below meth c H locs a cells slots Qf hG hR hS hL kk => lv_icmp_ne hG.1 hG.2.1 hd ht (fun z => absurd z hc) (fun _ => kk a hL)) (kf (Classical.not_not.mp hc))
theorem Wp.if_ne {x : Int32} {off : Int} {tgt : Nat} (hd : decode M.2.1 pc = .ok (.ifCond .ne off, 3)) (ht : (pc : Int) + off = (tgt : Int)) (hn : pc + 3 = n) (kt : ¬ x = 0 → Wp B d M tgt ls st h Q) (kf : x = 0 → Wp B d M n ls st h Q) : Wp B d M pc ls (.int x :: st) h Q := by
  subst hn
  by_cases hc : ¬ x = 0
  · exact Wp.go (fun D p l e R s m args below meth c H locs a cells slots Qf hG hR hS hL kk => lv_if_ne hG.1 hG.2.1 hd ht (fun _ => kk a hL) (fun z => absurd z hc)) (kt hc)
  · exact Wp.go (fun D p l e R s m args below meth c H locs a cells slots Qf hG hR hS hL kk => lv_if_ne hG.1 hG.2.1 hd ht (fun z => absurd z hc) (fun _ => kk a hL)) (kf (Classical.not_not.mp hc))
theorem Wp.icmp_lt {x y : Int32} {off : Int} {tgt : Nat} (hd : decode M.2.1 pc = .ok (.if_icmp .lt off, 3)) (ht : (pc : Int) + off = (tgt : Int)) (hn : pc + 3 = n) (kt : x < y → Wp B d M tgt ls st h Q) (kf : ¬ x < y → Wp B d M n ls st h Q) : Wp B d M pc ls (.int y :: .int x :: st) h Q := by
  subst hn
  by_cases hc : x < y
  · exact Wp.go (fun D p l e R s m args below meth c H locs a cells slots Qf hG hR hS hL kk => lv_icmp_lt hG.1 hG.2.1 hd ht (fun _ => kk a hL) (fun z => absurd hc z)) (kt hc)
  · exact Wp.go (fun D p l e R s m args below meth c H locs a cells slots Qf hG hR hS hL kk => lv_icmp_lt hG.1 hG.2.1 hd ht (fun z => absurd z hc) (fun _ => kk a hL)) (kf hc)
theorem Wp.if_lt {x : Int32} {off : Int} {tgt : Nat} (hd : decode M.2.1 pc = .ok (.ifCond .lt off, 3)) (ht : (pc : Int) + off = (tgt : Int)) (hn : pc + 3 = n) (kt : x < 0 → Wp B d M tgt ls st h Q) (kf : ¬ x < 0 → Wp B d M n ls st h Q) : Wp B d M pc ls (.int x :: st) h Q := by
  subst hn
  by_cases hc : x < 0
  · exact Wp.go (fun D p l e R s m args below meth c H locs a cells slots Qf hG hR hS hL kk => lv_if_lt hG.1 hG.2.1 hd ht (fun _ => kk a hL) (fun z => absurd hc z)) (kt hc)
  · exact Wp.go (fun D p l e R s m args below meth c H locs a cells slots Qf hG hR hS hL kk => lv_if_lt hG.1 hG.2.1 hd ht (fun z => absurd z hc) (fun _ => kk a hL)) (kf hc)
theorem Wp.icmp_ge {x y : Int32} {off : Int} {tgt : Nat} (hd : decode M.2.1 pc = .ok (.if_icmp .ge off, 3)) (ht : (pc : Int) + off = (tgt : Int)) (hn : pc + 3 = n) (kt : y ≤ x → Wp B d M tgt ls st h Q) (kf : ¬ y ≤ x → Wp B d M n ls st h Q) : Wp B d M pc ls (.int y :: .int x :: st) h Q := by
  subst hn
  by_cases hc : y ≤ x
  · exact Wp.go (fun D p l e R s m args below meth c H locs a cells slots Qf hG hR hS hL kk => lv_icmp_ge hG.1 hG.2.1 hd ht (fun _ => kk a hL) (fun z => absurd hc z)) (kt hc)
  · exact Wp.go (fun D p l e R s m args below meth c H locs a cells slots Qf hG hR hS hL kk => lv_icmp_ge hG.1 hG.2.1 hd ht (fun z => absurd z hc) (fun _ => kk a hL)) (kf hc)
theorem Wp.if_ge {x : Int32} {off : Int} {tgt : Nat} (hd : decode M.2.1 pc = .ok (.ifCond .ge off, 3)) (ht : (pc : Int) + off = (tgt : Int)) (hn : pc + 3 = n) (kt : 0 ≤ x → Wp B d M tgt ls st h Q) (kf : ¬ 0 ≤ x → Wp B d M n ls st h Q) : Wp B d M pc ls (.int x :: st) h Q := by
  subst hn
  by_cases hc : 0 ≤ x
  · exact Wp.go (fun D p l e R s m args below meth c H locs a cells slots Qf hG hR hS hL kk => lv_if_ge hG.1 hG.2.1 hd ht (fun _ => kk a hL) (fun z => absurd hc z)) (kt hc)
  · exact Wp.go (fun D p l e R s m args below meth c H locs a cells slots Qf hG hR hS hL kk => lv_if_ge hG.1 hG.2.1 hd ht (fun z => absurd z hc) (fun _ => kk a hL)) (kf hc)
theorem Wp.icmp_gt {x y : Int32} {off : Int} {tgt : Nat} (hd : decode M.2.1 pc = .ok (.if_icmp .gt off, 3)) (ht : (pc : Int) + off = (tgt : Int)) (hn : pc + 3 = n) (kt : y < x → Wp B d M tgt ls st h Q) (kf : ¬ y < x → Wp B d M n ls st h Q) : Wp B d M pc ls (.int y :: .int x :: st) h Q := by
  subst hn
  by_cases hc : y < x
  · exact Wp.go (fun D p l e R s m args below meth c H locs a cells slots Qf hG hR hS hL kk => lv_icmp_gt hG.1 hG.2.1 hd ht (fun _ => kk a hL) (fun z => absurd hc z)) (kt hc)
  · exact Wp.go (fun D p l e R s m args below meth c H locs a cells slots Qf hG hR hS hL kk => lv_icmp_gt hG.1 hG.2.1 hd ht (fun z => absurd z hc) (fun _ => kk a hL)) (kf hc)
theorem Wp.if_gt {x : Int32} {off : Int} {tgt : Nat} (hd : decode M.2.1 pc = .ok (.ifCond .gt off, 3)) (ht : (pc : Int) + off = (tgt : Int)) (hn : pc + 3 = n) (kt : 0 < x → Wp B d M tgt ls st h Q) (kf : ¬ 0 < x → Wp B d M n ls st h Q) : Wp B d M pc ls (.int x :: st) h Q := by
  subst hn
  by_cases hc : 0 < x
  · exact Wp.go (fun D p l e R s m args below meth c H locs a cells slots Qf hG hR hS hL kk => lv_if_gt hG.1 hG.2.1 hd ht (fun _ => kk a hL) (fun z => absurd hc z)) (kt hc)
  · exact Wp.go (fun D p l e R s m args below meth c H locs a cells slots Qf hG hR hS hL kk => lv_if_gt hG.1 hG.2.1 hd ht (fun z => absurd z hc) (fun _ => kk a hL)) (kf hc)
theorem Wp.icmp_le {x y : Int32} {off : Int} {tgt : Nat} (hd : decode M.2.1 pc = .ok (.if_icmp .le off, 3)) (ht : (pc : Int) + off = (tgt : Int)) (hn : pc + 3 = n) (kt : x ≤ y → Wp B d M tgt ls st h Q) (kf : ¬ x ≤ y → Wp B d M n ls st h Q) : Wp B d M pc ls (.int y :: .int x :: st) h Q := by
  subst hn
  by_cases hc : x ≤ y
  · exact Wp.go (fun D p l e R s m args below meth c H locs a cells slots Qf hG hR hS hL kk => lv_icmp_le hG.1 hG.2.1 hd ht (fun _ => kk a hL) (fun z => absurd hc z)) (kt hc)
  · exact Wp.go (fun D p l e R s m args below meth c H locs a cells slots Qf hG hR hS hL kk => lv_icmp_le hG.1 hG.2.1 hd ht (fun z => absurd z hc) (fun _ => kk a hL)) (kf hc)
theorem Wp.if_le {x : Int32} {off : Int} {tgt : Nat} (hd : decode M.2.1 pc = .ok (.ifCond .le off, 3)) (ht : (pc : Int) + off = (tgt : Int)) (hn : pc + 3 = n) (kt : x ≤ 0 → Wp B d M tgt ls st h Q) (kf : ¬ x ≤ 0 → Wp B d M n ls st h Q) : Wp B d M pc ls (.int x :: st) h Q := by
  subst hn
  by_cases hc : x ≤ 0
  · exact Wp.go (fun D p l e R s m args below meth c H locs a cells slots Qf hG hR hS hL kk => lv_if_le hG.1 hG.2.1 hd ht (fun _ => kk a hL) (fun z => absurd hc z)) (kt hc)
  · exact Wp.go (fun D p l e R s m args below meth c H locs a cells slots Qf hG hR hS hL kk => lv_if_le hG.1 hG.2.1 hd ht (fun z => absurd z hc) (fun _ => kk a hL)) (kf hc)
theorem Wp.lcmp_eq {x y : Int64} {off : Int} {tgt pc1 : Nat} (hd0 : decode M.2.1 pc = .ok (.lcmp, 1)) (h1 : pc + 1 = pc1) (hd : decode M.2.1 pc1 = .ok (.ifCond .eq off, 3)) (ht : (pc1 : Int) + off = (tgt : Int)) (hn : pc1 + 3 = n) (kt : x = y → Wp B d M tgt ls st h Q) (kf : ¬ x = y → Wp B d M n ls st h Q) : Wp B d M pc ls (.long y :: .long x :: st) h Q :=
  Wp.lcmp hd0 h1 (Wp.if_eq hd ht hn (fun z => kt (ev_lc_eq.mp z)) (fun z => kf (fun q => z (ev_lc_eq.mpr q))))
theorem Wp.lcmp_ne {x y : Int64} {off : Int} {tgt pc1 : Nat} (hd0 : decode M.2.1 pc = .ok (.lcmp, 1)) (h1 : pc + 1 = pc1) (hd : decode M.2.1 pc1 = .ok (.ifCond .ne off, 3)) (ht : (pc1 : Int) + off = (tgt : Int)) (hn : pc1 + 3 = n) (kt : ¬ x = y → Wp B d M tgt ls st h Q) (kf : x = y → Wp B d M n ls st h Q) : Wp B d M pc ls (.long y :: .long x :: st) h Q :=
  Wp.lcmp hd0 h1 (Wp.if_ne hd ht hn (fun z => kt (ev_lc_ne.mp z)) (fun z => kf (ev_lc_eq.mp z)))
theorem Wp.lcmp_lt {x y : Int64} {off : Int} {tgt pc1 : Nat} (hd0 : decode M.2.1 pc = .ok (.lcmp, 1)) (h1 : pc + 1 = pc1) (hd : decode M.2.1 pc1 = .ok (.ifCond .lt off, 3)) (ht : (pc1 : Int) + off = (tgt : Int)) (hn : pc1 + 3 = n) (kt : x < y → Wp B d M tgt ls st h Q) (kf : ¬ x < y → Wp B d M n ls st h Q) : Wp B d M pc ls (.long y :: .long x :: st) h Q :=
  Wp.lcmp hd0 h1 (Wp.if_lt hd ht hn (fun z => kt (ev_lc_lt.mp z)) (fun z => kf (fun q => z (ev_lc_lt.mpr q))))
theorem Wp.lcmp_ge {x y : Int64} {off : Int} {tgt pc1 : Nat} (hd0 : decode M.2.1 pc = .ok (.lcmp, 1)) (h1 : pc + 1 = pc1) (hd : decode M.2.1 pc1 = .ok (.ifCond .ge off, 3)) (ht : (pc1 : Int) + off = (tgt : Int)) (hn : pc1 + 3 = n) (kt : y ≤ x → Wp B d M tgt ls st h Q) (kf : ¬ y ≤ x → Wp B d M n ls st h Q) : Wp B d M pc ls (.long y :: .long x :: st) h Q :=
  Wp.lcmp hd0 h1 (Wp.if_ge hd ht hn (fun z => kt (ev_lc_ge.mp z)) (fun z => kf (fun q => z (ev_lc_ge.mpr q))))
theorem Wp.lcmp_gt {x y : Int64} {off : Int} {tgt pc1 : Nat} (hd0 : decode M.2.1 pc = .ok (.lcmp, 1)) (h1 : pc + 1 = pc1) (hd : decode M.2.1 pc1 = .ok (.ifCond .gt off, 3)) (ht : (pc1 : Int) + off = (tgt : Int)) (hn : pc1 + 3 = n) (kt : y < x → Wp B d M tgt ls st h Q) (kf : ¬ y < x → Wp B d M n ls st h Q) : Wp B d M pc ls (.long y :: .long x :: st) h Q :=
  Wp.lcmp hd0 h1 (Wp.if_gt hd ht hn (fun z => kt (ev_lc_gt.mp z)) (fun z => kf (fun q => z (ev_lc_gt.mpr q))))
theorem Wp.lcmp_le {x y : Int64} {off : Int} {tgt pc1 : Nat} (hd0 : decode M.2.1 pc = .ok (.lcmp, 1)) (h1 : pc + 1 = pc1) (hd : decode M.2.1 pc1 = .ok (.ifCond .le off, 3)) (ht : (pc1 : Int) + off = (tgt : Int)) (hn : pc1 + 3 = n) (kt : x ≤ y → Wp B d M tgt ls st h Q) (kf : ¬ x ≤ y → Wp B d M n ls st h Q) : Wp B d M pc ls (.long y :: .long x :: st) h Q :=
  Wp.lcmp hd0 h1 (Wp.if_le hd ht hn (fun z => kt (ev_lc_le.mp z)) (fun z => kf (fun q => z (ev_lc_le.mpr q))))
theorem Wp.tswIn {dflt lo hi : Int} {offs : Array Int} {len : Nat} {x : Int32} {off : Int} (hd : decode M.2.1 pc = .ok (.tableswitch dflt lo hi offs, len)) (h1 : ¬ x.toInt < lo) (h2 : ¬ hi < x.toInt) (ho : offs[(x.toInt - lo).toNat]? = some off) (ht : (pc : Int) + off = (n : Int)) (k : Wp B d M n ls st h Q) : Wp B d M pc ls (.int x :: st) h Q :=
  Wp.go (fun D p l e R s m args below meth c H locs a cells slots Qf hG hR hS hL kk => lv_tableIn hG.1 hG.2.1 hd h1 h2 ho ht (kk a hL)) k
theorem Wp.tswOut {dflt lo hi : Int} {offs : Array Int} {len : Nat} {x : Int32} (hd : decode M.2.1 pc = .ok (.tableswitch dflt lo hi offs, len)) (h1 : x.toInt < lo ∨ hi < x.toInt) (ht : (pc : Int) + dflt = (n : Int)) (k : Wp B d M n ls st h Q) : Wp B d M pc ls (.int x :: st) h Q :=
  Wp.go (fun D p l e R s m args below meth c H locs a cells slots Qf hG hR hS hL kk => lv_tableOut hG.1 hG.2.1 hd h1 ht (kk a hL)) k
theorem Wp.lsw {dflt : Int} {ps : Array (Int × Int)} {len : Nat} {x : Int32} {off : Int} (hd : decode M.2.1 pc = .ok (.lookupswitch dflt ps, len)) (hp : (ps.toList.zip (ps.toList.drop 1)).all (fun (a, next) => a.1 < next.1) = true) (ho : Op.lookupswitch.offset ps.toList dflt x.toInt = off) (ht : (pc : Int) + off = (n : Int)) (k : Wp B d M n ls st h Q) : Wp B d M pc ls (.int x :: st) h Q :=
  Wp.go (fun D p l e R s m args below meth c H locs a cells slots Qf hG hR hS hL kk => lv_lookup hG.1 hG.2.1 hd hp ho ht (kk a hL)) k
theorem Wp.ifnull {x : Nat} {off : Int} (hd : decode M.2.1 pc = .ok (.ifnull off, 3)) (hn : pc + 3 = n) (k : Wp B d M n ls st h Q) : Wp B d M pc ls (.ref x :: st) h Q := by
  subst hn
  exact Wp.go (fun D p l e R s m args below meth c H locs a cells slots Qf hG hR hS hL kk => lv_ifnull hG.1 hG.2.1 hd (kk a hL)) k
theorem Wp.ifnullN {off : Int} (hd : decode M.2.1 pc = .ok (.ifnull off, 3)) (ht : (pc : Int) + off = (n : Int)) (k : Wp B d M n ls st h Q) : Wp B d M pc ls (.null :: st) h Q :=
  Wp.go (fun D p l e R s m args below meth c H locs a cells slots Qf hG hR hS hL kk => lv_ifnullN hG.1 hG.2.1 hd ht (kk a hL)) k
theorem Wp.ifnonnull {x : Nat} {off : Int} (hd : decode M.2.1 pc = .ok (.ifnonnull off, 3)) (ht : (pc : Int) + off = (n : Int)) (k : Wp B d M n ls st h Q) : Wp B d M pc ls (.ref x :: st) h Q :=
  Wp.go (fun D p l e R s m args below meth c H locs a cells slots Qf hG hR hS hL kk => lv_ifnonnull hG.1 hG.2.1 hd ht (kk a hL)) k
theorem Wp.ifnonnullN {off : Int} (hd : decode M.2.1 pc = .ok (.ifnonnull off, 3)) (hn : pc + 3 = n) (k : Wp B d M n ls st h Q) : Wp B d M pc ls (.null :: st) h Q := by
  subst hn
  exact Wp.go (fun D p l e R s m args below meth c H locs a cells slots Qf hG hR hS hL kk => lv_ifnonnullN hG.1 hG.2.1 hd (kk a hL)) k
theorem Wp.ldc {i : Nat} {v : Int32} (hc : Cond.constant M.1.cls i v ∈ lw_tbl) (hd : decode M.2.1 pc = .ok (.ldc i, 2)) (hn : pc + 2 = n) (k : Wp B d M n ls (.int v :: st) h Q) : Wp B d M pc ls st h Q := by
  subst hn
  exact Wp.go (fun D p l e R s m args below meth c H locs a cells slots Qf hG hR hS hL kk => lv_ldc hG.1 hG.2.1 hG.2.2.2.2.2.1 (hG.2.2.2.2.2.2.2.1 _ (ev_mem hc rfl)) hd (kk a hL)) k
theorem Wp.ldc_w {i : Nat} {v : Int32} (hc : Cond.constant M.1.cls i v ∈ lw_tbl) (hd : decode M.2.1 pc = .ok (.ldc_w i, 3)) (hn : pc + 3 = n) (k : Wp B d M n ls (.int v :: st) h Q) : Wp B d M pc ls st h Q := by
  subst hn
  exact Wp.go (fun D p l e R s m args below meth c H locs a cells slots Qf hG hR hS hL kk => lv_ldcw hG.1 hG.2.1 hG.2.2.2.2.2.1 (hG.2.2.2.2.2.2.2.1 _ (ev_mem hc rfl)) hd (kk a hL)) k
theorem Wp.ldc2 {i : Nat} {v : Int64} (hc : Cond.constantLong M.1.cls i v ∈ lw_tbl) (hd : decode M.2.1 pc = .ok (.ldc2_w i, 3)) (hn : pc + 3 = n) (k : Wp B d M n ls (.long v :: st) h Q) : Wp B d M pc ls st h Q := by
  subst hn
  exact Wp.go (fun D p l e R s m args below meth c H locs a cells slots Qf hG hR hS hL kk => lv_ldc2 hG.1 hG.2.1 hG.2.2.2.2.2.1 (hG.2.2.2.2.2.2.2.1 _ (ev_mem hc rfl)) hd (kk a hL)) k
end EVI
end
section
/-! rows that read or write the heap -/
def ev_up (h : ev_H) (a : Nat) (e : ev_E) : ev_H := (fun q => if q = a then some e else h.1 q, h.2)
def ev_nw (h : ev_H) (e : ev_E) (k : Nat) : ev_H := (fun q => if q = h.2.1 then some e else h.1 q, h.2.1 + 1, h.2.2 + (k + 1))
theorem ev_up_s {h : ev_H} {a : Nat} {e : ev_E} : (ev_up h a e).1 a = some e := by simp [ev_up]
theorem ev_up_o {h : ev_H} {a b : Nat} {e : ev_E} (hb : b ≠ a) : (ev_up h a e).1 b = h.1 b := by simp [ev_up, hb]
theorem ev_up_w {h : ev_H} {a : Nat} {e : ev_E} : (ev_up h a e).2 = h.2 := rfl
theorem ev_nw_s {h : ev_H} {k : Nat} {e : ev_E} : (ev_nw h e k).1 h.2.1 = some e := by simp [ev_nw]
theorem ev_nw_o {h : ev_H} {b k : Nat} {e : ev_E} (hb : b ≠ h.2.1) : (ev_nw h e k).1 b = h.1 b := by simp [ev_nw, hb]
theorem ev_nw_n {h : ev_H} {k : Nat} {e : ev_E} : (ev_nw h e k).2.1 = h.2.1 + 1 := rfl
theorem ev_nw_w {h : ev_H} {k : Nat} {e : ev_E} : (ev_nw h e k).2.2 = h.2.2 + (k + 1) := rfl
/-- an int array, a long array, an array of references, an object -/
abbrev ev_ia (N : Nat) (f : Nat → Int32) : ev_E := .inl (0, N, .inl f)
abbrev ev_la (N : Nat) (f : Nat → Int64) : ev_E := .inl (1, N, .inr (.inl f))
abbrev ev_qa (t N : Nat) (f : Nat → Option Nat) : ev_E := .inl (t, N, .inr (.inr (.inr (.inr f))))
abbrev ev_ob (ci : Nat) (V : Nat → Value) : ev_E := .inr (ci, V)
theorem ev_at.kept {D : ev_D} {a : Nat} {e : ev_E} {H H1 : Heap} (h : ev_at D a e H) (hq : H1[a]? = H[a]?) : ev_at D a e H1 := by
  cases e with
  | inl x => exact hq.trans h
  | inr o =>
    obtain ⟨r, h1, h2⟩ := h
    exact ⟨r, h1, h2.kept hq⟩
theorem ev_at.lt {D : ev_D} {a : Nat} {e : ev_E} {H : Heap} (h : ev_at D a e H) : a < H.size := by
  cases e with
  | inl x => exact (Array.getElem?_eq_some_iff.mp h).1
  | inr o =>
    obtain ⟨r, h1, cell, h2, -⟩ := h
    exact (Array.getElem?_eq_some_iff.mp h2).1
theorem ev_R.up {B : ev_B} {D : ev_D} {h : ev_H} {H H1 : Heap} {a : Nat} {e0 e : ev_E} (hR : ev_R B D h H) (ha : h.1 a = some e0) (z : H1.size = H.size) (he : ev_at D a e H1) (oq : ∀ q : Nat, q ≠ a → H1[q]? = H[q]?) : ev_R B D (ev_up h a e) H1 := by
  refine ⟨z.trans hR.1, fun b x hx => ?_⟩
  by_cases hb : b = a
  · subst hb
    rw [ev_up_s] at hx
    cases hx
    exact ⟨(hR.2 _ _ ha).1, he⟩
  · rw [ev_up_o hb] at hx
    exact ⟨(hR.2 _ _ hx).1, (hR.2 _ _ hx).2.kept (oq b hb)⟩
theorem ev_R.nw {B : ev_B} {D : ev_D} {h : ev_H} {H H1 : Heap} {k : Nat} {e : ev_E} (hR : ev_R B D h H) (hb : B.1 ≤ H.size) (z : H1.size = H.size + 1) (he : ev_at D H.size e H1) (oq : ∀ q : Nat, q < H.size → H1[q]? = H[q]?) : ev_R B D (ev_nw h e k) H1 := by
  refine ⟨by rw [z, hR.1]; rfl, fun b x hx => ?_⟩
  by_cases hb' : b = h.2.1
  · subst hb'
    rw [ev_nw_s] at hx
    cases hx
    rw [← hR.1]
    exact ⟨hb, he⟩
  · rw [ev_nw_o hb'] at hx
    exact ⟨(hR.2 _ _ hx).1, (hR.2 _ _ hx).2.kept (oq b (hR.2 _ _ hx).2.lt)⟩
theorem ev_S.put {B : ev_B} {D : ev_D} {h : ev_H} {H0 H H1 : Heap} {locs : List Loc} {a k : Nat} {e0 : ev_E} (hS : va_S (ev_A B) H0 H locs) (hR : ev_R B D h H) (ha : h.1 a = some e0) (z : H1.size = H.size) (oq : ∀ q : Nat, q ≠ a → H1[q]? = H[q]?) : va_S (ev_A B) H0 H1 (locs ++ [⟨a, k⟩]) := hS.put z oq (hR.2 _ _ ha).1
theorem ev_S.nw {B : ev_B} {H0 H H1 : Heap} {locs : List Loc} (hS : va_S (ev_A B) H0 H locs) (z : H1.size = H.size + 1) (oq : ∀ q : Nat, q < H.size → H1[q]? = H[q]?) : va_S (ev_A B) H0 H1 locs :=
  ⟨Nat.le_trans hS.1 (by omega), fun x h1 h2 => (oq x (Nat.lt_of_lt_of_le h1 hS.1)).trans (hS.2.1 x h1 h2), hS.2.2⟩
/-! the links -/
def ev_FL (own : String) (idx ci k : Nat) : Prop := ∃ (ref C : String) (T : u_T) (N : Nat), vwCl[ci]? = some (C, T, N) ∧ k < N ∧ Cond.fieldLink own idx ref (T k).2.1 (T k).2.2.1 ∈ ev_tb ∧ (∀ w ∈ u_ws C T N, w ∈ ev_tb) ∧ ((T k).1 = ref ∨ Cond.sameField ref (T k).1 (T k).2.1 (T k).2.2.1 ∈ ev_tb)
def ev_FP (own : String) (idx ci k : Nat) (ty : FieldType) (fin : Bool) : Prop := ∃ (ref C : String) (T : u_T) (N : Nat) (ty0 : Nat → FieldType), vwCl[ci]? = some (C, T, N) ∧ k < N ∧ Cond.fieldLink own idx ref (T k).2.1 (T k).2.2.1 ∈ ev_tb ∧ (∀ w ∈ u_ws C T N, w ∈ ev_tb) ∧ (T k).1 = ref ∧
  (∀ k, k < N → parseFieldDescriptor (T k).2.2.1 = some (ty0 k)) ∧ (∀ a, a < N → ∀ b, b < N → a ≠ b → (T a).2.1 ≠ (T b).2.1) ∧ (T k).2.2.2 = fin ∧ (fin = true → (T k).1 = own) ∧ parseFieldDescriptor (T k).2.2.1 = some ty
def ev_NW (own : String) (idx ci N : Nat) (V0 : Nat → Value) : Prop := ∃ (C : String) (T : u_T) (ty0 : Nat → FieldType), vwCl[ci]? = some (C, T, N) ∧ (∀ w ∈ u_ws C T N, w ∈ ev_tb) ∧ (∀ k, k < N → parseFieldDescriptor (T k).2.2.1 = some (ty0 k)) ∧ Cond.classLink own idx C ∈ ev_tb ∧ Cond.instantiable C N ∈ ev_tb ∧ Cond.initialized C ∈ ev_tb ∧ ∀ j, j < N → defaultValue (ty0 j) = V0 j
theorem ev_cl_of {x : Int32} {j : Nat} (h : x.toInt = (j : Int)) : ¬ x < 0 ∧ x.toNatClampNeg = j := by
  refine ⟨fun z => ?_, ?_⟩
  · have := Int32.lt_iff_toInt_lt.mp z
    simp at this
    omega
  · show x.toInt.toNat = j
    omega
section EVH
variable {B : ev_B} {d : Nat} {M : ev_M} {pc n : Nat} {ls ls' : List (Option Value)} {st st' : List Value} {h : ev_H} {Q : Option Value → ev_H → Prop}
theorem Wp.goH {pc' : Nat} {h1 : ev_H} {dw : Nat} (hdw : h1.2.2 = h.2.2 + dw) (f : ∀ (D : ev_D) (p : Program) (l : Launch) (e : Env) (R : Room) (s : State) (m : MethodId) (args : Array Value) (below : List Frame) (meth : Method) (c : Code) (H : Heap) (locs : List Loc) (a : Array Slot) (cells slots : Nat) (Qf : State → Prop),
      ev_G B D d M p R s m args meth c → ev_R B D h H → va_S (ev_A B) s.heap H locs → ev_L ls a M.2.2.1 → cells + dw ≤ R.cells → slots + dw ≤ R.slots →
      (∀ (H1 : Heap) (locs1 : List Loc) (a' : Array Slot), ev_R B D h1 H1 → va_S (ev_A B) s.heap H1 locs1 → ev_L ls' a' M.2.2.1 → W p l e R s m args below meth c H1 locs1 (cells + dw) (slots + dw) Qf (F0 m pc' a' st')) → W p l e R s m args below meth c H locs cells slots Qf (F0 m pc a st))
    (k : Wp B d M pc' ls' st' h1 Q) : Wp B d M pc ls st h Q := by
  obtain ⟨v, h', ⟨hw, hE⟩, hQ⟩ := k
  refine ⟨v, h', ⟨by omega, fun D p l e R s m args below meth c hG H locs a cells slots hR hS hL h1' h2' => ?_⟩, hQ⟩
  refine f D p l e R s m args below meth c H locs a cells slots _ hG hR hS hL (by omega) (by omega) (fun H1 locs1 a' hR1 hS1 hL1 => ?_)
  have e1 : cells + (h'.2.2 - h.2.2) = (cells + dw) + (h'.2.2 - h1.2.2) := by omega
  have e2 : slots + (h'.2.2 - h.2.2) = (slots + dw) + (h'.2.2 - h1.2.2) := by omega
  rw [e1, e2]
  exact hE D p l e R s m args below meth c hG H1 locs1 a' _ _ hR1 hS1 hL1 (by omega) (by omega)
theorem Wp.get {a ci k idx : Nat} {V : Nat → Value} {v : Value} (hd : decode M.2.1 pc = .ok (.getfield idx, 3)) (hf : ev_FL M.1.cls idx ci k) (hh : h.1 a = some (ev_ob ci V)) (hv : V k = v) (hn : pc + 3 = n) (kk : Wp B d M n ls (v :: st) h Q) : Wp B d M pc ls (.ref a :: st) h Q := by
  subst hn
  refine Wp.go (fun D p l e R s m args below meth c H locs sl cells slots Qf hG hR hS hL kk => ?_) kk
  obtain ⟨ref, C, T, N, hc, hk, hlink, hin, hsm⟩ := hf
  obtain ⟨hx, hb, -, -, -, hown, -, hts, hK, -⟩ := hG
  obtain ⟨r, h1, cell, q1, q2, q3, q4⟩ := (hR.2 _ _ hh).2
  have hr : r = (C, T, N) := Option.some.inj (h1.symm.trans hc)
  subst hr
  obtain ⟨hSl, hfc, kC, hkC, hkind⟩ := hK.1.1 ci _ hc
  obtain ⟨cf, kf, fi, f, hi, hsl⟩ := hSl k hk
  have hi' : s.fieldFound? ref (T k).2.1 (T k).2.2.1 = some (cf, kf, fi, f) := by
    rcases hsm with e | e
    · rw [← e]; exact hi
    · exact u_same (hts _ e) _ hi
  refine W.getf hx hb hown (hts _ hlink) hi' (u_facts hfc hkC (u_lays hts hin hk) hi).1 q1 (by rw [q3]; exact fun h => by cases h) (v := v) ?_ rfl rfl hd (kk _ hL)
  rw [hsl, q4 k hk]
  show some (V k) = some v
  rw [hv]
theorem Wp.put {a ci k idx : Nat} {V : Nat → Value} {v : Value} {ty : FieldType} (hd : decode M.2.1 pc = .ok (.putfield idx, 3)) (hf : ev_FP M.1.cls idx ci k ty false) (hh : h.1 a = some (ev_ob ci V)) (hnr : narrow ty v = v) (hfit : fits ty v = true) (hn : pc + 3 = n) (kk : Wp B d M n ls st (ev_up h a (ev_ob ci (updV V k v))) Q) : Wp B d M pc ls (v :: .ref a :: st) h Q := by
  subst hn
  refine Wp.goH (h1 := ev_up h a (ev_ob ci (updV V k v))) (dw := 0) rfl (fun D p l e R s m args below meth c H locs sl cells slots Qf hG hR hS hL hc1 hc2 kk => ?_) kk
  obtain ⟨ref, C, T, N, ty0, hc, hk, hlink, hin, hsm, hty, hnm, hfin, hown', hdsc⟩ := hf
  obtain ⟨hx, hb, -, -, -, hown, -, hts, hK, -⟩ := hG
  have hap := va_apart (own := M.1.cls) hts hin ty0 hty hnm hK.1 hc
  obtain ⟨r, h1, cell, q1, q2, q3, q4⟩ := (hR.2 _ _ hh).2
  have hr : r = (C, T, N) := Option.some.inj (h1.symm.trans hc)
  subst hr
  obtain ⟨hSl, hfc, kC, hkC, hkind⟩ := hK.1.1 ci _ hc
  obtain ⟨cf, kf, fi, f, hi, hsl⟩ := hSl k hk
  have hlay := hts _ (hin _ (u_in_lay hk))
  unfold u_lay at hlay
  rw [if_neg (by rw [hfin]; decide)] at hlay
  have hst := (u_facts hfc hkC (u_lays hts hin hk) hi).1
  have h6 := u_store hfc hkC hkind hlay hi hdsc hnr hfit
  refine W.putK hx hb (f := f) ⟨hown, hts _ hlink, ⟨_, _, _, by rw [← hsm]; exact hi⟩, hst⟩ (by rw [q2]; exact h6) q1 q3 (by rw [hsl]; exact k2_hasslot (q4 k hk)) rfl rfl hd fun H' e1 e2 e3 => ?_
  rw [hsl] at e1 ⊢
  exact kk H' _ sl (hR.up hh e2 ⟨_, hc, _, e1, q2, q3, t_set q4 hap hk v⟩ e3) (ev_S.put hS hR hh e2 e3) hL
theorem Wp.putF {a ci k idx : Nat} {V : Nat → Value} {v : Value} {ty : FieldType} (hd : decode M.2.1 pc = .ok (.putfield idx, 3)) (hf : ev_FP M.1.cls idx ci k ty true) (hM : M.1.name = "<init>") (hh : h.1 a = some (ev_ob ci V)) (hnr : narrow ty v = v) (hfit : fits ty v = true) (hn : pc + 3 = n) (kk : Wp B d M n ls st (ev_up h a (ev_ob ci (updV V k v))) Q) : Wp B d M pc ls (v :: .ref a :: st) h Q := by
  subst hn
  refine Wp.goH (h1 := ev_up h a (ev_ob ci (updV V k v))) (dw := 0) rfl (fun D p l e R s m args below meth c H locs sl cells slots Qf hG hR hS hL hc1 hc2 kk => ?_) kk
  obtain ⟨ref, C, T, N, ty0, hc, hk, hlink, hin, hsm, hty, hnm, hfin, hown', hdsc⟩ := hf
  obtain ⟨hx, hb, -, -, -, hown, hname, hts, hK, -⟩ := hG
  have hap := va_apart (own := M.1.cls) hts hin ty0 hty hnm hK.1 hc
  obtain ⟨r, h1, cell, q1, q2, q3, q4⟩ := (hR.2 _ _ hh).2
  have hr : r = (C, T, N) := Option.some.inj (h1.symm.trans hc)
  subst hr
  obtain ⟨hSl, hfc, kC, hkC, hkind⟩ := hK.1.1 ci _ hc
  obtain ⟨cf, kf, fi, f, hi, hsl⟩ := hSl k hk
  have hlay := hts _ (hin _ (u_in_lay hk))
  unfold u_lay at hlay
  rw [if_pos hfin] at hlay
  have hst := (u_facts hfc hkC (u_lays hts hin hk) hi).1
  have hcf : m.cls = cf := by
    obtain ⟨_, _, c', _, _, _, -, -, hf', -, -, -, hown2, -⟩ := Cond.laysFinal_spec hlay
    have e1 : c' = cf := by have := hi.symm.trans hf'; simp at this; exact this.1.symm
    rw [hown' rfl] at hown2
    rw [← e1]; exact Option.some.inj (hown.symm.trans hown2)
  have h6 := u_fits hfc hkC hkind (Or.inr hlay) hi hdsc hnr hfit
  refine W.putFinK hx hb hown (hts _ hlink) (by rw [← hsm]; exact hi) hst hcf (by rw [hname, hM]) (by rw [q2]; exact h6) q1 q3 (by rw [hsl]; exact k2_hasslot (q4 k hk)) rfl rfl hd fun H' e1 e2 e3 => ?_
  rw [hsl] at e1 ⊢
  exact kk H' _ sl (hR.up hh e2 ⟨_, hc, _, e1, q2, q3, t_set q4 hap hk v⟩ e3) (ev_S.put hS hR hh e2 e3) hL
theorem Wp.new {ci N idx : Nat} {V0 : Nat → Value} (hd : decode M.2.1 pc = .ok (.new idx, 3)) (hf : ev_NW M.1.cls idx ci N V0) (hn : pc + 3 = n) (kk : Wp B d M n ls (.ref h.2.1 :: st) (ev_nw h (ev_ob ci V0) N) Q) : Wp B d M pc ls st h Q := by
  subst hn
  refine Wp.goH (h1 := ev_nw h (ev_ob ci V0) N) (dw := N + 1) rfl (fun D p l e R s m args below meth c H locs sl cells slots Qf hG hR hS hL hc1 hc2 kk => ?_) kk
  obtain ⟨C, T, ty0, hc, hin, hty, hcl, hinst, hini, hfs⟩ := hf
  obtain ⟨hx, hb, -, -, -, hown, hname, hts, hK, -, -, hB, -⟩ := hG
  have hKn := hK.1.1 ci _ hc
  refine W.newcK hx hb hown (hts _ hcl) (hts _ hinst) (hts _ hini) rfl hd (by omega) (by omega) hKn.2.1 rfl fun H1 kC hkC e1 z1 o1 => ?_
  refine W.widen (k := cells + (N + 1)) (n := slots + (N + 1)) (by omega) (by omega) ?_
  have e : H.size = h.2.1 := hR.1
  rw [← e] at kk
  exact kk H1 _ sl (hR.nw (Nat.le_trans hB hS.1) z1 ⟨_, hc, (u_born ty0 hts hin hKn hkC e1 hty).to hfs⟩ o1) (ev_S.nw hS z1 o1) hL
theorem ev_cls {s : State} {D : ev_D} (hK : ev_K D s) {t : Nat} (ht : t < 4) : ArrOfT s (D.2 t) (ev_ty t) := (hK.2.1 t ht).1
theorem Wp.newai {x : Int32} {N : Nat} (hd : decode M.2.1 pc = .ok (.newarray .int, 2)) (hN : x.toInt = (N : Int)) (hb : N ≤ 100000000) (hn : pc + 2 = n) (kk : Wp B d M n ls (.ref h.2.1 :: st) (ev_nw h (ev_ia N (fun _ => 0)) N) Q) : Wp B d M pc ls (.int x :: st) h Q := by
  subst hn
  refine Wp.goH (h1 := ev_nw h (ev_ia N (fun _ => 0)) N) (dw := N + 1) rfl (fun D p l e R s m args below meth c H locs sl cells slots Qf hG hR hS hL hc1 hc2 kk => ?_) kk
  obtain ⟨hx, hbb, -, -, -, hown, hname, hts, hK, -, -, hB, -⟩ := hG
  refine va_newaK hx hbb (hts _ (ev_mem (by decide +kernel) rfl)) rfl hd rfl (ev_cl_of hN).1 (ev_cl_of hN).2 (by show N * 4 ≤ _; omega) (by omega) (by omega) rfl fun H1 cA e1 z1 o1 hAr hNm => ?_
  refine W.widen (k := cells + (N + 1)) (n := slots + (N + 1)) (by omega) (by omega) ?_
  have hc : cA = D.2 0 := Option.some.inj (hNm.symm.trans (hK.2.1 0 (by decide)).2)
  subst hc
  have e : H.size = h.2.1 := hR.1
  rw [← e] at kk
  exact kk H1 _ sl (hR.nw (Nat.le_trans hB hS.1) z1 e1 o1) (ev_S.nw hS z1 o1) hL
theorem Wp.newal {x : Int32} {N : Nat} (hd : decode M.2.1 pc = .ok (.newarray .long, 2)) (hN : x.toInt = (N : Int)) (hb : N ≤ 50000000) (hn : pc + 2 = n) (kk : Wp B d M n ls (.ref h.2.1 :: st) (ev_nw h (ev_la N (fun _ => 0)) N) Q) : Wp B d M pc ls (.int x :: st) h Q := by
  subst hn
  refine Wp.goH (h1 := ev_nw h (ev_la N (fun _ => 0)) N) (dw := N + 1) rfl (fun D p l e R s m args below meth c H locs sl cells slots Qf hG hR hS hL hc1 hc2 kk => ?_) kk
  obtain ⟨hx, hbb, -, -, -, hown, hname, hts, hK, -, -, hB, -⟩ := hG
  refine va_newaK hx hbb (hts _ (ev_mem (by decide +kernel) rfl)) rfl hd rfl (ev_cl_of hN).1 (ev_cl_of hN).2 (by show N * 8 ≤ _; omega) (by omega) (by omega) rfl fun H1 cA e1 z1 o1 hAr hNm => ?_
  refine W.widen (k := cells + (N + 1)) (n := slots + (N + 1)) (by omega) (by omega) ?_
  have hc : cA = D.2 1 := Option.some.inj (hNm.symm.trans (hK.2.1 1 (by decide)).2)
  subst hc
  have e : H.size = h.2.1 := hR.1
  rw [← e] at kk
  exact kk H1 _ sl (hR.nw (Nat.le_trans hB hS.1) z1 e1 o1) (ev_S.nw hS z1 o1) hL
theorem Wp.newaq {x : Int32} {N idx t : Nat} {C : String} (hd : decode M.2.1 pc = .ok (.anewarray idx, 3)) (ht : t = 2 ∧ C = "PriceBench$Offer" ∨ t = 3 ∧ C = "PriceBench$Sheet") (hl : Cond.classLink M.1.cls idx C ∈ ev_tb) (hN : x.toInt = (N : Int)) (hb : N ≤ 100000000) (hn : pc + 3 = n) (kk : Wp B d M n ls (.ref h.2.1 :: st) (ev_nw h (ev_qa t N (fun _ => none)) N) Q) : Wp B d M pc ls (.int x :: st) h Q := by
  subst hn
  refine Wp.goH (h1 := ev_nw h (ev_qa t N (fun _ => none)) N) (dw := N + 1) rfl (fun D p l e R s m args below meth c H locs sl cells slots Qf hG hR hS hL hc1 hc2 kk => ?_) kk
  obtain ⟨hx, hbb, -, -, -, hown, hname, hts, hK, -, -, hB, -⟩ := hG
  have hN2 := (ev_cl_of hN).2
  have hAO : va_AO C s := by
    rcases ht with ⟨-, rfl⟩ | ⟨-, rfl⟩
    · exact hK.2.2.2.2.1
    · exact hK.2.2.2.2.2.1
  have hRA : ∃ (kA : Class) (comp : ClassId), s.vm.classes[D.2 t]? = some kA ∧ kA.kind = .array comp (.object C) ∧ s.vm.findClass C = some comp ∧ s.vm.findClass ("[" ++ (FieldType.object C).toString) = some (D.2 t) := by
    rcases ht with ⟨rfl, rfl⟩ | ⟨rfl, rfl⟩
    · exact (hK.2.1 2 (by decide)).2
    · exact (hK.2.1 3 (by decide)).2
  subst hN2
  refine W.anew hx hbb hown (hts _ hl) (va_AO.use hAO) rfl hd rfl (ev_cl_of hN).1 (by omega) (by omega) (by omega) fun cA kA comp f1 f2 f3 f4 => ?_
  refine W.widen (k := cells + (x.toNatClampNeg + 1)) (n := slots + (x.toNatClampNeg + 1)) (by omega) (by omega) ?_
  obtain ⟨kA', comp', g1, g2, g3, g4⟩ := hRA
  have hc : cA = D.2 t := by
    first
      | exact Option.some.inj (f4.symm.trans g4)
      | exact Option.some.inj (f1.symm.trans g4)
  subst hc
  generalize hH1 : H.push ({ cls := D.2 t, slots := Array.replicate x.toNatClampNeg .null, vm := .none } : Cell) = H1
  have z1 : H1.size = H.size + 1 := by rw [← hH1, Array.size_push]
  have e1 : H1[H.size]? = some (arrV (D.2 t) x.toNatClampNeg (fun _ => .null)) := by rw [← hH1, Array.getElem?_push_size, ← arrV_new]
  have o1 : ∀ q : Nat, q < H.size → H1[q]? = H[q]? := fun q hq => by rw [← hH1, Array.getElem?_push, if_neg (Nat.ne_of_lt hq)]
  have e : H.size = h.2.1 := hR.1
  rw [← e] at kk
  exact kk H1 _ sl (hR.nw (Nat.le_trans hB hS.1) z1 e1 o1) (ev_S.nw hS z1 o1) hL
end EVH
end
section
/-! arrays, statics, tests of a class, arraycopy, returns, calls -/
section EVA
variable {B : ev_B} {d : Nat} {M : ev_M} {pc n : Nat} {ls ls' : List (Option Value)} {st st' : List Value} {h : ev_H} {Q : Option Value → ev_H → Prop}
theorem ev_inn {i : Int32} {j N : Nat} (hj : i.toInt = (j : Int)) (hb : j < N) : ¬ (i < 0 ∨ N ≤ i.toNatClampNeg) := by
  obtain ⟨h1, h2⟩ := ev_cl_of hj
  rintro (z | z)
  · exact h1 z
  · omega
theorem Wp.iaload {a N j : Nat} {i : Int32} {f : Nat → Int32} (hd : decode M.2.1 pc = .ok (.iaload, 1)) (hh : h.1 a = some (ev_ia N f)) (hj : i.toInt = (j : Int)) (hb : j < N) (hn : pc + 1 = n) (k : Wp B d M n ls (.int (f j) :: st) h Q) : Wp B d M pc ls (.int i :: .ref a :: st) h Q := by
  subst hn
  refine Wp.go (fun D p l e R s m args below meth c H locs sl cells slots Qf hG hR hS hL kk => ?_) k
  have hcl := (ev_cl_of hj).2
  refine W.iald (v := .int (f j)) hG.1 hG.2.1 (hR.2 _ _ hh).2 ((ev_cls hG.2.2.2.2.2.2.2.2.1 (t := 0) (by decide)) N (fun j => .int (f j))) (fun q => by cases q) (by show ¬ (i < 0 ∨ (arrV _ _ _).slots.size ≤ _); rw [arrV_size]; exact ev_inn hj hb) (by show (arrV _ _ _).slots[_]? = _; rw [hcl, arrV_read _ _ hb]) rfl rfl hd (kk _ hL)
theorem Wp.laload {a N j : Nat} {i : Int32} {f : Nat → Int64} (hd : decode M.2.1 pc = .ok (.laload, 1)) (hh : h.1 a = some (ev_la N f)) (hj : i.toInt = (j : Int)) (hb : j < N) (hn : pc + 1 = n) (k : Wp B d M n ls (.long (f j) :: st) h Q) : Wp B d M pc ls (.int i :: .ref a :: st) h Q := by
  subst hn
  refine Wp.go (fun D p l e R s m args below meth c H locs sl cells slots Qf hG hR hS hL kk => ?_) k
  have hcl := (ev_cl_of hj).2
  refine W.lald (v := .long (f j)) hG.1 hG.2.1 (hR.2 _ _ hh).2 ((ev_cls hG.2.2.2.2.2.2.2.2.1 (t := 1) (by decide)) N (fun j => .long (f j))) (fun q => by cases q) (by show ¬ (i < 0 ∨ (arrV _ _ _).slots.size ≤ _); rw [arrV_size]; exact ev_inn hj hb) (by show (arrV _ _ _).slots[_]? = _; rw [hcl, arrV_read _ _ hb]) rfl rfl hd (kk _ hL)
theorem Wp.aaload {a t N j : Nat} {i : Int32} {f : Nat → Option Nat} {v : Value} (hd : decode M.2.1 pc = .ok (.aaload, 1)) (ht : t = 2 ∨ t = 3) (hh : h.1 a = some (ev_qa t N f)) (hj : i.toInt = (j : Int)) (hb : j < N) (hv : va_rf (f j) = v) (hn : pc + 1 = n) (k : Wp B d M n ls (v :: st) h Q) : Wp B d M pc ls (.int i :: .ref a :: st) h Q := by
  subst hn; subst hv
  refine Wp.go (fun D p l e R s m args below meth c H locs sl cells slots Qf hG hR hS hL kk => ?_) k
  have hcl := (ev_cl_of hj).2
  have hA : ∃ C : String, ArrOfT s (D.2 t) (.object C) := by
    rcases ht with rfl | rfl
    · exact ⟨_, ev_cls hG.2.2.2.2.2.2.2.2.1 (t := 2) (by decide)⟩
    · exact ⟨_, ev_cls hG.2.2.2.2.2.2.2.2.1 (t := 3) (by decide)⟩
  obtain ⟨C, hA⟩ := hA
  refine W.aald (v := va_rf (f j)) (ty := .object C) hG.1 hG.2.1 (hR.2 _ _ hh).2 (hA N (fun j => va_rf (f j))) rfl (fun q => by cases q) (by show ¬ (i < 0 ∨ (arrV _ _ _).slots.size ≤ _); rw [arrV_size]; exact ev_inn hj hb) (by show (arrV _ _ _).slots[_]? = _; rw [hcl, arrV_read _ _ hb]) rfl rfl hd (kk _ hL)
theorem Wp.iastore {a N j : Nat} {i : Int32} {x : Int32} {f : Nat → Int32} (hd : decode M.2.1 pc = .ok (.iastore, 1)) (hh : h.1 a = some (ev_ia N f)) (hj : i.toInt = (j : Int)) (hb : j < N) (hn : pc + 1 = n) (k : Wp B d M n ls st (ev_up h a (ev_ia N (upd f j x))) Q) : Wp B d M pc ls (.int x :: .int i :: .ref a :: st) h Q := by
  subst hn
  refine Wp.goH (h1 := ev_up h a (ev_ia N (upd f j x))) (dw := 0) rfl (fun D p l e R s m args below meth c H locs sl cells slots Qf hG hR hS hL hc1 hc2 kk => ?_) k
  have hcl := (ev_cl_of hj).2
  refine W.iast hG.1 hG.2.1 (hR.2 _ _ hh).2 ((ev_cls hG.2.2.2.2.2.2.2.2.1 (t := 0) (by decide)) N (fun j => .int (f j))) (fun q => by cases q) (by show ¬ (i < 0 ∨ (arrV _ _ _).slots.size ≤ _); rw [arrV_size]; exact ev_inn hj hb) rfl rfl hd fun H1 e1 z oq => ?_
  refine kk H1 _ sl (hR.up hh z ?_ oq) (ev_S.put hS hR hh z oq) hL
  show H1[a]? = some (vp_cell _ _)
  rw [e1, hcl]
  dsimp only
  rw [vp_cell_i, vp_cell_i, arrV_store]
  congr 2
  funext q
  by_cases hq : q = j
  · subst hq
    simp [updV, upd]
  · simp [updV, upd, hq]
theorem Wp.lastore {a N j : Nat} {i : Int32} {x : Int64} {f : Nat → Int64} (hd : decode M.2.1 pc = .ok (.lastore, 1)) (hh : h.1 a = some (ev_la N f)) (hj : i.toInt = (j : Int)) (hb : j < N) (hn : pc + 1 = n) (k : Wp B d M n ls st (ev_up h a (ev_la N (vp_updL f j x))) Q) : Wp B d M pc ls (.long x :: .int i :: .ref a :: st) h Q := by
  subst hn
  refine Wp.goH (h1 := ev_up h a (ev_la N (vp_updL f j x))) (dw := 0) rfl (fun D p l e R s m args below meth c H locs sl cells slots Qf hG hR hS hL hc1 hc2 kk => ?_) k
  have hcl := (ev_cl_of hj).2
  refine W.last hG.1 hG.2.1 (hR.2 _ _ hh).2 ((ev_cls hG.2.2.2.2.2.2.2.2.1 (t := 1) (by decide)) N (fun j => .long (f j))) (fun q => by cases q) (by show ¬ (i < 0 ∨ (arrV _ _ _).slots.size ≤ _); rw [arrV_size]; exact ev_inn hj hb) rfl rfl hd fun H1 e1 z oq => ?_
  refine kk H1 _ sl (hR.up hh z ?_ oq) (ev_S.put hS hR hh z oq) hL
  show H1[a]? = some (vp_cell _ _)
  rw [e1, hcl]
  dsimp only
  rw [vp_cell_l, vp_cell_l, arrV_store]
  congr 2
  funext q
  by_cases hq : q = j
  · subst hq
    simp [updV, vp_updL]
  · simp [updV, vp_updL, hq]
/-- the value's class may stand in the row: an offer, or a sheet -/
def ev_mayq (t ci : Nat) : Prop := (t = 3 ∧ ci = 5) ∨ (t = 2 ∧ (ci = 3 ∨ ci = 6 ∨ ci = 7 ∨ ci = 8))
theorem Wp.aastore {a t N j b ci : Nat} {V : Nat → Value} {i : Int32} {f : Nat → Option Nat} (hd : decode M.2.1 pc = .ok (.aastore, 1)) (ht : ev_mayq t ci) (hh : h.1 a = some (ev_qa t N f)) (hb' : h.1 b = some (ev_ob ci V)) (hj : i.toInt = (j : Int)) (hb : j < N) (hn : pc + 1 = n) (k : Wp B d M n ls st (ev_up h a (ev_qa t N (va_up f j (some b)))) Q) : Wp B d M pc ls (.ref b :: .int i :: .ref a :: st) h Q := by
  subst hn
  refine Wp.goH (h1 := ev_up h a (ev_qa t N (va_up f j (some b)))) (dw := 0) rfl (fun D p l e R s m args below meth c H locs sl cells slots Qf hG hR hS hL hc1 hc2 kk => ?_) k
  have hcl := ev_cl_of hj
  obtain ⟨hx, hbb, -, -, -, hown, hname, hts, hK, -⟩ := hG
  obtain ⟨r, hr, cellV, g1, g2, g3, -⟩ := (hR.2 _ _ hb').2
  have hcls := (hK.1.1 ci r hr).2
  have key : ∃ (C : String), (∃ (kA : Class) (comp : ClassId), s.vm.classes[D.2 t]? = some kA ∧ kA.kind = .array comp (.object C) ∧ s.vm.findClass C = some comp) ∧ (r.1 = C ∨ ev_Yc r.1 C s) := by
    rcases ht with ⟨rfl, rfl⟩ | ⟨rfl, hci⟩
    · obtain ⟨kA, comp, k1, k2, k3, -⟩ := (hK.2.1 3 (by decide)).2
      cases hr
      exact ⟨_, ⟨kA, comp, k1, k2, k3⟩, Or.inl rfl⟩
    · obtain ⟨kA, comp, k1, k2, k3, -⟩ := (hK.2.1 2 (by decide)).2
      refine ⟨_, ⟨kA, comp, k1, k2, k3⟩, Or.inr ?_⟩
      rcases hci with rfl | rfl | rfl | rfl <;> cases hr
      · exact hK.2.2.2.2.2.2 _ (by simp [RX4])
      · exact hK.2.2.2.2.2.2 _ (by simp [RX7])
      · exact hK.2.2.2.2.2.2 _ (by simp [RX8])
      · exact hK.2.2.2.2.2.2 _ (by simp [RX9])
  obtain ⟨C, ⟨kA, comp, k1, k2, k3⟩, hca⟩ := key
  obtain ⟨kE, hkE, -⟩ := Vm.findClass_spec k3
  obtain ⟨kC, hkC, -⟩ := hcls.2
  have hasg : s.vm.assignable (D.1.1 ci) comp = true := by
    rcases hca with e | e
    · have hcomp : comp = D.1.1 ci := by
        rw [← e] at k3
        exact Option.some.inj (k3.symm.trans hcls.1)
      rw [hcomp]
      exact va_assign hcls
    · obtain ⟨c0, t1, f1, f2, f3⟩ := e
      cases hcls.1.symm.trans f1
      cases k3.symm.trans f2
      exact f3
  refine W.aast hx hbb (hR.2 _ _ hh).2 (fun q h => by cases h) (fun h => by cases h) k1 k2 rfl hkE ⟨hcl.1, by show _ < (arrV _ _ _).slots.size; rw [arrV_size, hcl.2]; exact hb⟩ g1 (fun q h => by rw [g3] at h; cases h) (by rw [g2]; exact hkC) (by rw [g2]; exact hasg) rfl rfl hd fun H1 e1 z oq => ?_
  refine kk H1 _ sl (hR.up hh z ?_ oq) (ev_S.put hS hR hh z oq) hL
  show H1[a]? = some (vp_cell _ _)
  rw [e1, hcl.2]
  dsimp only
  rw [vp_cell_q, vp_cell_q, arrV_store]
  congr 2
  funext q
  by_cases hq : q = j
  · subst hq
    simp [updV, va_up, va_rf]
  · simp [updV, va_up, hq]
theorem Wp.alen {a t N : Nat} {x : (Nat → Int32) ⊕ (Nat → Int64) ⊕ (Nat → UInt32) ⊕ (Nat → UInt64) ⊕ (Nat → Option Nat)} (hd : decode M.2.1 pc = .ok (.arraylength, 1)) (ht : t < 4) (hh : h.1 a = some (.inl (t, N, x))) (hn : pc + 1 = n) (k : Wp B d M n ls (.int (Int32.ofNat N) :: st) h Q) : Wp B d M pc ls (.ref a :: st) h Q := by
  subst hn
  refine Wp.go (fun D p l e R s m args below meth c H locs sl cells slots Qf hG hR hS hL kk => ?_) k
  have hA := ev_cls hG.2.2.2.2.2.2.2.2.1 ht
  have hc := (hR.2 _ _ hh).2
  have hsz : (vp_cell (D.2 t) (N, x)).slots.size = N := by
    rcases x with f | f | f | f | f <;> exact arrV_size _ _ _
  refine W.alen (n := Int32.ofNat N) hG.1 hG.2.1 (ty := ev_ty t) hc ?_ (by rw [hsz] <;> rfl) rfl rfl hd (kk _ hL)
  rcases x with f | f | f | f | f
  · exact hA N _
  · exact hA N _
  · exact hA N _
  · exact hA N _
  · exact hA N _
theorem Wp.roload {t N j : Nat} {i : Int32} {f : Nat → Int32} (hd : decode M.2.1 pc = .ok (.iaload, 1)) (hh : B.2.2 t = some (N, f)) (hj : i.toInt = (j : Int)) (hb : j < N) (hn : pc + 1 = n) (k : Wp B d M n ls (.int (f j) :: st) h Q) : Wp B d M pc ls (.int i :: .ref t :: st) h Q := by
  subst hn
  refine Wp.go (fun D p l e R s m args below meth c H locs sl cells slots Qf hG hR hS hL kk => ?_) k
  exact va_ti hG.1 hG.2.1 (hG.2.2.2.2.2.2.2.2.2.2.2.2.2.2 t N f hh) hS (ev_inn hj hb) (by rw [(ev_cl_of hj).2]) hd (kk _ hL)
theorem Wp.rolen {t N : Nat} {f : Nat → Int32} (hd : decode M.2.1 pc = .ok (.arraylength, 1)) (hh : B.2.2 t = some (N, f)) (hn : pc + 1 = n) (k : Wp B d M n ls (.int (Int32.ofNat N) :: st) h Q) : Wp B d M pc ls (.ref t :: st) h Q := by
  subst hn
  refine Wp.go (fun D p l e R s m args below meth c H locs sl cells slots Qf hG hR hS hL kk => ?_) k
  exact va_tlen hG.1 hG.2.1 (hG.2.2.2.2.2.2.2.2.2.2.2.2.2.2 t N f hh) hS rfl hd (kk _ hL)
theorem Wp.getKA {idx : Nat} (hd : decode M.2.1 pc = .ok (.getstatic idx, 3)) (hl : Cond.fieldLink M.1.cls idx "PriceBench$Acts" "KIND_ABOVE" "[I" ∈ ev_tb) (hn : pc + 3 = n) (k : Wp B d M n ls (.ref (B.2.1 0) :: st) h Q) : Wp B d M pc ls st h Q := by
  subst hn
  refine Wp.go (fun D p l e R s m args below meth c H locs sl cells slots Qf hG hR hS hL kk => ?_) k
  exact va_gets hG.1 hG.2.1 hG.2.2.2.2.2.2.2.2.2.2.2.2.1 hS hG.2.2.2.2.2.1 (hG.2.2.2.2.2.2.2.1 _ hl) (fun _ q => q) hd (kk _ hL)
theorem Wp.getBO {idx : Nat} (hd : decode M.2.1 pc = .ok (.getstatic idx, 3)) (hl : Cond.fieldLink M.1.cls idx "PriceBench$Acts" "BODIES" "[I" ∈ ev_tb) (hn : pc + 3 = n) (k : Wp B d M n ls (.ref (B.2.1 1) :: st) h Q) : Wp B d M pc ls st h Q := by
  subst hn
  refine Wp.go (fun D p l e R s m args below meth c H locs sl cells slots Qf hG hR hS hL kk => ?_) k
  exact va_gets hG.1 hG.2.1 hG.2.2.2.2.2.2.2.2.2.2.2.2.2.1 hS hG.2.2.2.2.2.1 (hG.2.2.2.2.2.2.2.1 _ hl) (fun _ q => q) hd (kk _ hL)
theorem ev_recv {D : ev_D} {s : State} {H : Heap} {a ci : Nat} {V : Nat → Value} {q : vw_C} (hK : ev_K D s) (hR : ev_R B D h H) (hh : h.1 a = some (ev_ob ci V)) (hc : vwCl[ci]? = some q) : ∃ cell : Cell, H[a]? = some cell ∧ cell.vm.isStatics = false ∧ s.vm.findClass q.1 = some cell.cls := by
  obtain ⟨r, hr, cell, g1, g2, g3, -⟩ := (hR.2 _ _ hh).2
  have e : r = q := Option.some.inj (hr.symm.trans hc)
  subst e
  exact ⟨cell, g1, by rw [g3]; rfl, by rw [g2]; exact (hK.1.1 ci r hr).2.1⟩
theorem Wp.instY {a idx : Nat} {V : Nat → Value} (hd : decode M.2.1 pc = .ok (.instanceof idx, 3)) (hl : Cond.classLink M.1.cls idx RX7 ∈ ev_tb) (hh : h.1 a = some (ev_ob 6 V)) (hn : pc + 3 = n) (k : Wp B d M n ls (.int 1 :: st) h Q) : Wp B d M pc ls (.ref a :: st) h Q := by
  subst hn
  refine Wp.go (fun D p l e R s m args below meth c H locs sl cells slots Qf hG hR hS hL kk => ?_) k
  obtain ⟨hx, hbb, -, -, -, hown, hname, hts, hK, -⟩ := hG
  exact va_instS hx hbb hown (hts _ hl) (hK.1.1 6 (RX7, TX7, 8) rfl).2 (ev_recv hK hR hh (q := (RX7, TX7, 8)) rfl) hd (kk _ hL)
theorem Wp.instN {a idx ci : Nat} {V : Nat → Value} (hd : decode M.2.1 pc = .ok (.instanceof idx, 3)) (hl : Cond.classLink M.1.cls idx RX7 ∈ ev_tb) (hci : ci = 3 ∨ ci = 7 ∨ ci = 8) (hh : h.1 a = some (ev_ob ci V)) (hn : pc + 3 = n) (k : Wp B d M n ls (.int 0 :: st) h Q) : Wp B d M pc ls (.ref a :: st) h Q := by
  subst hn
  refine Wp.go (fun D p l e R s m args below meth c H locs sl cells slots Qf hG hR hS hL kk => ?_) k
  obtain ⟨hx, hbb, -, -, -, hown, hname, hts, hK, -⟩ := hG
  rcases hci with rfl | rfl | rfl
  · exact va_instNo hx hbb hown (hts _ hl) hK.2.2.2.1.2.2 (ev_recv hK hR hh (q := (RX4, TX4, 7)) rfl) hd (kk _ hL)
  · exact va_instNo hx hbb hown (hts _ hl) hK.2.2.2.1.1 (ev_recv hK hR hh (q := (RX8, TX8, 6)) rfl) hd (kk _ hL)
  · exact va_instNo hx hbb hown (hts _ hl) hK.2.2.2.1.2.1 (ev_recv hK hR hh (q := (RX9, TX9, 8)) rfl) hd (kk _ hL)
theorem Wp.castY {a idx : Nat} {V : Nat → Value} (hd : decode M.2.1 pc = .ok (.checkcast idx, 3)) (hl : Cond.classLink M.1.cls idx RX7 ∈ ev_tb) (hh : h.1 a = some (ev_ob 6 V)) (hn : pc + 3 = n) (k : Wp B d M n ls (.ref a :: st) h Q) : Wp B d M pc ls (.ref a :: st) h Q := by
  subst hn
  refine Wp.go (fun D p l e R s m args below meth c H locs sl cells slots Qf hG hR hS hL kk => ?_) k
  obtain ⟨hx, hbb, -, -, -, hown, hname, hts, hK, -⟩ := hG
  exact va_castS hx hbb hown (hts _ hl) (hK.1.1 6 (RX7, TX7, 8) rfl).2 (ev_recv hK hR hh (q := (RX7, TX7, 8)) rfl) hd (kk _ hL)
/-- System.arraycopy between two rows of one sort (it may be one row) -/
theorem Wp.copyi {a b N0 N1 idx x y z : Nat} {sp dp k : Int32} {f g : Nat → Int32} (hd : decode M.2.1 pc = .ok (.invokestatic idx, 3)) (hl : Cond.methodLink M.1.cls idx arraycopyName ∈ ev_tb) (hdp : 1 ≤ d) (h0 : h.1 b = some (ev_ia N0 f)) (h1 : h.1 a = some (ev_ia N1 g)) (hx : sp.toInt = (x : Int)) (hy : dp.toInt = (y : Int)) (hz : k.toInt = (z : Int)) (hs1 : x + z ≤ N0) (hs2 : y + z ≤ N1) (hst : (st.map fun v => v.category).sum ≤ 8) (hn : pc + 3 = n)
    (kk : Wp B d M n ls st (ev_up h a (ev_ia N1 (va_cpy f g x y z))) Q) : Wp B d M pc ls (.int k :: .int dp :: .ref a :: .int sp :: .ref b :: st) h Q := by
  subst hn
  refine Wp.goH (h1 := ev_up h a (ev_ia N1 (va_cpy f g x y z))) (dw := 0) rfl (fun D p l e R s m args below meth c H locs sl cells slots Qf hG hR hS hL hc1 hc2 kk => ?_) kk
  obtain ⟨hxx, hbb, hml, -, -, hown, hname, hts, hK, hfr, hlo, -⟩ := hG
  have hc0 : H[b]? = some (arrV (D.2 0) N0 (fun j => .int (f j))) := (hR.2 _ _ h0).2
  have hc1 : H[a]? = some (arrV (D.2 0) N1 (fun j => .int (g j))) := (hR.2 _ _ h1).2
  obtain ⟨-, k0, hk0, cm0, hkk0⟩ := (ev_cls hK (t := 0) (by decide)) N0 (fun j => .int (f j))
  obtain ⟨ex1, ex2⟩ := ev_cl_of hx
  obtain ⟨ey1, ey2⟩ := ev_cl_of hy
  obtain ⟨ez1, ez2⟩ := ev_cl_of hz
  intro T hT X
  obtain ⟨vm', X', step⟩ := X.arraycopy hxx hown (hts _ hl) (hts _ (ev_mem (by decide +kernel) rfl)) (hts _ (ev_mem (by decide +kernel) rfl)) (hts _ (ev_mem (by decide +kernel) rfl)) (src := b) (dst := a) (cs := arrV (D.2 0) N0 (fun j => .int (f j))) (cd := arrV (D.2 0) N1 (fun j => .int (g j))) (srcPos := sp) (destPos := dp) (n := k) (by rw [hT]; exact hc0) (by rw [hT]; exact hc1)
    (fun _ h => by cases h) (fun _ h => by cases h) (fun h => by cases h) (fun h => by cases h) hk0 hk0 hkk0 hkk0 rfl ex1 ey1 ez1
    (by rw [hx, hz, arrV_size]; omega) (by rw [hy, hz, arrV_size]; omega)
    (fun vm₁ _ i hi => by
      have e : (arrV (D.2 0) N0 (fun j => .int (f j))).slots.getD (sp.toNatClampNeg + i) .null = .int (f (x + i)) := by
        rw [Array.getD_eq_getD_getElem?, ex2, arrV_read _ _ (by omega)]
        rfl
      rw [e]
      exact ⟨rfl, trivial⟩)
    (g := F0 m pc sl (.int k :: .int dp :: .ref a :: .int sp :: .ref b :: st)) rfl (by rw [hml]; exact hL.1) (rest := st) rfl (by rw [hbb]; exact hd) (by omega) (by
      show 2 * 0 + _ + (nativeFrameWords "java/lang/System" "arraycopy" 5 + 11) ≤ _
      have : nativeFrameWords "java/lang/System" "arraycopy" 5 ≤ 20 := by decide +kernel
      omega)
  have e1 : copied (arrV (D.2 0) N0 (fun j => .int (f j))) (arrV (D.2 0) N1 (fun j => .int (g j))) sp dp k = arrV (D.2 0) N1 (fun j => .int (va_cpy f g x y z j)) := by
    rw [← ex2, ← ey2, ← ez2]
    exact va_copied (fun z => .int z) _ _ f g (by omega)
  rw [e1] at X' step
  have hl' : a < H.size := (Array.getElem?_eq_some_iff.mp hc1).1
  have hheap : ((T.setVm vm').setCell a (arrV (D.2 0) N1 (fun j => .int (va_cpy f g x y z j)))).heap = H.setIfInBounds a (arrV (D.2 0) N1 (fun j => .int (va_cpy f g x y z j))) := by rw [← hT]; rfl
  have oq : ∀ q : Nat, q ≠ a → (H.setIfInBounds a (arrV (D.2 0) N1 (fun j => .int (va_cpy f g x y z j))))[q]? = H[q]? := fun q hq => by simp [Array.getElem?_setIfInBounds, Ne.symm hq]
  have hA : ev_A B a := (hR.2 _ _ h1).1
  obtain ⟨t, a1, b1⟩ := kk _ _ sl (hR.up h1 (by simp) (e := ev_ia N1 (va_cpy f g x y z)) (show (H.setIfInBounds a _)[a]? = some _ by simp [Array.getElem?_setIfInBounds, hl']; rfl) oq) ⟨by simp; exact hS.1, fun q g1 g2 => by
      rw [oq q (fun e => g2 (by rw [e]; exact hA))]
      exact hS.2.1 q g1 g2, fun q hq => by
      rcases List.mem_append.mp hq with h | h
      · exact hS.2.2 q h
      · obtain ⟨z, -, hz⟩ := List.mem_map.mp h
        rw [← hz]
        exact hA⟩ hL _ hheap X'
  exact ⟨t, step t a1, b1⟩
/-- System.arraycopy between two rows of one sort (it may be one row) -/
theorem Wp.copyl {a b N0 N1 idx x y z : Nat} {sp dp k : Int32} {f g : Nat → Int64} (hd : decode M.2.1 pc = .ok (.invokestatic idx, 3)) (hl : Cond.methodLink M.1.cls idx arraycopyName ∈ ev_tb) (hdp : 1 ≤ d) (h0 : h.1 b = some (ev_la N0 f)) (h1 : h.1 a = some (ev_la N1 g)) (hx : sp.toInt = (x : Int)) (hy : dp.toInt = (y : Int)) (hz : k.toInt = (z : Int)) (hs1 : x + z ≤ N0) (hs2 : y + z ≤ N1) (hst : (st.map fun v => v.category).sum ≤ 8) (hn : pc + 3 = n)
    (kk : Wp B d M n ls st (ev_up h a (ev_la N1 (va_cpy f g x y z))) Q) : Wp B d M pc ls (.int k :: .int dp :: .ref a :: .int sp :: .ref b :: st) h Q := by
  subst hn
  refine Wp.goH (h1 := ev_up h a (ev_la N1 (va_cpy f g x y z))) (dw := 0) rfl (fun D p l e R s m args below meth c H locs sl cells slots Qf hG hR hS hL hc1 hc2 kk => ?_) kk
  obtain ⟨hxx, hbb, hml, -, -, hown, hname, hts, hK, hfr, hlo, -⟩ := hG
  have hc0 : H[b]? = some (arrV (D.2 1) N0 (fun j => .long (f j))) := (hR.2 _ _ h0).2
  have hc1 : H[a]? = some (arrV (D.2 1) N1 (fun j => .long (g j))) := (hR.2 _ _ h1).2
  obtain ⟨-, k0, hk0, cm0, hkk0⟩ := (ev_cls hK (t := 1) (by decide)) N0 (fun j => .long (f j))
  obtain ⟨ex1, ex2⟩ := ev_cl_of hx
  obtain ⟨ey1, ey2⟩ := ev_cl_of hy
  obtain ⟨ez1, ez2⟩ := ev_cl_of hz
  intro T hT X
  obtain ⟨vm', X', step⟩ := X.arraycopy hxx hown (hts _ hl) (hts _ (ev_mem (by decide +kernel) rfl)) (hts _ (ev_mem (by decide +kernel) rfl)) (hts _ (ev_mem (by decide +kernel) rfl)) (src := b) (dst := a) (cs := arrV (D.2 1) N0 (fun j => .long (f j))) (cd := arrV (D.2 1) N1 (fun j => .long (g j))) (srcPos := sp) (destPos := dp) (n := k) (by rw [hT]; exact hc0) (by rw [hT]; exact hc1)
    (fun _ h => by cases h) (fun _ h => by cases h) (fun h => by cases h) (fun h => by cases h) hk0 hk0 hkk0 hkk0 rfl ex1 ey1 ez1
    (by rw [hx, hz, arrV_size]; omega) (by rw [hy, hz, arrV_size]; omega)
    (fun vm₁ _ i hi => by
      have e : (arrV (D.2 1) N0 (fun j => .long (f j))).slots.getD (sp.toNatClampNeg + i) .null = .long (f (x + i)) := by
        rw [Array.getD_eq_getD_getElem?, ex2, arrV_read _ _ (by omega)]
        rfl
      rw [e]
      exact ⟨rfl, trivial⟩)
    (g := F0 m pc sl (.int k :: .int dp :: .ref a :: .int sp :: .ref b :: st)) rfl (by rw [hml]; exact hL.1) (rest := st) rfl (by rw [hbb]; exact hd) (by omega) (by
      show 2 * 0 + _ + (nativeFrameWords "java/lang/System" "arraycopy" 5 + 11) ≤ _
      have : nativeFrameWords "java/lang/System" "arraycopy" 5 ≤ 20 := by decide +kernel
      omega)
  have e1 : copied (arrV (D.2 1) N0 (fun j => .long (f j))) (arrV (D.2 1) N1 (fun j => .long (g j))) sp dp k = arrV (D.2 1) N1 (fun j => .long (va_cpy f g x y z j)) := by
    rw [← ex2, ← ey2, ← ez2]
    exact va_copied (fun z => .long z) _ _ f g (by omega)
  rw [e1] at X' step
  have hl' : a < H.size := (Array.getElem?_eq_some_iff.mp hc1).1
  have hheap : ((T.setVm vm').setCell a (arrV (D.2 1) N1 (fun j => .long (va_cpy f g x y z j)))).heap = H.setIfInBounds a (arrV (D.2 1) N1 (fun j => .long (va_cpy f g x y z j))) := by rw [← hT]; rfl
  have oq : ∀ q : Nat, q ≠ a → (H.setIfInBounds a (arrV (D.2 1) N1 (fun j => .long (va_cpy f g x y z j))))[q]? = H[q]? := fun q hq => by simp [Array.getElem?_setIfInBounds, Ne.symm hq]
  have hA : ev_A B a := (hR.2 _ _ h1).1
  obtain ⟨t, a1, b1⟩ := kk _ _ sl (hR.up h1 (by simp) (e := ev_la N1 (va_cpy f g x y z)) (show (H.setIfInBounds a _)[a]? = some _ by simp [Array.getElem?_setIfInBounds, hl']; rfl) oq) ⟨by simp; exact hS.1, fun q g1 g2 => by
      rw [oq q (fun e => g2 (by rw [e]; exact hA))]
      exact hS.2.1 q g1 g2, fun q hq => by
      rcases List.mem_append.mp hq with h | h
      · exact hS.2.2 q h
      · obtain ⟨z, -, hz⟩ := List.mem_map.mp h
        rw [← hz]
        exact hA⟩ hL _ hheap X'
  exact ⟨t, step t a1, b1⟩
/-! returns -/
theorem Ev.ret0 {v : Option Value} (f : ∀ (D : ev_D) (p : Program) (l : Launch) (e : Env) (R : Room) (s : State) (m : MethodId) (args : Array Value) (below : List Frame) (meth : Method) (c : Code) (H : Heap) (locs : List Loc) (a : Array Slot) (cells slots : Nat),
      ev_G B D d M p R s m args meth c → (∀ t : State, t.heap = H → s.WarmedH t.vm → ev_Q B D v h args s (.returned v) t) → (∀ q ∈ locs, ev_A B q.base) →
      W p l e R s m args below meth c H locs cells slots (MQ below (ev_Q B D v h) args s cells slots (ev_A B)) (F0 m pc a st)) : Ev B d M pc ls st h v h := by
  refine ⟨Nat.le_refl _, fun D p l e R s m args below meth c hG H locs a cells slots hR hS hL h1 h2 => ?_⟩
  rw [Nat.sub_self, Nat.add_zero, Nat.add_zero]
  exact f D p l e R s m args below meth c H locs a cells slots hG (fun t ht hW => ⟨rfl, by rw [ht]; exact hR, hS.F ht⟩) hS.2.2
theorem Wp.iret {x : Int32} (hd : decode M.2.1 pc = .ok (.ireturn, 1)) (hr : M.2.2.2 = some .int) (hq : Q (some (.int x)) h) : Wp B d M pc ls [.int x] h Q :=
  ⟨_, _, Ev.ret0 (fun D p l e R s m args below meth c H locs a cells slots hG h1 h2 => W.iret hG.1 hG.2.1 (hG.2.2.2.1.trans hr) h1 h2 hd hG.2.2.2.2.1), hq⟩
theorem Wp.zret {x : Int32} (hd : decode M.2.1 pc = .ok (.ireturn, 1)) (hr : M.2.2.2 = some .boolean) (hx : x = 0 ∨ x = 1) (hq : Q (some (.int x)) h) : Wp B d M pc ls [.int x] h Q :=
  ⟨_, _, Ev.ret0 (fun D p l e R s m args below meth c H locs a cells slots hG h1 h2 => W.zret hG.1 hG.2.1 (hG.2.2.2.1.trans hr) (by rcases hx with rfl | rfl <;> rfl) h1 h2 hd hG.2.2.2.2.1), hq⟩
theorem Wp.lret {x : Int64} (hd : decode M.2.1 pc = .ok (.lreturn, 1)) (hr : M.2.2.2 = some .long) (hq : Q (some (.long x)) h) : Wp B d M pc ls [.long x] h Q :=
  ⟨_, _, Ev.ret0 (fun D p l e R s m args below meth c H locs a cells slots hG h1 h2 => W.lret hG.1 hG.2.1 (hG.2.2.2.1.trans hr) h1 h2 hd hG.2.2.2.2.1), hq⟩
theorem Wp.vret (hd : decode M.2.1 pc = .ok (.return_, 1)) (hr : M.2.2.2 = none) (hq : Q none h) : Wp B d M pc ls [] h Q :=
  ⟨_, _, Ev.ret0 (fun D p l e R s m args below meth c H locs a cells slots hG h1 h2 => W.vret hG.1 hG.2.1 (hG.2.2.2.1.trans hr) h1 h2 hd hG.2.2.2.2.1), hq⟩
theorem Wp.aret {x : Value} {rt : FieldType} (hd : decode M.2.1 pc = .ok (.areturn, 1)) (hr : M.2.2.2 = some rt) (hrt : (∃ n, rt = .object n) ∨ ∃ t, rt = .array t) (hx : ev_isr x) (hq : Q (some x) h) : Wp B d M pc ls [x] h Q :=
  ⟨_, _, Ev.ret0 (fun D p l e R s m args below meth c H locs a cells slots hG h1 h2 => W.aret hG.1 hG.2.1 (hG.2.2.2.1.trans hr) hrt hx h1 h2 hd hG.2.2.2.2.1), hq⟩
end EVA
end
section
/-! calls: a method's run from its entry is a contract (Met); a call takes it at its word -/
def ev_sl : List Value → List (Option Value)
  | [] => []
  | .long x :: t => some (.long x) :: none :: ev_sl t
  | .double x :: t => some (.double x) :: none :: ev_sl t
  | .int x :: t => some (.int x) :: ev_sl t
  | .float x :: t => some (.float x) :: ev_sl t
  | .null :: t => some .null :: ev_sl t
  | .ref x :: t => some (.ref x) :: ev_sl t
  | .retAddr x :: t => some (.retAddr x) :: ev_sl t
/-- the locals with which a method begins -/
def ev_en (As : List Value) (n : Nat) : List (Option Value) := ev_sl As ++ List.replicate (n - (ev_sl As).length) none
theorem ev_sl_len (As : List Value) : (ev_sl As).length = (lg_sl As).length := by
  induction As with
  | nil => rfl
  | cons v t ih =>
    have e : lg_sl (v :: t) = lg_sl [v] ++ lg_sl t := by simp [lg_sl]
    rw [e, List.length_append, ← ih]
    cases v <;> simp [ev_sl, lg_sl, Value.category] <;> omega
theorem ev_sl_args : ∀ (As : List Value) (k i : Nat) (v : Value), (ev_sl As)[i]? = some (some v) → (k + i, v) ∈ lv_args k As
  | [], k, i, v, h => by simp [ev_sl] at h
  | w :: t, k, i, v, h => by
    have one : ∀ (x : Value), x = w → x.category ≠ 2 → ev_sl (w :: t) = some w :: ev_sl t → (k + i, v) ∈ lv_args k (w :: t) := by
      intro x hx hc he
      subst hx
      rw [he] at h
      show (k + i, v) ∈ (k, x) :: lv_args (if x.category = 2 then k + 2 else k + 1) t
      rw [if_neg hc]
      cases i with
      | zero => simp at h; subst h; exact List.mem_cons_self
      | succ i =>
        have := ev_sl_args t (k + 1) i v (by simpa using h)
        rw [show k + 1 + i = k + (i + 1) by omega] at this
        exact List.mem_cons_of_mem _ this
    have two : ∀ (x : Value), x = w → x.category = 2 → ev_sl (w :: t) = some w :: none :: ev_sl t → (k + i, v) ∈ lv_args k (w :: t) := by
      intro x hx hc he
      subst hx
      rw [he] at h
      show (k + i, v) ∈ (k, x) :: lv_args (if x.category = 2 then k + 2 else k + 1) t
      rw [if_pos hc]
      cases i with
      | zero => simp at h; subst h; exact List.mem_cons_self
      | succ i =>
        cases i with
        | zero => simp at h
        | succ i =>
          have := ev_sl_args t (k + 2) i v (by simpa using h)
          rw [show k + 2 + i = k + (i + 1 + 1) by omega] at this
          exact List.mem_cons_of_mem _ this
    cases hw : w with
    | long x => rw [← hw]; exact two w rfl (by rw [hw]; rfl) (by rw [hw]; rfl)
    | double x => rw [← hw]; exact two w rfl (by rw [hw]; rfl) (by rw [hw]; rfl)
    | int x => rw [← hw]; exact one w rfl (by rw [hw]; exact (show ¬ (1 : Nat) = 2 by decide)) (by rw [hw]; rfl)
    | float x => rw [← hw]; exact one w rfl (by rw [hw]; exact (show ¬ (1 : Nat) = 2 by decide)) (by rw [hw]; rfl)
    | null => rw [← hw]; exact one w rfl (by rw [hw]; exact (show ¬ (1 : Nat) = 2 by decide)) (by rw [hw]; rfl)
    | ref x => rw [← hw]; exact one w rfl (by rw [hw]; exact (show ¬ (1 : Nat) = 2 by decide)) (by rw [hw]; rfl)
    | retAddr x => rw [← hw]; exact one w rfl (by rw [hw]; exact (show ¬ (1 : Nat) = 2 by decide)) (by rw [hw]; rfl)
theorem ev_en_L {As : List Value} {n : Nat} {a : Array Slot} (h : lv_has a n (lv_args 0 As)) : ev_L (ev_en As n) a n := by
  refine ⟨h.1, h.2.1, fun i v hi => ?_⟩
  unfold ev_en at hi
  by_cases hl : i < (ev_sl As).length
  · rw [List.getElem?_append_left hl] at hi
    have := h.2.2 _ (ev_sl_args As 0 i v hi)
    rw [Nat.zero_add] at this
    exact this
  · rw [List.getElem?_append_right (by omega)] at hi
    have := List.eq_of_mem_replicate (List.mem_of_getElem? hi)
    cases this
/-- what a method must have to be called: its code among the words, room for its locals -/
def ev_okM (M : ev_M) (n : Nat) : Prop := plainName M.1.cls = true ∧ M.2.2.1 ≤ 21 ∧ Cond.code M.1 M.2.1 M.2.2.1 M.2.2.2 ∈ ev_tb ∧ Cond.initialized M.1.cls ∈ ev_tb ∧ (M.1.cls ≠ "java/lang/invoke/MethodHandle" ∧ M.1.cls ≠ "java/lang/invoke/VarHandle") ∧ (parseMethodDescriptor M.1.desc).map (fun d => d.parameters.length) = some n
abbrev ev_ws (M : ev_M) : List Cond := Cond.code M.1 M.2.1 M.2.2.1 M.2.2.2 :: ev_tb
abbrev ev_rm (d w : Nat) : Room := { frames := d, cells := w, slots := w, locals := 40 * d }
def ev_P (B : ev_B) (D : ev_D) (h : ev_H) (As : List Value) : Array Value → State → Prop := fun av U => av = As.toArray ∧ ev_R B D h U.heap ∧ ev_K D U ∧ B.1 ≤ U.heap.size ∧ ev_Z B U U.heap
theorem ev_good {w : Cond} (h : w ∈ ev_tb) : (w.onTables && w.keeps) = true ∨ ∃ ty, w = .arrayClass ty := good_of_word (List.mem_filter.mp h).2
theorem ev_gin {ws : List Cond} (h : ∀ w ∈ ws, w ∈ ev_tb) : GoodIn ev_tb ws := fun w hw => ⟨h w hw, ev_good (h w hw)⟩
theorem ev_met {B : ev_B} {d n : Nat} {M : ev_M} {As : List Value} {h h' : ev_H} {v : Option Value} (hE : Ev B d M 0 (ev_en As M.2.2.1) [] h v h') (hok : ev_okM M n) (hlen : (ev_sl As).length ≤ M.2.2.1) (l : Launch) (D : ev_D) :
    Met l M.1 (ev_ws M) (ev_rm d (h'.2.2 - h.2.2)) (ev_P B D h As) (ev_Q B D v h') (h'.2.2 - h.2.2) (h'.2.2 - h.2.2) (ev_A B) := by
  refine Met.ofW (cc := M.2.1) (maxL := M.2.2.1) (ret := M.2.2.2) hok.1 rfl ?_
  intro p e s m args below meth c s₁ BL hml hv
  obtain ⟨rfl, hR, hK, hB, hZ⟩ := hv
  have hts := atoms_spec (ws := ev_ws M) BL.pre
  have hl := lv_entry As (n := M.2.2.1) (by rw [← ev_sl_len]; exact hlen)
  rw [lg_entry_eq]
  generalize (lg_sl As ++ List.replicate (M.2.2.1 - (lg_sl As).length) Slot.unset).toArray = a at hl ⊢
  have key := hE.2 D p l e (ev_rm d (h'.2.2 - h.2.2)) s m As.toArray below meth c ⟨BL.exec, BL.bytes, hml, BL.returns, BL.notSynchronized, findClass_of_methodNamed BL.named, (name_of_methodNamed BL.named BL.method).1, fun w hw => hts w (List.mem_cons_of_mem _ hw), hK, Nat.le_refl _, Nat.le_refl _, hB, hZ⟩
    s.heap [] a 0 0 hR va_S.rf (ev_en_L hl) (by show 0 + _ ≤ h'.2.2 - h.2.2; omega) (by show 0 + _ ≤ h'.2.2 - h.2.2; omega)
  rw [Nat.zero_add] at key
  exact key
theorem ev_K.moved {D : ev_D} {s U : State} (hW : s.WarmedH U.vm) (h : ev_K D s) : ev_K D U := by
  have ha := hW.alike
  obtain ⟨h1, h2, h3, h4, h5, h6, h7⟩ := h
  refine ⟨va_K.moved ha h1, fun t ht => ⟨arrOfT_moved ha (h2 t ht).1, (h2 t ht).2.moved ha⟩, fun w hw => ?_, ⟨h4.1.moved ha, h4.2.1.moved ha, h4.2.2.moved ha⟩, h5.moved ha, h6.moved ha, fun C hC => ?_⟩
  · have h8 := h3 w hw
    have h9 := (List.mem_filter.mp hw).2
    cases w <;> first | exact va_Nw.warmM hW h8 | exact va_Nw.warmD hW h8 | (simp at h9)
  · obtain ⟨c, t, e1, e2, e3⟩ := h7 C hC
    exact ⟨c, t, by rw [ha.findClass]; exact e1, by rw [ha.findClass]; exact e2, by rw [ha.assignable]; exact e3⟩
theorem ev_K.same {D : ev_D} {s U : State} (hv : s.vm = U.vm) (h : ev_K D s) : ev_K D U := by
  have ha : s.vm.Alike U.vm := by rw [hv]; exact Vm.Alike.refl _
  obtain ⟨h1, h2, h3, h4, h5, h6, h7⟩ := h
  refine ⟨va_K.moved ha h1, fun t ht => ⟨arrOfT_moved ha (h2 t ht).1, (h2 t ht).2.moved ha⟩, fun w hw => ?_, ⟨h4.1.moved ha, h4.2.1.moved ha, h4.2.2.moved ha⟩, h5.moved ha, h6.moved ha, fun C hC => ?_⟩
  · have h8 := h3 w hw
    have h9 := (List.mem_filter.mp hw).2
    cases w <;> first | exact va_Nw.same rfl hv h8 | (simp at h9)
  · obtain ⟨c, t, e1, e2, e3⟩ := h7 C hC
    exact ⟨c, t, by rw [ha.findClass]; exact e1, by rw [ha.findClass]; exact e2, by rw [ha.assignable]; exact e3⟩
theorem ev_Z.moved {B : ev_B} {s U : State} {H : Heap} (ha : s.vm.Alike U.vm) (h : ev_Z B s H) : ev_Z B U H := ⟨va_Z.moved ha h.1, va_Z.moved ha h.2.1, fun t N f hf => va_T.moved ha (h.2.2 t N f hf)⟩
theorem ev_Z.kept {B : ev_B} {s : State} {H H1 : Heap} (h : ev_Z B s H) (hq : ∀ a : Nat, a < H.size → ¬ ev_A B a → H1[a]? = H[a]?) : ev_Z B s H1 := ⟨va_Z.kept h.1 hq, va_Z.kept h.2.1 hq, fun t N f hf => va_T.kept (h.2.2 t N f hf) hq⟩
theorem ev_blind {B : ev_B} {D : ev_D} {h : ev_H} {As : List Value} : FrameBlind (ev_P B D h As) := by
  intro a U g mk q
  obtain ⟨h1, h2, h3, h4, h5⟩ := q
  exact ⟨h1, h2, ev_K.same (s := U) (U := U.calling g mk a) rfl h3, h4, ev_Z.moved (U := U.calling g mk a) (Vm.Alike.refl U.vm) h5⟩
/-- the callee's start, out of the caller's state -/
theorem ev_pre {B : ev_B} {D : ev_D} {d : Nat} {M : ev_M} {p : Program} {R : Room} {s : State} {m : MethodId} {args : Array Value} {meth : Method} {c : Code} {h : ev_H} {H : Heap} {locs : List Loc} {As : List Value} (hG : ev_G B D d M p R s m args meth c) (hR : ev_R B D h H) (hS : va_S (ev_A B) s.heap H locs) :
    ∀ U : State, U.heap = H → s.WarmedH U.vm → ev_P B D h As As.toArray U := by
  obtain ⟨-, -, -, -, -, -, -, -, hK, -, -, hB, hZ⟩ := hG
  intro U hU hW
  refine ⟨rfl, by rw [hU]; exact hR, hK.moved hW, by rw [hU]; exact Nat.le_trans hB hS.1, ?_⟩
  rw [hU]
  exact (hZ.kept (fun a h1 h2 => hS.2.1 a h1 h2)).moved hW.alike
section EVC
variable {B : ev_B} {d : Nat} {M : ev_M} {pc n : Nat} {ls ls' : List (Option Value)} {st st' : List Value} {h : ev_H} {Q : Option Value → ev_H → Prop}
/-- a call, however it is linked: 'run' is the kit's row for it -/
theorem Wp.callG {dc k : Nat} {N : ev_M} {As rest : List Value} {Qc : Option Value → ev_H → Prop} (hlt : dc + 1 ≤ d) (hok : ev_okM N k) (hlen : (ev_sl As).length ≤ N.2.2.1) (hc : Wp B dc N 0 (ev_en As N.2.2.1) [] h Qc)
    (run : ∀ (D : ev_D) (p : Program) (l : Launch) (e : Env) (R : Room) (s : State) (m : MethodId) (args : Array Value) (below : List Frame) (meth : Method) (c : Code) (H : Heap) (locs : List Loc) (a : Array Slot) (cells slots w : Nat) (Pc : Array Value → State → Prop) (Qq : Array Value → State → Outcome → State → Prop),
      ev_G B D d M p R s m args meth c → ev_R B D h H → a.size = M.2.2.1 → Met l N.1 (ev_ws N) (ev_rm dc w) Pc Qq w w (ev_A B) → FrameBlind Pc → (∀ U : State, U.heap = H → s.WarmedH U.vm → Pc As.toArray U) →
      (ev_rm dc w).frames + 1 ≤ R.frames ∧ 8 + (N.2.2.1 + 11) + (ev_rm dc w).locals ≤ R.locals → cells + w ≤ R.cells ∧ slots + w ≤ R.slots →
      va_Run p l e R s m args below meth c H locs cells slots w w (F0 m pc a st) rest (Qq As.toArray) (ev_A B))
    (hn : pc + 3 = n) (kk : ∀ (v : Option Value) (h1 : ev_H), Qc v h1 → Wp B d M n ls (v.toList ++ rest) h1 Q) : Wp B d M pc ls st h Q := by
  subst hn
  obtain ⟨v1, h1, hE, hQ⟩ := hc
  obtain ⟨v, h', ⟨hw, hE2⟩, hQ2⟩ := kk v1 h1 hQ
  have hw1 := hE.1
  refine ⟨v, h', ⟨by omega, fun D p l e R s m args below meth c hG H locs a cells slots hR hS hL hc1 hc2 => ?_⟩, hQ2⟩
  have hM := ev_met hE hok hlen l D
  have hG' := hG
  obtain ⟨-, -, -, -, -, -, -, -, -, hfr, hlo, -⟩ := hG'
  have hN := hok.2.1
  have hr := run D p l e R s m args below meth c H locs a cells slots (h1.2.2 - h.2.2) _ _ hG hR hL.1 hM ev_blind (ev_pre hG hR hS) ⟨by show dc + 1 ≤ _; omega, by show 8 + (N.2.2.1 + 11) + 40 * dc ≤ _; omega⟩ ⟨by omega, by omega⟩
  intro T hT X
  obtain ⟨v0, st₀, t, T', L, h0, X', hL', e1, e2, ⟨hv, hR1, hF⟩, stp⟩ := hr T hT X
  cases hv
  have hS1 : va_S (ev_A B) s.heap T'.heap (locs ++ L) := by
    rw [e1]
    refine ⟨Nat.le_trans hS.1 (by rw [← h0]; exact hF.1), fun q g1 g2 => ?_, fun q hq => ?_⟩
    · rw [hF.2 q (by rw [h0]; exact Nat.lt_of_lt_of_le g1 hS.1) g2, h0]
      exact hS.2.1 q g1 g2
    · rcases List.mem_append.mp hq with z | z
      · exact hS.2.2 q z
      · exact hL' q z
  have key := hE2 D p l e R s m args below meth c hG T'.heap (locs ++ L) a (cells + (h1.2.2 - h.2.2)) (slots + (h1.2.2 - h.2.2)) (by rw [e1]; exact hR1) hS1 hL (by omega) (by omega)
  have ee1 : cells + (h'.2.2 - h.2.2) = (cells + (h1.2.2 - h.2.2)) + (h'.2.2 - h1.2.2) := by omega
  have ee2 : slots + (h'.2.2 - h.2.2) = (slots + (h1.2.2 - h.2.2)) + (h'.2.2 - h1.2.2) := by omega
  rw [ee1, ee2]
  obtain ⟨t2, a1, b1⟩ := key T' rfl X'
  exact ⟨t2, stp t2 a1, b1⟩
/-- an instance method, or a private one: the receiver's class declares it -/
def ev_CV (own : String) (idx ci : Nat) (N : ev_M) (k : Nat) : Prop := ev_okM N k ∧ (∃ (T : u_T) (nn : Nat), vwCl[ci]? = some (N.1.cls, T, nn)) ∧ Cond.methodLink own idx N.1 ∈ ev_tb ∧ Cond.instanceMethod N.1 ∈ ev_tb ∧ Cond.selects N.1.cls N.1 N.1 ∈ ev_tb
/-- an instance method named through a class above, or one that overrides -/
def ev_CU (own : String) (idx ci : Nat) (N : ev_M) (k : Nat) : Prop := ev_okM N k ∧ ∃ (C owner : String) (x : MethodName) (T : u_T) (nn : Nat), vwCl[ci]? = some (C, T, nn) ∧ Cond.methodLink own idx x ∈ ev_tb ∧ Cond.sameMethod x.cls owner x.name x.desc ∈ ev_tb ∧ Cond.selects C x N.1 ∈ ev_tb ∧ Cond.instanceMethod N.1 ∈ ev_tb ∧
  (owner ≠ "java/lang/invoke/MethodHandle" ∧ owner ≠ "java/lang/invoke/VarHandle") ∧ (parseMethodDescriptor x.desc).map (fun d => d.parameters.length) = some k ∧ (N.1 = ⟨owner, x.name, x.desc⟩ ∨ Cond.declares ⟨owner, x.name, x.desc⟩ ∈ ev_nest)
def ev_CS (own : String) (idx : Nat) (N : ev_M) (k : Nat) : Prop := ev_okM N k ∧ Cond.methodLink own idx N.1 ∈ ev_tb ∧ Cond.static N.1 ∈ ev_tb
def ev_CSN (own : String) (idx : Nat) (N : ev_M) (k : Nat) : Prop := ev_okM N k ∧ (∃ host : String, Cond.methodLinkNest own idx N.1 host ∈ ev_nest) ∧ Cond.static N.1 ∈ ev_tb
def ev_CI (own : String) (idx : Nat) (N : ev_M) (k : Nat) : Prop := ev_okM N k ∧ Cond.methodLink own idx N.1 ∈ ev_tb ∧ Cond.instanceMethod N.1 ∈ ev_tb ∧ N.1.name = "<init>" ∧ N.2.2.2 = none
def ev_CIN (own : String) (idx : Nat) (N : ev_M) (k : Nat) : Prop := ev_okM N k ∧ (∃ host : String, Cond.methodLinkNest own idx N.1 host ∈ ev_nest) ∧ Cond.instanceMethod N.1 ∈ ev_tb ∧ N.1.name = "<init>" ∧ N.2.2.2 = none
theorem ev_B0 {own : String} {idx k w dc : Nat} {N : ev_M} {R : Room} {s : State} {args : Array Value} (hok : ev_okM N k) (hts : ∀ x ∈ ev_tb, x.before args s = true) (hl : (Cond.methodLink own idx N.1).before args s = true) (hR : (ev_rm dc w).frames + 1 ≤ R.frames ∧ 8 + (N.2.2.1 + 11) + (ev_rm dc w).locals ≤ R.locals) :
    CallB R s args own idx N.1 N.2.1 N.2.2.1 N.2.2.2 (ev_ws N) (ev_rm dc w) w w k :=
  callB_of k hts (ev_gin (fun x hx => (List.mem_cons.mp hx).elim (fun e => by rw [e]; exact hok.2.2.1) (fun e => e))) rfl rfl rfl (hts _ hok.2.2.2.1) hl ⟨hok.2.2.2.2.1.1, hok.2.2.2.2.1.2, hok.2.2.2.2.2⟩ hR
theorem ev_pay {N : ev_M} {k : Nat} {s : State} {args : Array Value} (hok : ev_okM N k) (hts : ∀ x ∈ ev_tb, x.before args s = true) : ∀ w ∈ ev_ws N, ∀ (a' : Array Value) (U : State), s.WarmedH U.vm → w.before a' U = true :=
  pay_in hts (ev_gin (fun x hx => (List.mem_cons.mp hx).elim (fun e => by rw [e]; exact hok.2.2.1) (fun e => e)))
theorem ev_kl {N : ev_M} {k : Nat} (hok : ev_okM N k) : ∀ sig, parseMethodDescriptor N.1.desc = some sig → k = sig.parameters.length := by
  intro sig hs
  have h2 := hok.2.2.2.2.2
  rw [hs] at h2
  exact (Option.some.inj h2).symm
theorem Wp.callV {dc k idx ci b : Nat} {N : ev_M} {V : Nat → Value} {As rest : List Value} {Qc : Option Value → ev_H → Prop} (hd : decode M.2.1 pc = .ok (.invokevirtual idx, 3)) (hL : ev_CV M.1.cls idx ci N k) (hst : st = As.reverse ++ .ref b :: rest) (hlt : dc + 1 ≤ d) (hk : As.length = k) (hlen : (ev_sl (.ref b :: As)).length ≤ N.2.2.1) (hrest : (rest.map fun v => v.category).sum ≤ 8) (hb : h.1 b = some (ev_ob ci V)) (hn : pc + 3 = n) (hc : Wp B dc N 0 (ev_en (.ref b :: As) N.2.2.1) [] h Qc)
    (kk : ∀ (v : Option Value) (h1 : ev_H), Qc v h1 → Wp B d M n ls (v.toList ++ rest) h1 Q) : Wp B d M pc ls st h Q := by
  obtain ⟨hok, ⟨TT, nn, hci⟩, hl, hin, hsel⟩ := hL
  refine Wp.callG hlt hok hlen hc (fun D p l e R s m args below meth c H locs a cells slots w Pc Qq hG hR hsz hM hbl hpre hroom hf => ?_) hn kk
  have hrecv := ev_recv hG.2.2.2.2.2.2.2.2.1 hR hb hci
  obtain ⟨hx, hbb, hml, -, -, hown, hname, hts, hK, -⟩ := hG
  exact va_runV (C := N.1.cls) (As := As) (rest := rest) (n := k) ⟨hx, hbb, hml, hown, hts⟩ hM ⟨ev_B0 hok hts (hts _ hl) hroom, hts _ hin, hts _ hsel⟩ ⟨hbl, hrecv, hpre⟩ rfl hk hsz (by rw [hst]) (by show 2 * 0 + _ ≤ 8; omega) hd hf
theorem Wp.callU {dc k idx ci b : Nat} {N : ev_M} {V : Nat → Value} {As rest : List Value} {Qc : Option Value → ev_H → Prop} (hd : decode M.2.1 pc = .ok (.invokevirtual idx, 3)) (hL : ev_CU M.1.cls idx ci N k) (hst : st = As.reverse ++ .ref b :: rest) (hlt : dc + 1 ≤ d) (hk : As.length = k) (hlen : (ev_sl (.ref b :: As)).length ≤ N.2.2.1) (hrest : (rest.map fun v => v.category).sum ≤ 8) (hb : h.1 b = some (ev_ob ci V)) (hn : pc + 3 = n) (hc : Wp B dc N 0 (ev_en (.ref b :: As) N.2.2.1) [] h Qc)
    (kk : ∀ (v : Option Value) (h1 : ev_H), Qc v h1 → Wp B d M n ls (v.toList ++ rest) h1 Q) : Wp B d M pc ls st h Q := by
  obtain ⟨hok, C, owner, x, TT, nn, hci, hl, hsame, hsel, hin, hmh, hpar, hdec⟩ := hL
  refine Wp.callG hlt hok hlen hc (fun D p l e R s m args below meth c H locs a cells slots w Pc Qq hG hR hsz hM hbl hpre hroom hf => ?_) hn kk
  have hrecv := ev_recv hG.2.2.2.2.2.2.2.2.1 hR hb hci
  obtain ⟨hx, hbb, hml, -, -, hown, hname, hts, hK, -⟩ := hG
  have hcode := hok.2.2.1
  have hdd : va_Decl s ⟨owner, x.name, x.desc⟩ := by
    rcases hdec with e | e
    · rw [← e]; exact va_Decl.of (hts _ hin) (hts _ hcode)
    · exact va_Decl.abs (hK.2.2.1 _ e)
  refine va_runU (C := C) (owner := owner) (x := x) (As := As) (rest := rest) (n := k) ⟨hx, hbb, hml, hown, hts⟩ hM ⟨⟨rfl, rfl, hroom.1, hroom.2, ev_pay hok hts, List.mem_cons_self⟩, hts _ hcode, hts _ hok.2.2.2.1, hmh, ?_, hts _ hl, hts _ hsame, hdd, hts _ hsel, hts _ hin⟩ ⟨hbl, hrecv, hpre⟩ rfl hk hsz (by rw [hst]) (by show 2 * 0 + _ ≤ 8; omega) hd hf
  intro sig hs
  rw [hs] at hpar
  exact (Option.some.inj hpar).symm
theorem Wp.callS {dc k idx : Nat} {N : ev_M} {As rest : List Value} {Qc : Option Value → ev_H → Prop} (hd : decode M.2.1 pc = .ok (.invokestatic idx, 3)) (hL : ev_CS M.1.cls idx N k) (hst : st = As.reverse ++ rest) (hlt : dc + 1 ≤ d) (hk : As.length = k) (hlen : (ev_sl As).length ≤ N.2.2.1) (hrest : (rest.map fun v => v.category).sum ≤ 8) (hn : pc + 3 = n) (hc : Wp B dc N 0 (ev_en As N.2.2.1) [] h Qc)
    (kk : ∀ (v : Option Value) (h1 : ev_H), Qc v h1 → Wp B d M n ls (v.toList ++ rest) h1 Q) : Wp B d M pc ls st h Q := by
  obtain ⟨hok, hl, hstat⟩ := hL
  refine Wp.callG hlt hok hlen hc (fun D p l e R s m args below meth c H locs a cells slots w Pc Qq hG hR hsz hM hbl hpre hroom hf => ?_) hn kk
  obtain ⟨hx, hbb, hml, -, -, hown, hname, hts, hK, -⟩ := hG
  exact va_runS (As := As) (rest := rest) (n := k) ⟨hx, hbb, hml, hown, hts⟩ hM ⟨ev_B0 hok hts (hts _ hl) hroom, hts _ hstat⟩ ⟨hbl, hpre⟩ rfl hk hsz (by rw [hst]) (by show 2 * 0 + _ ≤ 8; omega) hd hf
theorem Wp.callSN {dc k idx : Nat} {N : ev_M} {As rest : List Value} {Qc : Option Value → ev_H → Prop} (hd : decode M.2.1 pc = .ok (.invokestatic idx, 3)) (hL : ev_CSN M.1.cls idx N k) (hst : st = As.reverse ++ rest) (hlt : dc + 1 ≤ d) (hk : As.length = k) (hlen : (ev_sl As).length ≤ N.2.2.1) (hrest : (rest.map fun v => v.category).sum ≤ 8) (hn : pc + 3 = n) (hc : Wp B dc N 0 (ev_en As N.2.2.1) [] h Qc)
    (kk : ∀ (v : Option Value) (h1 : ev_H), Qc v h1 → Wp B d M n ls (v.toList ++ rest) h1 Q) : Wp B d M pc ls st h Q := by
  obtain ⟨hok, ⟨host, hl⟩, hstat⟩ := hL
  refine Wp.callG hlt hok hlen hc (fun D p l e R s m args below meth c H locs a cells slots w Pc Qq hG hR hsz hM hbl hpre hroom hf => ?_) hn kk
  obtain ⟨hx, hbb, hml, -, -, hown, hname, hts, hK, -⟩ := hG
  exact va_runSN (host := host) (As := As) (rest := rest) (n := k) ⟨hx, hbb, hml, hown, hts⟩ hM ⟨⟨⟨rfl, rfl, hroom.1, hroom.2, ev_pay hok hts, List.mem_cons_self⟩, hts _ hok.2.2.1, hts _ hok.2.2.2.1, hok.2.2.2.2.1, ev_kl hok, va_Nw.use rfl (hK.2.2.1 _ hl)⟩, hts _ hstat, trivial⟩ ⟨hbl, hpre⟩ rfl hk hsz (by rw [hst]) (by show 2 * 0 + _ ≤ 8; omega) hd hf
theorem Wp.callI {dc k idx b : Nat} {N : ev_M} {As rest : List Value} {Qc : Option Value → ev_H → Prop} (hd : decode M.2.1 pc = .ok (.invokespecial idx, 3)) (hL : ev_CI M.1.cls idx N k) (hst : st = As.reverse ++ .ref b :: rest) (hlt : dc + 1 ≤ d) (hk : As.length = k) (hlen : (ev_sl (.ref b :: As)).length ≤ N.2.2.1) (hrest : (rest.map fun v => v.category).sum ≤ 8) (hn : pc + 3 = n) (hc : Wp B dc N 0 (ev_en (.ref b :: As) N.2.2.1) [] h Qc)
    (kk : ∀ (v : Option Value) (h1 : ev_H), Qc v h1 → Wp B d M n ls (v.toList ++ rest) h1 Q) : Wp B d M pc ls st h Q := by
  obtain ⟨hok, hl, hin, hnm, hret⟩ := hL
  refine Wp.callG hlt hok hlen hc (fun D p l e R s m args below meth c H locs a cells slots w Pc Qq hG hR hsz hM hbl hpre hroom hf => ?_) hn kk
  obtain ⟨hx, hbb, hml, -, -, hown, hname, hts, hK, -⟩ := hG
  have hB0 := ev_B0 hok hts (hts _ hl) hroom
  rw [hret] at hB0
  exact va_runI (As := As) (rest := rest) (n := k) ⟨hx, hbb, hml, hown, hts⟩ hM ⟨hB0, hnm, hts _ hin⟩ ⟨hbl, hpre⟩ rfl hk hsz (by rw [hst]) (by show 2 * 0 + _ ≤ 8; omega) hd hf
theorem Wp.callIN {dc k idx b : Nat} {N : ev_M} {As rest : List Value} {Qc : Option Value → ev_H → Prop} (hd : decode M.2.1 pc = .ok (.invokespecial idx, 3)) (hL : ev_CIN M.1.cls idx N k) (hst : st = As.reverse ++ .ref b :: rest) (hlt : dc + 1 ≤ d) (hk : As.length = k) (hlen : (ev_sl (.ref b :: As)).length ≤ N.2.2.1) (hrest : (rest.map fun v => v.category).sum ≤ 8) (hn : pc + 3 = n) (hc : Wp B dc N 0 (ev_en (.ref b :: As) N.2.2.1) [] h Qc)
    (kk : ∀ (v : Option Value) (h1 : ev_H), Qc v h1 → Wp B d M n ls (v.toList ++ rest) h1 Q) : Wp B d M pc ls st h Q := by
  obtain ⟨hok, ⟨host, hl⟩, hin, hnm, hret⟩ := hL
  refine Wp.callG hlt hok hlen hc (fun D p l e R s m args below meth c H locs a cells slots w Pc Qq hG hR hsz hM hbl hpre hroom hf => ?_) hn kk
  obtain ⟨hx, hbb, hml, -, -, hown, hname, hts, hK, -⟩ := hG
  have hcode := hts _ hok.2.2.1
  have hmem : Cond.code N.1 N.2.1 N.2.2.1 none ∈ ev_ws N := by rw [← hret]; exact List.mem_cons_self
  rw [hret] at hcode
  exact va_runIN (host := host) (As := As) (rest := rest) (n := k) ⟨hx, hbb, hml, hown, hts⟩ hM ⟨⟨⟨rfl, rfl, hroom.1, hroom.2, ev_pay hok hts, hmem⟩, hcode, hts _ hok.2.2.2.1, hok.2.2.2.2.1, ev_kl hok, va_Nw.use rfl (hK.2.2.1 _ hl)⟩, hnm, hts _ hin⟩ ⟨hbl, hpre⟩ rfl hk hsz (by rw [hst]) (by show 2 * 0 + _ ≤ 8; omega) hd hf
/-- Object's own constructor -/
theorem Wp.objInit {idx b : Nat} (hd : decode M.2.1 pc = .ok (.invokespecial idx, 3)) (hl : Cond.methodLink M.1.cls idx Lib.objectInit ∈ ev_tb) (hd1 : 1 ≤ d) (hrest : (st.map fun v => v.category).sum ≤ 8) (hn : pc + 3 = n) (k : Wp B d M n ls st h Q) : Wp B d M pc ls (.ref b :: st) h Q := by
  subst hn
  refine Wp.go (fun D p l e R s m args below meth c H locs sl cells slots Qf hG hR hS hL kk => ?_) k
  obtain ⟨hx, hbb, hml, -, -, hown, hname, hts, hK, hfr, hlo, -⟩ := hG
  exact W.objInit hx hbb hown (hts _ hl) (hts _ (ev_mem (by decide +kernel) rfl)) (hts _ (ev_mem (by decide +kernel) rfl)) rfl (by rw [hml]; exact hL.1) rfl hd (by omega) (by show 2 * 0 + _ + 12 ≤ _; omega) (kk _ hL)
end EVC
end
section
/-! THE CLAIM OUT OF THE LAW'S RUN: what is wanted of the law is one run (ev_law) -/
def R_law : String := "PriceBenchLaw"
abbrev M_law : ev_M := (⟨R_law, "law", "([I)Z"⟩, code, 4, ret)
def ev_KA : Nat → Int32 := fun k => match k with
  | 0 => -1
  | 3 => 1
  | _ => 0
def ev_BO : Nat → Int32 := fun k => match k with
  | 0 => 10
  | 1 => 11
  | 2 => 12
  | 3 => 20
  | 5 => 21
  | 7 => 30
  | 9 => 40
  | 10 => 41
  | _ => 0
/-- the two static arrays -/
def ev_sta (B : ev_B) : Prop := B.2.2 (B.2.1 0) = some (4, ev_KA) ∧ B.2.2 (B.2.1 1) = some (12, ev_BO)
/-- the law's run: from an empty heap, with a script of at most 3072 ints -/
def ev_law : Prop := ∀ (B : ev_B) (b L : Nat) (f : Nat → Int32) (n : Nat), ev_sta B → B.2.2 b = some (L, f) → L ≤ 3072 → Wp B 100 M_law 0 [some (.ref b), none, none, none] [] ((fun _ => none, n, 0) : ev_H) (fun v h' => v = some (.int 1) ∧ h'.2.2 ≤ 600000)
def lw_P (b : Addr) (xs : List Int32) (args : Array Value) (s : State) : Prop := args = #[.ref b] ∧ s.IntsAt b xs ∧ xs.length ≤ 3072 ∧ (Jvm.Cond.and given_1 narrow_1).before args s = true
def lw_Q (_ : Array Value) (s : State) (o : Outcome) (t : State) : Prop := o = .returned (some (.int 1)) ∧ Framed s o t [] 600000 7302250
def lw_Z (below : List Frame) (a : Array Value) (s : State) : State → Prop := fun t => ∃ o, t.status = .running ∧ Ended t below o ∧ lw_Q a s o t
def lw_At (p : Program) (s : State) (m : MethodId) (meth : Method) (c : Code) (b L : Nat) (xs : Nat → Int32) : Prop :=
  p.tables.exec = Jvm.exec ∧ c.code = code ∧ meth.sig.returnType = ret ∧ c.maxLocals = 4 ∧ s.vm.findClass R_law = some m.cls ∧ meth.name = "law" ∧ (∀ w ∈ lw_tbl, w.before #[Value.ref b] s = true) ∧ va_X b L xs s s.heap ∧ b < s.heap.size ∧ meth.locks = false ∧ (Jvm.Cond.and given_1 narrow_1).before #[Value.ref b] s = true
theorem ev_same {s t : State} {L : List Loc} {k n k' n' : Nat} (hL : ∀ q ∈ L, s.heap.size ≤ q.base) (hk : k ≤ k') (hn : n ≤ n') (h : s.sameButNew t L k n) : s.sameButNew t [] k' n' := by
  obtain ⟨h1, h2, h3, h4, h5, h6⟩ := h
  refine ⟨h1, h2, by omega, h4, by omega, fun a c hc => ?_⟩
  obtain ⟨c', e1, e2, e3, e4⟩ := h6 a c hc
  refine ⟨c', e1, e2, e3, fun i _ => e4 i (fun z => ?_)⟩
  have := hL _ z
  have hl := (Array.getElem?_eq_some_iff.mp hc).1
  exact absurd this (Nat.not_le.mpr hl)
/-- a private method of a class above: nothing overrides it -/
theorem ev_selp {y : MethodName} {C : String} {s : State} {args : Array Value} {nn : Nat} (hy : y.cls ≠ "java/lang/invoke/MethodHandle" ∧ y.cls ≠ "java/lang/invoke/VarHandle") (hins : (Cond.instantiable C nn).before args s = true) (hpriv : (Cond.privateMethod y).before args s = true) (hinst : (Cond.instanceMethod y).before args s = true) (hsame : (Cond.sameMethod y.cls y.cls y.name y.desc).before args s = true) :
    (Cond.selects C y y).before args s = true := by
  obtain ⟨c, k, hc, hk, -⟩ := Cond.instantiable_spec hins
  obtain ⟨cn, ck, r1, hcn, hck, hni, hf, hn1⟩ := Cond.sameMethod_found hsame
  obtain ⟨mk, methM, hnamed, hmethM, -, -⟩ := Cond.instanceMethod_spec hinst
  have hfound : s.methodFound? y.cls y.name y.desc = some mk := State.methodFound?_of_named hnamed hy
  have hcls : mk.cls = cn := Option.some.inj ((findClass_of_methodNamed hnamed).symm.trans hcn)
  have hsel : selectMethod {} s.vm c mk = .method mk := selectMethod_private hmethM (Cond.privateMethod_at hpriv mk methM hnamed hmethM)
  simp only [Cond.before, Cond.holds, Cond.value, hc, hfound, hnamed, hsel, hcls, hck]
  simp; exact hni
theorem ev_cast {s : State} {A : Array Value} {C T : String} (h : (Cond.castable C T).before A s = true) : ev_Yc C T s := by
  obtain ⟨c, t, h1, h2, h3⟩ := Cond.castable_spec h
  exact ⟨c, t, h1, h2, h3⟩
set_option maxRecDepth 100000 in
set_option maxHeartbeats 4000000 in
theorem ev_startK {s : State} {b : Nat} (hts : ∀ w ∈ lw_tbl, w.before #[Value.ref b] s = true) (hgv : (Jvm.Cond.and given_1 narrow_1).before #[Value.ref b] s = true) : ∃ D : ev_D, ev_K D s := by
  have hs := flat_of_before _ hgv
  have hk : ∀ c : Nat, ∃ g : ClassId × (Nat → Nat), ∀ q : vw_C, vwCl[c]? = some q → u_Kn s q.1 q.2.1 q.2.2 g.1 g.2 := by
    intro c
    have one : ∀ (C : String) (T : u_T) (N : Nat), vwCl[c]? = some (C, T, N) → (∀ w ∈ u_ws C T N, w ∈ lw_tbl) → Cond.instantiable C N ∈ lw_tbl → ∃ g : ClassId × (Nat → Nat), ∀ q : vw_C, vwCl[c]? = some q → u_Kn s q.1 q.2.1 q.2.2 g.1 g.2 := by
      intro C T N hc hin hi
      obtain ⟨cC, iS, h⟩ := u_known hts hin (hts _ hi)
      refine ⟨(cC, iS), fun q hq => ?_⟩
      cases hc.symm.trans hq
      exact h
    match c with
    | 0 => exact one RX0 TX0 2 rfl inX0 (by decide +kernel)
    | 1 => exact one RX1 TX1 4 rfl inX1 (by decide +kernel)
    | 2 => exact one RX2 TX2 11 rfl inX2 (by decide +kernel)
    | 3 => exact one RX4 TX4 7 rfl inX4 (by decide +kernel)
    | 4 => exact one RX5 TX5 2 rfl inX5 (by decide +kernel)
    | 5 => exact one RX6 TX6 3 rfl inX6 (by decide +kernel)
    | 6 => exact one RX7 TX7 8 rfl inX7 (by decide +kernel)
    | 7 => exact one RX8 TX8 6 rfl inX8 (by decide +kernel)
    | 8 => exact one RX9 TX9 8 rfl inX9 (by decide +kernel)
    | 9 => exact one RX10 TX10 5 rfl inX10 (by decide +kernel)
    | 10 => exact one RX11 TX11 8 rfl inX11 (by decide +kernel)
    | 11 => exact one RX12 TX12 36 rfl inX12 (by decide +kernel)
    | c + 12 => exact ⟨(0, fun _ => 0), fun q hq => by simp [vwCl] at hq⟩
  have harr : ∀ t : Nat, ∃ cA : ClassId, t < 4 → ArrOfT s cA (ev_ty t) ∧ va_RA s cA (ev_ty t) := by
    intro t
    match t with
    | 0 =>
      obtain ⟨cA, kA, comp, h1, h2, h3⟩ := Cond.arrayClass_spec (hts (.arrayClass .int) (by decide +kernel))
      exact ⟨cA, fun _ => ⟨fun n z => ⟨fun k h => (by cases h), kA, h2, comp, h3⟩, h1⟩⟩
    | 1 =>
      obtain ⟨cA, kA, comp, h1, h2, h3⟩ := Cond.arrayClass_spec (hts (.arrayClass .long) (by decide +kernel))
      exact ⟨cA, fun _ => ⟨fun n z => ⟨fun k h => (by cases h), kA, h2, comp, h3⟩, h1⟩⟩
    | 2 =>
      obtain ⟨comp, cA, kA, h1, h2, h3, h4, h5⟩ := Cond.arrayOver_spec (hts (.arrayOver (.object "PriceBench$Offer")) (by decide +kernel))
      exact ⟨cA, fun _ => ⟨fun n z => ⟨fun k h => (by cases h), kA, h3, comp, h4⟩, kA, comp, h3, h4, h1, h5⟩⟩
    | 3 =>
      obtain ⟨comp, cA, kA, h1, h2, h3, h4, h5⟩ := Cond.arrayOver_spec (hts (.arrayOver (.object "PriceBench$Sheet")) (by decide +kernel))
      exact ⟨cA, fun _ => ⟨fun n z => ⟨fun k h => (by cases h), kA, h3, comp, h4⟩, kA, comp, h3, h4, h1, h5⟩⟩
    | t + 4 => exact ⟨0, fun h => absurd h (by omega)⟩
  refine ⟨((fun c => (Classical.choose (hk c)).1, fun c => (Classical.choose (hk c)).2), fun t => Classical.choose (harr t)), ⟨fun c q hq => Classical.choose_spec (hk c) q hq, fun k q h => by simp at h⟩, fun t ht => Classical.choose_spec (harr t) ht, fun w hw => ?_, ⟨va_Nc.of (hs _ (by decide +kernel)), va_Nc.of (hs _ (by decide +kernel)), va_Nc.of (hs _ (by decide +kernel))⟩, va_AO.of (A := #[Value.ref b]) (hts _ (by decide +kernel)), va_AO.of (A := #[Value.ref b]) (hts _ (by decide +kernel)), fun C hC => ?_⟩
  · have h9 := (List.mem_filter.mp hw).2
    have h8 := hts w (List.mem_filter.mp hw).1
    cases w <;> first | exact va_Nw.of rfl h8 | (simp at h9)
  · simp only [List.mem_cons, List.mem_nil_iff, or_false] at hC
    rcases hC with rfl | rfl | rfl | rfl <;> exact ev_cast (A := #[Value.ref b]) (hts _ (by decide +kernel))
set_option maxRecDepth 100000 in
set_option maxHeartbeats 4000000 in
theorem ev_startT {s : State} {b : Nat} {A : Nat → Prop} (hA : ∀ a : Nat, a < s.heap.size → ¬ A a) (hts : ∀ w ∈ lw_tbl, w.before #[Value.ref b] s = true) (hgv : (Jvm.Cond.and given_1 narrow_1).before #[Value.ref b] s = true) :
    ∃ t1 t2 : Nat, va_Z "PriceBench$Acts" "KIND_ABOVE" "[I" (.ref t1) A s s.heap ∧ va_Z "PriceBench$Acts" "BODIES" "[I" (.ref t2) A s s.heap ∧ va_T .int t1 4 (fun j => .int (ev_KA j)) A s s.heap ∧ va_T .int t2 12 (fun j => .int (ev_BO j)) A s s.heap := by
  have hs := flat_of_before _ hgv
  obtain ⟨t1, e1, hT1⟩ := va_Tof (tm := .static "PriceBench$Acts" "KIND_ABOVE" "[I") (ty := .int) (N := 4) (f := fun j => .int (ev_KA j)) (A := A) (by decide) (hs _ (by decide +kernel)) (va_eqt (hs _ (by decide +kernel))) (fun j hj => by
    match j, hj with
    | 0, _ => exact va_eqt (hs _ (by decide +kernel))
    | 1, _ => exact va_eqt (hs _ (by decide +kernel))
    | 2, _ => exact va_eqt (hs _ (by decide +kernel))
    | 3, _ => exact va_eqt (hs _ (by decide +kernel))
    | j + 4, h => exact absurd h (by omega)) hA
  obtain ⟨t2, e2, hT2⟩ := va_Tof (tm := .static "PriceBench$Acts" "BODIES" "[I") (ty := .int) (N := 12) (f := fun j => .int (ev_BO j)) (A := A) (by decide) (hs _ (by decide +kernel)) (va_eqt (hs _ (by decide +kernel))) (fun j hj => by
    match j, hj with
    | 0, _ => exact va_eqt (hs _ (by decide +kernel))
    | 1, _ => exact va_eqt (hs _ (by decide +kernel))
    | 2, _ => exact va_eqt (hs _ (by decide +kernel))
    | 3, _ => exact va_eqt (hs _ (by decide +kernel))
    | 4, _ => exact va_eqt (hs _ (by decide +kernel))
    | 5, _ => exact va_eqt (hs _ (by decide +kernel))
    | 6, _ => exact va_eqt (hs _ (by decide +kernel))
    | 7, _ => exact va_eqt (hs _ (by decide +kernel))
    | 8, _ => exact va_eqt (hs _ (by decide +kernel))
    | 9, _ => exact va_eqt (hs _ (by decide +kernel))
    | 10, _ => exact va_eqt (hs _ (by decide +kernel))
    | 11, _ => exact va_eqt (hs _ (by decide +kernel))
    | j + 12, h => exact absurd h (by omega)) hA
  exact ⟨t1, t2, va_Zref (hts (.laysStatic "PriceBench$Acts" "KIND_ABOVE" "[I") (by decide +kernel)) (hts (.initialized "PriceBench$Acts") (by decide +kernel)) e1 hA, va_Zref (hts (.laysStatic "PriceBench$Acts" "BODIES" "[I") (by decide +kernel)) (hts (.initialized "PriceBench$Acts") (by decide +kernel)) e2 hA, hT1, hT2⟩
theorem ev_startW {s : State} {args : Array Value} (hts : ∀ w ∈ lw_tbl, w.before args s = true) : ∀ w ∈ ev_tb, w.before args s = true := by
  intro w hw
  rcases List.mem_append.mp (List.mem_filter.mp hw).1 with h | h
  · simp only [ev_x, List.mem_cons, List.mem_nil_iff, or_false] at h
    have key : ∀ (C : String) (nn : Nat), Cond.instantiable C nn ∈ lw_tbl → (Cond.selects C ev_yf ev_yf).before args s = true := fun C nn hi => ev_selp ⟨by decide +kernel, by decide +kernel⟩ (hts _ hi) (hts _ (by decide +kernel)) (hts _ (by decide +kernel)) (hts _ (by decide +kernel))
    rcases h with rfl | rfl | rfl | rfl
    · exact key _ 7 (by decide +kernel)
    · exact key _ 8 (by decide +kernel)
    · exact key _ 6 (by decide +kernel)
    · exact key _ 8 (by decide +kernel)
  · exact hts w h
set_option maxHeartbeats 4000000 in
theorem whole_start_open (hlaw : ev_law) {p : Program} {e : Env} {s : State} {m : MethodId} {below : List Frame} {meth : Method} {c : Code} (l : Launch) {b L : Nat} {xs : Nat → Int32} (hL : L ≤ 3072) (C0 : lw_At p s m meth c b L xs) : W p l e room_1 s m #[Value.ref b] below meth c s.heap [] 0 0 (lw_Z below #[Value.ref b] s) (entryFrame m ([Value.ref b] : List Value).toArray 4) := by
  obtain ⟨hx, hb, hr, hml, hown, hname, hts, hX, hbl, hlocks, hgv⟩ := id C0
  have hA : ∀ a : Nat, a < s.heap.size → ¬ (fun q : Nat => s.heap.size ≤ q) a := fun a h z => absurd z (Nat.not_le.mpr h)
  obtain ⟨D, hK⟩ := ev_startK hts hgv
  obtain ⟨t1, t2, hZ1, hZ2, hT1, hT2⟩ := ev_startT hA hts hgv
  have hne : t2 ≠ t1 := by
    intro h
    obtain ⟨c1, a1, -, -, -, z1, -⟩ := hT1
    obtain ⟨c2, a2, -, -, -, z2, -⟩ := hT2
    rw [h, a1] at a2
    cases a2
    rw [z1] at z2
    exact absurd z2 (by decide)
  have hTb : va_T .int b L (fun j => .int (xs j)) (fun q : Nat => s.heap.size ≤ q) s s.heap := by
    obtain ⟨scr, h1, h2, h3, h4, h5⟩ := hX
    exact ⟨scr, h1, h2, h3, by omega, by rw [h4] <;> rfl, h5, hA b hbl⟩
  let ro : Nat → Option (Nat × (Nat → Int32)) := fun t => if t = t1 then some (4, ev_KA) else if t = t2 then some (12, ev_BO) else if t = b then some (L, xs) else none
  let B : ev_B := (s.heap.size, fun k => if k = 0 then t1 else t2, ro)
  have hsta : ev_sta B := ⟨by simp [B, ro], by simp [B, ro, hne]⟩
  have hro : ∃ (L' : Nat) (f : Nat → Int32), B.2.2 b = some (L', f) ∧ L' ≤ 3072 := by
    by_cases h1 : b = t1
    · exact ⟨4, ev_KA, by simp [B, ro, h1], by omega⟩
    · by_cases h2 : b = t2
      · exact ⟨12, ev_BO, by simp [B, ro, h2, hne], by omega⟩
      · exact ⟨L, xs, by simp [B, ro, h1, h2], hL⟩
  obtain ⟨L', f, hf, hL'⟩ := hro
  obtain ⟨v, h', ⟨hw, hE⟩, rfl, hw'⟩ := hlaw B b L' f s.heap.size hsta hf hL'
  have hl := lv_entry ([.ref b]) (n := 4) (Nat.le_of_ble_eq_true rfl)
  rw [lg_entry_eq]
  generalize (lg_sl ([.ref b]) ++ List.replicate (4 - (lg_sl ([.ref b])).length) Slot.unset).toArray = ls at hl ⊢
  have key := hE D p l e room_1 s m #[Value.ref b] below meth c ⟨hx, hb, hml, hr, hlocks, hown, hname, ev_startW hts, hK, by decide, by decide, Nat.le_refl _, hZ1, hZ2, fun t N f hf => ?_⟩ s.heap [] ls 0 0 ⟨rfl, fun a e h => by cases h⟩ va_S.rf (ev_en_L (As := [.ref b]) (n := 4) hl) (by show 0 + (h'.2.2 - 0) ≤ 600000; omega) (by show 0 + (h'.2.2 - 0) ≤ 7302250; omega)
  · intro T hT X
    obtain ⟨t, a1, o, b1, b2, ⟨rfl, -⟩, LL, hF, hLL⟩ := key T hT X
    refine ⟨t, a1, _, b1, b2, rfl, hF.1, hF.2.1, ev_same hLL ?_ ?_ hF.2.2⟩
    · show 0 + (h'.2.2 - 0) ≤ 600000; omega
    · show 0 + (h'.2.2 - 0) ≤ 7302250; omega
  · have hf' : ro t = some (N, f) := hf
    simp only [ro] at hf'
    by_cases h1 : t = t1
    · rw [if_pos h1] at hf'; cases hf'; rw [h1]; exact hT1
    · rw [if_neg h1] at hf'
      by_cases h2 : t = t2
      · rw [if_pos h2] at hf'; cases hf'; rw [h2]; exact hT2
      · rw [if_neg h2] at hf'
        by_cases h3 : t = b
        · rw [if_pos h3] at hf'; cases hf'; rw [h3]; exact hTb
        · rw [if_neg h3] at hf'; cases hf'
end
section
theorem tm1 {w : Cond} {i : Nat} (h : tables_1_1[i]? = some w) (g : goodWord w = true) : w ∈ ev_tb := ev_mem (List.mem_append_right _ (List.mem_append_left _ (List.mem_of_getElem? h))) g
theorem tn1 {w : Cond} {i : Nat} (h : tables_1_1[i]? = some w) : w ∈ lw_tbl := List.mem_append_right _ (List.mem_append_left _ (List.mem_of_getElem? h))
theorem tm2 {w : Cond} {i : Nat} (h : tables_1_2[i]? = some w) (g : goodWord w = true) : w ∈ ev_tb := ev_mem (List.mem_append_right _ (List.mem_append_right _ (List.mem_append_left _ (List.mem_of_getElem? h)))) g
theorem tn2 {w : Cond} {i : Nat} (h : tables_1_2[i]? = some w) : w ∈ lw_tbl := List.mem_append_right _ (List.mem_append_right _ (List.mem_append_left _ (List.mem_of_getElem? h)))
theorem tm3 {w : Cond} {i : Nat} (h : tables_1_3[i]? = some w) (g : goodWord w = true) : w ∈ ev_tb := ev_mem (List.mem_append_right _ (List.mem_append_right _ (List.mem_append_right _ (List.mem_append_left _ (List.mem_of_getElem? h))))) g
theorem tn3 {w : Cond} {i : Nat} (h : tables_1_3[i]? = some w) : w ∈ lw_tbl := List.mem_append_right _ (List.mem_append_right _ (List.mem_append_right _ (List.mem_append_left _ (List.mem_of_getElem? h))))
theorem tm4 {w : Cond} {i : Nat} (h : tables_1_4[i]? = some w) (g : goodWord w = true) : w ∈ ev_tb := ev_mem (List.mem_append_right _ (List.mem_append_right _ (List.mem_append_right _ (List.mem_append_right _ (List.mem_append_left _ (List.mem_of_getElem? h)))))) g
theorem tn4 {w : Cond} {i : Nat} (h : tables_1_4[i]? = some w) : w ∈ lw_tbl := List.mem_append_right _ (List.mem_append_right _ (List.mem_append_right _ (List.mem_append_right _ (List.mem_append_left _ (List.mem_of_getElem? h)))))
theorem tm5 {w : Cond} {i : Nat} (h : tables_1_5[i]? = some w) (g : goodWord w = true) : w ∈ ev_tb := ev_mem (List.mem_append_right _ (List.mem_append_right _ (List.mem_append_right _ (List.mem_append_right _ (List.mem_append_right _ (List.mem_append_left _ (List.mem_of_getElem? h))))))) g
theorem tn5 {w : Cond} {i : Nat} (h : tables_1_5[i]? = some w) : w ∈ lw_tbl := List.mem_append_right _ (List.mem_append_right _ (List.mem_append_right _ (List.mem_append_right _ (List.mem_append_right _ (List.mem_append_left _ (List.mem_of_getElem? h))))))
theorem tm6 {w : Cond} {i : Nat} (h : tables_1_6[i]? = some w) (g : goodWord w = true) : w ∈ ev_tb := ev_mem (List.mem_append_right _ (List.mem_append_right _ (List.mem_append_right _ (List.mem_append_right _ (List.mem_append_right _ (List.mem_append_right _ ((List.mem_of_getElem? h)))))))) g
theorem tn6 {w : Cond} {i : Nat} (h : tables_1_6[i]? = some w) : w ∈ lw_tbl := List.mem_append_right _ (List.mem_append_right _ (List.mem_append_right _ (List.mem_append_right _ (List.mem_append_right _ (List.mem_append_right _ ((List.mem_of_getElem? h)))))))
theorem tms {w : Cond} {i : Nat} (h : (k2_sels lw_privs)[i]? = some w) (g : goodWord w = true) : w ∈ ev_tb := ev_mem (List.mem_append_left _ (List.mem_of_getElem? h)) g
/-! names of methods, links of fields and calls (laid by program) -/
def ev_isO (ci : Nat) : Prop := ci = 3 ∨ ci = 6 ∨ ci = 7 ∨ ci = 8
theorem iev0 : ∀ w ∈ u_ws RX0 TX0 2, w ∈ ev_tb := fun w h => ev_mem (inX0 w h) (List.all_eq_true.mp (by decide +kernel : (u_ws RX0 TX0 2).all goodWord = true) w h)
theorem iev1 : ∀ w ∈ u_ws RX1 TX1 4, w ∈ ev_tb := fun w h => ev_mem (inX1 w h) (List.all_eq_true.mp (by decide +kernel : (u_ws RX1 TX1 4).all goodWord = true) w h)
theorem iev2 : ∀ w ∈ u_ws RX2 TX2 11, w ∈ ev_tb := fun w h => ev_mem (inX2 w h) (List.all_eq_true.mp (by decide +kernel : (u_ws RX2 TX2 11).all goodWord = true) w h)
theorem iev3 : ∀ w ∈ u_ws RX4 TX4 7, w ∈ ev_tb := fun w h => ev_mem (inX4 w h) (List.all_eq_true.mp (by decide +kernel : (u_ws RX4 TX4 7).all goodWord = true) w h)
theorem iev4 : ∀ w ∈ u_ws RX5 TX5 2, w ∈ ev_tb := fun w h => ev_mem (inX5 w h) (List.all_eq_true.mp (by decide +kernel : (u_ws RX5 TX5 2).all goodWord = true) w h)
theorem iev5 : ∀ w ∈ u_ws RX6 TX6 3, w ∈ ev_tb := fun w h => ev_mem (inX6 w h) (List.all_eq_true.mp (by decide +kernel : (u_ws RX6 TX6 3).all goodWord = true) w h)
theorem iev6 : ∀ w ∈ u_ws RX7 TX7 8, w ∈ ev_tb := fun w h => ev_mem (inX7 w h) (List.all_eq_true.mp (by decide +kernel : (u_ws RX7 TX7 8).all goodWord = true) w h)
theorem iev7 : ∀ w ∈ u_ws RX8 TX8 6, w ∈ ev_tb := fun w h => ev_mem (inX8 w h) (List.all_eq_true.mp (by decide +kernel : (u_ws RX8 TX8 6).all goodWord = true) w h)
theorem iev8 : ∀ w ∈ u_ws RX9 TX9 8, w ∈ ev_tb := fun w h => ev_mem (inX9 w h) (List.all_eq_true.mp (by decide +kernel : (u_ws RX9 TX9 8).all goodWord = true) w h)
theorem iev9 : ∀ w ∈ u_ws RX10 TX10 5, w ∈ ev_tb := fun w h => ev_mem (inX10 w h) (List.all_eq_true.mp (by decide +kernel : (u_ws RX10 TX10 5).all goodWord = true) w h)
theorem iev10 : ∀ w ∈ u_ws RX11 TX11 8, w ∈ ev_tb := fun w h => ev_mem (inX11 w h) (List.all_eq_true.mp (by decide +kernel : (u_ws RX11 TX11 8).all goodWord = true) w h)
theorem iev11 : ∀ w ∈ u_ws RX12 TX12 36, w ∈ ev_tb := fun w h => ev_mem (inX12 w h) (List.all_eq_true.mp (by decide +kernel : (u_ws RX12 TX12 36).all goodWord = true) w h)
abbrev M_X0_init : ev_M := (yX0_init, cX0_init, 1, none)
abbrev M_X0_isUnder : ev_M := (yX0_isUnder, cX0_isUnder, 4, (some .boolean))
abbrev M_X0_kindAbove : ev_M := (yX0_kindAbove, cX0_kindAbove, 1, (some .int))
abbrev M_X0_forget : ev_M := (yX0_forget, cX0_forget, 1, none)
abbrev M_X0_start : ev_M := (yX0_start, cX0_start, 4, (some .int))
abbrev M_X0_play : ev_M := (yX0_play, cX0_play, 11, (some .int))
abbrev M_X0_kindWithBody : ev_M := (yX0_kindWithBody, cX0_kindWithBody, 5, (some .int))
abbrev M_X0_note : ev_M := (yX0_note, cX0_note, 2, none)
abbrev M_X1_init : ev_M := (yX1_init, cX1_init, 1, none)
abbrev M_X1_clear : ev_M := (yX1_clear, cX1_clear, 1, none)
abbrev M_X1_put : ev_M := (yX1_put, cX1_put, 4, none)
abbrev M_X1_widen : ev_M := (yX1_widen, cX1_widen, 1, none)
abbrev M_X1_comesAhead : ev_M := (yX1_comesAhead, cX1_comesAhead, 3, (some .boolean))
abbrev M_X1_placeOf : ev_M := (yX1_placeOf, cX1_placeOf, 3, (some .int))
abbrev M_X1_costAt : ev_M := (yX1_costAt, cX1_costAt, 4, (some .long))
abbrev M_X1_cheapestAt : ev_M := (yX1_cheapestAt, cX1_cheapestAt, 10, (some .int))
abbrev M_X1_leadsAmongLike : ev_M := (yX1_leadsAmongLike, cX1_leadsAmongLike, 4, (some .boolean))
abbrev M_X1_leastAt : ev_M := (yX1_leastAt, cX1_leastAt, 4, (some .long))
abbrev M_X1_nextAbove : ev_M := (yX1_nextAbove, cX1_nextAbove, 4, (some .int))
abbrev M_X1_meetsSooner : ev_M := (yX1_meetsSooner, cX1_meetsSooner, 8, (some .boolean))
abbrev M_X1_findSpan : ev_M := (yX1_findSpan, cX1_findSpan, 16, (some .boolean))
abbrev M_X1_leastRatio : ev_M := (yX1_leastRatio, cX1_leastRatio, 3, (some .int))
abbrev M_X1_findRegret : ev_M := (yX1_findRegret, cX1_findRegret, 9, none)
abbrev M_X2_init : ev_M := (yX2_init, cX2_init, 1, none)
abbrev M_X2_isThing : ev_M := (yX2_isThing, cX2_isThing, 2, (some .boolean))
abbrev M_X2_isLine : ev_M := (yX2_isLine, cX2_isLine, 2, (some .boolean))
abbrev M_X2_allThings : ev_M := (yX2_allThings, cX2_allThings, 1, (some .int))
abbrev M_X2_addThing : ev_M := (yX2_addThing, cX2_addThing, 1, (some .int))
abbrev M_X2_addLine : ev_M := (yX2_addLine, cX2_addLine, 5, (some .int))
abbrev M_X2_changeLine : ev_M := (yX2_changeLine, cX2_changeLine, 4, none)
abbrev M_X2_dropLine : ev_M := (yX2_dropLine, cX2_dropLine, 1, (some .int))
abbrev M_X2_stepBack : ev_M := (yX2_stepBack, cX2_stepBack, 1, none)
abbrev M_X2_changed : ev_M := (yX2_changed, cX2_changed, 2, none)
abbrev M_X2_numberOf : ev_M := (yX2_numberOf, cX2_numberOf, 3, (some .int))
abbrev M_X2_sumOver : ev_M := (yX2_sumOver, cX2_sumOver, 5, (some .int))
abbrev M_X2_lineCost : ev_M := (yX2_lineCost, cX2_lineCost, 4, (some .long))
abbrev M_X2_hangingWith : ev_M := (yX2_hangingWith, cX2_hangingWith, 8, (some .int))
abbrev M_X2_ledToFrom : ev_M := (yX2_ledToFrom, cX2_ledToFrom, 6, (some .int))
abbrev M_X2_beside : ev_M := (yX2_beside, cX2_beside, 7, (some .int))
abbrev M_X2_dearestBetween : ev_M := (yX2_dearestBetween, cX2_dearestBetween, 7, (some .int))
abbrev M_X2_isBetween : ev_M := (yX2_isBetween, cX2_isBetween, 5, (some .boolean))
abbrev M_X3_init : ev_M := (yX3_init, cX3_init, 3, none)
abbrev M_X3_renewChoices : ev_M := (yX3_renewChoices, cX3_renewChoices, 2, none)
abbrev M_X3_outdate : ev_M := (yX3_outdate, cX3_outdate, 1, none)
abbrev M_X3_bendsIn : ev_M := (yX3_bendsIn, cX3_bendsIn, 2, (some (.object "PriceBench$Rows")))
abbrev M_X3_findBends : ev_M := (yX3_findBends, cX3_findBends, 9, none)
abbrev M_X4_init : ev_M := (yX4_init, cX4_init, 3, none)
abbrev M_X4_gather : ev_M := (yX4_gather, cX4_gather, 2, none)
abbrev M_X4_pair : ev_M := (yX4_pair, cX4_pair, 8, none)
abbrev M_X4_barsIn : ev_M := (yX4_barsIn, cX4_barsIn, 5, (some .int))
abbrev M_X4_needs : ev_M := (yX4_needs, cX4_needs, 2, (some .boolean))
abbrev M_X4_firstNumber : ev_M := (yX4_firstNumber, cX4_firstNumber, 1, (some .int))
abbrev M_X4_secondNumber : ev_M := (yX4_secondNumber, cX4_secondNumber, 1, (some .int))
abbrev M_X5_init : ev_M := (yX5_init, cX5_init, 1, none)
abbrev M_X5_clear : ev_M := (yX5_clear, cX5_clear, 1, none)
abbrev M_X5_has : ev_M := (yX5_has, cX5_has, 3, (some .boolean))
abbrev M_X5_number : ev_M := (yX5_number, cX5_number, 3, (some .int))
abbrev M_X5_set : ev_M := (yX5_set, cX5_set, 4, none)
abbrev M_X5_put : ev_M := (yX5_put, cX5_put, 8, none)
abbrev M_X5_becomeLike : ev_M := (yX5_becomeLike, cX5_becomeLike, 2, none)
abbrev M_X5_makeRoomFor : ev_M := (yX5_makeRoomFor, cX5_makeRoomFor, 2, none)
abbrev M_X6_init : ev_M := (yX6_init, cX6_init, 1, none)
abbrev M_X6_become : ev_M := (yX6_become, cX6_become, 3, none)
abbrev M_X6_holds : ev_M := (yX6_holds, cX6_holds, 3, (some .boolean))
abbrev M_X7_init : ev_M := (yX7_init, cX7_init, 2, none)
abbrev M_X7_take : ev_M := (yX7_take, cX7_take, 3, (some .int))
abbrev M_X7_gather : ev_M := (yX7_gather, cX7_gather, 3, none)
abbrev M_X7_barsIn : ev_M := (yX7_barsIn, cX7_barsIn, 2, (some .int))
abbrev M_X7_needs : ev_M := (yX7_needs, cX7_needs, 2, (some .boolean))
abbrev M_X7_firstNumber : ev_M := (yX7_firstNumber, cX7_firstNumber, 1, (some .int))
abbrev M_X7_secondNumber : ev_M := (yX7_secondNumber, cX7_secondNumber, 1, (some .int))
abbrev M_X8_init : ev_M := (yX8_init, cX8_init, 2, none)
abbrev M_X8_gather : ev_M := (yX8_gather, cX8_gather, 2, none)
abbrev M_X8_grow : ev_M := (yX8_grow, cX8_grow, 9, none)
abbrev M_X8_groupOf : ev_M := (yX8_groupOf, cX8_groupOf, 2, (some .int))
abbrev M_X8_join : ev_M := (yX8_join, cX8_join, 6, (some .int))
abbrev M_X8_barsIn : ev_M := (yX8_barsIn, cX8_barsIn, 2, (some .int))
abbrev M_X8_needs : ev_M := (yX8_needs, cX8_needs, 2, (some .boolean))
abbrev M_X8_firstNumber : ev_M := (yX8_firstNumber, cX8_firstNumber, 1, (some .int))
abbrev M_X8_secondNumber : ev_M := (yX8_secondNumber, cX8_secondNumber, 1, (some .int))
abbrev M_X9_init : ev_M := (yX9_init, cX9_init, 4, none)
abbrev M_X9_gather : ev_M := (yX9_gather, cX9_gather, 2, none)
abbrev M_X9_walk : ev_M := (yX9_walk, cX9_walk, 8, none)
abbrev M_X9_barsIn : ev_M := (yX9_barsIn, cX9_barsIn, 2, (some .int))
abbrev M_X9_needs : ev_M := (yX9_needs, cX9_needs, 2, (some .boolean))
abbrev M_X9_firstNumber : ev_M := (yX9_firstNumber, cX9_firstNumber, 1, (some .int))
abbrev M_X9_secondNumber : ev_M := (yX9_secondNumber, cX9_secondNumber, 1, (some .int))
abbrev M_X10_init : ev_M := (yX10_init, cX10_init, 1, none)
abbrev M_X10_become : ev_M := (yX10_become, cX10_become, 5, none)
abbrev M_X10_holdsInside : ev_M := (yX10_holdsInside, cX10_holdsInside, 3, (some .boolean))
abbrev M_X11_init : ev_M := (yX11_init, cX11_init, 2, none)
abbrev M_X11_thing : ev_M := (yX11_thing, cX11_thing, 1, (some .int))
abbrev M_X11_line : ev_M := (yX11_line, cX11_line, 5, (some .int))
abbrev M_X11_alter : ev_M := (yX11_alter, cX11_alter, 4, (some .int))
abbrev M_X11_close : ev_M := (yX11_close, cX11_close, 1, (some .int))
abbrev M_X11_undo : ev_M := (yX11_undo, cX11_undo, 2, (some .int))
abbrev M_X11_lineTold : ev_M := (yX11_lineTold, cX11_lineTold, 3, (some .int))
abbrev M_X11_isLineCost : ev_M := (yX11_isLineCost, cX11_isLineCost, 2, (some .boolean))
abbrev M_X11_told : ev_M := (yX11_told, cX11_told, 1, (some .int))
abbrev M_X11_tell : ev_M := (yX11_tell, cX11_tell, 6, (some .int))
abbrev M_X11_tree : ev_M := (yX11_tree, cX11_tree, 1, (some .int))
abbrev M_X11_way : ev_M := (yX11_way, cX11_way, 3, (some .int))
abbrev M_X11_pairing : ev_M := (yX11_pairing, cX11_pairing, 2, (some .int))
abbrev M_X11_offerTold : ev_M := (yX11_offerTold, cX11_offerTold, 4, (some .int))
abbrev M_X11_choice : ev_M := (yX11_choice, cX11_choice, 4, (some .int))
abbrev M_X11_taken : ev_M := (yX11_taken, cX11_taken, 4, (some .int))
abbrev M_X11_addOffer : ev_M := (yX11_addOffer, cX11_addOffer, 2, (some .int))
abbrev M_X11_offerAt : ev_M := (yX11_offerAt, cX11_offerAt, 3, (some (.object "PriceBench$Offer")))
abbrev M_X11_offerWithChoices : ev_M := (yX11_offerWithChoices, cX11_offerWithChoices, 3, (some (.object "PriceBench$Offer")))
abbrev M_X11_placeIn : ev_M := (yX11_placeIn, cX11_placeIn, 2, (some .int))
abbrev M_X11_someOfferNeeds : ev_M := (yX11_someOfferNeeds, cX11_someOfferNeeds, 3, (some .boolean))
abbrev M_X11_cost : ev_M := (yX11_cost, cX11_cost, 7, (some .long))
abbrev M_X11_best : ev_M := (yX11_best, cX11_best, 7, (some .int))
abbrev M_X11_least : ev_M := (yX11_least, cX11_least, 6, (some .long))
abbrev M_X11_window : ev_M := (yX11_window, cX11_window, 5, (some .int))
abbrev M_X11_span : ev_M := (yX11_span, cX11_span, 7, (some .long))
abbrev M_X11_top : ev_M := (yX11_top, cX11_top, 4, (some .long))
abbrev M_X11_ratio : ev_M := (yX11_ratio, cX11_ratio, 6, (some .long))
abbrev M_X11_regret : ev_M := (yX11_regret, cX11_regret, 6, (some .long))
abbrev M_X11_calm : ev_M := (yX11_calm, cX11_calm, 7, (some .int))
abbrev M_X11_why : ev_M := (yX11_why, cX11_why, 8, (some .int))
abbrev M_X11_findTop : ev_M := (yX11_findTop, cX11_findTop, 13, none)
abbrev M_X11_isCalmer : ev_M := (yX11_isCalmer, cX11_isCalmer, 8, (some .boolean))
abbrev M_X11_isPrice : ev_M := (yX11_isPrice, cX11_isPrice, 2, (some .boolean))
abbrev M_X11_isLess : ev_M := (yX11_isLess, cX11_isLess, 8, (some .boolean))
abbrev M_X11_lowest : ev_M := (yX11_lowest, cX11_lowest, 7, (some .long))
abbrev M_X11_commonOf : ev_M := (yX11_commonOf, cX11_commonOf, 7, (some .long))
abbrev M_X11_bends : ev_M := (yX11_bends, cX11_bends, 3, (some .int))
abbrev M_X11_bend : ev_M := (yX11_bend, cX11_bend, 5, (some .long))
abbrev M_X11_write : ev_M := (yX11_write, cX11_write, 3, (some .int))
abbrev M_X11_row : ev_M := (yX11_row, cX11_row, 3, (some .long))
abbrev M_X11_forge : ev_M := (yX11_forge, cX11_forge, 4, (some .int))
abbrev M_X11_check : ev_M := (yX11_check, cX11_check, 5, (some .int))
abbrev M_X11_numberOrNo : ev_M := (yX11_numberOrNo, cX11_numberOrNo, 3, (some .long))
abbrev M_X11_howWrong : ev_M := (yX11_howWrong, cX11_howWrong, 9, (some .int))
abbrev M_X11_act : ev_M := (yX11_act, cX11_act, 5, (some .int))
abbrev M_X11_trace : ev_M := (yX11_trace, cX11_trace, 2, (some .int))
abbrev M_X11_count : ev_M := (yX11_count, cX11_count, 2, (some .int))
abbrev M_X11_sheet : ev_M := (yX11_sheet, cX11_sheet, 5, (some .int))
abbrev M_X11_cell : ev_M := (yX11_cell, cX11_cell, 5, (some .int))
abbrev M_X11_lay : ev_M := (yX11_lay, cX11_lay, 6, (some .int))
abbrev M_X11_copy : ev_M := (yX11_copy, cX11_copy, 8, (some .int))
abbrev M_X11_sheetAt : ev_M := (yX11_sheetAt, cX11_sheetAt, 2, (some (.object "PriceBench$Sheet")))
abbrev M_X12_init : ev_M := (yX12_init, cX12_init, 2, none)
abbrev M_X12_in : ev_M := (yX12_in, cX12_in, 3, (some .boolean))
abbrev M_X12_things : ev_M := (yX12_things, cX12_things, 1, (some .int))
abbrev M_X12_lines : ev_M := (yX12_lines, cX12_lines, 1, (some .int))
abbrev M_X12_from : ev_M := (yX12_from, cX12_from, 2, (some .int))
abbrev M_X12_to : ev_M := (yX12_to, cX12_to, 2, (some .int))
abbrev M_X12_startOf : ev_M := (yX12_startOf, cX12_startOf, 4, (some .int))
abbrev M_X12_riseOf : ev_M := (yX12_riseOf, cX12_riseOf, 4, (some .int))
abbrev M_X12_isThing : ev_M := (yX12_isThing, cX12_isThing, 2, (some .boolean))
abbrev M_X12_isOffer : ev_M := (yX12_isOffer, cX12_isOffer, 2, (some .boolean))
abbrev M_X12_isPrice : ev_M := (yX12_isPrice, cX12_isPrice, 2, (some .boolean))
abbrev M_X12_common : ev_M := (yX12_common, cX12_common, 10, (some .long))
abbrev M_X12_lowest : ev_M := (yX12_lowest, cX12_lowest, 7, (some .long))
abbrev M_X12_keeps : ev_M := (yX12_keeps, cX12_keeps, 2, none)
abbrev M_X12_thing : ev_M := (yX12_thing, cX12_thing, 1, (some .int))
abbrev M_X12_areTold : ev_M := (yX12_areTold, cX12_areTold, 2, (some .boolean))
abbrev M_X12_line : ev_M := (yX12_line, cX12_line, 6, (some .int))
abbrev M_X12_alter : ev_M := (yX12_alter, cX12_alter, 4, (some .int))
abbrev M_X12_close : ev_M := (yX12_close, cX12_close, 1, (some .int))
abbrev M_X12_undo : ev_M := (yX12_undo, cX12_undo, 4, (some .int))
abbrev M_X12_lineTold : ev_M := (yX12_lineTold, cX12_lineTold, 3, (some .int))
abbrev M_X12_made : ev_M := (yX12_made, cX12_made, 4, (some .int))
abbrev M_X12_told : ev_M := (yX12_told, cX12_told, 1, (some .int))
abbrev M_X12_tell : ev_M := (yX12_tell, cX12_tell, 4, (some .int))
abbrev M_X12_tree : ev_M := (yX12_tree, cX12_tree, 1, (some .int))
abbrev M_X12_way : ev_M := (yX12_way, cX12_way, 3, (some .int))
abbrev M_X12_pairing : ev_M := (yX12_pairing, cX12_pairing, 2, (some .int))
abbrev M_X12_bits : ev_M := (yX12_bits, cX12_bits, 3, (some .int))
abbrev M_X12_reached : ev_M := (yX12_reached, cX12_reached, 8, (some .int))
abbrev M_X12_allThings : ev_M := (yX12_allThings, cX12_allThings, 1, (some .int))
abbrev M_X12_allLines : ev_M := (yX12_allLines, cX12_allLines, 1, (some .int))
abbrev M_X12_isTree : ev_M := (yX12_isTree, cX12_isTree, 2, (some .boolean))
abbrev M_X12_isWay : ev_M := (yX12_isWay, cX12_isWay, 11, (some .boolean))
abbrev M_X12_isPairing : ev_M := (yX12_isPairing, cX12_isPairing, 7, (some .boolean))
abbrev M_X12_isTold : ev_M := (yX12_isTold, cX12_isTold, 5, (some .boolean))
abbrev M_X12_isChoice : ev_M := (yX12_isChoice, cX12_isChoice, 3, (some .boolean))
abbrev M_X12_ordered : ev_M := (yX12_ordered, cX12_ordered, 3, (some .int))
abbrev M_X12_gathers : ev_M := (yX12_gathers, cX12_gathers, 4, none)
abbrev M_X12_placeOf : ev_M := (yX12_placeOf, cX12_placeOf, 3, (some .int))
abbrev M_X12_barsOf : ev_M := (yX12_barsOf, cX12_barsOf, 5, (some .int))
abbrev M_X12_beside : ev_M := (yX12_beside, cX12_beside, 4, (some .int))
abbrev M_X12_offerTold : ev_M := (yX12_offerTold, cX12_offerTold, 3, (some .int))
abbrev M_X12_choice : ev_M := (yX12_choice, cX12_choice, 3, (some .int))
abbrev M_X12_cost : ev_M := (yX12_cost, cX12_cost, 5, (some .long))
abbrev M_X12_costAt : ev_M := (yX12_costAt, cX12_costAt, 6, (some .long))
abbrev M_X12_leastAt : ev_M := (yX12_leastAt, cX12_leastAt, 8, (some .long))
abbrev M_X12_bestAt : ev_M := (yX12_bestAt, cX12_bestAt, 11, (some .int))
abbrev M_X12_best : ev_M := (yX12_best, cX12_best, 5, (some .int))
abbrev M_X12_least : ev_M := (yX12_least, cX12_least, 5, (some .long))
abbrev M_X12_window : ev_M := (yX12_window, cX12_window, 5, (some .int))
abbrev M_X12_point : ev_M := (yX12_point, cX12_point, 5, none)
abbrev M_X12_walks : ev_M := (yX12_walks, cX12_walks, 12, none)
abbrev M_X12_prepares : ev_M := (yX12_prepares, cX12_prepares, 2, (some .boolean))
abbrev M_X12_bends : ev_M := (yX12_bends, cX12_bends, 2, (some .int))
abbrev M_X12_bendOf : ev_M := (yX12_bendOf, cX12_bendOf, 3, (some .long))
abbrev M_X12_bend : ev_M := (yX12_bend, cX12_bend, 4, (some .long))
abbrev M_X12_spans : ev_M := (yX12_spans, cX12_spans, 8, (some .boolean))
abbrev M_X12_span : ev_M := (yX12_span, cX12_span, 10, (some .long))
abbrev M_X12_top : ev_M := (yX12_top, cX12_top, 5, (some .long))
abbrev M_X12_ratio : ev_M := (yX12_ratio, cX12_ratio, 6, (some .long))
abbrev M_X12_regrets : ev_M := (yX12_regrets, cX12_regrets, 5, none)
abbrev M_X12_regret : ev_M := (yX12_regret, cX12_regret, 4, (some .long))
abbrev M_X12_calm : ev_M := (yX12_calm, cX12_calm, 11, (some .int))
abbrev M_X12_lineCost : ev_M := (yX12_lineCost, cX12_lineCost, 4, (some .long))
abbrev M_X12_dearest : ev_M := (yX12_dearest, cX12_dearest, 8, (some .int))
abbrev M_X12_why : ev_M := (yX12_why, cX12_why, 7, (some .int))
abbrev M_X12_write : ev_M := (yX12_write, cX12_write, 4, (some .int))
abbrev M_X12_row : ev_M := (yX12_row, cX12_row, 3, (some .long))
abbrev M_X12_forge : ev_M := (yX12_forge, cX12_forge, 4, (some .int))
abbrev M_X12_wrong : ev_M := (yX12_wrong, cX12_wrong, 9, (some .int))
abbrev M_X12_check : ev_M := (yX12_check, cX12_check, 5, (some .int))
abbrev M_X12_ran : ev_M := (yX12_ran, cX12_ran, 2, none)
abbrev M_X12_treeAsks : ev_M := (yX12_treeAsks, cX12_treeAsks, 3, (some .int))
abbrev M_X12_asks : ev_M := (yX12_asks, cX12_asks, 3, (some .int))
abbrev M_X12_toldShows : ev_M := (yX12_toldShows, cX12_toldShows, 3, (some .int))
abbrev M_X12_shows : ev_M := (yX12_shows, cX12_shows, 4, (some .int))
abbrev M_X12_toldTurns : ev_M := (yX12_toldTurns, cX12_toldTurns, 4, (some .int))
abbrev M_X12_turns : ev_M := (yX12_turns, cX12_turns, 4, (some .int))
abbrev M_X12_act : ev_M := (yX12_act, cX12_act, 4, (some .int))
abbrev M_X12_trace : ev_M := (yX12_trace, cX12_trace, 2, (some .int))
abbrev M_X12_count : ev_M := (yX12_count, cX12_count, 2, (some .int))
abbrev M_X12_isSheet : ev_M := (yX12_isSheet, cX12_isSheet, 1, (some .boolean))
abbrev M_X12_sheet : ev_M := (yX12_sheet, cX12_sheet, 5, (some .int))
abbrev M_X12_cell : ev_M := (yX12_cell, cX12_cell, 4, (some .int))
abbrev M_X12_lay : ev_M := (yX12_lay, cX12_lay, 5, (some .int))
abbrev M_X12_copy : ev_M := (yX12_copy, cX12_copy, 7, (some .int))
abbrev M_X12_taken : ev_M := (yX12_taken, cX12_taken, 4, (some .int))
abbrev M_J6_bitCount_0f7a4 : ev_M := (yJ6_bitCount_0f7a4, cJ6_bitCount_0f7a4, 1, (some .int))
abbrev M_J9_abs_0f7a4 : ev_M := (yJ9_abs_0f7a4, cJ9_abs_0f7a4, 1, (some .int))
abbrev M_J9_abs_067f4 : ev_M := (yJ9_abs_067f4, cJ9_abs_067f4, 2, (some .long))
abbrev M_J9_min_7cf53 : ev_M := (yJ9_min_7cf53, cJ9_min_7cf53, 2, (some .int))
abbrev M_J7_fill_d0a16 : ev_M := (yJ7_fill_d0a16, cJ7_fill_d0a16, 5, none)
abbrev M_J7_copyOf_59c91 : ev_M := (yJ7_copyOf_59c91, cJ7_copyOf_59c91, 3, (some (.array .int)))
theorem ok_X0_init : ev_okM M_X0_init 0 := ⟨by decide +kernel, by decide, tm1 (i := 142) (by decide +kernel) rfl, tm1 (i := 5) (by decide +kernel) rfl, ⟨by decide +kernel, by decide +kernel⟩, by decide +kernel⟩
theorem ok_X0_isUnder : ev_okM M_X0_isUnder 2 := ⟨by decide +kernel, by decide, tm3 (i := 124) (by decide +kernel) rfl, tm1 (i := 5) (by decide +kernel) rfl, ⟨by decide +kernel, by decide +kernel⟩, by decide +kernel⟩
theorem ok_X0_kindAbove : ev_okM M_X0_kindAbove 1 := ⟨by decide +kernel, by decide, tm3 (i := 129) (by decide +kernel) rfl, tm1 (i := 5) (by decide +kernel) rfl, ⟨by decide +kernel, by decide +kernel⟩, by decide +kernel⟩
theorem ok_X0_forget : ev_okM M_X0_forget 0 := ⟨by decide +kernel, by decide, tm4 (i := 119) (by decide +kernel) rfl, tm1 (i := 5) (by decide +kernel) rfl, ⟨by decide +kernel, by decide +kernel⟩, by decide +kernel⟩
theorem ok_X0_start : ev_okM M_X0_start 3 := ⟨by decide +kernel, by decide, tm4 (i := 123) (by decide +kernel) rfl, tm1 (i := 5) (by decide +kernel) rfl, ⟨by decide +kernel, by decide +kernel⟩, by decide +kernel⟩
theorem ok_X0_play : ev_okM M_X0_play 6 := ⟨by decide +kernel, by decide, tm4 (i := 126) (by decide +kernel) rfl, tm1 (i := 5) (by decide +kernel) rfl, ⟨by decide +kernel, by decide +kernel⟩, by decide +kernel⟩
theorem ok_X0_kindWithBody : ev_okM M_X0_kindWithBody 2 := ⟨by decide +kernel, by decide, tm4 (i := 129) (by decide +kernel) rfl, tm1 (i := 5) (by decide +kernel) rfl, ⟨by decide +kernel, by decide +kernel⟩, by decide +kernel⟩
theorem ok_X0_note : ev_okM M_X0_note 1 := ⟨by decide +kernel, by decide, tm4 (i := 135) (by decide +kernel) rfl, tm1 (i := 5) (by decide +kernel) rfl, ⟨by decide +kernel, by decide +kernel⟩, by decide +kernel⟩
theorem ok_X1_init : ev_okM M_X1_init 0 := ⟨by decide +kernel, by decide, tm2 (i := 59) (by decide +kernel) rfl, tm1 (i := 10) (by decide +kernel) rfl, ⟨by decide +kernel, by decide +kernel⟩, by decide +kernel⟩
theorem ok_X1_clear : ev_okM M_X1_clear 0 := ⟨by decide +kernel, by decide, tm2 (i := 146) (by decide +kernel) rfl, tm1 (i := 10) (by decide +kernel) rfl, ⟨by decide +kernel, by decide +kernel⟩, by decide +kernel⟩
theorem ok_X1_put : ev_okM M_X1_put 2 := ⟨by decide +kernel, by decide, tm2 (i := 163) (by decide +kernel) rfl, tm1 (i := 10) (by decide +kernel) rfl, ⟨by decide +kernel, by decide +kernel⟩, by decide +kernel⟩
theorem ok_X1_widen : ev_okM M_X1_widen 0 := ⟨by decide +kernel, by decide, tm2 (i := 167) (by decide +kernel) rfl, tm1 (i := 10) (by decide +kernel) rfl, ⟨by decide +kernel, by decide +kernel⟩, by decide +kernel⟩
theorem ok_X1_comesAhead : ev_okM M_X1_comesAhead 2 := ⟨by decide +kernel, by decide, tm2 (i := 186) (by decide +kernel) rfl, tm1 (i := 10) (by decide +kernel) rfl, ⟨by decide +kernel, by decide +kernel⟩, by decide +kernel⟩
theorem ok_X1_placeOf : ev_okM M_X1_placeOf 1 := ⟨by decide +kernel, by decide, tm3 (i := 198) (by decide +kernel) rfl, tm1 (i := 10) (by decide +kernel) rfl, ⟨by decide +kernel, by decide +kernel⟩, by decide +kernel⟩
theorem ok_X1_costAt : ev_okM M_X1_costAt 3 := ⟨by decide +kernel, by decide, tm3 (i := 159) (by decide +kernel) rfl, tm1 (i := 10) (by decide +kernel) rfl, ⟨by decide +kernel, by decide +kernel⟩, by decide +kernel⟩
theorem ok_X1_cheapestAt : ev_okM M_X1_cheapestAt 3 := ⟨by decide +kernel, by decide, tm3 (i := 155) (by decide +kernel) rfl, tm1 (i := 10) (by decide +kernel) rfl, ⟨by decide +kernel, by decide +kernel⟩, by decide +kernel⟩
theorem ok_X1_leadsAmongLike : ev_okM M_X1_leadsAmongLike 3 := ⟨by decide +kernel, by decide, tm3 (i := 163) (by decide +kernel) rfl, tm1 (i := 10) (by decide +kernel) rfl, ⟨by decide +kernel, by decide +kernel⟩, by decide +kernel⟩
theorem ok_X1_leastAt : ev_okM M_X1_leastAt 2 := ⟨by decide +kernel, by decide, tm3 (i := 175) (by decide +kernel) rfl, tm1 (i := 10) (by decide +kernel) rfl, ⟨by decide +kernel, by decide +kernel⟩, by decide +kernel⟩
theorem ok_X1_nextAbove : ev_okM M_X1_nextAbove 1 := ⟨by decide +kernel, by decide, tm3 (i := 233) (by decide +kernel) rfl, tm1 (i := 10) (by decide +kernel) rfl, ⟨by decide +kernel, by decide +kernel⟩, by decide +kernel⟩
theorem ok_X1_meetsSooner : ev_okM M_X1_meetsSooner 3 := ⟨by decide +kernel, by decide, tm3 (i := 237) (by decide +kernel) rfl, tm1 (i := 10) (by decide +kernel) rfl, ⟨by decide +kernel, by decide +kernel⟩, by decide +kernel⟩
theorem ok_X1_findSpan : ev_okM M_X1_findSpan 2 := ⟨by decide +kernel, by decide, tm3 (i := 202) (by decide +kernel) rfl, tm1 (i := 10) (by decide +kernel) rfl, ⟨by decide +kernel, by decide +kernel⟩, by decide +kernel⟩
theorem ok_X1_leastRatio : ev_okM M_X1_leastRatio 0 := ⟨by decide +kernel, by decide, tm4 (i := 24) (by decide +kernel) rfl, tm1 (i := 10) (by decide +kernel) rfl, ⟨by decide +kernel, by decide +kernel⟩, by decide +kernel⟩
theorem ok_X1_findRegret : ev_okM M_X1_findRegret 3 := ⟨by decide +kernel, by decide, tm4 (i := 32) (by decide +kernel) rfl, tm1 (i := 10) (by decide +kernel) rfl, ⟨by decide +kernel, by decide +kernel⟩, by decide +kernel⟩
theorem ok_X2_init : ev_okM M_X2_init 0 := ⟨by decide +kernel, by decide, tm1 (i := 30) (by decide +kernel) rfl, tm1 (i := 2) (by decide +kernel) rfl, ⟨by decide +kernel, by decide +kernel⟩, by decide +kernel⟩
theorem ok_X2_isThing : ev_okM M_X2_isThing 1 := ⟨by decide +kernel, by decide, tm1 (i := 217) (by decide +kernel) rfl, tm1 (i := 2) (by decide +kernel) rfl, ⟨by decide +kernel, by decide +kernel⟩, by decide +kernel⟩
theorem ok_X2_isLine : ev_okM M_X2_isLine 1 := ⟨by decide +kernel, by decide, tm1 (i := 232) (by decide +kernel) rfl, tm1 (i := 2) (by decide +kernel) rfl, ⟨by decide +kernel, by decide +kernel⟩, by decide +kernel⟩
theorem ok_X2_allThings : ev_okM M_X2_allThings 0 := ⟨by decide +kernel, by decide, tm2 (i := 156) (by decide +kernel) rfl, tm1 (i := 2) (by decide +kernel) rfl, ⟨by decide +kernel, by decide +kernel⟩, by decide +kernel⟩
theorem ok_X2_addThing : ev_okM M_X2_addThing 0 := ⟨by decide +kernel, by decide, tm1 (i := 205) (by decide +kernel) rfl, tm1 (i := 2) (by decide +kernel) rfl, ⟨by decide +kernel, by decide +kernel⟩, by decide +kernel⟩
theorem ok_X2_addLine : ev_okM M_X2_addLine 4 := ⟨by decide +kernel, by decide, tm1 (i := 224) (by decide +kernel) rfl, tm1 (i := 2) (by decide +kernel) rfl, ⟨by decide +kernel, by decide +kernel⟩, by decide +kernel⟩
theorem ok_X2_changeLine : ev_okM M_X2_changeLine 3 := ⟨by decide +kernel, by decide, tm1 (i := 236) (by decide +kernel) rfl, tm1 (i := 2) (by decide +kernel) rfl, ⟨by decide +kernel, by decide +kernel⟩, by decide +kernel⟩
theorem ok_X2_dropLine : ev_okM M_X2_dropLine 0 := ⟨by decide +kernel, by decide, tm2 (i := 5) (by decide +kernel) rfl, tm1 (i := 2) (by decide +kernel) rfl, ⟨by decide +kernel, by decide +kernel⟩, by decide +kernel⟩
theorem ok_X2_stepBack : ev_okM M_X2_stepBack 0 := ⟨by decide +kernel, by decide, tm2 (i := 32) (by decide +kernel) rfl, tm1 (i := 2) (by decide +kernel) rfl, ⟨by decide +kernel, by decide +kernel⟩, by decide +kernel⟩
theorem ok_X2_changed : ev_okM M_X2_changed 1 := ⟨by decide +kernel, by decide, tm1 (i := 209) (by decide +kernel) rfl, tm1 (i := 2) (by decide +kernel) rfl, ⟨by decide +kernel, by decide +kernel⟩, by decide +kernel⟩
theorem ok_X2_numberOf : ev_okM M_X2_numberOf 2 := ⟨by decide +kernel, by decide, tm2 (i := 41) (by decide +kernel) rfl, tm1 (i := 2) (by decide +kernel) rfl, ⟨by decide +kernel, by decide +kernel⟩, by decide +kernel⟩
theorem ok_X2_sumOver : ev_okM M_X2_sumOver 2 := ⟨by decide +kernel, by decide, tm2 (i := 190) (by decide +kernel) rfl, tm1 (i := 2) (by decide +kernel) rfl, ⟨by decide +kernel, by decide +kernel⟩, by decide +kernel⟩
theorem ok_X2_lineCost : ev_okM M_X2_lineCost 3 := ⟨by decide +kernel, by decide, tm4 (i := 58) (by decide +kernel) rfl, tm1 (i := 2) (by decide +kernel) rfl, ⟨by decide +kernel, by decide +kernel⟩, by decide +kernel⟩
theorem ok_X2_hangingWith : ev_okM M_X2_hangingWith 2 := ⟨by decide +kernel, by decide, tm3 (i := 76) (by decide +kernel) rfl, tm1 (i := 2) (by decide +kernel) rfl, ⟨by decide +kernel, by decide +kernel⟩, by decide +kernel⟩
theorem ok_X2_ledToFrom : ev_okM M_X2_ledToFrom 1 := ⟨by decide +kernel, by decide, tm3 (i := 83) (by decide +kernel) rfl, tm1 (i := 2) (by decide +kernel) rfl, ⟨by decide +kernel, by decide +kernel⟩, by decide +kernel⟩
theorem ok_X2_beside : ev_okM M_X2_beside 2 := ⟨by decide +kernel, by decide, tm3 (i := 66) (by decide +kernel) rfl, tm1 (i := 2) (by decide +kernel) rfl, ⟨by decide +kernel, by decide +kernel⟩, by decide +kernel⟩
theorem ok_X2_dearestBetween : ev_okM M_X2_dearestBetween 4 := ⟨by decide +kernel, by decide, tm4 (i := 49) (by decide +kernel) rfl, tm1 (i := 2) (by decide +kernel) rfl, ⟨by decide +kernel, by decide +kernel⟩, by decide +kernel⟩
theorem ok_X2_isBetween : ev_okM M_X2_isBetween 3 := ⟨by decide +kernel, by decide, tm4 (i := 53) (by decide +kernel) rfl, tm1 (i := 2) (by decide +kernel) rfl, ⟨by decide +kernel, by decide +kernel⟩, by decide +kernel⟩
theorem ok_X3_init : ev_okM M_X3_init 2 := ⟨by decide +kernel, by decide, tm2 (i := 53) (by decide +kernel) rfl, tm1 (i := 8) (by decide +kernel) rfl, ⟨by decide +kernel, by decide +kernel⟩, by decide +kernel⟩
theorem ok_X3_renewChoices : ev_okM M_X3_renewChoices 1 := ⟨by decide +kernel, by decide, tm2 (i := 142) (by decide +kernel) rfl, tm1 (i := 8) (by decide +kernel) rfl, ⟨by decide +kernel, by decide +kernel⟩, by decide +kernel⟩
theorem ok_X3_outdate : ev_okM M_X3_outdate 0 := ⟨by decide +kernel, by decide, tm2 (i := 225) (by decide +kernel) rfl, tm1 (i := 8) (by decide +kernel) rfl, ⟨by decide +kernel, by decide +kernel⟩, by decide +kernel⟩
theorem ok_X3_bendsIn : ev_okM M_X3_bendsIn 1 := ⟨by decide +kernel, by decide, tm3 (i := 220) (by decide +kernel) rfl, tm1 (i := 8) (by decide +kernel) rfl, ⟨by decide +kernel, by decide +kernel⟩, by decide +kernel⟩
theorem ok_X3_findBends : ev_okM M_X3_findBends 1 := ⟨by decide +kernel, by decide, tm3 (i := 228) (by decide +kernel) rfl, tm1 (i := 8) (by decide +kernel) rfl, ⟨by decide +kernel, by decide +kernel⟩, by decide +kernel⟩
theorem ok_X4_init : ev_okM M_X4_init 2 := ⟨by decide +kernel, by decide, tm3 (i := 35) (by decide +kernel) rfl, tm1 (i := 11) (by decide +kernel) rfl, ⟨by decide +kernel, by decide +kernel⟩, by decide +kernel⟩
theorem ok_X4_gather : ev_okM M_X4_gather 1 := ⟨by decide +kernel, by decide, tm2 (i := 152) (by decide +kernel) rfl, tm1 (i := 11) (by decide +kernel) rfl, ⟨by decide +kernel, by decide +kernel⟩, by decide +kernel⟩
theorem ok_X4_pair : ev_okM M_X4_pair 5 := ⟨by decide +kernel, by decide, tm2 (i := 159) (by decide +kernel) rfl, tm1 (i := 11) (by decide +kernel) rfl, ⟨by decide +kernel, by decide +kernel⟩, by decide +kernel⟩
theorem ok_X4_barsIn : ev_okM M_X4_barsIn 1 := ⟨by decide +kernel, by decide, tm3 (i := 56) (by decide +kernel) rfl, tm1 (i := 11) (by decide +kernel) rfl, ⟨by decide +kernel, by decide +kernel⟩, by decide +kernel⟩
theorem ok_X4_needs : ev_okM M_X4_needs 1 := ⟨by decide +kernel, by decide, tm2 (i := 19) (by decide +kernel) rfl, tm1 (i := 11) (by decide +kernel) rfl, ⟨by decide +kernel, by decide +kernel⟩, by decide +kernel⟩
theorem ok_X4_firstNumber : ev_okM M_X4_firstNumber 0 := ⟨by decide +kernel, by decide, tm3 (i := 89) (by decide +kernel) rfl, tm1 (i := 11) (by decide +kernel) rfl, ⟨by decide +kernel, by decide +kernel⟩, by decide +kernel⟩
theorem ok_X4_secondNumber : ev_okM M_X4_secondNumber 0 := ⟨by decide +kernel, by decide, tm3 (i := 104) (by decide +kernel) rfl, tm1 (i := 11) (by decide +kernel) rfl, ⟨by decide +kernel, by decide +kernel⟩, by decide +kernel⟩
theorem ok_X5_init : ev_okM M_X5_init 0 := ⟨by decide +kernel, by decide, tm1 (i := 128) (by decide +kernel) rfl, tm1 (i := 4) (by decide +kernel) rfl, ⟨by decide +kernel, by decide +kernel⟩, by decide +kernel⟩
theorem ok_X5_clear : ev_okM M_X5_clear 0 := ⟨by decide +kernel, by decide, tm3 (i := 224) (by decide +kernel) rfl, tm1 (i := 4) (by decide +kernel) rfl, ⟨by decide +kernel, by decide +kernel⟩, by decide +kernel⟩
theorem ok_X5_has : ev_okM M_X5_has 2 := ⟨by decide +kernel, by decide, tm4 (i := 16) (by decide +kernel) rfl, tm1 (i := 4) (by decide +kernel) rfl, ⟨by decide +kernel, by decide +kernel⟩, by decide +kernel⟩
theorem ok_X5_number : ev_okM M_X5_number 2 := ⟨by decide +kernel, by decide, tm4 (i := 12) (by decide +kernel) rfl, tm1 (i := 4) (by decide +kernel) rfl, ⟨by decide +kernel, by decide +kernel⟩, by decide +kernel⟩
theorem ok_X5_set : ev_okM M_X5_set 3 := ⟨by decide +kernel, by decide, tm4 (i := 94) (by decide +kernel) rfl, tm1 (i := 4) (by decide +kernel) rfl, ⟨by decide +kernel, by decide +kernel⟩, by decide +kernel⟩
theorem ok_X5_put : ev_okM M_X5_put 4 := ⟨by decide +kernel, by decide, tm4 (i := 2) (by decide +kernel) rfl, tm1 (i := 4) (by decide +kernel) rfl, ⟨by decide +kernel, by decide +kernel⟩, by decide +kernel⟩
theorem ok_X5_becomeLike : ev_okM M_X5_becomeLike 1 := ⟨by decide +kernel, by decide, tm4 (i := 79) (by decide +kernel) rfl, tm1 (i := 4) (by decide +kernel) rfl, ⟨by decide +kernel, by decide +kernel⟩, by decide +kernel⟩
theorem ok_X5_makeRoomFor : ev_okM M_X5_makeRoomFor 1 := ⟨by decide +kernel, by decide, tm4 (i := 6) (by decide +kernel) rfl, tm1 (i := 4) (by decide +kernel) rfl, ⟨by decide +kernel, by decide +kernel⟩, by decide +kernel⟩
theorem ok_X6_init : ev_okM M_X6_init 0 := ⟨by decide +kernel, by decide, tm1 (i := 158) (by decide +kernel) rfl, tm1 (i := 6) (by decide +kernel) rfl, ⟨by decide +kernel, by decide +kernel⟩, by decide +kernel⟩
theorem ok_X6_become : ev_okM M_X6_become 2 := ⟨by decide +kernel, by decide, tm4 (i := 155) (by decide +kernel) rfl, tm1 (i := 6) (by decide +kernel) rfl, ⟨by decide +kernel, by decide +kernel⟩, by decide +kernel⟩
theorem ok_X6_holds : ev_okM M_X6_holds 2 := ⟨by decide +kernel, by decide, tm4 (i := 166) (by decide +kernel) rfl, tm1 (i := 6) (by decide +kernel) rfl, ⟨by decide +kernel, by decide +kernel⟩, by decide +kernel⟩
theorem ok_X7_init : ev_okM M_X7_init 1 := ⟨by decide +kernel, by decide, tm2 (i := 50) (by decide +kernel) rfl, tm1 (i := 9) (by decide +kernel) rfl, ⟨by decide +kernel, by decide +kernel⟩, by decide +kernel⟩
theorem ok_X7_take : ev_okM M_X7_take 1 := ⟨by decide +kernel, by decide, tm2 (i := 219) (by decide +kernel) rfl, tm1 (i := 9) (by decide +kernel) rfl, ⟨by decide +kernel, by decide +kernel⟩, by decide +kernel⟩
theorem ok_X7_gather : ev_okM M_X7_gather 1 := ⟨by decide +kernel, by decide, tm2 (i := 193) (by decide +kernel) rfl, tm1 (i := 9) (by decide +kernel) rfl, ⟨by decide +kernel, by decide +kernel⟩, by decide +kernel⟩
theorem ok_X7_barsIn : ev_okM M_X7_barsIn 1 := ⟨by decide +kernel, by decide, tm3 (i := 69) (by decide +kernel) rfl, tm1 (i := 9) (by decide +kernel) rfl, ⟨by decide +kernel, by decide +kernel⟩, by decide +kernel⟩
theorem ok_X7_needs : ev_okM M_X7_needs 1 := ⟨by decide +kernel, by decide, tm2 (i := 22) (by decide +kernel) rfl, tm1 (i := 9) (by decide +kernel) rfl, ⟨by decide +kernel, by decide +kernel⟩, by decide +kernel⟩
theorem ok_X7_firstNumber : ev_okM M_X7_firstNumber 0 := ⟨by decide +kernel, by decide, tm3 (i := 92) (by decide +kernel) rfl, tm1 (i := 9) (by decide +kernel) rfl, ⟨by decide +kernel, by decide +kernel⟩, by decide +kernel⟩
theorem ok_X7_secondNumber : ev_okM M_X7_secondNumber 0 := ⟨by decide +kernel, by decide, tm3 (i := 107) (by decide +kernel) rfl, tm1 (i := 9) (by decide +kernel) rfl, ⟨by decide +kernel, by decide +kernel⟩, by decide +kernel⟩
theorem ok_X8_init : ev_okM M_X8_init 1 := ⟨by decide +kernel, by decide, tm2 (i := 234) (by decide +kernel) rfl, tm1 (i := 15) (by decide +kernel) rfl, ⟨by decide +kernel, by decide +kernel⟩, by decide +kernel⟩
theorem ok_X8_gather : ev_okM M_X8_gather 1 := ⟨by decide +kernel, by decide, tm2 (i := 197) (by decide +kernel) rfl, tm1 (i := 15) (by decide +kernel) rfl, ⟨by decide +kernel, by decide +kernel⟩, by decide +kernel⟩
theorem ok_X8_grow : ev_okM M_X8_grow 6 := ⟨by decide +kernel, by decide, tm2 (i := 201) (by decide +kernel) rfl, tm1 (i := 15) (by decide +kernel) rfl, ⟨by decide +kernel, by decide +kernel⟩, by decide +kernel⟩
theorem ok_X8_groupOf : ev_okM M_X8_groupOf 2 := ⟨by decide +kernel, by decide, tm2 (i := 205) (by decide +kernel) rfl, tm1 (i := 15) (by decide +kernel) rfl, ⟨by decide +kernel, by decide +kernel⟩, by decide +kernel⟩
theorem ok_X8_join : ev_okM M_X8_join 4 := ⟨by decide +kernel, by decide, tm2 (i := 208) (by decide +kernel) rfl, tm1 (i := 15) (by decide +kernel) rfl, ⟨by decide +kernel, by decide +kernel⟩, by decide +kernel⟩
theorem ok_X8_barsIn : ev_okM M_X8_barsIn 1 := ⟨by decide +kernel, by decide, tm3 (i := 72) (by decide +kernel) rfl, tm1 (i := 15) (by decide +kernel) rfl, ⟨by decide +kernel, by decide +kernel⟩, by decide +kernel⟩
theorem ok_X8_needs : ev_okM M_X8_needs 1 := ⟨by decide +kernel, by decide, tm2 (i := 25) (by decide +kernel) rfl, tm1 (i := 15) (by decide +kernel) rfl, ⟨by decide +kernel, by decide +kernel⟩, by decide +kernel⟩
theorem ok_X8_firstNumber : ev_okM M_X8_firstNumber 0 := ⟨by decide +kernel, by decide, tm3 (i := 95) (by decide +kernel) rfl, tm1 (i := 15) (by decide +kernel) rfl, ⟨by decide +kernel, by decide +kernel⟩, by decide +kernel⟩
theorem ok_X8_secondNumber : ev_okM M_X8_secondNumber 0 := ⟨by decide +kernel, by decide, tm3 (i := 110) (by decide +kernel) rfl, tm1 (i := 15) (by decide +kernel) rfl, ⟨by decide +kernel, by decide +kernel⟩, by decide +kernel⟩
theorem ok_X9_init : ev_okM M_X9_init 3 := ⟨by decide +kernel, by decide, tm3 (i := 11) (by decide +kernel) rfl, tm1 (i := 16) (by decide +kernel) rfl, ⟨by decide +kernel, by decide +kernel⟩, by decide +kernel⟩
theorem ok_X9_gather : ev_okM M_X9_gather 1 := ⟨by decide +kernel, by decide, tm2 (i := 211) (by decide +kernel) rfl, tm1 (i := 16) (by decide +kernel) rfl, ⟨by decide +kernel, by decide +kernel⟩, by decide +kernel⟩
theorem ok_X9_walk : ev_okM M_X9_walk 6 := ⟨by decide +kernel, by decide, tm2 (i := 214) (by decide +kernel) rfl, tm1 (i := 16) (by decide +kernel) rfl, ⟨by decide +kernel, by decide +kernel⟩, by decide +kernel⟩
theorem ok_X9_barsIn : ev_okM M_X9_barsIn 1 := ⟨by decide +kernel, by decide, tm3 (i := 79) (by decide +kernel) rfl, tm1 (i := 16) (by decide +kernel) rfl, ⟨by decide +kernel, by decide +kernel⟩, by decide +kernel⟩
theorem ok_X9_needs : ev_okM M_X9_needs 1 := ⟨by decide +kernel, by decide, tm2 (i := 28) (by decide +kernel) rfl, tm1 (i := 16) (by decide +kernel) rfl, ⟨by decide +kernel, by decide +kernel⟩, by decide +kernel⟩
theorem ok_X9_firstNumber : ev_okM M_X9_firstNumber 0 := ⟨by decide +kernel, by decide, tm3 (i := 98) (by decide +kernel) rfl, tm1 (i := 16) (by decide +kernel) rfl, ⟨by decide +kernel, by decide +kernel⟩, by decide +kernel⟩
theorem ok_X9_secondNumber : ev_okM M_X9_secondNumber 0 := ⟨by decide +kernel, by decide, tm3 (i := 113) (by decide +kernel) rfl, tm1 (i := 16) (by decide +kernel) rfl, ⟨by decide +kernel, by decide +kernel⟩, by decide +kernel⟩
theorem ok_X10_init : ev_okM M_X10_init 0 := ⟨by decide +kernel, by decide, tm1 (i := 93) (by decide +kernel) rfl, tm1 (i := 3) (by decide +kernel) rfl, ⟨by decide +kernel, by decide +kernel⟩, by decide +kernel⟩
theorem ok_X10_become : ev_okM M_X10_become 4 := ⟨by decide +kernel, by decide, tm3 (i := 187) (by decide +kernel) rfl, tm1 (i := 3) (by decide +kernel) rfl, ⟨by decide +kernel, by decide +kernel⟩, by decide +kernel⟩
theorem ok_X10_holdsInside : ev_okM M_X10_holdsInside 2 := ⟨by decide +kernel, by decide, tm4 (i := 109) (by decide +kernel) rfl, tm1 (i := 3) (by decide +kernel) rfl, ⟨by decide +kernel, by decide +kernel⟩, by decide +kernel⟩
theorem ok_X11_init : ev_okM M_X11_init 0 := ⟨by decide +kernel, by decide, tm1 (i := 22) (by decide +kernel) rfl, tm1 (i := 1) (by decide +kernel) rfl, ⟨by decide +kernel, by decide +kernel⟩, by decide +kernel⟩
theorem ok_X11_thing : ev_okM M_X11_thing 0 := ⟨by decide +kernel, by decide, tm1 (i := 201) (by decide +kernel) rfl, tm1 (i := 1) (by decide +kernel) rfl, ⟨by decide +kernel, by decide +kernel⟩, by decide +kernel⟩
theorem ok_X11_line : ev_okM M_X11_line 4 := ⟨by decide +kernel, by decide, tm1 (i := 213) (by decide +kernel) rfl, tm1 (i := 1) (by decide +kernel) rfl, ⟨by decide +kernel, by decide +kernel⟩, by decide +kernel⟩
theorem ok_X11_alter : ev_okM M_X11_alter 3 := ⟨by decide +kernel, by decide, tm1 (i := 228) (by decide +kernel) rfl, tm1 (i := 1) (by decide +kernel) rfl, ⟨by decide +kernel, by decide +kernel⟩, by decide +kernel⟩
theorem ok_X11_close : ev_okM M_X11_close 0 := ⟨by decide +kernel, by decide, tm2 (i := 1) (by decide +kernel) rfl, tm1 (i := 1) (by decide +kernel) rfl, ⟨by decide +kernel, by decide +kernel⟩, by decide +kernel⟩
theorem ok_X11_undo : ev_okM M_X11_undo 0 := ⟨by decide +kernel, by decide, tm2 (i := 9) (by decide +kernel) rfl, tm1 (i := 1) (by decide +kernel) rfl, ⟨by decide +kernel, by decide +kernel⟩, by decide +kernel⟩
theorem ok_X11_lineTold : ev_okM M_X11_lineTold 2 := ⟨by decide +kernel, by decide, tm2 (i := 37) (by decide +kernel) rfl, tm1 (i := 1) (by decide +kernel) rfl, ⟨by decide +kernel, by decide +kernel⟩, by decide +kernel⟩
theorem ok_X11_isLineCost : ev_okM M_X11_isLineCost 2 := ⟨by decide +kernel, by decide, tm1 (i := 220) (by decide +kernel) rfl, tm1 (i := 1) (by decide +kernel) rfl, ⟨by decide +kernel, by decide +kernel⟩, by decide +kernel⟩
theorem ok_X11_told : ev_okM M_X11_told 0 := ⟨by decide +kernel, by decide, tm2 (i := 45) (by decide +kernel) rfl, tm1 (i := 1) (by decide +kernel) rfl, ⟨by decide +kernel, by decide +kernel⟩, by decide +kernel⟩
theorem ok_X11_tell : ev_okM M_X11_tell 2 := ⟨by decide +kernel, by decide, tm2 (i := 130) (by decide +kernel) rfl, tm1 (i := 1) (by decide +kernel) rfl, ⟨by decide +kernel, by decide +kernel⟩, by decide +kernel⟩
theorem ok_X11_tree : ev_okM M_X11_tree 0 := ⟨by decide +kernel, by decide, tm2 (i := 229) (by decide +kernel) rfl, tm1 (i := 1) (by decide +kernel) rfl, ⟨by decide +kernel, by decide +kernel⟩, by decide +kernel⟩
theorem ok_X11_way : ev_okM M_X11_way 2 := ⟨by decide +kernel, by decide, tm3 (i := 6) (by decide +kernel) rfl, tm1 (i := 1) (by decide +kernel) rfl, ⟨by decide +kernel, by decide +kernel⟩, by decide +kernel⟩
theorem ok_X11_pairing : ev_okM M_X11_pairing 1 := ⟨by decide +kernel, by decide, tm3 (i := 29) (by decide +kernel) rfl, tm1 (i := 1) (by decide +kernel) rfl, ⟨by decide +kernel, by decide +kernel⟩, by decide +kernel⟩
theorem ok_X11_offerTold : ev_okM M_X11_offerTold 2 := ⟨by decide +kernel, by decide, tm3 (i := 50) (by decide +kernel) rfl, tm1 (i := 1) (by decide +kernel) rfl, ⟨by decide +kernel, by decide +kernel⟩, by decide +kernel⟩
theorem ok_X11_choice : ev_okM M_X11_choice 2 := ⟨by decide +kernel, by decide, tm3 (i := 117) (by decide +kernel) rfl, tm1 (i := 1) (by decide +kernel) rfl, ⟨by decide +kernel, by decide +kernel⟩, by decide +kernel⟩
theorem ok_X11_taken : ev_okM M_X11_taken 2 := ⟨by decide +kernel, by decide, tm3 (i := 121) (by decide +kernel) rfl, tm1 (i := 1) (by decide +kernel) rfl, ⟨by decide +kernel, by decide +kernel⟩, by decide +kernel⟩
theorem ok_X11_addOffer : ev_okM M_X11_addOffer 1 := ⟨by decide +kernel, by decide, tm2 (i := 126) (by decide +kernel) rfl, tm1 (i := 1) (by decide +kernel) rfl, ⟨by decide +kernel, by decide +kernel⟩, by decide +kernel⟩
theorem ok_X11_offerAt : ev_okM M_X11_offerAt 1 := ⟨by decide +kernel, by decide, tm2 (i := 134) (by decide +kernel) rfl, tm1 (i := 1) (by decide +kernel) rfl, ⟨by decide +kernel, by decide +kernel⟩, by decide +kernel⟩
theorem ok_X11_offerWithChoices : ev_okM M_X11_offerWithChoices 1 := ⟨by decide +kernel, by decide, tm3 (i := 171) (by decide +kernel) rfl, tm1 (i := 1) (by decide +kernel) rfl, ⟨by decide +kernel, by decide +kernel⟩, by decide +kernel⟩
theorem ok_X11_placeIn : ev_okM M_X11_placeIn 2 := ⟨by decide +kernel, by decide, tm3 (i := 194) (by decide +kernel) rfl, tm1 (i := 1) (by decide +kernel) rfl, ⟨by decide +kernel, by decide +kernel⟩, by decide +kernel⟩
theorem ok_X11_someOfferNeeds : ev_okM M_X11_someOfferNeeds 1 := ⟨by decide +kernel, by decide, tm2 (i := 13) (by decide +kernel) rfl, tm1 (i := 1) (by decide +kernel) rfl, ⟨by decide +kernel, by decide +kernel⟩, by decide +kernel⟩
theorem ok_X11_cost : ev_okM M_X11_cost 4 := ⟨by decide +kernel, by decide, tm3 (i := 133) (by decide +kernel) rfl, tm1 (i := 1) (by decide +kernel) rfl, ⟨by decide +kernel, by decide +kernel⟩, by decide +kernel⟩
theorem ok_X11_best : ev_okM M_X11_best 4 := ⟨by decide +kernel, by decide, tm3 (i := 151) (by decide +kernel) rfl, tm1 (i := 1) (by decide +kernel) rfl, ⟨by decide +kernel, by decide +kernel⟩, by decide +kernel⟩
theorem ok_X11_least : ev_okM M_X11_least 4 := ⟨by decide +kernel, by decide, tm3 (i := 167) (by decide +kernel) rfl, tm1 (i := 1) (by decide +kernel) rfl, ⟨by decide +kernel, by decide +kernel⟩, by decide +kernel⟩
theorem ok_X11_window : ev_okM M_X11_window 4 := ⟨by decide +kernel, by decide, tm3 (i := 180) (by decide +kernel) rfl, tm1 (i := 1) (by decide +kernel) rfl, ⟨by decide +kernel, by decide +kernel⟩, by decide +kernel⟩
theorem ok_X11_span : ev_okM M_X11_span 3 := ⟨by decide +kernel, by decide, tm3 (i := 191) (by decide +kernel) rfl, tm1 (i := 1) (by decide +kernel) rfl, ⟨by decide +kernel, by decide +kernel⟩, by decide +kernel⟩
theorem ok_X11_top : ev_okM M_X11_top 2 := ⟨by decide +kernel, by decide, tm3 (i := 208) (by decide +kernel) rfl, tm1 (i := 1) (by decide +kernel) rfl, ⟨by decide +kernel, by decide +kernel⟩, by decide +kernel⟩
theorem ok_X11_ratio : ev_okM M_X11_ratio 2 := ⟨by decide +kernel, by decide, tm4 (i := 20) (by decide +kernel) rfl, tm1 (i := 1) (by decide +kernel) rfl, ⟨by decide +kernel, by decide +kernel⟩, by decide +kernel⟩
theorem ok_X11_regret : ev_okM M_X11_regret 3 := ⟨by decide +kernel, by decide, tm4 (i := 28) (by decide +kernel) rfl, tm1 (i := 1) (by decide +kernel) rfl, ⟨by decide +kernel, by decide +kernel⟩, by decide +kernel⟩
theorem ok_X11_calm : ev_okM M_X11_calm 1 := ⟨by decide +kernel, by decide, tm4 (i := 37) (by decide +kernel) rfl, tm1 (i := 1) (by decide +kernel) rfl, ⟨by decide +kernel, by decide +kernel⟩, by decide +kernel⟩
theorem ok_X11_why : ev_okM M_X11_why 4 := ⟨by decide +kernel, by decide, tm4 (i := 45) (by decide +kernel) rfl, tm1 (i := 1) (by decide +kernel) rfl, ⟨by decide +kernel, by decide +kernel⟩, by decide +kernel⟩
theorem ok_X11_findTop : ev_okM M_X11_findTop 1 := ⟨by decide +kernel, by decide, tm3 (i := 212) (by decide +kernel) rfl, tm1 (i := 1) (by decide +kernel) rfl, ⟨by decide +kernel, by decide +kernel⟩, by decide +kernel⟩
theorem ok_X11_isCalmer : ev_okM M_X11_isCalmer 3 := ⟨by decide +kernel, by decide, tm4 (i := 41) (by decide +kernel) rfl, tm1 (i := 1) (by decide +kernel) rfl, ⟨by decide +kernel, by decide +kernel⟩, by decide +kernel⟩
theorem ok_X11_isPrice : ev_okM M_X11_isPrice 2 := ⟨by decide +kernel, by decide, tm3 (i := 136) (by decide +kernel) rfl, tm1 (i := 1) (by decide +kernel) rfl, ⟨by decide +kernel, by decide +kernel⟩, by decide +kernel⟩
theorem ok_X11_isLess : ev_okM M_X11_isLess 4 := ⟨by decide +kernel, by decide, tm3 (i := 183) (by decide +kernel) rfl, tm1 (i := 1) (by decide +kernel) rfl, ⟨by decide +kernel, by decide +kernel⟩, by decide +kernel⟩
theorem ok_X11_lowest : ev_okM M_X11_lowest 3 := ⟨by decide +kernel, by decide, tm3 (i := 141) (by decide +kernel) rfl, tm1 (i := 1) (by decide +kernel) rfl, ⟨by decide +kernel, by decide +kernel⟩, by decide +kernel⟩
theorem ok_X11_commonOf : ev_okM M_X11_commonOf 2 := ⟨by decide +kernel, by decide, tm3 (i := 147) (by decide +kernel) rfl, tm1 (i := 1) (by decide +kernel) rfl, ⟨by decide +kernel, by decide +kernel⟩, by decide +kernel⟩
theorem ok_X11_bends : ev_okM M_X11_bends 1 := ⟨by decide +kernel, by decide, tm4 (i := 63) (by decide +kernel) rfl, tm1 (i := 1) (by decide +kernel) rfl, ⟨by decide +kernel, by decide +kernel⟩, by decide +kernel⟩
theorem ok_X11_bend : ev_okM M_X11_bend 3 := ⟨by decide +kernel, by decide, tm4 (i := 67) (by decide +kernel) rfl, tm1 (i := 1) (by decide +kernel) rfl, ⟨by decide +kernel, by decide +kernel⟩, by decide +kernel⟩
theorem ok_X11_write : ev_okM M_X11_write 1 := ⟨by decide +kernel, by decide, tm4 (i := 75) (by decide +kernel) rfl, tm1 (i := 1) (by decide +kernel) rfl, ⟨by decide +kernel, by decide +kernel⟩, by decide +kernel⟩
theorem ok_X11_row : ev_okM M_X11_row 2 := ⟨by decide +kernel, by decide, tm4 (i := 84) (by decide +kernel) rfl, tm1 (i := 1) (by decide +kernel) rfl, ⟨by decide +kernel, by decide +kernel⟩, by decide +kernel⟩
theorem ok_X11_forge : ev_okM M_X11_forge 3 := ⟨by decide +kernel, by decide, tm4 (i := 88) (by decide +kernel) rfl, tm1 (i := 1) (by decide +kernel) rfl, ⟨by decide +kernel, by decide +kernel⟩, by decide +kernel⟩
theorem ok_X11_check : ev_okM M_X11_check 1 := ⟨by decide +kernel, by decide, tm4 (i := 98) (by decide +kernel) rfl, tm1 (i := 1) (by decide +kernel) rfl, ⟨by decide +kernel, by decide +kernel⟩, by decide +kernel⟩
theorem ok_X11_numberOrNo : ev_okM M_X11_numberOrNo 3 := ⟨by decide +kernel, by decide, tm4 (i := 70) (by decide +kernel) rfl, tm1 (i := 1) (by decide +kernel) rfl, ⟨by decide +kernel, by decide +kernel⟩, by decide +kernel⟩
theorem ok_X11_howWrong : ev_okM M_X11_howWrong 2 := ⟨by decide +kernel, by decide, tm4 (i := 102) (by decide +kernel) rfl, tm1 (i := 1) (by decide +kernel) rfl, ⟨by decide +kernel, by decide +kernel⟩, by decide +kernel⟩
theorem ok_X11_act : ev_okM M_X11_act 3 := ⟨by decide +kernel, by decide, tm4 (i := 115) (by decide +kernel) rfl, tm1 (i := 1) (by decide +kernel) rfl, ⟨by decide +kernel, by decide +kernel⟩, by decide +kernel⟩
theorem ok_X11_trace : ev_okM M_X11_trace 1 := ⟨by decide +kernel, by decide, tm4 (i := 139) (by decide +kernel) rfl, tm1 (i := 1) (by decide +kernel) rfl, ⟨by decide +kernel, by decide +kernel⟩, by decide +kernel⟩
theorem ok_X11_count : ev_okM M_X11_count 1 := ⟨by decide +kernel, by decide, tm4 (i := 143) (by decide +kernel) rfl, tm1 (i := 1) (by decide +kernel) rfl, ⟨by decide +kernel, by decide +kernel⟩, by decide +kernel⟩
theorem ok_X11_sheet : ev_okM M_X11_sheet 3 := ⟨by decide +kernel, by decide, tm4 (i := 147) (by decide +kernel) rfl, tm1 (i := 1) (by decide +kernel) rfl, ⟨by decide +kernel, by decide +kernel⟩, by decide +kernel⟩
theorem ok_X11_cell : ev_okM M_X11_cell 3 := ⟨by decide +kernel, by decide, tm4 (i := 162) (by decide +kernel) rfl, tm1 (i := 1) (by decide +kernel) rfl, ⟨by decide +kernel, by decide +kernel⟩, by decide +kernel⟩
theorem ok_X11_lay : ev_okM M_X11_lay 3 := ⟨by decide +kernel, by decide, tm4 (i := 170) (by decide +kernel) rfl, tm1 (i := 1) (by decide +kernel) rfl, ⟨by decide +kernel, by decide +kernel⟩, by decide +kernel⟩
theorem ok_X11_copy : ev_okM M_X11_copy 5 := ⟨by decide +kernel, by decide, tm4 (i := 175) (by decide +kernel) rfl, tm1 (i := 1) (by decide +kernel) rfl, ⟨by decide +kernel, by decide +kernel⟩, by decide +kernel⟩
theorem ok_X11_sheetAt : ev_okM M_X11_sheetAt 1 := ⟨by decide +kernel, by decide, tm4 (i := 151) (by decide +kernel) rfl, tm1 (i := 1) (by decide +kernel) rfl, ⟨by decide +kernel, by decide +kernel⟩, by decide +kernel⟩
theorem ok_X12_init : ev_okM M_X12_init 0 := ⟨by decide +kernel, by decide, tm4 (i := 181) (by decide +kernel) rfl, tm1 (i := 7) (by decide +kernel) rfl, ⟨by decide +kernel, by decide +kernel⟩, by decide +kernel⟩
theorem ok_X12_in : ev_okM M_X12_in 3 := ⟨by decide +kernel, by decide, tm5 (i := 74) (by decide +kernel) rfl, tm1 (i := 7) (by decide +kernel) rfl, ⟨by decide +kernel, by decide +kernel⟩, by decide +kernel⟩
theorem ok_X12_things : ev_okM M_X12_things 0 := ⟨by decide +kernel, by decide, tm5 (i := 59) (by decide +kernel) rfl, tm1 (i := 7) (by decide +kernel) rfl, ⟨by decide +kernel, by decide +kernel⟩, by decide +kernel⟩
theorem ok_X12_lines : ev_okM M_X12_lines 0 := ⟨by decide +kernel, by decide, tm5 (i := 81) (by decide +kernel) rfl, tm1 (i := 7) (by decide +kernel) rfl, ⟨by decide +kernel, by decide +kernel⟩, by decide +kernel⟩
theorem ok_X12_from : ev_okM M_X12_from 1 := ⟨by decide +kernel, by decide, tm5 (i := 159) (by decide +kernel) rfl, tm1 (i := 7) (by decide +kernel) rfl, ⟨by decide +kernel, by decide +kernel⟩, by decide +kernel⟩
theorem ok_X12_to : ev_okM M_X12_to 1 := ⟨by decide +kernel, by decide, tm5 (i := 163) (by decide +kernel) rfl, tm1 (i := 7) (by decide +kernel) rfl, ⟨by decide +kernel, by decide +kernel⟩, by decide +kernel⟩
theorem ok_X12_startOf : ev_okM M_X12_startOf 1 := ⟨by decide +kernel, by decide, tm5 (i := 183) (by decide +kernel) rfl, tm1 (i := 7) (by decide +kernel) rfl, ⟨by decide +kernel, by decide +kernel⟩, by decide +kernel⟩
theorem ok_X12_riseOf : ev_okM M_X12_riseOf 1 := ⟨by decide +kernel, by decide, tm5 (i := 187) (by decide +kernel) rfl, tm1 (i := 7) (by decide +kernel) rfl, ⟨by decide +kernel, by decide +kernel⟩, by decide +kernel⟩
theorem ok_X12_isThing : ev_okM M_X12_isThing 1 := ⟨by decide +kernel, by decide, tm5 (i := 71) (by decide +kernel) rfl, tm1 (i := 7) (by decide +kernel) rfl, ⟨by decide +kernel, by decide +kernel⟩, by decide +kernel⟩
theorem ok_X12_isOffer : ev_okM M_X12_isOffer 1 := ⟨by decide +kernel, by decide, tm5 (i := 113) (by decide +kernel) rfl, tm1 (i := 7) (by decide +kernel) rfl, ⟨by decide +kernel, by decide +kernel⟩, by decide +kernel⟩
theorem ok_X12_isPrice : ev_okM M_X12_isPrice 2 := ⟨by decide +kernel, by decide, tm5 (i := 206) (by decide +kernel) rfl, tm1 (i := 7) (by decide +kernel) rfl, ⟨by decide +kernel, by decide +kernel⟩, by decide +kernel⟩
theorem ok_X12_common : ev_okM M_X12_common 2 := ⟨by decide +kernel, by decide, tm5 (i := 213) (by decide +kernel) rfl, tm1 (i := 7) (by decide +kernel) rfl, ⟨by decide +kernel, by decide +kernel⟩, by decide +kernel⟩
theorem ok_X12_lowest : ev_okM M_X12_lowest 3 := ⟨by decide +kernel, by decide, tm5 (i := 210) (by decide +kernel) rfl, tm1 (i := 7) (by decide +kernel) rfl, ⟨by decide +kernel, by decide +kernel⟩, by decide +kernel⟩
theorem ok_X12_keeps : ev_okM M_X12_keeps 0 := ⟨by decide +kernel, by decide, tm5 (i := 63) (by decide +kernel) rfl, tm1 (i := 7) (by decide +kernel) rfl, ⟨by decide +kernel, by decide +kernel⟩, by decide +kernel⟩
theorem ok_X12_thing : ev_okM M_X12_thing 0 := ⟨by decide +kernel, by decide, tm5 (i := 55) (by decide +kernel) rfl, tm1 (i := 7) (by decide +kernel) rfl, ⟨by decide +kernel, by decide +kernel⟩, by decide +kernel⟩
theorem ok_X12_areTold : ev_okM M_X12_areTold 2 := ⟨by decide +kernel, by decide, tm5 (i := 77) (by decide +kernel) rfl, tm1 (i := 7) (by decide +kernel) rfl, ⟨by decide +kernel, by decide +kernel⟩, by decide +kernel⟩
theorem ok_X12_line : ev_okM M_X12_line 4 := ⟨by decide +kernel, by decide, tm5 (i := 67) (by decide +kernel) rfl, tm1 (i := 7) (by decide +kernel) rfl, ⟨by decide +kernel, by decide +kernel⟩, by decide +kernel⟩
theorem ok_X12_alter : ev_okM M_X12_alter 3 := ⟨by decide +kernel, by decide, tm5 (i := 85) (by decide +kernel) rfl, tm1 (i := 7) (by decide +kernel) rfl, ⟨by decide +kernel, by decide +kernel⟩, by decide +kernel⟩
theorem ok_X12_close : ev_okM M_X12_close 0 := ⟨by decide +kernel, by decide, tm5 (i := 89) (by decide +kernel) rfl, tm1 (i := 7) (by decide +kernel) rfl, ⟨by decide +kernel, by decide +kernel⟩, by decide +kernel⟩
theorem ok_X12_undo : ev_okM M_X12_undo 0 := ⟨by decide +kernel, by decide, tm5 (i := 93) (by decide +kernel) rfl, tm1 (i := 7) (by decide +kernel) rfl, ⟨by decide +kernel, by decide +kernel⟩, by decide +kernel⟩
theorem ok_X12_lineTold : ev_okM M_X12_lineTold 2 := ⟨by decide +kernel, by decide, tm5 (i := 97) (by decide +kernel) rfl, tm1 (i := 7) (by decide +kernel) rfl, ⟨by decide +kernel, by decide +kernel⟩, by decide +kernel⟩
theorem ok_X12_made : ev_okM M_X12_made 3 := ⟨by decide +kernel, by decide, tm5 (i := 105) (by decide +kernel) rfl, tm1 (i := 7) (by decide +kernel) rfl, ⟨by decide +kernel, by decide +kernel⟩, by decide +kernel⟩
theorem ok_X12_told : ev_okM M_X12_told 0 := ⟨by decide +kernel, by decide, tm5 (i := 101) (by decide +kernel) rfl, tm1 (i := 7) (by decide +kernel) rfl, ⟨by decide +kernel, by decide +kernel⟩, by decide +kernel⟩
theorem ok_X12_tell : ev_okM M_X12_tell 2 := ⟨by decide +kernel, by decide, tm5 (i := 109) (by decide +kernel) rfl, tm1 (i := 7) (by decide +kernel) rfl, ⟨by decide +kernel, by decide +kernel⟩, by decide +kernel⟩
theorem ok_X12_tree : ev_okM M_X12_tree 0 := ⟨by decide +kernel, by decide, tm5 (i := 117) (by decide +kernel) rfl, tm1 (i := 7) (by decide +kernel) rfl, ⟨by decide +kernel, by decide +kernel⟩, by decide +kernel⟩
theorem ok_X12_way : ev_okM M_X12_way 2 := ⟨by decide +kernel, by decide, tm5 (i := 121) (by decide +kernel) rfl, tm1 (i := 7) (by decide +kernel) rfl, ⟨by decide +kernel, by decide +kernel⟩, by decide +kernel⟩
theorem ok_X12_pairing : ev_okM M_X12_pairing 1 := ⟨by decide +kernel, by decide, tm5 (i := 125) (by decide +kernel) rfl, tm1 (i := 7) (by decide +kernel) rfl, ⟨by decide +kernel, by decide +kernel⟩, by decide +kernel⟩
theorem ok_X12_bits : ev_okM M_X12_bits 1 := ⟨by decide +kernel, by decide, tm5 (i := 151) (by decide +kernel) rfl, tm1 (i := 7) (by decide +kernel) rfl, ⟨by decide +kernel, by decide +kernel⟩, by decide +kernel⟩
theorem ok_X12_reached : ev_okM M_X12_reached 3 := ⟨by decide +kernel, by decide, tm5 (i := 155) (by decide +kernel) rfl, tm1 (i := 7) (by decide +kernel) rfl, ⟨by decide +kernel, by decide +kernel⟩, by decide +kernel⟩
theorem ok_X12_allThings : ev_okM M_X12_allThings 0 := ⟨by decide +kernel, by decide, tm5 (i := 167) (by decide +kernel) rfl, tm1 (i := 7) (by decide +kernel) rfl, ⟨by decide +kernel, by decide +kernel⟩, by decide +kernel⟩
theorem ok_X12_allLines : ev_okM M_X12_allLines 0 := ⟨by decide +kernel, by decide, tm5 (i := 144) (by decide +kernel) rfl, tm1 (i := 7) (by decide +kernel) rfl, ⟨by decide +kernel, by decide +kernel⟩, by decide +kernel⟩
theorem ok_X12_isTree : ev_okM M_X12_isTree 1 := ⟨by decide +kernel, by decide, tm5 (i := 148) (by decide +kernel) rfl, tm1 (i := 7) (by decide +kernel) rfl, ⟨by decide +kernel, by decide +kernel⟩, by decide +kernel⟩
theorem ok_X12_isWay : ev_okM M_X12_isWay 3 := ⟨by decide +kernel, by decide, tm5 (i := 171) (by decide +kernel) rfl, tm1 (i := 7) (by decide +kernel) rfl, ⟨by decide +kernel, by decide +kernel⟩, by decide +kernel⟩
theorem ok_X12_isPairing : ev_okM M_X12_isPairing 2 := ⟨by decide +kernel, by decide, tm5 (i := 175) (by decide +kernel) rfl, tm1 (i := 7) (by decide +kernel) rfl, ⟨by decide +kernel, by decide +kernel⟩, by decide +kernel⟩
theorem ok_X12_isTold : ev_okM M_X12_isTold 2 := ⟨by decide +kernel, by decide, tm5 (i := 179) (by decide +kernel) rfl, tm1 (i := 7) (by decide +kernel) rfl, ⟨by decide +kernel, by decide +kernel⟩, by decide +kernel⟩
theorem ok_X12_isChoice : ev_okM M_X12_isChoice 2 := ⟨by decide +kernel, by decide, tm5 (i := 140) (by decide +kernel) rfl, tm1 (i := 7) (by decide +kernel) rfl, ⟨by decide +kernel, by decide +kernel⟩, by decide +kernel⟩
theorem ok_X12_ordered : ev_okM M_X12_ordered 1 := ⟨by decide +kernel, by decide, tm5 (i := 136) (by decide +kernel) rfl, tm1 (i := 7) (by decide +kernel) rfl, ⟨by decide +kernel, by decide +kernel⟩, by decide +kernel⟩
theorem ok_X12_gathers : ev_okM M_X12_gathers 1 := ⟨by decide +kernel, by decide, tm5 (i := 133) (by decide +kernel) rfl, tm1 (i := 7) (by decide +kernel) rfl, ⟨by decide +kernel, by decide +kernel⟩, by decide +kernel⟩
theorem ok_X12_placeOf : ev_okM M_X12_placeOf 1 := ⟨by decide +kernel, by decide, tm6 (i := 29) (by decide +kernel) rfl, tm1 (i := 7) (by decide +kernel) rfl, ⟨by decide +kernel, by decide +kernel⟩, by decide +kernel⟩
theorem ok_X12_barsOf : ev_okM M_X12_barsOf 1 := ⟨by decide +kernel, by decide, tm5 (i := 191) (by decide +kernel) rfl, tm1 (i := 7) (by decide +kernel) rfl, ⟨by decide +kernel, by decide +kernel⟩, by decide +kernel⟩
theorem ok_X12_beside : ev_okM M_X12_beside 1 := ⟨by decide +kernel, by decide, tm5 (i := 195) (by decide +kernel) rfl, tm1 (i := 7) (by decide +kernel) rfl, ⟨by decide +kernel, by decide +kernel⟩, by decide +kernel⟩
theorem ok_X12_offerTold : ev_okM M_X12_offerTold 2 := ⟨by decide +kernel, by decide, tm5 (i := 129) (by decide +kernel) rfl, tm1 (i := 7) (by decide +kernel) rfl, ⟨by decide +kernel, by decide +kernel⟩, by decide +kernel⟩
theorem ok_X12_choice : ev_okM M_X12_choice 2 := ⟨by decide +kernel, by decide, tm5 (i := 199) (by decide +kernel) rfl, tm1 (i := 7) (by decide +kernel) rfl, ⟨by decide +kernel, by decide +kernel⟩, by decide +kernel⟩
theorem ok_X12_cost : ev_okM M_X12_cost 4 := ⟨by decide +kernel, by decide, tm5 (i := 203) (by decide +kernel) rfl, tm1 (i := 7) (by decide +kernel) rfl, ⟨by decide +kernel, by decide +kernel⟩, by decide +kernel⟩
theorem ok_X12_costAt : ev_okM M_X12_costAt 3 := ⟨by decide +kernel, by decide, tm5 (i := 229) (by decide +kernel) rfl, tm1 (i := 7) (by decide +kernel) rfl, ⟨by decide +kernel, by decide +kernel⟩, by decide +kernel⟩
theorem ok_X12_leastAt : ev_okM M_X12_leastAt 2 := ⟨by decide +kernel, by decide, tm5 (i := 225) (by decide +kernel) rfl, tm1 (i := 7) (by decide +kernel) rfl, ⟨by decide +kernel, by decide +kernel⟩, by decide +kernel⟩
theorem ok_X12_bestAt : ev_okM M_X12_bestAt 3 := ⟨by decide +kernel, by decide, tm5 (i := 221) (by decide +kernel) rfl, tm1 (i := 7) (by decide +kernel) rfl, ⟨by decide +kernel, by decide +kernel⟩, by decide +kernel⟩
theorem ok_X12_best : ev_okM M_X12_best 4 := ⟨by decide +kernel, by decide, tm5 (i := 217) (by decide +kernel) rfl, tm1 (i := 7) (by decide +kernel) rfl, ⟨by decide +kernel, by decide +kernel⟩, by decide +kernel⟩
theorem ok_X12_least : ev_okM M_X12_least 4 := ⟨by decide +kernel, by decide, tm5 (i := 233) (by decide +kernel) rfl, tm1 (i := 7) (by decide +kernel) rfl, ⟨by decide +kernel, by decide +kernel⟩, by decide +kernel⟩
theorem ok_X12_window : ev_okM M_X12_window 4 := ⟨by decide +kernel, by decide, tm5 (i := 237) (by decide +kernel) rfl, tm1 (i := 7) (by decide +kernel) rfl, ⟨by decide +kernel, by decide +kernel⟩, by decide +kernel⟩
theorem ok_X12_point : ev_okM M_X12_point 2 := ⟨by decide +kernel, by decide, tm6 (i := 13) (by decide +kernel) rfl, tm1 (i := 7) (by decide +kernel) rfl, ⟨by decide +kernel, by decide +kernel⟩, by decide +kernel⟩
theorem ok_X12_walks : ev_okM M_X12_walks 0 := ⟨by decide +kernel, by decide, tm6 (i := 9) (by decide +kernel) rfl, tm1 (i := 7) (by decide +kernel) rfl, ⟨by decide +kernel, by decide +kernel⟩, by decide +kernel⟩
theorem ok_X12_prepares : ev_okM M_X12_prepares 1 := ⟨by decide +kernel, by decide, tm6 (i := 5) (by decide +kernel) rfl, tm1 (i := 7) (by decide +kernel) rfl, ⟨by decide +kernel, by decide +kernel⟩, by decide +kernel⟩
theorem ok_X12_bends : ev_okM M_X12_bends 1 := ⟨by decide +kernel, by decide, tm6 (i := 1) (by decide +kernel) rfl, tm1 (i := 7) (by decide +kernel) rfl, ⟨by decide +kernel, by decide +kernel⟩, by decide +kernel⟩
theorem ok_X12_bendOf : ev_okM M_X12_bendOf 2 := ⟨by decide +kernel, by decide, tm6 (i := 21) (by decide +kernel) rfl, tm1 (i := 7) (by decide +kernel) rfl, ⟨by decide +kernel, by decide +kernel⟩, by decide +kernel⟩
theorem ok_X12_bend : ev_okM M_X12_bend 3 := ⟨by decide +kernel, by decide, tm6 (i := 17) (by decide +kernel) rfl, tm1 (i := 7) (by decide +kernel) rfl, ⟨by decide +kernel, by decide +kernel⟩, by decide +kernel⟩
theorem ok_X12_spans : ev_okM M_X12_spans 1 := ⟨by decide +kernel, by decide, tm6 (i := 33) (by decide +kernel) rfl, tm1 (i := 7) (by decide +kernel) rfl, ⟨by decide +kernel, by decide +kernel⟩, by decide +kernel⟩
theorem ok_X12_span : ev_okM M_X12_span 3 := ⟨by decide +kernel, by decide, tm6 (i := 25) (by decide +kernel) rfl, tm1 (i := 7) (by decide +kernel) rfl, ⟨by decide +kernel, by decide +kernel⟩, by decide +kernel⟩
theorem ok_X12_top : ev_okM M_X12_top 2 := ⟨by decide +kernel, by decide, tm6 (i := 37) (by decide +kernel) rfl, tm1 (i := 7) (by decide +kernel) rfl, ⟨by decide +kernel, by decide +kernel⟩, by decide +kernel⟩
theorem ok_X12_ratio : ev_okM M_X12_ratio 2 := ⟨by decide +kernel, by decide, tm6 (i := 41) (by decide +kernel) rfl, tm1 (i := 7) (by decide +kernel) rfl, ⟨by decide +kernel, by decide +kernel⟩, by decide +kernel⟩
theorem ok_X12_regrets : ev_okM M_X12_regrets 1 := ⟨by decide +kernel, by decide, tm6 (i := 49) (by decide +kernel) rfl, tm1 (i := 7) (by decide +kernel) rfl, ⟨by decide +kernel, by decide +kernel⟩, by decide +kernel⟩
theorem ok_X12_regret : ev_okM M_X12_regret 3 := ⟨by decide +kernel, by decide, tm6 (i := 45) (by decide +kernel) rfl, tm1 (i := 7) (by decide +kernel) rfl, ⟨by decide +kernel, by decide +kernel⟩, by decide +kernel⟩
theorem ok_X12_calm : ev_okM M_X12_calm 1 := ⟨by decide +kernel, by decide, tm6 (i := 53) (by decide +kernel) rfl, tm1 (i := 7) (by decide +kernel) rfl, ⟨by decide +kernel, by decide +kernel⟩, by decide +kernel⟩
theorem ok_X12_lineCost : ev_okM M_X12_lineCost 3 := ⟨by decide +kernel, by decide, tm6 (i := 65) (by decide +kernel) rfl, tm1 (i := 7) (by decide +kernel) rfl, ⟨by decide +kernel, by decide +kernel⟩, by decide +kernel⟩
theorem ok_X12_dearest : ev_okM M_X12_dearest 4 := ⟨by decide +kernel, by decide, tm6 (i := 61) (by decide +kernel) rfl, tm1 (i := 7) (by decide +kernel) rfl, ⟨by decide +kernel, by decide +kernel⟩, by decide +kernel⟩
theorem ok_X12_why : ev_okM M_X12_why 4 := ⟨by decide +kernel, by decide, tm6 (i := 57) (by decide +kernel) rfl, tm1 (i := 7) (by decide +kernel) rfl, ⟨by decide +kernel, by decide +kernel⟩, by decide +kernel⟩
theorem ok_X12_write : ev_okM M_X12_write 1 := ⟨by decide +kernel, by decide, tm6 (i := 69) (by decide +kernel) rfl, tm1 (i := 7) (by decide +kernel) rfl, ⟨by decide +kernel, by decide +kernel⟩, by decide +kernel⟩
theorem ok_X12_row : ev_okM M_X12_row 2 := ⟨by decide +kernel, by decide, tm6 (i := 73) (by decide +kernel) rfl, tm1 (i := 7) (by decide +kernel) rfl, ⟨by decide +kernel, by decide +kernel⟩, by decide +kernel⟩
theorem ok_X12_forge : ev_okM M_X12_forge 3 := ⟨by decide +kernel, by decide, tm6 (i := 77) (by decide +kernel) rfl, tm1 (i := 7) (by decide +kernel) rfl, ⟨by decide +kernel, by decide +kernel⟩, by decide +kernel⟩
theorem ok_X12_wrong : ev_okM M_X12_wrong 1 := ⟨by decide +kernel, by decide, tm6 (i := 87) (by decide +kernel) rfl, tm1 (i := 7) (by decide +kernel) rfl, ⟨by decide +kernel, by decide +kernel⟩, by decide +kernel⟩
theorem ok_X12_check : ev_okM M_X12_check 1 := ⟨by decide +kernel, by decide, tm6 (i := 83) (by decide +kernel) rfl, tm1 (i := 7) (by decide +kernel) rfl, ⟨by decide +kernel, by decide +kernel⟩, by decide +kernel⟩
theorem ok_X12_ran : ev_okM M_X12_ran 1 := ⟨by decide +kernel, by decide, tm6 (i := 106) (by decide +kernel) rfl, tm1 (i := 7) (by decide +kernel) rfl, ⟨by decide +kernel, by decide +kernel⟩, by decide +kernel⟩
theorem ok_X12_treeAsks : ev_okM M_X12_treeAsks 2 := ⟨by decide +kernel, by decide, tm6 (i := 102) (by decide +kernel) rfl, tm1 (i := 7) (by decide +kernel) rfl, ⟨by decide +kernel, by decide +kernel⟩, by decide +kernel⟩
theorem ok_X12_asks : ev_okM M_X12_asks 2 := ⟨by decide +kernel, by decide, tm6 (i := 98) (by decide +kernel) rfl, tm1 (i := 7) (by decide +kernel) rfl, ⟨by decide +kernel, by decide +kernel⟩, by decide +kernel⟩
theorem ok_X12_toldShows : ev_okM M_X12_toldShows 2 := ⟨by decide +kernel, by decide, tm6 (i := 114) (by decide +kernel) rfl, tm1 (i := 7) (by decide +kernel) rfl, ⟨by decide +kernel, by decide +kernel⟩, by decide +kernel⟩
theorem ok_X12_shows : ev_okM M_X12_shows 2 := ⟨by decide +kernel, by decide, tm6 (i := 110) (by decide +kernel) rfl, tm1 (i := 7) (by decide +kernel) rfl, ⟨by decide +kernel, by decide +kernel⟩, by decide +kernel⟩
theorem ok_X12_toldTurns : ev_okM M_X12_toldTurns 2 := ⟨by decide +kernel, by decide, tm6 (i := 122) (by decide +kernel) rfl, tm1 (i := 7) (by decide +kernel) rfl, ⟨by decide +kernel, by decide +kernel⟩, by decide +kernel⟩
theorem ok_X12_turns : ev_okM M_X12_turns 2 := ⟨by decide +kernel, by decide, tm6 (i := 118) (by decide +kernel) rfl, tm1 (i := 7) (by decide +kernel) rfl, ⟨by decide +kernel, by decide +kernel⟩, by decide +kernel⟩
theorem ok_X12_act : ev_okM M_X12_act 3 := ⟨by decide +kernel, by decide, tm6 (i := 94) (by decide +kernel) rfl, tm1 (i := 7) (by decide +kernel) rfl, ⟨by decide +kernel, by decide +kernel⟩, by decide +kernel⟩
theorem ok_X12_trace : ev_okM M_X12_trace 1 := ⟨by decide +kernel, by decide, tm6 (i := 126) (by decide +kernel) rfl, tm1 (i := 7) (by decide +kernel) rfl, ⟨by decide +kernel, by decide +kernel⟩, by decide +kernel⟩
theorem ok_X12_count : ev_okM M_X12_count 1 := ⟨by decide +kernel, by decide, tm6 (i := 130) (by decide +kernel) rfl, tm1 (i := 7) (by decide +kernel) rfl, ⟨by decide +kernel, by decide +kernel⟩, by decide +kernel⟩
theorem ok_X12_isSheet : ev_okM M_X12_isSheet 1 := ⟨by decide +kernel, by decide, tm6 (i := 137) (by decide +kernel) rfl, tm1 (i := 7) (by decide +kernel) rfl, ⟨by decide +kernel, by decide +kernel⟩, by decide +kernel⟩
theorem ok_X12_sheet : ev_okM M_X12_sheet 3 := ⟨by decide +kernel, by decide, tm6 (i := 134) (by decide +kernel) rfl, tm1 (i := 7) (by decide +kernel) rfl, ⟨by decide +kernel, by decide +kernel⟩, by decide +kernel⟩
theorem ok_X12_cell : ev_okM M_X12_cell 3 := ⟨by decide +kernel, by decide, tm6 (i := 141) (by decide +kernel) rfl, tm1 (i := 7) (by decide +kernel) rfl, ⟨by decide +kernel, by decide +kernel⟩, by decide +kernel⟩
theorem ok_X12_lay : ev_okM M_X12_lay 3 := ⟨by decide +kernel, by decide, tm6 (i := 145) (by decide +kernel) rfl, tm1 (i := 7) (by decide +kernel) rfl, ⟨by decide +kernel, by decide +kernel⟩, by decide +kernel⟩
theorem ok_X12_copy : ev_okM M_X12_copy 5 := ⟨by decide +kernel, by decide, tm6 (i := 150) (by decide +kernel) rfl, tm1 (i := 7) (by decide +kernel) rfl, ⟨by decide +kernel, by decide +kernel⟩, by decide +kernel⟩
theorem ok_X12_taken : ev_okM M_X12_taken 2 := ⟨by decide +kernel, by decide, tm6 (i := 154) (by decide +kernel) rfl, tm1 (i := 7) (by decide +kernel) rfl, ⟨by decide +kernel, by decide +kernel⟩, by decide +kernel⟩
theorem ok_J6_bitCount_0f7a4 : ev_okM M_J6_bitCount_0f7a4 1 := ⟨by decide +kernel, by decide, tm3 (i := 59) (by decide +kernel) rfl, tm1 (i := 17) (by decide +kernel) rfl, ⟨by decide +kernel, by decide +kernel⟩, by decide +kernel⟩
theorem ok_J7_fill_d0a16 : ev_okM M_J7_fill_d0a16 2 := ⟨by decide +kernel, by decide, tm4 (i := 158) (by decide +kernel) rfl, tm1 (i := 12) (by decide +kernel) rfl, ⟨by decide +kernel, by decide +kernel⟩, by decide +kernel⟩
theorem ok_J7_copyOf_59c91 : ev_okM M_J7_copyOf_59c91 2 := ⟨by decide +kernel, by decide, tm2 (i := 170) (by decide +kernel) rfl, tm1 (i := 12) (by decide +kernel) rfl, ⟨by decide +kernel, by decide +kernel⟩, by decide +kernel⟩
theorem fl_X2_9 : ev_FL RX2 9 2 0 := ⟨"PriceBench$Net", RX2, TX2, 11, rfl, by decide, tm1 (i := 32) (by decide +kernel) rfl, iev2, Or.inl rfl⟩
theorem fl_X4_38 : ev_FL RX4 38 2 0 := ⟨"PriceBench$Net", RX2, TX2, 11, rfl, by decide, tm1 (i := 33) (by decide +kernel) rfl, iev2, Or.inl rfl⟩
theorem fl_X8_35 : ev_FL RX8 35 2 0 := ⟨"PriceBench$Net", RX2, TX2, 11, rfl, by decide, tm1 (i := 34) (by decide +kernel) rfl, iev2, Or.inl rfl⟩
theorem fl_X9_44 : ev_FL RX9 44 2 0 := ⟨"PriceBench$Net", RX2, TX2, 11, rfl, by decide, tm1 (i := 35) (by decide +kernel) rfl, iev2, Or.inl rfl⟩
theorem fl_X2_15 : ev_FL RX2 15 2 1 := ⟨"PriceBench$Net", RX2, TX2, 11, rfl, by decide, tm1 (i := 36) (by decide +kernel) rfl, iev2, Or.inl rfl⟩
theorem fl_X4_42 : ev_FL RX4 42 2 1 := ⟨"PriceBench$Net", RX2, TX2, 11, rfl, by decide, tm1 (i := 37) (by decide +kernel) rfl, iev2, Or.inl rfl⟩
theorem fl_X9_40 : ev_FL RX9 40 2 1 := ⟨"PriceBench$Net", RX2, TX2, 11, rfl, by decide, tm1 (i := 38) (by decide +kernel) rfl, iev2, Or.inl rfl⟩
theorem fl_X8_43 : ev_FL RX8 43 2 1 := ⟨"PriceBench$Net", RX2, TX2, 11, rfl, by decide, tm1 (i := 39) (by decide +kernel) rfl, iev2, Or.inl rfl⟩
theorem fl_X2_18 : ev_FL RX2 18 2 2 := ⟨"PriceBench$Net", RX2, TX2, 11, rfl, by decide, tm1 (i := 40) (by decide +kernel) rfl, iev2, Or.inl rfl⟩
theorem fl_X1_32 : ev_FL RX1 32 2 2 := ⟨"PriceBench$Net", RX2, TX2, 11, rfl, by decide, tm1 (i := 41) (by decide +kernel) rfl, iev2, Or.inl rfl⟩
theorem fl_X11_179 : ev_FL RX11 179 2 2 := ⟨"PriceBench$Net", RX2, TX2, 11, rfl, by decide, tm1 (i := 42) (by decide +kernel) rfl, iev2, Or.inl rfl⟩
theorem fl_X2_21 : ev_FL RX2 21 2 3 := ⟨"PriceBench$Net", RX2, TX2, 11, rfl, by decide, tm1 (i := 43) (by decide +kernel) rfl, iev2, Or.inl rfl⟩
theorem fl_X1_41 : ev_FL RX1 41 2 3 := ⟨"PriceBench$Net", RX2, TX2, 11, rfl, by decide, tm1 (i := 44) (by decide +kernel) rfl, iev2, Or.inl rfl⟩
theorem fl_X11_186 : ev_FL RX11 186 2 3 := ⟨"PriceBench$Net", RX2, TX2, 11, rfl, by decide, tm1 (i := 45) (by decide +kernel) rfl, iev2, Or.inl rfl⟩
theorem fl_X8_9 : ev_FL RX8 9 2 4 := ⟨"PriceBench$Net", RX2, TX2, 11, rfl, by decide, tm1 (i := 46) (by decide +kernel) rfl, iev2, Or.inl rfl⟩
theorem fl_X2_28 : ev_FL RX2 28 2 4 := ⟨"PriceBench$Net", RX2, TX2, 11, rfl, by decide, tm1 (i := 47) (by decide +kernel) rfl, iev2, Or.inl rfl⟩
theorem fl_X9_18 : ev_FL RX9 18 2 4 := ⟨"PriceBench$Net", RX2, TX2, 11, rfl, by decide, tm1 (i := 48) (by decide +kernel) rfl, iev2, Or.inl rfl⟩
theorem fl_X11_87 : ev_FL RX11 87 2 4 := ⟨"PriceBench$Net", RX2, TX2, 11, rfl, by decide, tm1 (i := 49) (by decide +kernel) rfl, iev2, Or.inl rfl⟩
theorem fl_X2_31 : ev_FL RX2 31 2 5 := ⟨"PriceBench$Net", RX2, TX2, 11, rfl, by decide, tm1 (i := 50) (by decide +kernel) rfl, iev2, Or.inl rfl⟩
theorem fl_X4_35 : ev_FL RX4 35 2 5 := ⟨"PriceBench$Net", RX2, TX2, 11, rfl, by decide, tm1 (i := 51) (by decide +kernel) rfl, iev2, Or.inl rfl⟩
theorem fl_X7_23 : ev_FL RX7 23 2 5 := ⟨"PriceBench$Net", RX2, TX2, 11, rfl, by decide, tm1 (i := 52) (by decide +kernel) rfl, iev2, Or.inl rfl⟩
theorem fl_X8_32 : ev_FL RX8 32 2 5 := ⟨"PriceBench$Net", RX2, TX2, 11, rfl, by decide, tm1 (i := 53) (by decide +kernel) rfl, iev2, Or.inl rfl⟩
theorem fl_X9_37 : ev_FL RX9 37 2 5 := ⟨"PriceBench$Net", RX2, TX2, 11, rfl, by decide, tm1 (i := 54) (by decide +kernel) rfl, iev2, Or.inl rfl⟩
theorem fl_X11_77 : ev_FL RX11 77 2 5 := ⟨"PriceBench$Net", RX2, TX2, 11, rfl, by decide, tm1 (i := 55) (by decide +kernel) rfl, iev2, Or.inl rfl⟩
theorem fl_X2_24 : ev_FL RX2 24 2 6 := ⟨"PriceBench$Net", RX2, TX2, 11, rfl, by decide, tm1 (i := 56) (by decide +kernel) rfl, iev2, Or.inl rfl⟩
theorem fl_X11_84 : ev_FL RX11 84 2 6 := ⟨"PriceBench$Net", RX2, TX2, 11, rfl, by decide, tm1 (i := 57) (by decide +kernel) rfl, iev2, Or.inl rfl⟩
theorem fl_X3_38 : ev_FL RX3 38 2 7 := ⟨"PriceBench$Net", RX2, TX2, 11, rfl, by decide, tm1 (i := 58) (by decide +kernel) rfl, iev2, Or.inl rfl⟩
theorem fl_X2_55 : ev_FL RX2 55 2 7 := ⟨"PriceBench$Net", RX2, TX2, 11, rfl, by decide, tm1 (i := 59) (by decide +kernel) rfl, iev2, Or.inl rfl⟩
theorem fl_X2_42 : ev_FL RX2 42 2 8 := ⟨"PriceBench$Net", RX2, TX2, 11, rfl, by decide, tm1 (i := 60) (by decide +kernel) rfl, iev2, Or.inl rfl⟩
theorem fl_X2_45 : ev_FL RX2 45 2 9 := ⟨"PriceBench$Net", RX2, TX2, 11, rfl, by decide, tm1 (i := 61) (by decide +kernel) rfl, iev2, Or.inl rfl⟩
theorem fl_X2_48 : ev_FL RX2 48 2 10 := ⟨"PriceBench$Net", RX2, TX2, 11, rfl, by decide, tm1 (i := 62) (by decide +kernel) rfl, iev2, Or.inl rfl⟩
theorem fl_X10_7 : ev_FL RX10 7 9 0 := ⟨"PriceBench$Window", RX10, TX10, 5, rfl, by decide, tm1 (i := 95) (by decide +kernel) rfl, iev9, Or.inl rfl⟩
theorem fl_X3_58 : ev_FL RX3 58 9 0 := ⟨"PriceBench$Window", RX10, TX10, 5, rfl, by decide, tm1 (i := 96) (by decide +kernel) rfl, iev9, Or.inl rfl⟩
theorem fl_X1_73 : ev_FL RX1 73 9 0 := ⟨"PriceBench$Window", RX10, TX10, 5, rfl, by decide, tm1 (i := 97) (by decide +kernel) rfl, iev9, Or.inl rfl⟩
theorem fl_X11_241 : ev_FL RX11 241 9 0 := ⟨"PriceBench$Window", RX10, TX10, 5, rfl, by decide, tm1 (i := 98) (by decide +kernel) rfl, iev9, Or.inl rfl⟩
theorem fl_X10_13 : ev_FL RX10 13 9 1 := ⟨"PriceBench$Window", RX10, TX10, 5, rfl, by decide, tm1 (i := 99) (by decide +kernel) rfl, iev9, Or.inl rfl⟩
theorem fl_X3_61 : ev_FL RX3 61 9 1 := ⟨"PriceBench$Window", RX10, TX10, 5, rfl, by decide, tm1 (i := 100) (by decide +kernel) rfl, iev9, Or.inl rfl⟩
theorem fl_X1_78 : ev_FL RX1 78 9 1 := ⟨"PriceBench$Window", RX10, TX10, 5, rfl, by decide, tm1 (i := 101) (by decide +kernel) rfl, iev9, Or.inl rfl⟩
theorem fl_X11_244 : ev_FL RX11 244 9 1 := ⟨"PriceBench$Window", RX10, TX10, 5, rfl, by decide, tm1 (i := 102) (by decide +kernel) rfl, iev9, Or.inl rfl⟩
theorem fl_X10_16 : ev_FL RX10 16 9 2 := ⟨"PriceBench$Window", RX10, TX10, 5, rfl, by decide, tm1 (i := 103) (by decide +kernel) rfl, iev9, Or.inl rfl⟩
theorem fl_X3_82 : ev_FL RX3 82 9 2 := ⟨"PriceBench$Window", RX10, TX10, 5, rfl, by decide, tm1 (i := 104) (by decide +kernel) rfl, iev9, Or.inl rfl⟩
theorem fl_X1_85 : ev_FL RX1 85 9 2 := ⟨"PriceBench$Window", RX10, TX10, 5, rfl, by decide, tm1 (i := 105) (by decide +kernel) rfl, iev9, Or.inl rfl⟩
theorem fl_X11_262 : ev_FL RX11 262 9 2 := ⟨"PriceBench$Window", RX10, TX10, 5, rfl, by decide, tm1 (i := 106) (by decide +kernel) rfl, iev9, Or.inl rfl⟩
theorem fl_X10_19 : ev_FL RX10 19 9 3 := ⟨"PriceBench$Window", RX10, TX10, 5, rfl, by decide, tm1 (i := 107) (by decide +kernel) rfl, iev9, Or.inl rfl⟩
theorem fl_X3_85 : ev_FL RX3 85 9 3 := ⟨"PriceBench$Window", RX10, TX10, 5, rfl, by decide, tm1 (i := 108) (by decide +kernel) rfl, iev9, Or.inl rfl⟩
theorem fl_X1_88 : ev_FL RX1 88 9 3 := ⟨"PriceBench$Window", RX10, TX10, 5, rfl, by decide, tm1 (i := 109) (by decide +kernel) rfl, iev9, Or.inl rfl⟩
theorem fl_X11_265 : ev_FL RX11 265 9 3 := ⟨"PriceBench$Window", RX10, TX10, 5, rfl, by decide, tm1 (i := 110) (by decide +kernel) rfl, iev9, Or.inl rfl⟩
theorem fl_X10_22 : ev_FL RX10 22 9 4 := ⟨"PriceBench$Window", RX10, TX10, 5, rfl, by decide, tm1 (i := 111) (by decide +kernel) rfl, iev9, Or.inl rfl⟩
theorem fl_X3_50 : ev_FL RX3 50 9 4 := ⟨"PriceBench$Window", RX10, TX10, 5, rfl, by decide, tm1 (i := 112) (by decide +kernel) rfl, iev9, Or.inl rfl⟩
theorem fl_X5_9 : ev_FL RX5 9 4 0 := ⟨"PriceBench$Rows", RX5, TX5, 2, rfl, by decide, tm1 (i := 130) (by decide +kernel) rfl, iev4, Or.inl rfl⟩
theorem fl_X5_13 : ev_FL RX5 13 4 1 := ⟨"PriceBench$Rows", RX5, TX5, 2, rfl, by decide, tm1 (i := 131) (by decide +kernel) rfl, iev4, Or.inl rfl⟩
theorem fl_X11_247 : ev_FL RX11 247 4 1 := ⟨"PriceBench$Rows", RX5, TX5, 2, rfl, by decide, tm1 (i := 132) (by decide +kernel) rfl, iev4, Or.inl rfl⟩
theorem fl_X0_11 : ev_FL RX0 11 0 0 := ⟨"PriceBench$Acts", RX0, TX0, 2, rfl, by decide, tm1 (i := 144) (by decide +kernel) rfl, iev0, Or.inl rfl⟩
theorem fl_X11_315 : ev_FL RX11 315 0 0 := ⟨"PriceBench$Acts", RX0, TX0, 2, rfl, by decide, tm1 (i := 145) (by decide +kernel) rfl, iev0, Or.inl rfl⟩
theorem fl_X0_22 : ev_FL RX0 22 0 1 := ⟨"PriceBench$Acts", RX0, TX0, 2, rfl, by decide, tm1 (i := 146) (by decide +kernel) rfl, iev0, Or.inl rfl⟩
theorem fl_X11_312 : ev_FL RX11 312 0 1 := ⟨"PriceBench$Acts", RX0, TX0, 2, rfl, by decide, tm1 (i := 147) (by decide +kernel) rfl, iev0, Or.inl rfl⟩
theorem fl_X6_9 : ev_FL RX6 9 5 0 := ⟨"PriceBench$Sheet", RX6, TX6, 3, rfl, by decide, tm1 (i := 160) (by decide +kernel) rfl, iev5, Or.inl rfl⟩
theorem fl_X11_324 : ev_FL RX11 324 5 0 := ⟨"PriceBench$Sheet", RX6, TX6, 3, rfl, by decide, tm1 (i := 161) (by decide +kernel) rfl, iev5, Or.inl rfl⟩
theorem fl_X6_19 : ev_FL RX6 19 5 1 := ⟨"PriceBench$Sheet", RX6, TX6, 3, rfl, by decide, tm1 (i := 162) (by decide +kernel) rfl, iev5, Or.inl rfl⟩
theorem fl_X6_15 : ev_FL RX6 15 5 2 := ⟨"PriceBench$Sheet", RX6, TX6, 3, rfl, by decide, tm1 (i := 163) (by decide +kernel) rfl, iev5, Or.inl rfl⟩
theorem fl_X11_330 : ev_FL RX11 330 5 2 := ⟨"PriceBench$Sheet", RX6, TX6, 3, rfl, by decide, tm1 (i := 164) (by decide +kernel) rfl, iev5, Or.inl rfl⟩
theorem fl_X11_10 : ev_FL RX11 10 10 0 := ⟨"PriceBench", RX11, TX11, 8, rfl, by decide, tm1 (i := 173) (by decide +kernel) rfl, iev10, Or.inl rfl⟩
theorem fl_X11_18 : ev_FL RX11 18 10 1 := ⟨"PriceBench", RX11, TX11, 8, rfl, by decide, tm1 (i := 174) (by decide +kernel) rfl, iev10, Or.inl rfl⟩
theorem fl_X11_100 : ev_FL RX11 100 10 2 := ⟨"PriceBench", RX11, TX11, 8, rfl, by decide, tm1 (i := 175) (by decide +kernel) rfl, iev10, Or.inl rfl⟩
theorem fl_X11_25 : ev_FL RX11 25 10 3 := ⟨"PriceBench", RX11, TX11, 8, rfl, by decide, tm1 (i := 176) (by decide +kernel) rfl, iev10, Or.inl rfl⟩
theorem fl_X11_32 : ev_FL RX11 32 10 4 := ⟨"PriceBench", RX11, TX11, 8, rfl, by decide, tm1 (i := 177) (by decide +kernel) rfl, iev10, Or.inl rfl⟩
theorem fl_X11_39 : ev_FL RX11 39 10 5 := ⟨"PriceBench", RX11, TX11, 8, rfl, by decide, tm1 (i := 178) (by decide +kernel) rfl, iev10, Or.inl rfl⟩
theorem fl_X11_45 : ev_FL RX11 45 10 6 := ⟨"PriceBench", RX11, TX11, 8, rfl, by decide, tm1 (i := 179) (by decide +kernel) rfl, iev10, Or.inl rfl⟩
theorem fl_X11_49 : ev_FL RX11 49 10 7 := ⟨"PriceBench", RX11, TX11, 8, rfl, by decide, tm1 (i := 180) (by decide +kernel) rfl, iev10, Or.inl rfl⟩
theorem fl_X1_9 : ev_FL RX1 9 1 0 := ⟨"PriceBench$Choices", RX1, TX1, 4, rfl, by decide, tm2 (i := 61) (by decide +kernel) rfl, iev1, Or.inl rfl⟩
theorem fl_X3_92 : ev_FL RX3 92 1 0 := ⟨"PriceBench$Choices", RX1, TX1, 4, rfl, by decide, tm2 (i := 62) (by decide +kernel) rfl, iev1, Or.inl rfl⟩
theorem fl_X11_157 : ev_FL RX11 157 1 0 := ⟨"PriceBench$Choices", RX1, TX1, 4, rfl, by decide, tm2 (i := 63) (by decide +kernel) rfl, iev1, Or.inl rfl⟩
theorem fl_X1_15 : ev_FL RX1 15 1 1 := ⟨"PriceBench$Choices", RX1, TX1, 4, rfl, by decide, tm2 (i := 64) (by decide +kernel) rfl, iev1, Or.inl rfl⟩
theorem fl_X3_75 : ev_FL RX3 75 1 1 := ⟨"PriceBench$Choices", RX1, TX1, 4, rfl, by decide, tm2 (i := 65) (by decide +kernel) rfl, iev1, Or.inl rfl⟩
theorem fl_X11_227 : ev_FL RX11 227 1 1 := ⟨"PriceBench$Choices", RX1, TX1, 4, rfl, by decide, tm2 (i := 66) (by decide +kernel) rfl, iev1, Or.inl rfl⟩
theorem fl_X1_18 : ev_FL RX1 18 1 2 := ⟨"PriceBench$Choices", RX1, TX1, 4, rfl, by decide, tm2 (i := 67) (by decide +kernel) rfl, iev1, Or.inl rfl⟩
theorem fl_X3_79 : ev_FL RX3 79 1 2 := ⟨"PriceBench$Choices", RX1, TX1, 4, rfl, by decide, tm2 (i := 68) (by decide +kernel) rfl, iev1, Or.inl rfl⟩
theorem fl_X11_230 : ev_FL RX11 230 1 2 := ⟨"PriceBench$Choices", RX1, TX1, 4, rfl, by decide, tm2 (i := 69) (by decide +kernel) rfl, iev1, Or.inl rfl⟩
theorem fl_X1_21 : ev_FL RX1 21 1 3 := ⟨"PriceBench$Choices", RX1, TX1, 4, rfl, by decide, tm2 (i := 70) (by decide +kernel) rfl, iev1, Or.inl rfl⟩
theorem fl_X0_50 : ev_FL RX0 50 1 3 := ⟨"PriceBench$Choices", RX1, TX1, 4, rfl, by decide, tm2 (i := 71) (by decide +kernel) rfl, iev1, Or.inl rfl⟩
theorem fl_X3_68 : ev_FL RX3 68 1 3 := ⟨"PriceBench$Choices", RX1, TX1, 4, rfl, by decide, tm2 (i := 72) (by decide +kernel) rfl, iev1, Or.inl rfl⟩
theorem fl_X11_142 : ev_FL RX11 142 1 3 := ⟨"PriceBench$Choices", RX1, TX1, 4, rfl, by decide, tm2 (i := 73) (by decide +kernel) rfl, iev1, Or.inl rfl⟩
theorem fl_X7_9 : ev_FL RX7 9 6 6 := ⟨"PriceBench$Told", RX7, TX7, 8, rfl, by decide, tm2 (i := 85) (by decide +kernel) rfl, iev6, Or.inl rfl⟩
theorem fl_X7_15 : ev_FL RX7 15 6 7 := ⟨"PriceBench$Told", RX7, TX7, 8, rfl, by decide, tm2 (i := 86) (by decide +kernel) rfl, iev6, Or.inl rfl⟩
theorem fl_X3_32 {ci : Nat} (hc : ev_isO ci) : ev_FL RX3 32 ci 0 := by
  rcases hc with rfl | rfl | rfl | rfl
  · exact ⟨"PriceBench$Offer", RX4, TX4, 7, rfl, by decide, tm2 (i := 87) (by decide +kernel) rfl, iev3, Or.inl rfl⟩
  · exact ⟨"PriceBench$Offer", RX7, TX7, 8, rfl, by decide, tm2 (i := 87) (by decide +kernel) rfl, iev6, Or.inl rfl⟩
  · exact ⟨"PriceBench$Offer", RX8, TX8, 6, rfl, by decide, tm2 (i := 87) (by decide +kernel) rfl, iev7, Or.inl rfl⟩
  · exact ⟨"PriceBench$Offer", RX9, TX9, 8, rfl, by decide, tm2 (i := 87) (by decide +kernel) rfl, iev8, Or.inl rfl⟩
theorem fl_X0_55 {ci : Nat} (hc : ev_isO ci) : ev_FL RX0 55 ci 0 := by
  rcases hc with rfl | rfl | rfl | rfl
  · exact ⟨"PriceBench$Offer", RX4, TX4, 7, rfl, by decide, tm2 (i := 88) (by decide +kernel) rfl, iev3, Or.inl rfl⟩
  · exact ⟨"PriceBench$Offer", RX7, TX7, 8, rfl, by decide, tm2 (i := 88) (by decide +kernel) rfl, iev6, Or.inl rfl⟩
  · exact ⟨"PriceBench$Offer", RX8, TX8, 6, rfl, by decide, tm2 (i := 88) (by decide +kernel) rfl, iev7, Or.inl rfl⟩
  · exact ⟨"PriceBench$Offer", RX9, TX9, 8, rfl, by decide, tm2 (i := 88) (by decide +kernel) rfl, iev8, Or.inl rfl⟩
theorem fl_X3_35 {ci : Nat} (hc : ev_isO ci) : ev_FL RX3 35 ci 1 := by
  rcases hc with rfl | rfl | rfl | rfl
  · exact ⟨"PriceBench$Offer", RX4, TX4, 7, rfl, by decide, tm2 (i := 89) (by decide +kernel) rfl, iev3, Or.inl rfl⟩
  · exact ⟨"PriceBench$Offer", RX7, TX7, 8, rfl, by decide, tm2 (i := 89) (by decide +kernel) rfl, iev6, Or.inl rfl⟩
  · exact ⟨"PriceBench$Offer", RX8, TX8, 6, rfl, by decide, tm2 (i := 89) (by decide +kernel) rfl, iev7, Or.inl rfl⟩
  · exact ⟨"PriceBench$Offer", RX9, TX9, 8, rfl, by decide, tm2 (i := 89) (by decide +kernel) rfl, iev8, Or.inl rfl⟩
theorem fl_X0_26 {ci : Nat} (hc : ev_isO ci) : ev_FL RX0 26 ci 1 := by
  rcases hc with rfl | rfl | rfl | rfl
  · exact ⟨"PriceBench$Offer", RX4, TX4, 7, rfl, by decide, tm2 (i := 90) (by decide +kernel) rfl, iev3, Or.inl rfl⟩
  · exact ⟨"PriceBench$Offer", RX7, TX7, 8, rfl, by decide, tm2 (i := 90) (by decide +kernel) rfl, iev6, Or.inl rfl⟩
  · exact ⟨"PriceBench$Offer", RX8, TX8, 6, rfl, by decide, tm2 (i := 90) (by decide +kernel) rfl, iev7, Or.inl rfl⟩
  · exact ⟨"PriceBench$Offer", RX9, TX9, 8, rfl, by decide, tm2 (i := 90) (by decide +kernel) rfl, iev8, Or.inl rfl⟩
theorem fl_X11_135 {ci : Nat} (hc : ev_isO ci) : ev_FL RX11 135 ci 1 := by
  rcases hc with rfl | rfl | rfl | rfl
  · exact ⟨"PriceBench$Offer", RX4, TX4, 7, rfl, by decide, tm2 (i := 91) (by decide +kernel) rfl, iev3, Or.inl rfl⟩
  · exact ⟨"PriceBench$Offer", RX7, TX7, 8, rfl, by decide, tm2 (i := 91) (by decide +kernel) rfl, iev6, Or.inl rfl⟩
  · exact ⟨"PriceBench$Offer", RX8, TX8, 6, rfl, by decide, tm2 (i := 91) (by decide +kernel) rfl, iev7, Or.inl rfl⟩
  · exact ⟨"PriceBench$Offer", RX9, TX9, 8, rfl, by decide, tm2 (i := 91) (by decide +kernel) rfl, iev8, Or.inl rfl⟩
theorem fl_X3_12 {ci : Nat} (hc : ev_isO ci) : ev_FL RX3 12 ci 2 := by
  rcases hc with rfl | rfl | rfl | rfl
  · exact ⟨"PriceBench$Offer", RX4, TX4, 7, rfl, by decide, tm2 (i := 92) (by decide +kernel) rfl, iev3, Or.inl rfl⟩
  · exact ⟨"PriceBench$Offer", RX7, TX7, 8, rfl, by decide, tm2 (i := 92) (by decide +kernel) rfl, iev6, Or.inl rfl⟩
  · exact ⟨"PriceBench$Offer", RX8, TX8, 6, rfl, by decide, tm2 (i := 92) (by decide +kernel) rfl, iev7, Or.inl rfl⟩
  · exact ⟨"PriceBench$Offer", RX9, TX9, 8, rfl, by decide, tm2 (i := 92) (by decide +kernel) rfl, iev8, Or.inl rfl⟩
theorem fl_X4_25 : ev_FL RX4 25 3 2 := ⟨"PriceBench$Pairing", RX4, TX4, 7, rfl, by decide, tm2 (i := 93) (by decide +kernel) rfl, iev3, Or.inr (tm2 (i := 94) (by decide +kernel) rfl)⟩
theorem fl_X8_22 : ev_FL RX8 22 7 2 := ⟨"PriceBench$Tree", RX8, TX8, 6, rfl, by decide, tm2 (i := 95) (by decide +kernel) rfl, iev7, Or.inr (tm2 (i := 96) (by decide +kernel) rfl)⟩
theorem fl_X9_27 : ev_FL RX9 27 8 2 := ⟨"PriceBench$Way", RX9, TX9, 8, rfl, by decide, tm2 (i := 97) (by decide +kernel) rfl, iev8, Or.inr (tm2 (i := 98) (by decide +kernel) rfl)⟩
theorem fl_X7_28 : ev_FL RX7 28 6 2 := ⟨"PriceBench$Told", RX7, TX7, 8, rfl, by decide, tm2 (i := 99) (by decide +kernel) rfl, iev6, Or.inr (tm2 (i := 100) (by decide +kernel) rfl)⟩
theorem fl_X0_46 {ci : Nat} (hc : ev_isO ci) : ev_FL RX0 46 ci 2 := by
  rcases hc with rfl | rfl | rfl | rfl
  · exact ⟨"PriceBench$Offer", RX4, TX4, 7, rfl, by decide, tm2 (i := 101) (by decide +kernel) rfl, iev3, Or.inl rfl⟩
  · exact ⟨"PriceBench$Offer", RX7, TX7, 8, rfl, by decide, tm2 (i := 101) (by decide +kernel) rfl, iev6, Or.inl rfl⟩
  · exact ⟨"PriceBench$Offer", RX8, TX8, 6, rfl, by decide, tm2 (i := 101) (by decide +kernel) rfl, iev7, Or.inl rfl⟩
  · exact ⟨"PriceBench$Offer", RX9, TX9, 8, rfl, by decide, tm2 (i := 101) (by decide +kernel) rfl, iev8, Or.inl rfl⟩
theorem fl_X11_138 {ci : Nat} (hc : ev_isO ci) : ev_FL RX11 138 ci 2 := by
  rcases hc with rfl | rfl | rfl | rfl
  · exact ⟨"PriceBench$Offer", RX4, TX4, 7, rfl, by decide, tm2 (i := 102) (by decide +kernel) rfl, iev3, Or.inl rfl⟩
  · exact ⟨"PriceBench$Offer", RX7, TX7, 8, rfl, by decide, tm2 (i := 102) (by decide +kernel) rfl, iev6, Or.inl rfl⟩
  · exact ⟨"PriceBench$Offer", RX8, TX8, 6, rfl, by decide, tm2 (i := 102) (by decide +kernel) rfl, iev7, Or.inl rfl⟩
  · exact ⟨"PriceBench$Offer", RX9, TX9, 8, rfl, by decide, tm2 (i := 102) (by decide +kernel) rfl, iev8, Or.inl rfl⟩
theorem fl_X3_21 {ci : Nat} (hc : ev_isO ci) : ev_FL RX3 21 ci 3 := by
  rcases hc with rfl | rfl | rfl | rfl
  · exact ⟨"PriceBench$Offer", RX4, TX4, 7, rfl, by decide, tm2 (i := 103) (by decide +kernel) rfl, iev3, Or.inl rfl⟩
  · exact ⟨"PriceBench$Offer", RX7, TX7, 8, rfl, by decide, tm2 (i := 103) (by decide +kernel) rfl, iev6, Or.inl rfl⟩
  · exact ⟨"PriceBench$Offer", RX8, TX8, 6, rfl, by decide, tm2 (i := 103) (by decide +kernel) rfl, iev7, Or.inl rfl⟩
  · exact ⟨"PriceBench$Offer", RX9, TX9, 8, rfl, by decide, tm2 (i := 103) (by decide +kernel) rfl, iev8, Or.inl rfl⟩
theorem fl_X3_25 {ci : Nat} (hc : ev_isO ci) : ev_FL RX3 25 ci 4 := by
  rcases hc with rfl | rfl | rfl | rfl
  · exact ⟨"PriceBench$Offer", RX4, TX4, 7, rfl, by decide, tm2 (i := 104) (by decide +kernel) rfl, iev3, Or.inl rfl⟩
  · exact ⟨"PriceBench$Offer", RX7, TX7, 8, rfl, by decide, tm2 (i := 104) (by decide +kernel) rfl, iev6, Or.inl rfl⟩
  · exact ⟨"PriceBench$Offer", RX8, TX8, 6, rfl, by decide, tm2 (i := 104) (by decide +kernel) rfl, iev7, Or.inl rfl⟩
  · exact ⟨"PriceBench$Offer", RX9, TX9, 8, rfl, by decide, tm2 (i := 104) (by decide +kernel) rfl, iev8, Or.inl rfl⟩
theorem fl_X3_29 {ci : Nat} (hc : ev_isO ci) : ev_FL RX3 29 ci 5 := by
  rcases hc with rfl | rfl | rfl | rfl
  · exact ⟨"PriceBench$Offer", RX4, TX4, 7, rfl, by decide, tm2 (i := 105) (by decide +kernel) rfl, iev3, Or.inl rfl⟩
  · exact ⟨"PriceBench$Offer", RX7, TX7, 8, rfl, by decide, tm2 (i := 105) (by decide +kernel) rfl, iev6, Or.inl rfl⟩
  · exact ⟨"PriceBench$Offer", RX8, TX8, 6, rfl, by decide, tm2 (i := 105) (by decide +kernel) rfl, iev7, Or.inl rfl⟩
  · exact ⟨"PriceBench$Offer", RX9, TX9, 8, rfl, by decide, tm2 (i := 105) (by decide +kernel) rfl, iev8, Or.inl rfl⟩
theorem fl_X9_9 : ev_FL RX9 9 8 6 := ⟨"PriceBench$Way", RX9, TX9, 8, rfl, by decide, tm3 (i := 13) (by decide +kernel) rfl, iev8, Or.inl rfl⟩
theorem fl_X9_15 : ev_FL RX9 15 8 7 := ⟨"PriceBench$Way", RX9, TX9, 8, rfl, by decide, tm3 (i := 14) (by decide +kernel) rfl, iev8, Or.inl rfl⟩
theorem fl_X4_9 : ev_FL RX4 9 3 6 := ⟨"PriceBench$Pairing", RX4, TX4, 7, rfl, by decide, tm3 (i := 37) (by decide +kernel) rfl, iev3, Or.inl rfl⟩
theorem sl_X0_15 : Cond.fieldLink RX0 15 "PriceBench$Acts" "KIND_ABOVE" "[I" ∈ ev_tb := tm3 (i := 125) (by decide +kernel) rfl
theorem sl_X0_39 : Cond.fieldLink RX0 39 "PriceBench$Acts" "BODIES" "[I" ∈ ev_tb := tm4 (i := 130) (by decide +kernel) rfl
theorem fl_X12_7 : ev_FL RX12 7 11 0 := ⟨"PriceBenchModel", RX12, TX12, 36, rfl, by decide, tm4 (i := 183) (by decide +kernel) rfl, iev11, Or.inl rfl⟩
theorem fl_X12_13 : ev_FL RX12 13 11 1 := ⟨"PriceBenchModel", RX12, TX12, 36, rfl, by decide, tm4 (i := 184) (by decide +kernel) rfl, iev11, Or.inl rfl⟩
theorem fl_X12_96 : ev_FL RX12 96 11 2 := ⟨"PriceBenchModel", RX12, TX12, 36, rfl, by decide, tm4 (i := 185) (by decide +kernel) rfl, iev11, Or.inl rfl⟩
theorem fl_X12_89 : ev_FL RX12 89 11 3 := ⟨"PriceBenchModel", RX12, TX12, 36, rfl, by decide, tm4 (i := 186) (by decide +kernel) rfl, iev11, Or.inl rfl⟩
theorem fl_X12_16 : ev_FL RX12 16 11 4 := ⟨"PriceBenchModel", RX12, TX12, 36, rfl, by decide, tm4 (i := 187) (by decide +kernel) rfl, iev11, Or.inl rfl⟩
theorem fl_X12_19 : ev_FL RX12 19 11 5 := ⟨"PriceBenchModel", RX12, TX12, 36, rfl, by decide, tm4 (i := 188) (by decide +kernel) rfl, iev11, Or.inl rfl⟩
theorem fl_X12_22 : ev_FL RX12 22 11 6 := ⟨"PriceBenchModel", RX12, TX12, 36, rfl, by decide, tm4 (i := 189) (by decide +kernel) rfl, iev11, Or.inl rfl⟩
theorem fl_X12_25 : ev_FL RX12 25 11 7 := ⟨"PriceBenchModel", RX12, TX12, 36, rfl, by decide, tm4 (i := 190) (by decide +kernel) rfl, iev11, Or.inl rfl⟩
theorem fl_X12_28 : ev_FL RX12 28 11 8 := ⟨"PriceBenchModel", RX12, TX12, 36, rfl, by decide, tm4 (i := 191) (by decide +kernel) rfl, iev11, Or.inl rfl⟩
theorem fl_X12_195 : ev_FL RX12 195 11 9 := ⟨"PriceBenchModel", RX12, TX12, 36, rfl, by decide, tm4 (i := 192) (by decide +kernel) rfl, iev11, Or.inl rfl⟩
theorem fl_X12_31 : ev_FL RX12 31 11 10 := ⟨"PriceBenchModel", RX12, TX12, 36, rfl, by decide, tm4 (i := 193) (by decide +kernel) rfl, iev11, Or.inl rfl⟩
theorem fl_X12_35 : ev_FL RX12 35 11 11 := ⟨"PriceBenchModel", RX12, TX12, 36, rfl, by decide, tm4 (i := 194) (by decide +kernel) rfl, iev11, Or.inl rfl⟩
theorem fl_X12_38 : ev_FL RX12 38 11 12 := ⟨"PriceBenchModel", RX12, TX12, 36, rfl, by decide, tm4 (i := 195) (by decide +kernel) rfl, iev11, Or.inl rfl⟩
theorem fl_X12_251 : ev_FL RX12 251 11 13 := ⟨"PriceBenchModel", RX12, TX12, 36, rfl, by decide, tm4 (i := 196) (by decide +kernel) rfl, iev11, Or.inl rfl⟩
theorem fl_X12_41 : ev_FL RX12 41 11 14 := ⟨"PriceBenchModel", RX12, TX12, 36, rfl, by decide, tm4 (i := 197) (by decide +kernel) rfl, iev11, Or.inl rfl⟩
theorem fl_X12_45 : ev_FL RX12 45 11 15 := ⟨"PriceBenchModel", RX12, TX12, 36, rfl, by decide, tm4 (i := 198) (by decide +kernel) rfl, iev11, Or.inl rfl⟩
theorem fl_X12_265 : ev_FL RX12 265 11 16 := ⟨"PriceBenchModel", RX12, TX12, 36, rfl, by decide, tm4 (i := 199) (by decide +kernel) rfl, iev11, Or.inl rfl⟩
theorem fl_X12_48 : ev_FL RX12 48 11 17 := ⟨"PriceBenchModel", RX12, TX12, 36, rfl, by decide, tm4 (i := 200) (by decide +kernel) rfl, iev11, Or.inl rfl⟩
theorem fl_X12_51 : ev_FL RX12 51 11 18 := ⟨"PriceBenchModel", RX12, TX12, 36, rfl, by decide, tm4 (i := 201) (by decide +kernel) rfl, iev11, Or.inl rfl⟩
theorem fl_X12_54 : ev_FL RX12 54 11 19 := ⟨"PriceBenchModel", RX12, TX12, 36, rfl, by decide, tm4 (i := 202) (by decide +kernel) rfl, iev11, Or.inl rfl⟩
theorem fl_X12_150 : ev_FL RX12 150 11 20 := ⟨"PriceBenchModel", RX12, TX12, 36, rfl, by decide, tm4 (i := 203) (by decide +kernel) rfl, iev11, Or.inl rfl⟩
theorem fl_X12_57 : ev_FL RX12 57 11 21 := ⟨"PriceBenchModel", RX12, TX12, 36, rfl, by decide, tm4 (i := 204) (by decide +kernel) rfl, iev11, Or.inl rfl⟩
theorem fl_X12_60 : ev_FL RX12 60 11 22 := ⟨"PriceBenchModel", RX12, TX12, 36, rfl, by decide, tm4 (i := 205) (by decide +kernel) rfl, iev11, Or.inl rfl⟩
theorem fl_X12_63 : ev_FL RX12 63 11 23 := ⟨"PriceBenchModel", RX12, TX12, 36, rfl, by decide, tm4 (i := 206) (by decide +kernel) rfl, iev11, Or.inl rfl⟩
theorem fl_X12_198 : ev_FL RX12 198 11 24 := ⟨"PriceBenchModel", RX12, TX12, 36, rfl, by decide, tm4 (i := 207) (by decide +kernel) rfl, iev11, Or.inl rfl⟩
theorem fl_X12_66 : ev_FL RX12 66 11 25 := ⟨"PriceBenchModel", RX12, TX12, 36, rfl, by decide, tm4 (i := 208) (by decide +kernel) rfl, iev11, Or.inl rfl⟩
theorem fl_X12_69 : ev_FL RX12 69 11 26 := ⟨"PriceBenchModel", RX12, TX12, 36, rfl, by decide, tm4 (i := 209) (by decide +kernel) rfl, iev11, Or.inl rfl⟩
theorem fl_X12_72 : ev_FL RX12 72 11 27 := ⟨"PriceBenchModel", RX12, TX12, 36, rfl, by decide, tm4 (i := 210) (by decide +kernel) rfl, iev11, Or.inl rfl⟩
theorem fl_X12_215 : ev_FL RX12 215 11 28 := ⟨"PriceBenchModel", RX12, TX12, 36, rfl, by decide, tm4 (i := 211) (by decide +kernel) rfl, iev11, Or.inl rfl⟩
theorem fl_X12_219 : ev_FL RX12 219 11 29 := ⟨"PriceBenchModel", RX12, TX12, 36, rfl, by decide, tm4 (i := 212) (by decide +kernel) rfl, iev11, Or.inl rfl⟩
theorem fl_X12_222 : ev_FL RX12 222 11 30 := ⟨"PriceBenchModel", RX12, TX12, 36, rfl, by decide, tm4 (i := 213) (by decide +kernel) rfl, iev11, Or.inl rfl⟩
theorem fl_X12_225 : ev_FL RX12 225 11 31 := ⟨"PriceBenchModel", RX12, TX12, 36, rfl, by decide, tm4 (i := 214) (by decide +kernel) rfl, iev11, Or.inl rfl⟩
theorem fl_X12_234 : ev_FL RX12 234 11 32 := ⟨"PriceBenchModel", RX12, TX12, 36, rfl, by decide, tm4 (i := 215) (by decide +kernel) rfl, iev11, Or.inl rfl⟩
theorem fl_X12_237 : ev_FL RX12 237 11 33 := ⟨"PriceBenchModel", RX12, TX12, 36, rfl, by decide, tm4 (i := 216) (by decide +kernel) rfl, iev11, Or.inl rfl⟩
theorem fl_X12_271 : ev_FL RX12 271 11 34 := ⟨"PriceBenchModel", RX12, TX12, 36, rfl, by decide, tm4 (i := 217) (by decide +kernel) rfl, iev11, Or.inl rfl⟩
theorem fl_X12_75 : ev_FL RX12 75 11 35 := ⟨"PriceBenchModel", RX12, TX12, 36, rfl, by decide, tm4 (i := 218) (by decide +kernel) rfl, iev11, Or.inl rfl⟩
theorem fp_X0_11 : ev_FP RX0 11 0 0 (.array .int) true := ⟨"PriceBench$Acts", RX0, TX0, 2, tyX0, rfl, by decide, tm1 (i := 144) (by decide +kernel) rfl, iev0, rfl, tyX0_ok, nmX0, rfl, (fun _ => rfl), by decide +kernel⟩
theorem fp_X0_22 : ev_FP RX0 22 0 1 .int false := ⟨"PriceBench$Acts", RX0, TX0, 2, tyX0, rfl, by decide, tm1 (i := 146) (by decide +kernel) rfl, iev0, rfl, tyX0_ok, nmX0, rfl, (fun h => by cases h), by decide +kernel⟩
theorem fp_X1_9 : ev_FP RX1 9 1 0 (.array .int) false := ⟨"PriceBench$Choices", RX1, TX1, 4, tyX1, rfl, by decide, tm2 (i := 61) (by decide +kernel) rfl, iev1, rfl, tyX1_ok, nmX1, rfl, (fun h => by cases h), by decide +kernel⟩
theorem fp_X1_15 : ev_FP RX1 15 1 1 (.array .int) false := ⟨"PriceBench$Choices", RX1, TX1, 4, tyX1, rfl, by decide, tm2 (i := 64) (by decide +kernel) rfl, iev1, rfl, tyX1_ok, nmX1, rfl, (fun h => by cases h), by decide +kernel⟩
theorem fp_X1_18 : ev_FP RX1 18 1 2 (.array .int) false := ⟨"PriceBench$Choices", RX1, TX1, 4, tyX1, rfl, by decide, tm2 (i := 67) (by decide +kernel) rfl, iev1, rfl, tyX1_ok, nmX1, rfl, (fun h => by cases h), by decide +kernel⟩
theorem fp_X1_21 : ev_FP RX1 21 1 3 .int false := ⟨"PriceBench$Choices", RX1, TX1, 4, tyX1, rfl, by decide, tm2 (i := 70) (by decide +kernel) rfl, iev1, rfl, tyX1_ok, nmX1, rfl, (fun h => by cases h), by decide +kernel⟩
theorem fp_X10_7 : ev_FP RX10 7 9 0 .int false := ⟨"PriceBench$Window", RX10, TX10, 5, tyX10, rfl, by decide, tm1 (i := 95) (by decide +kernel) rfl, iev9, rfl, tyX10_ok, nmX10, rfl, (fun h => by cases h), by decide +kernel⟩
theorem fp_X10_13 : ev_FP RX10 13 9 1 .int false := ⟨"PriceBench$Window", RX10, TX10, 5, tyX10, rfl, by decide, tm1 (i := 99) (by decide +kernel) rfl, iev9, rfl, tyX10_ok, nmX10, rfl, (fun h => by cases h), by decide +kernel⟩
theorem fp_X10_16 : ev_FP RX10 16 9 2 .int false := ⟨"PriceBench$Window", RX10, TX10, 5, tyX10, rfl, by decide, tm1 (i := 103) (by decide +kernel) rfl, iev9, rfl, tyX10_ok, nmX10, rfl, (fun h => by cases h), by decide +kernel⟩
theorem fp_X10_19 : ev_FP RX10 19 9 3 .int false := ⟨"PriceBench$Window", RX10, TX10, 5, tyX10, rfl, by decide, tm1 (i := 107) (by decide +kernel) rfl, iev9, rfl, tyX10_ok, nmX10, rfl, (fun h => by cases h), by decide +kernel⟩
theorem fp_X10_22 : ev_FP RX10 22 9 4 .int false := ⟨"PriceBench$Window", RX10, TX10, 5, tyX10, rfl, by decide, tm1 (i := 111) (by decide +kernel) rfl, iev9, rfl, tyX10_ok, nmX10, rfl, (fun h => by cases h), by decide +kernel⟩
theorem fp_X11_10 : ev_FP RX11 10 10 0 (.object "PriceBench$Net") true := ⟨"PriceBench", RX11, TX11, 8, tyX11, rfl, by decide, tm1 (i := 173) (by decide +kernel) rfl, iev10, rfl, tyX11_ok, nmX11, rfl, (fun _ => rfl), by decide +kernel⟩
theorem fp_X11_18 : ev_FP RX11 18 10 1 (.array (.object "PriceBench$Offer")) true := ⟨"PriceBench", RX11, TX11, 8, tyX11, rfl, by decide, tm1 (i := 174) (by decide +kernel) rfl, iev10, rfl, tyX11_ok, nmX11, rfl, (fun _ => rfl), by decide +kernel⟩
theorem fp_X11_25 : ev_FP RX11 25 10 3 (.object "PriceBench$Window") true := ⟨"PriceBench", RX11, TX11, 8, tyX11, rfl, by decide, tm1 (i := 176) (by decide +kernel) rfl, iev10, rfl, tyX11_ok, nmX11, rfl, (fun _ => rfl), by decide +kernel⟩
theorem fp_X11_32 : ev_FP RX11 32 10 4 (.object "PriceBench$Rows") true := ⟨"PriceBench", RX11, TX11, 8, tyX11, rfl, by decide, tm1 (i := 177) (by decide +kernel) rfl, iev10, rfl, tyX11_ok, nmX11, rfl, (fun _ => rfl), by decide +kernel⟩
theorem fp_X11_39 : ev_FP RX11 39 10 5 (.object "PriceBench$Acts") true := ⟨"PriceBench", RX11, TX11, 8, tyX11, rfl, by decide, tm1 (i := 178) (by decide +kernel) rfl, iev10, rfl, tyX11_ok, nmX11, rfl, (fun _ => rfl), by decide +kernel⟩
theorem fp_X11_45 : ev_FP RX11 45 10 6 (.array (.object "PriceBench$Sheet")) true := ⟨"PriceBench", RX11, TX11, 8, tyX11, rfl, by decide, tm1 (i := 179) (by decide +kernel) rfl, iev10, rfl, tyX11_ok, nmX11, rfl, (fun _ => rfl), by decide +kernel⟩
theorem fp_X11_49 : ev_FP RX11 49 10 7 (.array .long) true := ⟨"PriceBench", RX11, TX11, 8, tyX11, rfl, by decide, tm1 (i := 180) (by decide +kernel) rfl, iev10, rfl, tyX11_ok, nmX11, rfl, (fun _ => rfl), by decide +kernel⟩
theorem fp_X11_100 : ev_FP RX11 100 10 2 .int false := ⟨"PriceBench", RX11, TX11, 8, tyX11, rfl, by decide, tm1 (i := 175) (by decide +kernel) rfl, iev10, rfl, tyX11_ok, nmX11, rfl, (fun h => by cases h), by decide +kernel⟩
theorem fp_X12_7 : ev_FP RX12 7 11 0 (.array .int) true := ⟨"PriceBenchModel", RX12, TX12, 36, tyX12, rfl, by decide, tm4 (i := 183) (by decide +kernel) rfl, iev11, rfl, tyX12_ok, nmX12, rfl, (fun _ => rfl), by decide +kernel⟩
theorem fp_X12_13 : ev_FP RX12 13 11 1 (.array .int) true := ⟨"PriceBenchModel", RX12, TX12, 36, tyX12, rfl, by decide, tm4 (i := 184) (by decide +kernel) rfl, iev11, rfl, tyX12_ok, nmX12, rfl, (fun _ => rfl), by decide +kernel⟩
theorem fp_X12_16 : ev_FP RX12 16 11 4 (.array .int) true := ⟨"PriceBenchModel", RX12, TX12, 36, tyX12, rfl, by decide, tm4 (i := 187) (by decide +kernel) rfl, iev11, rfl, tyX12_ok, nmX12, rfl, (fun _ => rfl), by decide +kernel⟩
theorem fp_X12_19 : ev_FP RX12 19 11 5 (.array .int) true := ⟨"PriceBenchModel", RX12, TX12, 36, tyX12, rfl, by decide, tm4 (i := 188) (by decide +kernel) rfl, iev11, rfl, tyX12_ok, nmX12, rfl, (fun _ => rfl), by decide +kernel⟩
theorem fp_X12_22 : ev_FP RX12 22 11 6 (.array .int) true := ⟨"PriceBenchModel", RX12, TX12, 36, tyX12, rfl, by decide, tm4 (i := 189) (by decide +kernel) rfl, iev11, rfl, tyX12_ok, nmX12, rfl, (fun _ => rfl), by decide +kernel⟩
theorem fp_X12_25 : ev_FP RX12 25 11 7 (.array .int) true := ⟨"PriceBenchModel", RX12, TX12, 36, tyX12, rfl, by decide, tm4 (i := 190) (by decide +kernel) rfl, iev11, rfl, tyX12_ok, nmX12, rfl, (fun _ => rfl), by decide +kernel⟩
theorem fp_X12_28 : ev_FP RX12 28 11 8 (.array .int) true := ⟨"PriceBenchModel", RX12, TX12, 36, tyX12, rfl, by decide, tm4 (i := 191) (by decide +kernel) rfl, iev11, rfl, tyX12_ok, nmX12, rfl, (fun _ => rfl), by decide +kernel⟩
theorem fp_X12_31 : ev_FP RX12 31 11 10 .int false := ⟨"PriceBenchModel", RX12, TX12, 36, tyX12, rfl, by decide, tm4 (i := 193) (by decide +kernel) rfl, iev11, rfl, tyX12_ok, nmX12, rfl, (fun h => by cases h), by decide +kernel⟩
theorem fp_X12_35 : ev_FP RX12 35 11 11 .int false := ⟨"PriceBenchModel", RX12, TX12, 36, tyX12, rfl, by decide, tm4 (i := 194) (by decide +kernel) rfl, iev11, rfl, tyX12_ok, nmX12, rfl, (fun h => by cases h), by decide +kernel⟩
theorem fp_X12_38 : ev_FP RX12 38 11 12 .int false := ⟨"PriceBenchModel", RX12, TX12, 36, tyX12, rfl, by decide, tm4 (i := 195) (by decide +kernel) rfl, iev11, rfl, tyX12_ok, nmX12, rfl, (fun h => by cases h), by decide +kernel⟩
theorem fp_X12_41 : ev_FP RX12 41 11 14 (.array .long) true := ⟨"PriceBenchModel", RX12, TX12, 36, tyX12, rfl, by decide, tm4 (i := 197) (by decide +kernel) rfl, iev11, rfl, tyX12_ok, nmX12, rfl, (fun _ => rfl), by decide +kernel⟩
theorem fp_X12_45 : ev_FP RX12 45 11 15 (.array .int) true := ⟨"PriceBenchModel", RX12, TX12, 36, tyX12, rfl, by decide, tm4 (i := 198) (by decide +kernel) rfl, iev11, rfl, tyX12_ok, nmX12, rfl, (fun _ => rfl), by decide +kernel⟩
theorem fp_X12_48 : ev_FP RX12 48 11 17 (.array .int) true := ⟨"PriceBenchModel", RX12, TX12, 36, tyX12, rfl, by decide, tm4 (i := 200) (by decide +kernel) rfl, iev11, rfl, tyX12_ok, nmX12, rfl, (fun _ => rfl), by decide +kernel⟩
theorem fp_X12_51 : ev_FP RX12 51 11 18 (.array .int) true := ⟨"PriceBenchModel", RX12, TX12, 36, tyX12, rfl, by decide, tm4 (i := 201) (by decide +kernel) rfl, iev11, rfl, tyX12_ok, nmX12, rfl, (fun _ => rfl), by decide +kernel⟩
theorem fp_X12_54 : ev_FP RX12 54 11 19 (.array .long) true := ⟨"PriceBenchModel", RX12, TX12, 36, tyX12, rfl, by decide, tm4 (i := 202) (by decide +kernel) rfl, iev11, rfl, tyX12_ok, nmX12, rfl, (fun _ => rfl), by decide +kernel⟩
theorem fp_X12_57 : ev_FP RX12 57 11 21 (.array .int) true := ⟨"PriceBenchModel", RX12, TX12, 36, tyX12, rfl, by decide, tm4 (i := 204) (by decide +kernel) rfl, iev11, rfl, tyX12_ok, nmX12, rfl, (fun _ => rfl), by decide +kernel⟩
theorem fp_X12_60 : ev_FP RX12 60 11 22 (.array .int) true := ⟨"PriceBenchModel", RX12, TX12, 36, tyX12, rfl, by decide, tm4 (i := 205) (by decide +kernel) rfl, iev11, rfl, tyX12_ok, nmX12, rfl, (fun _ => rfl), by decide +kernel⟩
theorem fp_X12_63 : ev_FP RX12 63 11 23 (.array .int) true := ⟨"PriceBenchModel", RX12, TX12, 36, tyX12, rfl, by decide, tm4 (i := 206) (by decide +kernel) rfl, iev11, rfl, tyX12_ok, nmX12, rfl, (fun _ => rfl), by decide +kernel⟩
theorem fp_X12_66 : ev_FP RX12 66 11 25 (.array .long) true := ⟨"PriceBenchModel", RX12, TX12, 36, tyX12, rfl, by decide, tm4 (i := 208) (by decide +kernel) rfl, iev11, rfl, tyX12_ok, nmX12, rfl, (fun _ => rfl), by decide +kernel⟩
theorem fp_X12_69 : ev_FP RX12 69 11 26 (.array .long) true := ⟨"PriceBenchModel", RX12, TX12, 36, tyX12, rfl, by decide, tm4 (i := 209) (by decide +kernel) rfl, iev11, rfl, tyX12_ok, nmX12, rfl, (fun _ => rfl), by decide +kernel⟩
theorem fp_X12_72 : ev_FP RX12 72 11 27 (.array .long) true := ⟨"PriceBenchModel", RX12, TX12, 36, tyX12, rfl, by decide, tm4 (i := 210) (by decide +kernel) rfl, iev11, rfl, tyX12_ok, nmX12, rfl, (fun _ => rfl), by decide +kernel⟩
theorem fp_X12_75 : ev_FP RX12 75 11 35 (.array .long) true := ⟨"PriceBenchModel", RX12, TX12, 36, tyX12, rfl, by decide, tm4 (i := 218) (by decide +kernel) rfl, iev11, rfl, tyX12_ok, nmX12, rfl, (fun _ => rfl), by decide +kernel⟩
theorem fp_X12_89 : ev_FP RX12 89 11 3 .int false := ⟨"PriceBenchModel", RX12, TX12, 36, tyX12, rfl, by decide, tm4 (i := 186) (by decide +kernel) rfl, iev11, rfl, tyX12_ok, nmX12, rfl, (fun h => by cases h), by decide +kernel⟩
theorem fp_X12_96 : ev_FP RX12 96 11 2 .boolean false := ⟨"PriceBenchModel", RX12, TX12, 36, tyX12, rfl, by decide, tm4 (i := 185) (by decide +kernel) rfl, iev11, rfl, tyX12_ok, nmX12, rfl, (fun h => by cases h), by decide +kernel⟩
theorem fp_X12_150 : ev_FP RX12 150 11 20 .int false := ⟨"PriceBenchModel", RX12, TX12, 36, tyX12, rfl, by decide, tm4 (i := 203) (by decide +kernel) rfl, iev11, rfl, tyX12_ok, nmX12, rfl, (fun h => by cases h), by decide +kernel⟩
theorem fp_X12_195 : ev_FP RX12 195 11 9 .int false := ⟨"PriceBenchModel", RX12, TX12, 36, tyX12, rfl, by decide, tm4 (i := 192) (by decide +kernel) rfl, iev11, rfl, tyX12_ok, nmX12, rfl, (fun h => by cases h), by decide +kernel⟩
theorem fp_X12_198 : ev_FP RX12 198 11 24 .int false := ⟨"PriceBenchModel", RX12, TX12, 36, tyX12, rfl, by decide, tm4 (i := 207) (by decide +kernel) rfl, iev11, rfl, tyX12_ok, nmX12, rfl, (fun h => by cases h), by decide +kernel⟩
theorem fp_X12_215 : ev_FP RX12 215 11 28 .long false := ⟨"PriceBenchModel", RX12, TX12, 36, tyX12, rfl, by decide, tm4 (i := 211) (by decide +kernel) rfl, iev11, rfl, tyX12_ok, nmX12, rfl, (fun h => by cases h), by decide +kernel⟩
theorem fp_X12_219 : ev_FP RX12 219 11 29 .long false := ⟨"PriceBenchModel", RX12, TX12, 36, tyX12, rfl, by decide, tm4 (i := 212) (by decide +kernel) rfl, iev11, rfl, tyX12_ok, nmX12, rfl, (fun h => by cases h), by decide +kernel⟩
theorem fp_X12_222 : ev_FP RX12 222 11 30 .long false := ⟨"PriceBenchModel", RX12, TX12, 36, tyX12, rfl, by decide, tm4 (i := 213) (by decide +kernel) rfl, iev11, rfl, tyX12_ok, nmX12, rfl, (fun h => by cases h), by decide +kernel⟩
theorem fp_X12_225 : ev_FP RX12 225 11 31 .long false := ⟨"PriceBenchModel", RX12, TX12, 36, tyX12, rfl, by decide, tm4 (i := 214) (by decide +kernel) rfl, iev11, rfl, tyX12_ok, nmX12, rfl, (fun h => by cases h), by decide +kernel⟩
theorem fp_X12_234 : ev_FP RX12 234 11 32 .long false := ⟨"PriceBenchModel", RX12, TX12, 36, tyX12, rfl, by decide, tm4 (i := 215) (by decide +kernel) rfl, iev11, rfl, tyX12_ok, nmX12, rfl, (fun h => by cases h), by decide +kernel⟩
theorem fp_X12_237 : ev_FP RX12 237 11 33 .long false := ⟨"PriceBenchModel", RX12, TX12, 36, tyX12, rfl, by decide, tm4 (i := 216) (by decide +kernel) rfl, iev11, rfl, tyX12_ok, nmX12, rfl, (fun h => by cases h), by decide +kernel⟩
theorem fp_X12_251 : ev_FP RX12 251 11 13 .int false := ⟨"PriceBenchModel", RX12, TX12, 36, tyX12, rfl, by decide, tm4 (i := 196) (by decide +kernel) rfl, iev11, rfl, tyX12_ok, nmX12, rfl, (fun h => by cases h), by decide +kernel⟩
theorem fp_X12_265 : ev_FP RX12 265 11 16 .int false := ⟨"PriceBenchModel", RX12, TX12, 36, tyX12, rfl, by decide, tm4 (i := 199) (by decide +kernel) rfl, iev11, rfl, tyX12_ok, nmX12, rfl, (fun h => by cases h), by decide +kernel⟩
theorem fp_X12_271 : ev_FP RX12 271 11 34 .int false := ⟨"PriceBenchModel", RX12, TX12, 36, tyX12, rfl, by decide, tm4 (i := 217) (by decide +kernel) rfl, iev11, rfl, tyX12_ok, nmX12, rfl, (fun h => by cases h), by decide +kernel⟩
theorem fp_X2_9 : ev_FP RX2 9 2 0 (.array .int) true := ⟨"PriceBench$Net", RX2, TX2, 11, tyX2, rfl, by decide, tm1 (i := 32) (by decide +kernel) rfl, iev2, rfl, tyX2_ok, nmX2, rfl, (fun _ => rfl), by decide +kernel⟩
theorem fp_X2_15 : ev_FP RX2 15 2 1 (.array .int) true := ⟨"PriceBench$Net", RX2, TX2, 11, tyX2, rfl, by decide, tm1 (i := 36) (by decide +kernel) rfl, iev2, rfl, tyX2_ok, nmX2, rfl, (fun _ => rfl), by decide +kernel⟩
theorem fp_X2_18 : ev_FP RX2 18 2 2 (.array .int) true := ⟨"PriceBench$Net", RX2, TX2, 11, tyX2, rfl, by decide, tm1 (i := 40) (by decide +kernel) rfl, iev2, rfl, tyX2_ok, nmX2, rfl, (fun _ => rfl), by decide +kernel⟩
theorem fp_X2_21 : ev_FP RX2 21 2 3 (.array .int) true := ⟨"PriceBench$Net", RX2, TX2, 11, tyX2, rfl, by decide, tm1 (i := 43) (by decide +kernel) rfl, iev2, rfl, tyX2_ok, nmX2, rfl, (fun _ => rfl), by decide +kernel⟩
theorem fp_X2_24 : ev_FP RX2 24 2 6 .int false := ⟨"PriceBench$Net", RX2, TX2, 11, tyX2, rfl, by decide, tm1 (i := 56) (by decide +kernel) rfl, iev2, rfl, tyX2_ok, nmX2, rfl, (fun h => by cases h), by decide +kernel⟩
theorem fp_X2_28 : ev_FP RX2 28 2 4 .int false := ⟨"PriceBench$Net", RX2, TX2, 11, tyX2, rfl, by decide, tm1 (i := 47) (by decide +kernel) rfl, iev2, rfl, tyX2_ok, nmX2, rfl, (fun h => by cases h), by decide +kernel⟩
theorem fp_X2_31 : ev_FP RX2 31 2 5 .int false := ⟨"PriceBench$Net", RX2, TX2, 11, tyX2, rfl, by decide, tm1 (i := 50) (by decide +kernel) rfl, iev2, rfl, tyX2_ok, nmX2, rfl, (fun h => by cases h), by decide +kernel⟩
theorem fp_X2_42 : ev_FP RX2 42 2 8 .int false := ⟨"PriceBench$Net", RX2, TX2, 11, tyX2, rfl, by decide, tm1 (i := 60) (by decide +kernel) rfl, iev2, rfl, tyX2_ok, nmX2, rfl, (fun h => by cases h), by decide +kernel⟩
theorem fp_X2_45 : ev_FP RX2 45 2 9 .int false := ⟨"PriceBench$Net", RX2, TX2, 11, tyX2, rfl, by decide, tm1 (i := 61) (by decide +kernel) rfl, iev2, rfl, tyX2_ok, nmX2, rfl, (fun h => by cases h), by decide +kernel⟩
theorem fp_X2_48 : ev_FP RX2 48 2 10 .int false := ⟨"PriceBench$Net", RX2, TX2, 11, tyX2, rfl, by decide, tm1 (i := 62) (by decide +kernel) rfl, iev2, rfl, tyX2_ok, nmX2, rfl, (fun h => by cases h), by decide +kernel⟩
theorem fp_X2_55 : ev_FP RX2 55 2 7 .int false := ⟨"PriceBench$Net", RX2, TX2, 11, tyX2, rfl, by decide, tm1 (i := 59) (by decide +kernel) rfl, iev2, rfl, tyX2_ok, nmX2, rfl, (fun h => by cases h), by decide +kernel⟩
theorem fp_X3_12 {ci : Nat} (hc : ev_isO ci) : ev_FP RX3 12 ci 2 (.object "PriceBench$Choices") true := by
  rcases hc with rfl | rfl | rfl | rfl
  · exact ⟨"PriceBench$Offer", RX4, TX4, 7, tyX4, rfl, by decide, tm2 (i := 92) (by decide +kernel) rfl, iev3, rfl, tyX4_ok, nmX4, rfl, (fun _ => rfl), by decide +kernel⟩
  · exact ⟨"PriceBench$Offer", RX7, TX7, 8, tyX7, rfl, by decide, tm2 (i := 92) (by decide +kernel) rfl, iev6, rfl, tyX7_ok, nmX7, rfl, (fun _ => rfl), by decide +kernel⟩
  · exact ⟨"PriceBench$Offer", RX8, TX8, 6, tyX8, rfl, by decide, tm2 (i := 92) (by decide +kernel) rfl, iev7, rfl, tyX8_ok, nmX8, rfl, (fun _ => rfl), by decide +kernel⟩
  · exact ⟨"PriceBench$Offer", RX9, TX9, 8, tyX9, rfl, by decide, tm2 (i := 92) (by decide +kernel) rfl, iev8, rfl, tyX9_ok, nmX9, rfl, (fun _ => rfl), by decide +kernel⟩
theorem fp_X3_21 {ci : Nat} (hc : ev_isO ci) : ev_FP RX3 21 ci 3 (.object "PriceBench$Rows") true := by
  rcases hc with rfl | rfl | rfl | rfl
  · exact ⟨"PriceBench$Offer", RX4, TX4, 7, tyX4, rfl, by decide, tm2 (i := 103) (by decide +kernel) rfl, iev3, rfl, tyX4_ok, nmX4, rfl, (fun _ => rfl), by decide +kernel⟩
  · exact ⟨"PriceBench$Offer", RX7, TX7, 8, tyX7, rfl, by decide, tm2 (i := 103) (by decide +kernel) rfl, iev6, rfl, tyX7_ok, nmX7, rfl, (fun _ => rfl), by decide +kernel⟩
  · exact ⟨"PriceBench$Offer", RX8, TX8, 6, tyX8, rfl, by decide, tm2 (i := 103) (by decide +kernel) rfl, iev7, rfl, tyX8_ok, nmX8, rfl, (fun _ => rfl), by decide +kernel⟩
  · exact ⟨"PriceBench$Offer", RX9, TX9, 8, tyX9, rfl, by decide, tm2 (i := 103) (by decide +kernel) rfl, iev8, rfl, tyX9_ok, nmX9, rfl, (fun _ => rfl), by decide +kernel⟩
theorem fp_X3_25 {ci : Nat} (hc : ev_isO ci) : ev_FP RX3 25 ci 4 .int false := by
  rcases hc with rfl | rfl | rfl | rfl
  · exact ⟨"PriceBench$Offer", RX4, TX4, 7, tyX4, rfl, by decide, tm2 (i := 104) (by decide +kernel) rfl, iev3, rfl, tyX4_ok, nmX4, rfl, (fun h => by cases h), by decide +kernel⟩
  · exact ⟨"PriceBench$Offer", RX7, TX7, 8, tyX7, rfl, by decide, tm2 (i := 104) (by decide +kernel) rfl, iev6, rfl, tyX7_ok, nmX7, rfl, (fun h => by cases h), by decide +kernel⟩
  · exact ⟨"PriceBench$Offer", RX8, TX8, 6, tyX8, rfl, by decide, tm2 (i := 104) (by decide +kernel) rfl, iev7, rfl, tyX8_ok, nmX8, rfl, (fun h => by cases h), by decide +kernel⟩
  · exact ⟨"PriceBench$Offer", RX9, TX9, 8, tyX9, rfl, by decide, tm2 (i := 104) (by decide +kernel) rfl, iev8, rfl, tyX9_ok, nmX9, rfl, (fun h => by cases h), by decide +kernel⟩
theorem fp_X3_29 {ci : Nat} (hc : ev_isO ci) : ev_FP RX3 29 ci 5 .int false := by
  rcases hc with rfl | rfl | rfl | rfl
  · exact ⟨"PriceBench$Offer", RX4, TX4, 7, tyX4, rfl, by decide, tm2 (i := 105) (by decide +kernel) rfl, iev3, rfl, tyX4_ok, nmX4, rfl, (fun h => by cases h), by decide +kernel⟩
  · exact ⟨"PriceBench$Offer", RX7, TX7, 8, tyX7, rfl, by decide, tm2 (i := 105) (by decide +kernel) rfl, iev6, rfl, tyX7_ok, nmX7, rfl, (fun h => by cases h), by decide +kernel⟩
  · exact ⟨"PriceBench$Offer", RX8, TX8, 6, tyX8, rfl, by decide, tm2 (i := 105) (by decide +kernel) rfl, iev7, rfl, tyX8_ok, nmX8, rfl, (fun h => by cases h), by decide +kernel⟩
  · exact ⟨"PriceBench$Offer", RX9, TX9, 8, tyX9, rfl, by decide, tm2 (i := 105) (by decide +kernel) rfl, iev8, rfl, tyX9_ok, nmX9, rfl, (fun h => by cases h), by decide +kernel⟩
theorem fp_X3_32 {ci : Nat} (hc : ev_isO ci) : ev_FP RX3 32 ci 0 .int true := by
  rcases hc with rfl | rfl | rfl | rfl
  · exact ⟨"PriceBench$Offer", RX4, TX4, 7, tyX4, rfl, by decide, tm2 (i := 87) (by decide +kernel) rfl, iev3, rfl, tyX4_ok, nmX4, rfl, (fun _ => rfl), by decide +kernel⟩
  · exact ⟨"PriceBench$Offer", RX7, TX7, 8, tyX7, rfl, by decide, tm2 (i := 87) (by decide +kernel) rfl, iev6, rfl, tyX7_ok, nmX7, rfl, (fun _ => rfl), by decide +kernel⟩
  · exact ⟨"PriceBench$Offer", RX8, TX8, 6, tyX8, rfl, by decide, tm2 (i := 87) (by decide +kernel) rfl, iev7, rfl, tyX8_ok, nmX8, rfl, (fun _ => rfl), by decide +kernel⟩
  · exact ⟨"PriceBench$Offer", RX9, TX9, 8, tyX9, rfl, by decide, tm2 (i := 87) (by decide +kernel) rfl, iev8, rfl, tyX9_ok, nmX9, rfl, (fun _ => rfl), by decide +kernel⟩
theorem fp_X3_35 {ci : Nat} (hc : ev_isO ci) : ev_FP RX3 35 ci 1 .int true := by
  rcases hc with rfl | rfl | rfl | rfl
  · exact ⟨"PriceBench$Offer", RX4, TX4, 7, tyX4, rfl, by decide, tm2 (i := 89) (by decide +kernel) rfl, iev3, rfl, tyX4_ok, nmX4, rfl, (fun _ => rfl), by decide +kernel⟩
  · exact ⟨"PriceBench$Offer", RX7, TX7, 8, tyX7, rfl, by decide, tm2 (i := 89) (by decide +kernel) rfl, iev6, rfl, tyX7_ok, nmX7, rfl, (fun _ => rfl), by decide +kernel⟩
  · exact ⟨"PriceBench$Offer", RX8, TX8, 6, tyX8, rfl, by decide, tm2 (i := 89) (by decide +kernel) rfl, iev7, rfl, tyX8_ok, nmX8, rfl, (fun _ => rfl), by decide +kernel⟩
  · exact ⟨"PriceBench$Offer", RX9, TX9, 8, tyX9, rfl, by decide, tm2 (i := 89) (by decide +kernel) rfl, iev8, rfl, tyX9_ok, nmX9, rfl, (fun _ => rfl), by decide +kernel⟩
theorem fp_X4_9 : ev_FP RX4 9 3 6 .int true := ⟨"PriceBench$Pairing", RX4, TX4, 7, tyX4, rfl, by decide, tm3 (i := 37) (by decide +kernel) rfl, iev3, rfl, tyX4_ok, nmX4, rfl, (fun _ => rfl), by decide +kernel⟩
theorem fp_X5_9 : ev_FP RX5 9 4 0 (.array .int) false := ⟨"PriceBench$Rows", RX5, TX5, 2, tyX5, rfl, by decide, tm1 (i := 130) (by decide +kernel) rfl, iev4, rfl, tyX5_ok, nmX5, rfl, (fun h => by cases h), by decide +kernel⟩
theorem fp_X5_13 : ev_FP RX5 13 4 1 .int false := ⟨"PriceBench$Rows", RX5, TX5, 2, tyX5, rfl, by decide, tm1 (i := 131) (by decide +kernel) rfl, iev4, rfl, tyX5_ok, nmX5, rfl, (fun h => by cases h), by decide +kernel⟩
theorem fp_X6_9 : ev_FP RX6 9 5 0 .int false := ⟨"PriceBench$Sheet", RX6, TX6, 3, tyX6, rfl, by decide, tm1 (i := 160) (by decide +kernel) rfl, iev5, rfl, tyX6_ok, nmX6, rfl, (fun h => by cases h), by decide +kernel⟩
theorem fp_X6_15 : ev_FP RX6 15 5 2 (.array .long) true := ⟨"PriceBench$Sheet", RX6, TX6, 3, tyX6, rfl, by decide, tm1 (i := 163) (by decide +kernel) rfl, iev5, rfl, tyX6_ok, nmX6, rfl, (fun _ => rfl), by decide +kernel⟩
theorem fp_X6_19 : ev_FP RX6 19 5 1 .int false := ⟨"PriceBench$Sheet", RX6, TX6, 3, tyX6, rfl, by decide, tm1 (i := 162) (by decide +kernel) rfl, iev5, rfl, tyX6_ok, nmX6, rfl, (fun h => by cases h), by decide +kernel⟩
theorem fp_X7_9 : ev_FP RX7 9 6 6 (.array .int) true := ⟨"PriceBench$Told", RX7, TX7, 8, tyX7, rfl, by decide, tm2 (i := 85) (by decide +kernel) rfl, iev6, rfl, tyX7_ok, nmX7, rfl, (fun _ => rfl), by decide +kernel⟩
theorem fp_X7_15 : ev_FP RX7 15 6 7 .int false := ⟨"PriceBench$Told", RX7, TX7, 8, tyX7, rfl, by decide, tm2 (i := 86) (by decide +kernel) rfl, iev6, rfl, tyX7_ok, nmX7, rfl, (fun h => by cases h), by decide +kernel⟩
theorem fp_X9_9 : ev_FP RX9 9 8 6 .int true := ⟨"PriceBench$Way", RX9, TX9, 8, tyX9, rfl, by decide, tm3 (i := 13) (by decide +kernel) rfl, iev8, rfl, tyX9_ok, nmX9, rfl, (fun _ => rfl), by decide +kernel⟩
theorem fp_X9_15 : ev_FP RX9 15 8 7 .int true := ⟨"PriceBench$Way", RX9, TX9, 8, tyX9, rfl, by decide, tm3 (i := 14) (by decide +kernel) rfl, iev8, rfl, tyX9_ok, nmX9, rfl, (fun _ => rfl), by decide +kernel⟩
def ev_v0 : Nat → Value := fun k => match k with
  | 0 => .null
  | _ => .int 0
def ev_v1 : Nat → Value := fun k => match k with
  | 0 => .null
  | 1 => .null
  | 2 => .null
  | _ => .int 0
def ev_v2 : Nat → Value := fun k => match k with
  | 0 => .null
  | 1 => .null
  | 2 => .null
  | 3 => .null
  | 4 => .int 0
  | 5 => .int 0
  | 6 => .int 0
  | 7 => .int 0
  | 8 => .int 0
  | 9 => .int 0
  | _ => .int 0
def ev_v3 : Nat → Value := fun k => match k with
  | 0 => .int 0
  | 1 => .int 0
  | 2 => .null
  | 3 => .null
  | 4 => .int 0
  | 5 => .int 0
  | _ => .int 0
def ev_v4 : Nat → Value := fun k => match k with
  | 0 => .null
  | _ => .int 0
def ev_v5 : Nat → Value := fun k => match k with
  | 0 => .int 0
  | 1 => .int 0
  | _ => .null
def ev_v6 : Nat → Value := fun k => match k with
  | 0 => .int 0
  | 1 => .int 0
  | 2 => .null
  | 3 => .null
  | 4 => .int 0
  | 5 => .int 0
  | 6 => .null
  | _ => .int 0
def ev_v7 : Nat → Value := fun k => match k with
  | 0 => .int 0
  | 1 => .int 0
  | 2 => .null
  | 3 => .null
  | 4 => .int 0
  | _ => .int 0
def ev_v8 : Nat → Value := fun k => match k with
  | 0 => .int 0
  | 1 => .int 0
  | 2 => .null
  | 3 => .null
  | 4 => .int 0
  | 5 => .int 0
  | 6 => .int 0
  | _ => .int 0
def ev_v9 : Nat → Value := fun k => match k with
  | 0 => .int 0
  | 1 => .int 0
  | 2 => .int 0
  | 3 => .int 0
  | _ => .int 0
def ev_v10 : Nat → Value := fun k => match k with
  | 0 => .null
  | 1 => .null
  | 2 => .int 0
  | 3 => .null
  | 4 => .null
  | 5 => .null
  | 6 => .null
  | _ => .null
def ev_v11 : Nat → Value := fun k => match k with
  | 0 => .null
  | 1 => .null
  | 2 => .int 0
  | 3 => .int 0
  | 4 => .null
  | 5 => .null
  | 6 => .null
  | 7 => .null
  | 8 => .null
  | 9 => .int 0
  | 10 => .int 0
  | 11 => .int 0
  | 12 => .int 0
  | 13 => .int 0
  | 14 => .null
  | 15 => .null
  | 16 => .int 0
  | 17 => .null
  | 18 => .null
  | 19 => .null
  | 20 => .int 0
  | 21 => .null
  | 22 => .null
  | 23 => .null
  | 24 => .int 0
  | 25 => .null
  | 26 => .null
  | 27 => .null
  | 28 => .long 0
  | 29 => .long 0
  | 30 => .long 0
  | 31 => .long 0
  | 32 => .long 0
  | 33 => .long 0
  | 34 => .int 0
  | _ => .null
theorem nw_L_7 : ev_NW RL 7 10 8 ev_v10 := ⟨RX11, TX11, tyX11, rfl, iev10, tyX11_ok, tm1 (i := 18) (by decide +kernel) rfl, tm1 (i := 19) (by decide +kernel) rfl, tm1 (i := 1) (by decide +kernel) rfl, by decide +kernel⟩
theorem nw_L_10 : ev_NW RL 10 11 36 ev_v11 := ⟨RX12, TX12, tyX12, rfl, iev11, tyX12_ok, tm4 (i := 177) (by decide +kernel) rfl, tm4 (i := 178) (by decide +kernel) rfl, tm1 (i := 7) (by decide +kernel) rfl, by decide +kernel⟩
theorem nw_X11_7 : ev_NW RX11 7 2 11 ev_v2 := ⟨RX2, TX2, tyX2, rfl, iev2, tyX2_ok, tm1 (i := 26) (by decide +kernel) rfl, tm1 (i := 27) (by decide +kernel) rfl, tm1 (i := 2) (by decide +kernel) rfl, by decide +kernel⟩
theorem nw_X11_22 : ev_NW RX11 22 9 5 ev_v9 := ⟨RX10, TX10, tyX10, rfl, iev9, tyX10_ok, tm1 (i := 89) (by decide +kernel) rfl, tm1 (i := 90) (by decide +kernel) rfl, tm1 (i := 3) (by decide +kernel) rfl, by decide +kernel⟩
theorem nw_X11_29 : ev_NW RX11 29 4 2 ev_v4 := ⟨RX5, TX5, tyX5, rfl, iev4, tyX5_ok, tm1 (i := 124) (by decide +kernel) rfl, tm1 (i := 125) (by decide +kernel) rfl, tm1 (i := 4) (by decide +kernel) rfl, by decide +kernel⟩
theorem nw_X11_36 : ev_NW RX11 36 0 2 ev_v0 := ⟨RX0, TX0, tyX0, rfl, iev0, tyX0_ok, tm1 (i := 138) (by decide +kernel) rfl, tm1 (i := 139) (by decide +kernel) rfl, tm1 (i := 5) (by decide +kernel) rfl, by decide +kernel⟩
theorem nw_X11_43 : ev_NW RX11 43 5 3 ev_v5 := ⟨RX6, TX6, tyX6, rfl, iev5, tyX6_ok, tm1 (i := 153) (by decide +kernel) rfl, tm1 (i := 155) (by decide +kernel) rfl, tm1 (i := 6) (by decide +kernel) rfl, by decide +kernel⟩
theorem nw_X11_103 : ev_NW RX11 103 6 8 ev_v6 := ⟨RX7, TX7, tyX7, rfl, iev6, tyX7_ok, tm2 (i := 46) (by decide +kernel) rfl, tm2 (i := 47) (by decide +kernel) rfl, tm1 (i := 9) (by decide +kernel) rfl, by decide +kernel⟩
theorem nw_X11_120 : ev_NW RX11 120 7 6 ev_v7 := ⟨RX8, TX8, tyX8, rfl, iev7, tyX8_ok, tm2 (i := 230) (by decide +kernel) rfl, tm2 (i := 231) (by decide +kernel) rfl, tm1 (i := 15) (by decide +kernel) rfl, by decide +kernel⟩
theorem nw_X11_123 : ev_NW RX11 123 8 8 ev_v8 := ⟨RX9, TX9, tyX9, rfl, iev8, tyX9_ok, tm3 (i := 7) (by decide +kernel) rfl, tm3 (i := 8) (by decide +kernel) rfl, tm1 (i := 16) (by decide +kernel) rfl, by decide +kernel⟩
theorem nw_X11_130 : ev_NW RX11 130 3 7 ev_v3 := ⟨RX4, TX4, tyX4, rfl, iev3, tyX4_ok, tm3 (i := 31) (by decide +kernel) rfl, tm3 (i := 32) (by decide +kernel) rfl, tm1 (i := 11) (by decide +kernel) rfl, by decide +kernel⟩
theorem nw_X3_9 : ev_NW RX3 9 1 4 ev_v1 := ⟨RX1, TX1, tyX1, rfl, iev1, tyX1_ok, tm2 (i := 55) (by decide +kernel) rfl, tm2 (i := 56) (by decide +kernel) rfl, tm1 (i := 10) (by decide +kernel) rfl, by decide +kernel⟩
theorem nw_X3_18 : ev_NW RX3 18 4 2 ev_v4 := ⟨RX5, TX5, tyX5, rfl, iev4, tyX5_ok, tm2 (i := 83) (by decide +kernel) rfl, tm1 (i := 125) (by decide +kernel) rfl, tm1 (i := 4) (by decide +kernel) rfl, by decide +kernel⟩
theorem cl_L_7 : Cond.classLink RL 7 "PriceBench" ∈ ev_tb := tm1 (i := 18) (by decide +kernel) rfl
theorem cl_X11_7 : Cond.classLink RX11 7 "PriceBench$Net" ∈ ev_tb := tm1 (i := 26) (by decide +kernel) rfl
theorem cl_X11_16 : Cond.classLink RX11 16 "PriceBench$Offer" ∈ ev_tb := tm1 (i := 87) (by decide +kernel) rfl
theorem cl_X11_22 : Cond.classLink RX11 22 "PriceBench$Window" ∈ ev_tb := tm1 (i := 89) (by decide +kernel) rfl
theorem cl_X11_29 : Cond.classLink RX11 29 "PriceBench$Rows" ∈ ev_tb := tm1 (i := 124) (by decide +kernel) rfl
theorem cl_X11_36 : Cond.classLink RX11 36 "PriceBench$Acts" ∈ ev_tb := tm1 (i := 138) (by decide +kernel) rfl
theorem cl_X11_43 : Cond.classLink RX11 43 "PriceBench$Sheet" ∈ ev_tb := tm1 (i := 153) (by decide +kernel) rfl
theorem cl_X11_103 : Cond.classLink RX11 103 "PriceBench$Told" ∈ ev_tb := tm2 (i := 46) (by decide +kernel) rfl
theorem cl_X3_9 : Cond.classLink RX3 9 "PriceBench$Choices" ∈ ev_tb := tm2 (i := 55) (by decide +kernel) rfl
theorem cl_X3_18 : Cond.classLink RX3 18 "PriceBench$Rows" ∈ ev_tb := tm2 (i := 83) (by decide +kernel) rfl
theorem cl_J7_317 : Cond.classLink RJ7 317 "[I" ∈ ev_tb := tm2 (i := 177) (by decide +kernel) rfl
theorem cl_X11_120 : Cond.classLink RX11 120 "PriceBench$Tree" ∈ ev_tb := tm2 (i := 230) (by decide +kernel) rfl
theorem cl_X11_123 : Cond.classLink RX11 123 "PriceBench$Way" ∈ ev_tb := tm3 (i := 7) (by decide +kernel) rfl
theorem cl_X11_130 : Cond.classLink RX11 130 "PriceBench$Pairing" ∈ ev_tb := tm3 (i := 31) (by decide +kernel) rfl
theorem cl_L_10 : Cond.classLink RL 10 "PriceBenchModel" ∈ ev_tb := tm4 (i := 177) (by decide +kernel) rfl
theorem al_J7_150 : Cond.methodLink RJ7 150 arraycopyName ∈ ev_tb := tm2 (i := 181) (by decide +kernel) rfl
theorem jl_J7_304 : Cond.methodLink RJ7 304 yJ9_min_7cf53 ∈ ev_tb := tm2 (i := 178) (by decide +kernel) rfl
theorem ci_L_9 : ev_CI RL 9 M_X11_init 0 := ⟨ok_X11_init, tm1 (i := 20) (by decide +kernel) rfl, tm1 (i := 21) (by decide +kernel) rfl, rfl, rfl⟩
theorem ci_L_12 : ev_CI RL 12 M_X12_init 0 := ⟨ok_X12_init, tm4 (i := 179) (by decide +kernel) rfl, tm4 (i := 180) (by decide +kernel) rfl, rfl, rfl⟩
theorem cv_L_13 : ev_CV RL 13 10 M_X11_thing 0 := ⟨ok_X11_thing, ⟨_, _, rfl⟩, tm1 (i := 198) (by decide +kernel) rfl, tm1 (i := 199) (by decide +kernel) rfl, tm1 (i := 200) (by decide +kernel) rfl⟩
theorem cv_L_17 : ev_CV RL 17 11 M_X12_thing 0 := ⟨ok_X12_thing, ⟨_, _, rfl⟩, tm5 (i := 52) (by decide +kernel) rfl, tm5 (i := 53) (by decide +kernel) rfl, tm5 (i := 54) (by decide +kernel) rfl⟩
theorem cv_L_18 : ev_CV RL 18 10 M_X11_line 4 := ⟨ok_X11_line, ⟨_, _, rfl⟩, tm1 (i := 210) (by decide +kernel) rfl, tm1 (i := 211) (by decide +kernel) rfl, tm1 (i := 212) (by decide +kernel) rfl⟩
theorem cv_L_22 : ev_CV RL 22 11 M_X12_line 4 := ⟨ok_X12_line, ⟨_, _, rfl⟩, tm5 (i := 64) (by decide +kernel) rfl, tm5 (i := 65) (by decide +kernel) rfl, tm5 (i := 66) (by decide +kernel) rfl⟩
theorem cv_L_23 : ev_CV RL 23 10 M_X11_alter 3 := ⟨ok_X11_alter, ⟨_, _, rfl⟩, tm1 (i := 225) (by decide +kernel) rfl, tm1 (i := 226) (by decide +kernel) rfl, tm1 (i := 227) (by decide +kernel) rfl⟩
theorem cv_L_27 : ev_CV RL 27 11 M_X12_alter 3 := ⟨ok_X12_alter, ⟨_, _, rfl⟩, tm5 (i := 82) (by decide +kernel) rfl, tm5 (i := 83) (by decide +kernel) rfl, tm5 (i := 84) (by decide +kernel) rfl⟩
theorem cv_L_28 : ev_CV RL 28 10 M_X11_close 0 := ⟨ok_X11_close, ⟨_, _, rfl⟩, tm1 (i := 238) (by decide +kernel) rfl, tm1 (i := 239) (by decide +kernel) rfl, tm2 (i := 0) (by decide +kernel) rfl⟩
theorem cv_L_31 : ev_CV RL 31 11 M_X12_close 0 := ⟨ok_X12_close, ⟨_, _, rfl⟩, tm5 (i := 86) (by decide +kernel) rfl, tm5 (i := 87) (by decide +kernel) rfl, tm5 (i := 88) (by decide +kernel) rfl⟩
theorem cv_L_32 : ev_CV RL 32 10 M_X11_undo 0 := ⟨ok_X11_undo, ⟨_, _, rfl⟩, tm2 (i := 6) (by decide +kernel) rfl, tm2 (i := 7) (by decide +kernel) rfl, tm2 (i := 8) (by decide +kernel) rfl⟩
theorem cv_L_35 : ev_CV RL 35 11 M_X12_undo 0 := ⟨ok_X12_undo, ⟨_, _, rfl⟩, tm5 (i := 90) (by decide +kernel) rfl, tm5 (i := 91) (by decide +kernel) rfl, tm5 (i := 92) (by decide +kernel) rfl⟩
theorem cv_L_36 : ev_CV RL 36 10 M_X11_lineTold 2 := ⟨ok_X11_lineTold, ⟨_, _, rfl⟩, tm2 (i := 34) (by decide +kernel) rfl, tm2 (i := 35) (by decide +kernel) rfl, tm2 (i := 36) (by decide +kernel) rfl⟩
theorem cv_L_40 : ev_CV RL 40 11 M_X12_lineTold 2 := ⟨ok_X12_lineTold, ⟨_, _, rfl⟩, tm5 (i := 94) (by decide +kernel) rfl, tm5 (i := 95) (by decide +kernel) rfl, tm5 (i := 96) (by decide +kernel) rfl⟩
theorem cv_L_41 : ev_CV RL 41 10 M_X11_told 0 := ⟨ok_X11_told, ⟨_, _, rfl⟩, tm2 (i := 42) (by decide +kernel) rfl, tm2 (i := 43) (by decide +kernel) rfl, tm2 (i := 44) (by decide +kernel) rfl⟩
theorem cv_L_44 : ev_CV RL 44 11 M_X12_told 0 := ⟨ok_X12_told, ⟨_, _, rfl⟩, tm5 (i := 98) (by decide +kernel) rfl, tm5 (i := 99) (by decide +kernel) rfl, tm5 (i := 100) (by decide +kernel) rfl⟩
theorem cv_L_45 : ev_CV RL 45 10 M_X11_tell 2 := ⟨ok_X11_tell, ⟨_, _, rfl⟩, tm2 (i := 127) (by decide +kernel) rfl, tm2 (i := 128) (by decide +kernel) rfl, tm2 (i := 129) (by decide +kernel) rfl⟩
theorem cv_L_48 : ev_CV RL 48 11 M_X12_tell 2 := ⟨ok_X12_tell, ⟨_, _, rfl⟩, tm5 (i := 106) (by decide +kernel) rfl, tm5 (i := 107) (by decide +kernel) rfl, tm5 (i := 108) (by decide +kernel) rfl⟩
theorem cv_L_49 : ev_CV RL 49 10 M_X11_tree 0 := ⟨ok_X11_tree, ⟨_, _, rfl⟩, tm2 (i := 226) (by decide +kernel) rfl, tm2 (i := 227) (by decide +kernel) rfl, tm2 (i := 228) (by decide +kernel) rfl⟩
theorem cv_L_52 : ev_CV RL 52 11 M_X12_tree 0 := ⟨ok_X12_tree, ⟨_, _, rfl⟩, tm5 (i := 114) (by decide +kernel) rfl, tm5 (i := 115) (by decide +kernel) rfl, tm5 (i := 116) (by decide +kernel) rfl⟩
theorem cv_L_53 : ev_CV RL 53 10 M_X11_way 2 := ⟨ok_X11_way, ⟨_, _, rfl⟩, tm3 (i := 3) (by decide +kernel) rfl, tm3 (i := 4) (by decide +kernel) rfl, tm3 (i := 5) (by decide +kernel) rfl⟩
theorem cv_L_56 : ev_CV RL 56 11 M_X12_way 2 := ⟨ok_X12_way, ⟨_, _, rfl⟩, tm5 (i := 118) (by decide +kernel) rfl, tm5 (i := 119) (by decide +kernel) rfl, tm5 (i := 120) (by decide +kernel) rfl⟩
theorem cv_L_57 : ev_CV RL 57 10 M_X11_pairing 1 := ⟨ok_X11_pairing, ⟨_, _, rfl⟩, tm3 (i := 26) (by decide +kernel) rfl, tm3 (i := 27) (by decide +kernel) rfl, tm3 (i := 28) (by decide +kernel) rfl⟩
theorem cv_L_61 : ev_CV RL 61 11 M_X12_pairing 1 := ⟨ok_X12_pairing, ⟨_, _, rfl⟩, tm5 (i := 122) (by decide +kernel) rfl, tm5 (i := 123) (by decide +kernel) rfl, tm5 (i := 124) (by decide +kernel) rfl⟩
theorem cv_L_62 : ev_CV RL 62 10 M_X11_offerTold 2 := ⟨ok_X11_offerTold, ⟨_, _, rfl⟩, tm3 (i := 47) (by decide +kernel) rfl, tm3 (i := 48) (by decide +kernel) rfl, tm3 (i := 49) (by decide +kernel) rfl⟩
theorem cv_L_65 : ev_CV RL 65 11 M_X12_offerTold 2 := ⟨ok_X12_offerTold, ⟨_, _, rfl⟩, tm5 (i := 126) (by decide +kernel) rfl, tm5 (i := 127) (by decide +kernel) rfl, tm5 (i := 128) (by decide +kernel) rfl⟩
theorem cv_L_66 : ev_CV RL 66 10 M_X11_choice 2 := ⟨ok_X11_choice, ⟨_, _, rfl⟩, tm3 (i := 114) (by decide +kernel) rfl, tm3 (i := 115) (by decide +kernel) rfl, tm3 (i := 116) (by decide +kernel) rfl⟩
theorem cv_L_69 : ev_CV RL 69 11 M_X12_choice 2 := ⟨ok_X12_choice, ⟨_, _, rfl⟩, tm5 (i := 196) (by decide +kernel) rfl, tm5 (i := 197) (by decide +kernel) rfl, tm5 (i := 198) (by decide +kernel) rfl⟩
theorem cv_L_70 : ev_CV RL 70 10 M_X11_cost 4 := ⟨ok_X11_cost, ⟨_, _, rfl⟩, tm3 (i := 130) (by decide +kernel) rfl, tm3 (i := 131) (by decide +kernel) rfl, tm3 (i := 132) (by decide +kernel) rfl⟩
theorem cv_L_74 : ev_CV RL 74 11 M_X12_cost 4 := ⟨ok_X12_cost, ⟨_, _, rfl⟩, tm5 (i := 200) (by decide +kernel) rfl, tm5 (i := 201) (by decide +kernel) rfl, tm5 (i := 202) (by decide +kernel) rfl⟩
theorem cv_L_75 : ev_CV RL 75 10 M_X11_best 4 := ⟨ok_X11_best, ⟨_, _, rfl⟩, tm3 (i := 148) (by decide +kernel) rfl, tm3 (i := 149) (by decide +kernel) rfl, tm3 (i := 150) (by decide +kernel) rfl⟩
theorem cv_L_78 : ev_CV RL 78 11 M_X12_best 4 := ⟨ok_X12_best, ⟨_, _, rfl⟩, tm5 (i := 214) (by decide +kernel) rfl, tm5 (i := 215) (by decide +kernel) rfl, tm5 (i := 216) (by decide +kernel) rfl⟩
theorem cv_L_79 : ev_CV RL 79 10 M_X11_least 4 := ⟨ok_X11_least, ⟨_, _, rfl⟩, tm3 (i := 164) (by decide +kernel) rfl, tm3 (i := 165) (by decide +kernel) rfl, tm3 (i := 166) (by decide +kernel) rfl⟩
theorem cv_L_82 : ev_CV RL 82 11 M_X12_least 4 := ⟨ok_X12_least, ⟨_, _, rfl⟩, tm5 (i := 230) (by decide +kernel) rfl, tm5 (i := 231) (by decide +kernel) rfl, tm5 (i := 232) (by decide +kernel) rfl⟩
theorem cv_L_83 : ev_CV RL 83 10 M_X11_window 4 := ⟨ok_X11_window, ⟨_, _, rfl⟩, tm3 (i := 177) (by decide +kernel) rfl, tm3 (i := 178) (by decide +kernel) rfl, tm3 (i := 179) (by decide +kernel) rfl⟩
theorem cv_L_86 : ev_CV RL 86 11 M_X12_window 4 := ⟨ok_X12_window, ⟨_, _, rfl⟩, tm5 (i := 234) (by decide +kernel) rfl, tm5 (i := 235) (by decide +kernel) rfl, tm5 (i := 236) (by decide +kernel) rfl⟩
theorem cv_L_87 : ev_CV RL 87 10 M_X11_bends 1 := ⟨ok_X11_bends, ⟨_, _, rfl⟩, tm4 (i := 60) (by decide +kernel) rfl, tm4 (i := 61) (by decide +kernel) rfl, tm4 (i := 62) (by decide +kernel) rfl⟩
theorem cv_L_90 : ev_CV RL 90 11 M_X12_bends 1 := ⟨ok_X12_bends, ⟨_, _, rfl⟩, tm5 (i := 238) (by decide +kernel) rfl, tm5 (i := 239) (by decide +kernel) rfl, tm6 (i := 0) (by decide +kernel) rfl⟩
theorem cv_L_91 : ev_CV RL 91 10 M_X11_bend 3 := ⟨ok_X11_bend, ⟨_, _, rfl⟩, tm4 (i := 64) (by decide +kernel) rfl, tm4 (i := 65) (by decide +kernel) rfl, tm4 (i := 66) (by decide +kernel) rfl⟩
theorem cv_L_95 : ev_CV RL 95 11 M_X12_bend 3 := ⟨ok_X12_bend, ⟨_, _, rfl⟩, tm6 (i := 14) (by decide +kernel) rfl, tm6 (i := 15) (by decide +kernel) rfl, tm6 (i := 16) (by decide +kernel) rfl⟩
theorem cv_L_96 : ev_CV RL 96 10 M_X11_span 3 := ⟨ok_X11_span, ⟨_, _, rfl⟩, tm3 (i := 188) (by decide +kernel) rfl, tm3 (i := 189) (by decide +kernel) rfl, tm3 (i := 190) (by decide +kernel) rfl⟩
theorem cv_L_99 : ev_CV RL 99 11 M_X12_span 3 := ⟨ok_X12_span, ⟨_, _, rfl⟩, tm6 (i := 22) (by decide +kernel) rfl, tm6 (i := 23) (by decide +kernel) rfl, tm6 (i := 24) (by decide +kernel) rfl⟩
theorem cv_L_100 : ev_CV RL 100 10 M_X11_top 2 := ⟨ok_X11_top, ⟨_, _, rfl⟩, tm3 (i := 205) (by decide +kernel) rfl, tm3 (i := 206) (by decide +kernel) rfl, tm3 (i := 207) (by decide +kernel) rfl⟩
theorem cv_L_104 : ev_CV RL 104 11 M_X12_top 2 := ⟨ok_X12_top, ⟨_, _, rfl⟩, tm6 (i := 34) (by decide +kernel) rfl, tm6 (i := 35) (by decide +kernel) rfl, tm6 (i := 36) (by decide +kernel) rfl⟩
theorem cv_L_105 : ev_CV RL 105 10 M_X11_ratio 2 := ⟨ok_X11_ratio, ⟨_, _, rfl⟩, tm4 (i := 17) (by decide +kernel) rfl, tm4 (i := 18) (by decide +kernel) rfl, tm4 (i := 19) (by decide +kernel) rfl⟩
theorem cv_L_108 : ev_CV RL 108 11 M_X12_ratio 2 := ⟨ok_X12_ratio, ⟨_, _, rfl⟩, tm6 (i := 38) (by decide +kernel) rfl, tm6 (i := 39) (by decide +kernel) rfl, tm6 (i := 40) (by decide +kernel) rfl⟩
theorem cv_L_109 : ev_CV RL 109 10 M_X11_regret 3 := ⟨ok_X11_regret, ⟨_, _, rfl⟩, tm4 (i := 25) (by decide +kernel) rfl, tm4 (i := 26) (by decide +kernel) rfl, tm4 (i := 27) (by decide +kernel) rfl⟩
theorem cv_L_112 : ev_CV RL 112 11 M_X12_regret 3 := ⟨ok_X12_regret, ⟨_, _, rfl⟩, tm6 (i := 42) (by decide +kernel) rfl, tm6 (i := 43) (by decide +kernel) rfl, tm6 (i := 44) (by decide +kernel) rfl⟩
theorem cv_L_113 : ev_CV RL 113 10 M_X11_calm 1 := ⟨ok_X11_calm, ⟨_, _, rfl⟩, tm4 (i := 34) (by decide +kernel) rfl, tm4 (i := 35) (by decide +kernel) rfl, tm4 (i := 36) (by decide +kernel) rfl⟩
theorem cv_L_116 : ev_CV RL 116 11 M_X12_calm 1 := ⟨ok_X12_calm, ⟨_, _, rfl⟩, tm6 (i := 50) (by decide +kernel) rfl, tm6 (i := 51) (by decide +kernel) rfl, tm6 (i := 52) (by decide +kernel) rfl⟩
theorem cv_L_117 : ev_CV RL 117 10 M_X11_why 4 := ⟨ok_X11_why, ⟨_, _, rfl⟩, tm4 (i := 42) (by decide +kernel) rfl, tm4 (i := 43) (by decide +kernel) rfl, tm4 (i := 44) (by decide +kernel) rfl⟩
theorem cv_L_120 : ev_CV RL 120 11 M_X12_why 4 := ⟨ok_X12_why, ⟨_, _, rfl⟩, tm6 (i := 54) (by decide +kernel) rfl, tm6 (i := 55) (by decide +kernel) rfl, tm6 (i := 56) (by decide +kernel) rfl⟩
theorem cv_L_121 : ev_CV RL 121 10 M_X11_write 1 := ⟨ok_X11_write, ⟨_, _, rfl⟩, tm4 (i := 72) (by decide +kernel) rfl, tm4 (i := 73) (by decide +kernel) rfl, tm4 (i := 74) (by decide +kernel) rfl⟩
theorem cv_L_124 : ev_CV RL 124 11 M_X12_write 1 := ⟨ok_X12_write, ⟨_, _, rfl⟩, tm6 (i := 66) (by decide +kernel) rfl, tm6 (i := 67) (by decide +kernel) rfl, tm6 (i := 68) (by decide +kernel) rfl⟩
theorem cv_L_125 : ev_CV RL 125 10 M_X11_row 2 := ⟨ok_X11_row, ⟨_, _, rfl⟩, tm4 (i := 81) (by decide +kernel) rfl, tm4 (i := 82) (by decide +kernel) rfl, tm4 (i := 83) (by decide +kernel) rfl⟩
theorem cv_L_128 : ev_CV RL 128 11 M_X12_row 2 := ⟨ok_X12_row, ⟨_, _, rfl⟩, tm6 (i := 70) (by decide +kernel) rfl, tm6 (i := 71) (by decide +kernel) rfl, tm6 (i := 72) (by decide +kernel) rfl⟩
theorem cv_L_129 : ev_CV RL 129 10 M_X11_forge 3 := ⟨ok_X11_forge, ⟨_, _, rfl⟩, tm4 (i := 85) (by decide +kernel) rfl, tm4 (i := 86) (by decide +kernel) rfl, tm4 (i := 87) (by decide +kernel) rfl⟩
theorem cv_L_132 : ev_CV RL 132 11 M_X12_forge 3 := ⟨ok_X12_forge, ⟨_, _, rfl⟩, tm6 (i := 74) (by decide +kernel) rfl, tm6 (i := 75) (by decide +kernel) rfl, tm6 (i := 76) (by decide +kernel) rfl⟩
theorem cv_L_133 : ev_CV RL 133 10 M_X11_check 1 := ⟨ok_X11_check, ⟨_, _, rfl⟩, tm4 (i := 95) (by decide +kernel) rfl, tm4 (i := 96) (by decide +kernel) rfl, tm4 (i := 97) (by decide +kernel) rfl⟩
theorem cv_L_136 : ev_CV RL 136 11 M_X12_check 1 := ⟨ok_X12_check, ⟨_, _, rfl⟩, tm6 (i := 80) (by decide +kernel) rfl, tm6 (i := 81) (by decide +kernel) rfl, tm6 (i := 82) (by decide +kernel) rfl⟩
theorem cv_L_137 : ev_CV RL 137 10 M_X11_act 3 := ⟨ok_X11_act, ⟨_, _, rfl⟩, tm4 (i := 112) (by decide +kernel) rfl, tm4 (i := 113) (by decide +kernel) rfl, tm4 (i := 114) (by decide +kernel) rfl⟩
theorem cv_L_140 : ev_CV RL 140 11 M_X12_act 3 := ⟨ok_X12_act, ⟨_, _, rfl⟩, tm6 (i := 91) (by decide +kernel) rfl, tm6 (i := 92) (by decide +kernel) rfl, tm6 (i := 93) (by decide +kernel) rfl⟩
theorem cv_L_141 : ev_CV RL 141 10 M_X11_trace 1 := ⟨ok_X11_trace, ⟨_, _, rfl⟩, tm4 (i := 136) (by decide +kernel) rfl, tm4 (i := 137) (by decide +kernel) rfl, tm4 (i := 138) (by decide +kernel) rfl⟩
theorem cv_L_144 : ev_CV RL 144 11 M_X12_trace 1 := ⟨ok_X12_trace, ⟨_, _, rfl⟩, tm6 (i := 123) (by decide +kernel) rfl, tm6 (i := 124) (by decide +kernel) rfl, tm6 (i := 125) (by decide +kernel) rfl⟩
theorem cv_L_145 : ev_CV RL 145 10 M_X11_count 1 := ⟨ok_X11_count, ⟨_, _, rfl⟩, tm4 (i := 140) (by decide +kernel) rfl, tm4 (i := 141) (by decide +kernel) rfl, tm4 (i := 142) (by decide +kernel) rfl⟩
theorem cv_L_148 : ev_CV RL 148 11 M_X12_count 1 := ⟨ok_X12_count, ⟨_, _, rfl⟩, tm6 (i := 127) (by decide +kernel) rfl, tm6 (i := 128) (by decide +kernel) rfl, tm6 (i := 129) (by decide +kernel) rfl⟩
theorem cv_L_149 : ev_CV RL 149 10 M_X11_sheet 3 := ⟨ok_X11_sheet, ⟨_, _, rfl⟩, tm4 (i := 144) (by decide +kernel) rfl, tm4 (i := 145) (by decide +kernel) rfl, tm4 (i := 146) (by decide +kernel) rfl⟩
theorem cv_L_152 : ev_CV RL 152 11 M_X12_sheet 3 := ⟨ok_X12_sheet, ⟨_, _, rfl⟩, tm6 (i := 131) (by decide +kernel) rfl, tm6 (i := 132) (by decide +kernel) rfl, tm6 (i := 133) (by decide +kernel) rfl⟩
theorem cv_L_153 : ev_CV RL 153 10 M_X11_cell 3 := ⟨ok_X11_cell, ⟨_, _, rfl⟩, tm4 (i := 159) (by decide +kernel) rfl, tm4 (i := 160) (by decide +kernel) rfl, tm4 (i := 161) (by decide +kernel) rfl⟩
theorem cv_L_156 : ev_CV RL 156 11 M_X12_cell 3 := ⟨ok_X12_cell, ⟨_, _, rfl⟩, tm6 (i := 138) (by decide +kernel) rfl, tm6 (i := 139) (by decide +kernel) rfl, tm6 (i := 140) (by decide +kernel) rfl⟩
theorem cv_L_157 : ev_CV RL 157 10 M_X11_lay 3 := ⟨ok_X11_lay, ⟨_, _, rfl⟩, tm4 (i := 167) (by decide +kernel) rfl, tm4 (i := 168) (by decide +kernel) rfl, tm4 (i := 169) (by decide +kernel) rfl⟩
theorem cv_L_160 : ev_CV RL 160 11 M_X12_lay 3 := ⟨ok_X12_lay, ⟨_, _, rfl⟩, tm6 (i := 142) (by decide +kernel) rfl, tm6 (i := 143) (by decide +kernel) rfl, tm6 (i := 144) (by decide +kernel) rfl⟩
theorem cv_L_161 : ev_CV RL 161 10 M_X11_copy 5 := ⟨ok_X11_copy, ⟨_, _, rfl⟩, tm4 (i := 172) (by decide +kernel) rfl, tm4 (i := 173) (by decide +kernel) rfl, tm4 (i := 174) (by decide +kernel) rfl⟩
theorem cv_L_165 : ev_CV RL 165 11 M_X12_copy 5 := ⟨ok_X12_copy, ⟨_, _, rfl⟩, tm6 (i := 147) (by decide +kernel) rfl, tm6 (i := 148) (by decide +kernel) rfl, tm6 (i := 149) (by decide +kernel) rfl⟩
theorem cv_L_166 : ev_CV RL 166 10 M_X11_taken 2 := ⟨ok_X11_taken, ⟨_, _, rfl⟩, tm3 (i := 118) (by decide +kernel) rfl, tm3 (i := 119) (by decide +kernel) rfl, tm3 (i := 120) (by decide +kernel) rfl⟩
theorem cv_L_169 : ev_CV RL 169 11 M_X12_taken 2 := ⟨ok_X12_taken, ⟨_, _, rfl⟩, tm6 (i := 151) (by decide +kernel) rfl, tm6 (i := 152) (by decide +kernel) rfl, tm6 (i := 153) (by decide +kernel) rfl⟩
theorem ol_X0_3 : Cond.methodLink RX0 3 Lib.objectInit ∈ ev_tb := tm1 (i := 143) (by decide +kernel) rfl
theorem cs_X0_18 : ev_CS RX0 18 M_X0_kindAbove 1 := ⟨ok_X0_kindAbove, tm3 (i := 127) (by decide +kernel) rfl, tm3 (i := 128) (by decide +kernel) rfl⟩
theorem cs_X0_31 : ev_CS RX0 31 M_X0_play 6 := ⟨ok_X0_play, tm4 (i := 124) (by decide +kernel) rfl, tm4 (i := 125) (by decide +kernel) rfl⟩
theorem cs_X0_35 : ev_CS RX0 35 M_X0_kindWithBody 2 := ⟨ok_X0_kindWithBody, tm4 (i := 127) (by decide +kernel) rfl, tm4 (i := 128) (by decide +kernel) rfl⟩
theorem cv_X0_42 : ev_CV RX0 42 0 M_X0_note 1 := ⟨ok_X0_note, ⟨_, _, rfl⟩, tm4 (i := 132) (by decide +kernel) rfl, tm4 (i := 134) (by decide +kernel) rfl, tms (i := 13) (by decide +kernel) rfl⟩
theorem ol_X1_3 : Cond.methodLink RX1 3 Lib.objectInit ∈ ev_tb := tm2 (i := 60) (by decide +kernel) rfl
theorem cv_X1_25 : ev_CV RX1 25 1 M_X1_widen 0 := ⟨ok_X1_widen, ⟨_, _, rfl⟩, tm2 (i := 164) (by decide +kernel) rfl, tm2 (i := 166) (by decide +kernel) rfl, tms (i := 4) (by decide +kernel) rfl⟩
theorem cs_X1_28 : ev_CS RX1 28 M_X1_comesAhead 2 := ⟨ok_X1_comesAhead, tm2 (i := 184) (by decide +kernel) rfl, tm2 (i := 185) (by decide +kernel) rfl⟩
theorem cv_X1_37 : ev_CV RX1 37 2 M_X2_sumOver 2 := ⟨ok_X2_sumOver, ⟨_, _, rfl⟩, tm2 (i := 187) (by decide +kernel) rfl, tm2 (i := 188) (by decide +kernel) rfl, tm2 (i := 189) (by decide +kernel) rfl⟩
theorem cs_X1_44 : ev_CS RX1 44 M_J7_copyOf_59c91 2 := ⟨ok_J7_copyOf_59c91, tm2 (i := 168) (by decide +kernel) rfl, tm2 (i := 169) (by decide +kernel) rfl⟩
theorem cv_X1_50 : ev_CV RX1 50 1 M_X1_costAt 3 := ⟨ok_X1_costAt, ⟨_, _, rfl⟩, tm3 (i := 156) (by decide +kernel) rfl, tm3 (i := 157) (by decide +kernel) rfl, tm3 (i := 158) (by decide +kernel) rfl⟩
theorem cv_X1_54 : ev_CV RX1 54 1 M_X1_leadsAmongLike 3 := ⟨ok_X1_leadsAmongLike, ⟨_, _, rfl⟩, tm3 (i := 160) (by decide +kernel) rfl, tm3 (i := 162) (by decide +kernel) rfl, tms (i := 5) (by decide +kernel) rfl⟩
theorem cv_X1_58 : ev_CV RX1 58 1 M_X1_cheapestAt 3 := ⟨ok_X1_cheapestAt, ⟨_, _, rfl⟩, tm3 (i := 176) (by decide +kernel) rfl, tm3 (i := 153) (by decide +kernel) rfl, tm3 (i := 154) (by decide +kernel) rfl⟩
theorem cv_X1_62 : ev_CV RX1 62 1 M_X1_meetsSooner 3 := ⟨ok_X1_meetsSooner, ⟨_, _, rfl⟩, tm3 (i := 234) (by decide +kernel) rfl, tm3 (i := 236) (by decide +kernel) rfl, tms (i := 8) (by decide +kernel) rfl⟩
theorem cs_X1_65 : ev_CSN RX1 65 M_X11_isLess 4 := ⟨ok_X11_isLess, ⟨"PriceBench", List.mem_filter.mpr ⟨tn3 (i := 203) (by decide +kernel), rfl⟩⟩, tm3 (i := 182) (by decide +kernel) rfl⟩
theorem cs_X1_69 : ev_CSN RX1 69 M_X11_lowest 3 := ⟨ok_X11_lowest, ⟨"PriceBench", List.mem_filter.mpr ⟨tn3 (i := 204) (by decide +kernel), rfl⟩⟩, tm3 (i := 140) (by decide +kernel) rfl⟩
theorem cv_X1_81 : ev_CV RX1 81 1 M_X1_leastAt 2 := ⟨ok_X1_leastAt, ⟨_, _, rfl⟩, tm4 (i := 33) (by decide +kernel) rfl, tm3 (i := 173) (by decide +kernel) rfl, tm3 (i := 174) (by decide +kernel) rfl⟩
theorem ol_X10_1 : Cond.methodLink RX10 1 Lib.objectInit ∈ ev_tb := tm1 (i := 94) (by decide +kernel) rfl
theorem cs_X10_25 : ev_CSN RX10 25 M_X11_isLess 4 := ⟨ok_X11_isLess, ⟨"PriceBench", List.mem_filter.mpr ⟨tn4 (i := 110) (by decide +kernel), rfl⟩⟩, tm3 (i := 182) (by decide +kernel) rfl⟩
theorem ol_X11_1 : Cond.methodLink RX11 1 Lib.objectInit ∈ ev_tb := tm1 (i := 23) (by decide +kernel) rfl
theorem ci_X11_9 : ev_CIN RX11 9 M_X2_init 0 := ⟨ok_X2_init, ⟨"PriceBench", List.mem_filter.mpr ⟨tn1 (i := 28) (by decide +kernel), rfl⟩⟩, tm1 (i := 29) (by decide +kernel) rfl, rfl, rfl⟩
theorem ci_X11_24 : ev_CIN RX11 24 M_X10_init 0 := ⟨ok_X10_init, ⟨"PriceBench", List.mem_filter.mpr ⟨tn1 (i := 91) (by decide +kernel), rfl⟩⟩, tm1 (i := 92) (by decide +kernel) rfl, rfl, rfl⟩
theorem ci_X11_31 : ev_CIN RX11 31 M_X5_init 0 := ⟨ok_X5_init, ⟨"PriceBench", List.mem_filter.mpr ⟨tn1 (i := 126) (by decide +kernel), rfl⟩⟩, tm1 (i := 127) (by decide +kernel) rfl, rfl, rfl⟩
theorem ci_X11_38 : ev_CIN RX11 38 M_X0_init 0 := ⟨ok_X0_init, ⟨"PriceBench", List.mem_filter.mpr ⟨tn1 (i := 140) (by decide +kernel), rfl⟩⟩, tm1 (i := 141) (by decide +kernel) rfl, rfl, rfl⟩
theorem ci_X11_53 : ev_CIN RX11 53 M_X6_init 0 := ⟨ok_X6_init, ⟨"PriceBench", List.mem_filter.mpr ⟨tn1 (i := 156) (by decide +kernel), rfl⟩⟩, tm1 (i := 157) (by decide +kernel) rfl, rfl, rfl⟩
theorem cv_X11_54 : ev_CV RX11 54 2 M_X2_addThing 0 := ⟨ok_X2_addThing, ⟨_, _, rfl⟩, tm1 (i := 202) (by decide +kernel) rfl, tm1 (i := 203) (by decide +kernel) rfl, tm1 (i := 204) (by decide +kernel) rfl⟩
theorem cv_X11_58 : ev_CV RX11 58 2 M_X2_isThing 1 := ⟨ok_X2_isThing, ⟨_, _, rfl⟩, tm1 (i := 214) (by decide +kernel) rfl, tm1 (i := 215) (by decide +kernel) rfl, tm1 (i := 216) (by decide +kernel) rfl⟩
theorem cs_X11_62 : ev_CS RX11 62 M_X11_isLineCost 2 := ⟨ok_X11_isLineCost, tm1 (i := 218) (by decide +kernel) rfl, tm1 (i := 219) (by decide +kernel) rfl⟩
theorem cv_X11_66 : ev_CV RX11 66 2 M_X2_addLine 4 := ⟨ok_X2_addLine, ⟨_, _, rfl⟩, tm1 (i := 221) (by decide +kernel) rfl, tm1 (i := 222) (by decide +kernel) rfl, tm1 (i := 223) (by decide +kernel) rfl⟩
theorem cv_X11_70 : ev_CV RX11 70 2 M_X2_isLine 1 := ⟨ok_X2_isLine, ⟨_, _, rfl⟩, tm1 (i := 229) (by decide +kernel) rfl, tm1 (i := 230) (by decide +kernel) rfl, tm1 (i := 231) (by decide +kernel) rfl⟩
theorem cv_X11_73 : ev_CV RX11 73 2 M_X2_changeLine 3 := ⟨ok_X2_changeLine, ⟨_, _, rfl⟩, tm1 (i := 233) (by decide +kernel) rfl, tm1 (i := 234) (by decide +kernel) rfl, tm1 (i := 235) (by decide +kernel) rfl⟩
theorem cv_X11_81 : ev_CV RX11 81 2 M_X2_dropLine 0 := ⟨ok_X2_dropLine, ⟨_, _, rfl⟩, tm2 (i := 2) (by decide +kernel) rfl, tm2 (i := 3) (by decide +kernel) rfl, tm2 (i := 4) (by decide +kernel) rfl⟩
theorem cv_X11_90 : ev_CV RX11 90 10 M_X11_someOfferNeeds 1 := ⟨ok_X11_someOfferNeeds, ⟨_, _, rfl⟩, tm2 (i := 10) (by decide +kernel) rfl, tm2 (i := 12) (by decide +kernel) rfl, tms (i := 1) (by decide +kernel) rfl⟩
theorem cv_X11_93 : ev_CV RX11 93 2 M_X2_stepBack 0 := ⟨ok_X2_stepBack, ⟨_, _, rfl⟩, tm2 (i := 29) (by decide +kernel) rfl, tm2 (i := 30) (by decide +kernel) rfl, tm2 (i := 31) (by decide +kernel) rfl⟩
theorem cv_X11_96 : ev_CV RX11 96 2 M_X2_numberOf 2 := ⟨ok_X2_numberOf, ⟨_, _, rfl⟩, tm2 (i := 38) (by decide +kernel) rfl, tm2 (i := 39) (by decide +kernel) rfl, tm2 (i := 40) (by decide +kernel) rfl⟩
theorem ci_X11_105 : ev_CI RX11 105 M_X7_init 1 := ⟨ok_X7_init, tm2 (i := 48) (by decide +kernel) rfl, tm2 (i := 49) (by decide +kernel) rfl, rfl, rfl⟩
theorem cv_X11_108 : ev_CV RX11 108 10 M_X11_addOffer 1 := ⟨ok_X11_addOffer, ⟨_, _, rfl⟩, tm2 (i := 123) (by decide +kernel) rfl, tm2 (i := 125) (by decide +kernel) rfl, tms (i := 2) (by decide +kernel) rfl⟩
theorem cv_X11_112 : ev_CV RX11 112 10 M_X11_offerAt 1 := ⟨ok_X11_offerAt, ⟨_, _, rfl⟩, tm2 (i := 131) (by decide +kernel) rfl, tm2 (i := 133) (by decide +kernel) rfl, tms (i := 3) (by decide +kernel) rfl⟩
theorem cv_X11_116 : ev_CV RX11 116 6 M_X7_take 1 := ⟨ok_X7_take, ⟨_, _, rfl⟩, tm2 (i := 216) (by decide +kernel) rfl, tm2 (i := 217) (by decide +kernel) rfl, tm2 (i := 218) (by decide +kernel) rfl⟩
theorem ci_X11_122 : ev_CI RX11 122 M_X8_init 1 := ⟨ok_X8_init, tm2 (i := 232) (by decide +kernel) rfl, tm2 (i := 233) (by decide +kernel) rfl, rfl, rfl⟩
theorem ci_X11_125 : ev_CI RX11 125 M_X9_init 3 := ⟨ok_X9_init, tm3 (i := 9) (by decide +kernel) rfl, tm3 (i := 10) (by decide +kernel) rfl, rfl, rfl⟩
theorem cv_X11_127 : ev_CV RX11 127 2 M_X2_allThings 0 := ⟨ok_X2_allThings, ⟨_, _, rfl⟩, tm3 (i := 30) (by decide +kernel) rfl, tm2 (i := 154) (by decide +kernel) rfl, tm2 (i := 155) (by decide +kernel) rfl⟩
theorem ci_X11_132 : ev_CI RX11 132 M_X4_init 2 := ⟨ok_X4_init, tm3 (i := 33) (by decide +kernel) rfl, tm3 (i := 34) (by decide +kernel) rfl, rfl, rfl⟩
theorem cu_X11_147_3 : ev_CU RX11 147 3 M_X4_barsIn 1 := ⟨ok_X4_barsIn, RX4, "PriceBench$Offer", ⟨"PriceBench$Offer", "barsIn", "(LPriceBench$Net;)I"⟩, TX4, 7, rfl, tm3 (i := 51) (by decide +kernel) rfl, tm3 (i := 53) (by decide +kernel) rfl, tm3 (i := 54) (by decide +kernel) rfl, tm3 (i := 55) (by decide +kernel) rfl, ⟨by decide +kernel, by decide +kernel⟩, by decide +kernel, Or.inr (List.mem_filter.mpr ⟨tn3 (i := 52) (by decide +kernel), rfl⟩)⟩
theorem cu_X11_147_6 : ev_CU RX11 147 6 M_X7_barsIn 1 := ⟨ok_X7_barsIn, RX7, "PriceBench$Offer", ⟨"PriceBench$Offer", "barsIn", "(LPriceBench$Net;)I"⟩, TX7, 8, rfl, tm3 (i := 51) (by decide +kernel) rfl, tm3 (i := 53) (by decide +kernel) rfl, tm3 (i := 67) (by decide +kernel) rfl, tm3 (i := 68) (by decide +kernel) rfl, ⟨by decide +kernel, by decide +kernel⟩, by decide +kernel, Or.inr (List.mem_filter.mpr ⟨tn3 (i := 52) (by decide +kernel), rfl⟩)⟩
theorem cu_X11_147_7 : ev_CU RX11 147 7 M_X8_barsIn 1 := ⟨ok_X8_barsIn, RX8, "PriceBench$Offer", ⟨"PriceBench$Offer", "barsIn", "(LPriceBench$Net;)I"⟩, TX8, 6, rfl, tm3 (i := 51) (by decide +kernel) rfl, tm3 (i := 53) (by decide +kernel) rfl, tm3 (i := 70) (by decide +kernel) rfl, tm3 (i := 71) (by decide +kernel) rfl, ⟨by decide +kernel, by decide +kernel⟩, by decide +kernel, Or.inr (List.mem_filter.mpr ⟨tn3 (i := 52) (by decide +kernel), rfl⟩)⟩
theorem cu_X11_147_8 : ev_CU RX11 147 8 M_X9_barsIn 1 := ⟨ok_X9_barsIn, RX9, "PriceBench$Offer", ⟨"PriceBench$Offer", "barsIn", "(LPriceBench$Net;)I"⟩, TX9, 8, rfl, tm3 (i := 51) (by decide +kernel) rfl, tm3 (i := 53) (by decide +kernel) rfl, tm3 (i := 77) (by decide +kernel) rfl, tm3 (i := 78) (by decide +kernel) rfl, ⟨by decide +kernel, by decide +kernel⟩, by decide +kernel, Or.inr (List.mem_filter.mpr ⟨tn3 (i := 52) (by decide +kernel), rfl⟩)⟩
theorem cu_X11_151_3 : ev_CU RX11 151 3 M_X4_firstNumber 0 := ⟨ok_X4_firstNumber, RX4, "PriceBench$Offer", ⟨"PriceBench$Offer", "firstNumber", "()I"⟩, TX4, 7, rfl, tm3 (i := 84) (by decide +kernel) rfl, tm3 (i := 86) (by decide +kernel) rfl, tm3 (i := 87) (by decide +kernel) rfl, tm3 (i := 88) (by decide +kernel) rfl, ⟨by decide +kernel, by decide +kernel⟩, by decide +kernel, Or.inr (List.mem_filter.mpr ⟨tn3 (i := 85) (by decide +kernel), rfl⟩)⟩
theorem cu_X11_151_6 : ev_CU RX11 151 6 M_X7_firstNumber 0 := ⟨ok_X7_firstNumber, RX7, "PriceBench$Offer", ⟨"PriceBench$Offer", "firstNumber", "()I"⟩, TX7, 8, rfl, tm3 (i := 84) (by decide +kernel) rfl, tm3 (i := 86) (by decide +kernel) rfl, tm3 (i := 90) (by decide +kernel) rfl, tm3 (i := 91) (by decide +kernel) rfl, ⟨by decide +kernel, by decide +kernel⟩, by decide +kernel, Or.inr (List.mem_filter.mpr ⟨tn3 (i := 85) (by decide +kernel), rfl⟩)⟩
theorem cu_X11_151_7 : ev_CU RX11 151 7 M_X8_firstNumber 0 := ⟨ok_X8_firstNumber, RX8, "PriceBench$Offer", ⟨"PriceBench$Offer", "firstNumber", "()I"⟩, TX8, 6, rfl, tm3 (i := 84) (by decide +kernel) rfl, tm3 (i := 86) (by decide +kernel) rfl, tm3 (i := 93) (by decide +kernel) rfl, tm3 (i := 94) (by decide +kernel) rfl, ⟨by decide +kernel, by decide +kernel⟩, by decide +kernel, Or.inr (List.mem_filter.mpr ⟨tn3 (i := 85) (by decide +kernel), rfl⟩)⟩
theorem cu_X11_151_8 : ev_CU RX11 151 8 M_X9_firstNumber 0 := ⟨ok_X9_firstNumber, RX9, "PriceBench$Offer", ⟨"PriceBench$Offer", "firstNumber", "()I"⟩, TX9, 8, rfl, tm3 (i := 84) (by decide +kernel) rfl, tm3 (i := 86) (by decide +kernel) rfl, tm3 (i := 96) (by decide +kernel) rfl, tm3 (i := 97) (by decide +kernel) rfl, ⟨by decide +kernel, by decide +kernel⟩, by decide +kernel, Or.inr (List.mem_filter.mpr ⟨tn3 (i := 85) (by decide +kernel), rfl⟩)⟩
theorem cu_X11_154_3 : ev_CU RX11 154 3 M_X4_secondNumber 0 := ⟨ok_X4_secondNumber, RX4, "PriceBench$Offer", ⟨"PriceBench$Offer", "secondNumber", "()I"⟩, TX4, 7, rfl, tm3 (i := 99) (by decide +kernel) rfl, tm3 (i := 101) (by decide +kernel) rfl, tm3 (i := 102) (by decide +kernel) rfl, tm3 (i := 103) (by decide +kernel) rfl, ⟨by decide +kernel, by decide +kernel⟩, by decide +kernel, Or.inr (List.mem_filter.mpr ⟨tn3 (i := 100) (by decide +kernel), rfl⟩)⟩
theorem cu_X11_154_6 : ev_CU RX11 154 6 M_X7_secondNumber 0 := ⟨ok_X7_secondNumber, RX7, "PriceBench$Offer", ⟨"PriceBench$Offer", "secondNumber", "()I"⟩, TX7, 8, rfl, tm3 (i := 99) (by decide +kernel) rfl, tm3 (i := 101) (by decide +kernel) rfl, tm3 (i := 105) (by decide +kernel) rfl, tm3 (i := 106) (by decide +kernel) rfl, ⟨by decide +kernel, by decide +kernel⟩, by decide +kernel, Or.inr (List.mem_filter.mpr ⟨tn3 (i := 100) (by decide +kernel), rfl⟩)⟩
theorem cu_X11_154_7 : ev_CU RX11 154 7 M_X8_secondNumber 0 := ⟨ok_X8_secondNumber, RX8, "PriceBench$Offer", ⟨"PriceBench$Offer", "secondNumber", "()I"⟩, TX8, 6, rfl, tm3 (i := 99) (by decide +kernel) rfl, tm3 (i := 101) (by decide +kernel) rfl, tm3 (i := 108) (by decide +kernel) rfl, tm3 (i := 109) (by decide +kernel) rfl, ⟨by decide +kernel, by decide +kernel⟩, by decide +kernel, Or.inr (List.mem_filter.mpr ⟨tn3 (i := 100) (by decide +kernel), rfl⟩)⟩
theorem cu_X11_154_8 : ev_CU RX11 154 8 M_X9_secondNumber 0 := ⟨ok_X9_secondNumber, RX9, "PriceBench$Offer", ⟨"PriceBench$Offer", "secondNumber", "()I"⟩, TX9, 8, rfl, tm3 (i := 99) (by decide +kernel) rfl, tm3 (i := 101) (by decide +kernel) rfl, tm3 (i := 111) (by decide +kernel) rfl, tm3 (i := 112) (by decide +kernel) rfl, ⟨by decide +kernel, by decide +kernel⟩, by decide +kernel, Or.inr (List.mem_filter.mpr ⟨tn3 (i := 100) (by decide +kernel), rfl⟩)⟩
theorem cs_X11_161 : ev_CS RX11 161 M_X0_isUnder 2 := ⟨ok_X0_isUnder, tm3 (i := 122) (by decide +kernel) rfl, tm3 (i := 123) (by decide +kernel) rfl⟩
theorem cu_X11_164_3 : ev_CU RX11 164 3 M_X3_renewChoices 1 := ⟨ok_X3_renewChoices, RX4, "PriceBench$Offer", ⟨"PriceBench$Offer", "renewChoices", "(LPriceBench$Net;)V"⟩, TX4, 7, rfl, tm2 (i := 135) (by decide +kernel) rfl, tm2 (i := 137) (by decide +kernel) rfl, tm2 (i := 138) (by decide +kernel) rfl, tm2 (i := 136) (by decide +kernel) rfl, ⟨by decide +kernel, by decide +kernel⟩, by decide +kernel, Or.inl rfl⟩
theorem cu_X11_164_6 : ev_CU RX11 164 6 M_X3_renewChoices 1 := ⟨ok_X3_renewChoices, RX7, "PriceBench$Offer", ⟨"PriceBench$Offer", "renewChoices", "(LPriceBench$Net;)V"⟩, TX7, 8, rfl, tm2 (i := 135) (by decide +kernel) rfl, tm2 (i := 137) (by decide +kernel) rfl, tm2 (i := 139) (by decide +kernel) rfl, tm2 (i := 136) (by decide +kernel) rfl, ⟨by decide +kernel, by decide +kernel⟩, by decide +kernel, Or.inl rfl⟩
theorem cu_X11_164_7 : ev_CU RX11 164 7 M_X3_renewChoices 1 := ⟨ok_X3_renewChoices, RX8, "PriceBench$Offer", ⟨"PriceBench$Offer", "renewChoices", "(LPriceBench$Net;)V"⟩, TX8, 6, rfl, tm2 (i := 135) (by decide +kernel) rfl, tm2 (i := 137) (by decide +kernel) rfl, tm2 (i := 140) (by decide +kernel) rfl, tm2 (i := 136) (by decide +kernel) rfl, ⟨by decide +kernel, by decide +kernel⟩, by decide +kernel, Or.inl rfl⟩
theorem cu_X11_164_8 : ev_CU RX11 164 8 M_X3_renewChoices 1 := ⟨ok_X3_renewChoices, RX9, "PriceBench$Offer", ⟨"PriceBench$Offer", "renewChoices", "(LPriceBench$Net;)V"⟩, TX9, 8, rfl, tm2 (i := 135) (by decide +kernel) rfl, tm2 (i := 137) (by decide +kernel) rfl, tm2 (i := 141) (by decide +kernel) rfl, tm2 (i := 136) (by decide +kernel) rfl, ⟨by decide +kernel, by decide +kernel⟩, by decide +kernel, Or.inl rfl⟩
theorem cu_X11_164 {ci : Nat} (hc : ev_isO ci) : ev_CU RX11 164 ci M_X3_renewChoices 1 := by
  rcases hc with rfl | rfl | rfl | rfl
  · exact cu_X11_164_3
  · exact cu_X11_164_6
  · exact cu_X11_164_7
  · exact cu_X11_164_8
theorem cv_X11_168 : ev_CV RX11 168 1 M_X1_placeOf 1 := ⟨ok_X1_placeOf, ⟨_, _, rfl⟩, tm3 (i := 195) (by decide +kernel) rfl, tm3 (i := 196) (by decide +kernel) rfl, tm3 (i := 197) (by decide +kernel) rfl⟩
theorem cu_X11_171_3 : ev_CU RX11 171 3 M_X4_needs 1 := ⟨ok_X4_needs, RX4, "PriceBench$Offer", ⟨"PriceBench$Offer", "needs", "(I)Z"⟩, TX4, 7, rfl, tm2 (i := 14) (by decide +kernel) rfl, tm2 (i := 16) (by decide +kernel) rfl, tm2 (i := 17) (by decide +kernel) rfl, tm2 (i := 18) (by decide +kernel) rfl, ⟨by decide +kernel, by decide +kernel⟩, by decide +kernel, Or.inr (List.mem_filter.mpr ⟨tn2 (i := 15) (by decide +kernel), rfl⟩)⟩
theorem cu_X11_171_6 : ev_CU RX11 171 6 M_X7_needs 1 := ⟨ok_X7_needs, RX7, "PriceBench$Offer", ⟨"PriceBench$Offer", "needs", "(I)Z"⟩, TX7, 8, rfl, tm2 (i := 14) (by decide +kernel) rfl, tm2 (i := 16) (by decide +kernel) rfl, tm2 (i := 20) (by decide +kernel) rfl, tm2 (i := 21) (by decide +kernel) rfl, ⟨by decide +kernel, by decide +kernel⟩, by decide +kernel, Or.inr (List.mem_filter.mpr ⟨tn2 (i := 15) (by decide +kernel), rfl⟩)⟩
theorem cu_X11_171_7 : ev_CU RX11 171 7 M_X8_needs 1 := ⟨ok_X8_needs, RX8, "PriceBench$Offer", ⟨"PriceBench$Offer", "needs", "(I)Z"⟩, TX8, 6, rfl, tm2 (i := 14) (by decide +kernel) rfl, tm2 (i := 16) (by decide +kernel) rfl, tm2 (i := 23) (by decide +kernel) rfl, tm2 (i := 24) (by decide +kernel) rfl, ⟨by decide +kernel, by decide +kernel⟩, by decide +kernel, Or.inr (List.mem_filter.mpr ⟨tn2 (i := 15) (by decide +kernel), rfl⟩)⟩
theorem cu_X11_171_8 : ev_CU RX11 171 8 M_X9_needs 1 := ⟨ok_X9_needs, RX9, "PriceBench$Offer", ⟨"PriceBench$Offer", "needs", "(I)Z"⟩, TX9, 8, rfl, tm2 (i := 14) (by decide +kernel) rfl, tm2 (i := 16) (by decide +kernel) rfl, tm2 (i := 26) (by decide +kernel) rfl, tm2 (i := 27) (by decide +kernel) rfl, ⟨by decide +kernel, by decide +kernel⟩, by decide +kernel, Or.inr (List.mem_filter.mpr ⟨tn2 (i := 15) (by decide +kernel), rfl⟩)⟩
theorem cs_X11_174 : ev_CS RX11 174 M_X11_isPrice 2 := ⟨ok_X11_isPrice, tm3 (i := 134) (by decide +kernel) rfl, tm3 (i := 135) (by decide +kernel) rfl⟩
theorem cv_X11_182 : ev_CV RX11 182 2 M_X2_sumOver 2 := ⟨ok_X2_sumOver, ⟨_, _, rfl⟩, tm3 (i := 138) (by decide +kernel) rfl, tm2 (i := 188) (by decide +kernel) rfl, tm2 (i := 189) (by decide +kernel) rfl⟩
theorem cs_X11_189 : ev_CS RX11 189 M_X11_lowest 3 := ⟨ok_X11_lowest, tm3 (i := 139) (by decide +kernel) rfl, tm3 (i := 140) (by decide +kernel) rfl⟩
theorem cv_X11_193 : ev_CV RX11 193 1 M_X1_cheapestAt 3 := ⟨ok_X1_cheapestAt, ⟨_, _, rfl⟩, tm3 (i := 152) (by decide +kernel) rfl, tm3 (i := 153) (by decide +kernel) rfl, tm3 (i := 154) (by decide +kernel) rfl⟩
theorem cv_X11_197 : ev_CV RX11 197 10 M_X11_offerWithChoices 1 := ⟨ok_X11_offerWithChoices, ⟨_, _, rfl⟩, tm3 (i := 168) (by decide +kernel) rfl, tm3 (i := 170) (by decide +kernel) rfl, tms (i := 6) (by decide +kernel) rfl⟩
theorem cv_X11_200 : ev_CV RX11 200 1 M_X1_leastAt 2 := ⟨ok_X1_leastAt, ⟨_, _, rfl⟩, tm3 (i := 172) (by decide +kernel) rfl, tm3 (i := 173) (by decide +kernel) rfl, tm3 (i := 174) (by decide +kernel) rfl⟩
theorem cs_X11_204 : ev_CS RX11 204 M_X11_isLess 4 := ⟨ok_X11_isLess, tm3 (i := 181) (by decide +kernel) rfl, tm3 (i := 182) (by decide +kernel) rfl⟩
theorem cv_X11_208 : ev_CV RX11 208 9 M_X10_become 4 := ⟨ok_X10_become, ⟨_, _, rfl⟩, tm3 (i := 184) (by decide +kernel) rfl, tm3 (i := 185) (by decide +kernel) rfl, tm3 (i := 186) (by decide +kernel) rfl⟩
theorem cs_X11_212 : ev_CS RX11 212 M_X11_placeIn 2 := ⟨ok_X11_placeIn, tm3 (i := 192) (by decide +kernel) rfl, tm3 (i := 193) (by decide +kernel) rfl⟩
theorem cv_X11_216 : ev_CV RX11 216 1 M_X1_findSpan 2 := ⟨ok_X1_findSpan, ⟨_, _, rfl⟩, tm3 (i := 199) (by decide +kernel) rfl, tm3 (i := 200) (by decide +kernel) rfl, tm3 (i := 201) (by decide +kernel) rfl⟩
theorem cv_X11_220 : ev_CV RX11 220 10 M_X11_findTop 1 := ⟨ok_X11_findTop, ⟨_, _, rfl⟩, tm3 (i := 209) (by decide +kernel) rfl, tm3 (i := 211) (by decide +kernel) rfl, tms (i := 7) (by decide +kernel) rfl⟩
theorem cv_X11_224 : ev_CV RX11 224 1 M_X1_leastRatio 0 := ⟨ok_X1_leastRatio, ⟨_, _, rfl⟩, tm4 (i := 21) (by decide +kernel) rfl, tm4 (i := 22) (by decide +kernel) rfl, tm4 (i := 23) (by decide +kernel) rfl⟩
theorem cv_X11_233 : ev_CV RX11 233 1 M_X1_findRegret 3 := ⟨ok_X1_findRegret, ⟨_, _, rfl⟩, tm4 (i := 29) (by decide +kernel) rfl, tm4 (i := 30) (by decide +kernel) rfl, tm4 (i := 31) (by decide +kernel) rfl⟩
theorem cu_X11_237_3 : ev_CU RX11 237 3 M_X3_bendsIn 1 := ⟨ok_X3_bendsIn, RX4, "PriceBench$Offer", ⟨"PriceBench$Offer", "bendsIn", "(LPriceBench$Window;)LPriceBench$Rows;"⟩, TX4, 7, rfl, tm3 (i := 213) (by decide +kernel) rfl, tm3 (i := 215) (by decide +kernel) rfl, tm3 (i := 216) (by decide +kernel) rfl, tm3 (i := 214) (by decide +kernel) rfl, ⟨by decide +kernel, by decide +kernel⟩, by decide +kernel, Or.inl rfl⟩
theorem cu_X11_237_6 : ev_CU RX11 237 6 M_X3_bendsIn 1 := ⟨ok_X3_bendsIn, RX7, "PriceBench$Offer", ⟨"PriceBench$Offer", "bendsIn", "(LPriceBench$Window;)LPriceBench$Rows;"⟩, TX7, 8, rfl, tm3 (i := 213) (by decide +kernel) rfl, tm3 (i := 215) (by decide +kernel) rfl, tm3 (i := 217) (by decide +kernel) rfl, tm3 (i := 214) (by decide +kernel) rfl, ⟨by decide +kernel, by decide +kernel⟩, by decide +kernel, Or.inl rfl⟩
theorem cu_X11_237_7 : ev_CU RX11 237 7 M_X3_bendsIn 1 := ⟨ok_X3_bendsIn, RX8, "PriceBench$Offer", ⟨"PriceBench$Offer", "bendsIn", "(LPriceBench$Window;)LPriceBench$Rows;"⟩, TX8, 6, rfl, tm3 (i := 213) (by decide +kernel) rfl, tm3 (i := 215) (by decide +kernel) rfl, tm3 (i := 218) (by decide +kernel) rfl, tm3 (i := 214) (by decide +kernel) rfl, ⟨by decide +kernel, by decide +kernel⟩, by decide +kernel, Or.inl rfl⟩
theorem cu_X11_237_8 : ev_CU RX11 237 8 M_X3_bendsIn 1 := ⟨ok_X3_bendsIn, RX9, "PriceBench$Offer", ⟨"PriceBench$Offer", "bendsIn", "(LPriceBench$Window;)LPriceBench$Rows;"⟩, TX9, 8, rfl, tm3 (i := 213) (by decide +kernel) rfl, tm3 (i := 215) (by decide +kernel) rfl, tm3 (i := 219) (by decide +kernel) rfl, tm3 (i := 214) (by decide +kernel) rfl, ⟨by decide +kernel, by decide +kernel⟩, by decide +kernel, Or.inl rfl⟩
theorem cu_X11_237 {ci : Nat} (hc : ev_isO ci) : ev_CU RX11 237 ci M_X3_bendsIn 1 := by
  rcases hc with rfl | rfl | rfl | rfl
  · exact cu_X11_237_3
  · exact cu_X11_237_6
  · exact cu_X11_237_7
  · exact cu_X11_237_8
theorem cv_X11_248 : ev_CV RX11 248 4 M_X5_number 2 := ⟨ok_X5_number, ⟨_, _, rfl⟩, tm4 (i := 9) (by decide +kernel) rfl, tm4 (i := 10) (by decide +kernel) rfl, tm4 (i := 11) (by decide +kernel) rfl⟩
theorem cv_X11_251 : ev_CV RX11 251 10 M_X11_isCalmer 3 := ⟨ok_X11_isCalmer, ⟨_, _, rfl⟩, tm4 (i := 38) (by decide +kernel) rfl, tm4 (i := 40) (by decide +kernel) rfl, tms (i := 10) (by decide +kernel) rfl⟩
theorem cv_X11_255 : ev_CV RX11 255 2 M_X2_dearestBetween 4 := ⟨ok_X2_dearestBetween, ⟨_, _, rfl⟩, tm4 (i := 46) (by decide +kernel) rfl, tm4 (i := 47) (by decide +kernel) rfl, tm4 (i := 48) (by decide +kernel) rfl⟩
theorem cv_X11_258 : ev_CV RX11 258 2 M_X2_lineCost 3 := ⟨ok_X2_lineCost, ⟨_, _, rfl⟩, tm4 (i := 59) (by decide +kernel) rfl, tm4 (i := 56) (by decide +kernel) rfl, tm4 (i := 57) (by decide +kernel) rfl⟩
theorem jl_X11_268 : Cond.methodLink RX11 268 yJ9_abs_067f4 ∈ ev_tb := tm3 (i := 142) (by decide +kernel) rfl
theorem cs_X11_274 : ev_CS RX11 274 M_X11_commonOf 2 := ⟨ok_X11_commonOf, tm3 (i := 145) (by decide +kernel) rfl, tm3 (i := 146) (by decide +kernel) rfl⟩
theorem cs_X11_278 : ev_CS RX11 278 M_X11_numberOrNo 3 := ⟨ok_X11_numberOrNo, tm4 (i := 68) (by decide +kernel) rfl, tm4 (i := 69) (by decide +kernel) rfl⟩
theorem cv_X11_282 : ev_CV RX11 282 4 M_X5_becomeLike 1 := ⟨ok_X5_becomeLike, ⟨_, _, rfl⟩, tm4 (i := 76) (by decide +kernel) rfl, tm4 (i := 77) (by decide +kernel) rfl, tm4 (i := 78) (by decide +kernel) rfl⟩
theorem cv_X11_286 : ev_CV RX11 286 4 M_X5_has 2 := ⟨ok_X5_has, ⟨_, _, rfl⟩, tm4 (i := 71) (by decide +kernel) rfl, tm4 (i := 14) (by decide +kernel) rfl, tm4 (i := 15) (by decide +kernel) rfl⟩
theorem cv_X11_291 : ev_CV RX11 291 4 M_X5_set 3 := ⟨ok_X5_set, ⟨_, _, rfl⟩, tm4 (i := 91) (by decide +kernel) rfl, tm4 (i := 92) (by decide +kernel) rfl, tm4 (i := 93) (by decide +kernel) rfl⟩
theorem cv_X11_294 : ev_CV RX11 294 10 M_X11_howWrong 2 := ⟨ok_X11_howWrong, ⟨_, _, rfl⟩, tm4 (i := 99) (by decide +kernel) rfl, tm4 (i := 101) (by decide +kernel) rfl, tms (i := 12) (by decide +kernel) rfl⟩
theorem jl_X11_298 : Cond.methodLink RX11 298 yJ9_abs_0f7a4 ∈ ev_tb := tm4 (i := 103) (by decide +kernel) rfl
theorem cv_X11_300 : ev_CV RX11 300 9 M_X10_holdsInside 2 := ⟨ok_X10_holdsInside, ⟨_, _, rfl⟩, tm4 (i := 106) (by decide +kernel) rfl, tm4 (i := 107) (by decide +kernel) rfl, tm4 (i := 108) (by decide +kernel) rfl⟩
theorem cv_X11_303 : ev_CV RX11 303 1 M_X1_costAt 3 := ⟨ok_X1_costAt, ⟨_, _, rfl⟩, tm4 (i := 111) (by decide +kernel) rfl, tm3 (i := 157) (by decide +kernel) rfl, tm3 (i := 158) (by decide +kernel) rfl⟩
theorem cv_X11_306 : ev_CV RX11 306 0 M_X0_forget 0 := ⟨ok_X0_forget, ⟨_, _, rfl⟩, tm4 (i := 116) (by decide +kernel) rfl, tm4 (i := 117) (by decide +kernel) rfl, tm4 (i := 118) (by decide +kernel) rfl⟩
theorem cv_X11_309 : ev_CV RX11 309 0 M_X0_start 3 := ⟨ok_X0_start, ⟨_, _, rfl⟩, tm4 (i := 120) (by decide +kernel) rfl, tm4 (i := 121) (by decide +kernel) rfl, tm4 (i := 122) (by decide +kernel) rfl⟩
theorem cv_X11_318 : ev_CV RX11 318 10 M_X11_sheetAt 1 := ⟨ok_X11_sheetAt, ⟨_, _, rfl⟩, tm4 (i := 148) (by decide +kernel) rfl, tm4 (i := 150) (by decide +kernel) rfl, tms (i := 14) (by decide +kernel) rfl⟩
theorem cv_X11_322 : ev_CV RX11 322 5 M_X6_become 2 := ⟨ok_X6_become, ⟨_, _, rfl⟩, tm4 (i := 152) (by decide +kernel) rfl, tm4 (i := 153) (by decide +kernel) rfl, tm4 (i := 154) (by decide +kernel) rfl⟩
theorem cv_X11_327 : ev_CV RX11 327 5 M_X6_holds 2 := ⟨ok_X6_holds, ⟨_, _, rfl⟩, tm4 (i := 163) (by decide +kernel) rfl, tm4 (i := 164) (by decide +kernel) rfl, tm4 (i := 165) (by decide +kernel) rfl⟩
theorem cv_X11_333 : ev_CV RX11 333 10 M_X11_line 4 := ⟨ok_X11_line, ⟨_, _, rfl⟩, tm4 (i := 171) (by decide +kernel) rfl, tm1 (i := 211) (by decide +kernel) rfl, tm1 (i := 212) (by decide +kernel) rfl⟩
theorem al_X11_336 : Cond.methodLink RX11 336 arraycopyName ∈ ev_tb := tm4 (i := 176) (by decide +kernel) rfl
theorem ol_X12_1 : Cond.methodLink RX12 1 Lib.objectInit ∈ ev_tb := tm4 (i := 182) (by decide +kernel) rfl
theorem cv_X12_78 : ev_CV RX12 78 11 M_X12_lines 0 := ⟨ok_X12_lines, ⟨_, _, rfl⟩, tm5 (i := 78) (by decide +kernel) rfl, tm5 (i := 80) (by decide +kernel) rfl, tms (i := 18) (by decide +kernel) rfl⟩
theorem cv_X12_82 : ev_CV RX12 82 11 M_X12_things 0 := ⟨ok_X12_things, ⟨_, _, rfl⟩, tm5 (i := 56) (by decide +kernel) rfl, tm5 (i := 58) (by decide +kernel) rfl, tms (i := 15) (by decide +kernel) rfl⟩
theorem cs_X12_85 : ev_CS RX12 85 M_X12_in 3 := ⟨ok_X12_in, tm5 (i := 72) (by decide +kernel) rfl, tm5 (i := 73) (by decide +kernel) rfl⟩
theorem cs_X12_92 : ev_CS RX12 92 M_X12_common 2 := ⟨ok_X12_common, tm5 (i := 211) (by decide +kernel) rfl, tm5 (i := 212) (by decide +kernel) rfl⟩
theorem cv_X12_100 : ev_CV RX12 100 11 M_X12_keeps 0 := ⟨ok_X12_keeps, ⟨_, _, rfl⟩, tm5 (i := 60) (by decide +kernel) rfl, tm5 (i := 62) (by decide +kernel) rfl, tms (i := 16) (by decide +kernel) rfl⟩
theorem cv_X12_103 : ev_CV RX12 103 11 M_X12_isThing 1 := ⟨ok_X12_isThing, ⟨_, _, rfl⟩, tm5 (i := 68) (by decide +kernel) rfl, tm5 (i := 70) (by decide +kernel) rfl, tms (i := 17) (by decide +kernel) rfl⟩
theorem cs_X12_107 : ev_CS RX12 107 M_X12_areTold 2 := ⟨ok_X12_areTold, tm5 (i := 75) (by decide +kernel) rfl, tm5 (i := 76) (by decide +kernel) rfl⟩
theorem cv_X12_111 : ev_CV RX12 111 11 M_X12_made 3 := ⟨ok_X12_made, ⟨_, _, rfl⟩, tm5 (i := 102) (by decide +kernel) rfl, tm5 (i := 104) (by decide +kernel) rfl, tms (i := 19) (by decide +kernel) rfl⟩
theorem cv_X12_115 : ev_CV RX12 115 11 M_X12_isOffer 1 := ⟨ok_X12_isOffer, ⟨_, _, rfl⟩, tm5 (i := 110) (by decide +kernel) rfl, tm5 (i := 112) (by decide +kernel) rfl, tms (i := 20) (by decide +kernel) rfl⟩
theorem cv_X12_118 : ev_CV RX12 118 11 M_X12_from 1 := ⟨ok_X12_from, ⟨_, _, rfl⟩, tm5 (i := 156) (by decide +kernel) rfl, tm5 (i := 158) (by decide +kernel) rfl, tms (i := 26) (by decide +kernel) rfl⟩
theorem cv_X12_122 : ev_CV RX12 122 11 M_X12_to 1 := ⟨ok_X12_to, ⟨_, _, rfl⟩, tm5 (i := 160) (by decide +kernel) rfl, tm5 (i := 162) (by decide +kernel) rfl, tms (i := 27) (by decide +kernel) rfl⟩
theorem cs_X12_125 : ev_CS RX12 125 M_X12_bits 1 := ⟨ok_X12_bits, tm5 (i := 149) (by decide +kernel) rfl, tm5 (i := 150) (by decide +kernel) rfl⟩
theorem cv_X12_128 : ev_CV RX12 128 11 M_X12_reached 3 := ⟨ok_X12_reached, ⟨_, _, rfl⟩, tm5 (i := 152) (by decide +kernel) rfl, tm5 (i := 154) (by decide +kernel) rfl, tms (i := 25) (by decide +kernel) rfl⟩
theorem cv_X12_132 : ev_CV RX12 132 11 M_X12_allThings 0 := ⟨ok_X12_allThings, ⟨_, _, rfl⟩, tm5 (i := 164) (by decide +kernel) rfl, tm5 (i := 166) (by decide +kernel) rfl, tms (i := 28) (by decide +kernel) rfl⟩
theorem cv_X12_135 : ev_CV RX12 135 11 M_X12_allLines 0 := ⟨ok_X12_allLines, ⟨_, _, rfl⟩, tm5 (i := 141) (by decide +kernel) rfl, tm5 (i := 143) (by decide +kernel) rfl, tms (i := 23) (by decide +kernel) rfl⟩
theorem cv_X12_138 : ev_CV RX12 138 11 M_X12_isTree 1 := ⟨ok_X12_isTree, ⟨_, _, rfl⟩, tm5 (i := 145) (by decide +kernel) rfl, tm5 (i := 147) (by decide +kernel) rfl, tms (i := 24) (by decide +kernel) rfl⟩
theorem cv_X12_141 : ev_CV RX12 141 11 M_X12_isWay 3 := ⟨ok_X12_isWay, ⟨_, _, rfl⟩, tm5 (i := 168) (by decide +kernel) rfl, tm5 (i := 170) (by decide +kernel) rfl, tms (i := 29) (by decide +kernel) rfl⟩
theorem cv_X12_144 : ev_CV RX12 144 11 M_X12_isPairing 2 := ⟨ok_X12_isPairing, ⟨_, _, rfl⟩, tm5 (i := 172) (by decide +kernel) rfl, tm5 (i := 174) (by decide +kernel) rfl, tms (i := 30) (by decide +kernel) rfl⟩
theorem cv_X12_147 : ev_CV RX12 147 11 M_X12_isTold 2 := ⟨ok_X12_isTold, ⟨_, _, rfl⟩, tm5 (i := 176) (by decide +kernel) rfl, tm5 (i := 178) (by decide +kernel) rfl, tms (i := 31) (by decide +kernel) rfl⟩
theorem cs_X12_153 : ev_CS RX12 153 M_X12_ordered 1 := ⟨ok_X12_ordered, tm5 (i := 134) (by decide +kernel) rfl, tm5 (i := 135) (by decide +kernel) rfl⟩
theorem cv_X12_156 : ev_CV RX12 156 11 M_X12_isChoice 2 := ⟨ok_X12_isChoice, ⟨_, _, rfl⟩, tm5 (i := 137) (by decide +kernel) rfl, tm5 (i := 139) (by decide +kernel) rfl, tms (i := 22) (by decide +kernel) rfl⟩
theorem cv_X12_159 : ev_CV RX12 159 11 M_X12_startOf 1 := ⟨ok_X12_startOf, ⟨_, _, rfl⟩, tm5 (i := 180) (by decide +kernel) rfl, tm5 (i := 182) (by decide +kernel) rfl, tms (i := 32) (by decide +kernel) rfl⟩
theorem cv_X12_162 : ev_CV RX12 162 11 M_X12_riseOf 1 := ⟨ok_X12_riseOf, ⟨_, _, rfl⟩, tm5 (i := 184) (by decide +kernel) rfl, tm5 (i := 186) (by decide +kernel) rfl, tms (i := 33) (by decide +kernel) rfl⟩
theorem cv_X12_165 : ev_CV RX12 165 11 M_X12_beside 1 := ⟨ok_X12_beside, ⟨_, _, rfl⟩, tm5 (i := 192) (by decide +kernel) rfl, tm5 (i := 194) (by decide +kernel) rfl, tms (i := 35) (by decide +kernel) rfl⟩
theorem cv_X12_168 : ev_CV RX12 168 11 M_X12_gathers 1 := ⟨ok_X12_gathers, ⟨_, _, rfl⟩, tm5 (i := 130) (by decide +kernel) rfl, tm5 (i := 132) (by decide +kernel) rfl, tms (i := 21) (by decide +kernel) rfl⟩
theorem cv_X12_172 : ev_CV RX12 172 11 M_X12_barsOf 1 := ⟨ok_X12_barsOf, ⟨_, _, rfl⟩, tm5 (i := 188) (by decide +kernel) rfl, tm5 (i := 190) (by decide +kernel) rfl, tms (i := 34) (by decide +kernel) rfl⟩
theorem cs_X12_175 : ev_CS RX12 175 M_X12_isPrice 2 := ⟨ok_X12_isPrice, tm5 (i := 204) (by decide +kernel) rfl, tm5 (i := 205) (by decide +kernel) rfl⟩
theorem cs_X12_180 : ev_CS RX12 180 M_X12_lowest 3 := ⟨ok_X12_lowest, tm5 (i := 208) (by decide +kernel) rfl, tm5 (i := 209) (by decide +kernel) rfl⟩
theorem cv_X12_184 : ev_CV RX12 184 11 M_X12_costAt 3 := ⟨ok_X12_costAt, ⟨_, _, rfl⟩, tm5 (i := 226) (by decide +kernel) rfl, tm5 (i := 228) (by decide +kernel) rfl, tms (i := 38) (by decide +kernel) rfl⟩
theorem cv_X12_188 : ev_CV RX12 188 11 M_X12_leastAt 2 := ⟨ok_X12_leastAt, ⟨_, _, rfl⟩, tm5 (i := 222) (by decide +kernel) rfl, tm5 (i := 224) (by decide +kernel) rfl, tms (i := 37) (by decide +kernel) rfl⟩
theorem cv_X12_191 : ev_CV RX12 191 11 M_X12_bestAt 3 := ⟨ok_X12_bestAt, ⟨_, _, rfl⟩, tm5 (i := 218) (by decide +kernel) rfl, tm5 (i := 220) (by decide +kernel) rfl, tms (i := 36) (by decide +kernel) rfl⟩
theorem cv_X12_201 : ev_CV RX12 201 11 M_X12_point 2 := ⟨ok_X12_point, ⟨_, _, rfl⟩, tm6 (i := 10) (by decide +kernel) rfl, tm6 (i := 12) (by decide +kernel) rfl, tms (i := 41) (by decide +kernel) rfl⟩
theorem cv_X12_205 : ev_CV RX12 205 11 M_X12_walks 0 := ⟨ok_X12_walks, ⟨_, _, rfl⟩, tm6 (i := 6) (by decide +kernel) rfl, tm6 (i := 8) (by decide +kernel) rfl, tms (i := 40) (by decide +kernel) rfl⟩
theorem cv_X12_208 : ev_CV RX12 208 11 M_X12_prepares 1 := ⟨ok_X12_prepares, ⟨_, _, rfl⟩, tm6 (i := 2) (by decide +kernel) rfl, tm6 (i := 4) (by decide +kernel) rfl, tms (i := 39) (by decide +kernel) rfl⟩
theorem cv_X12_211 : ev_CV RX12 211 11 M_X12_bendOf 2 := ⟨ok_X12_bendOf, ⟨_, _, rfl⟩, tm6 (i := 18) (by decide +kernel) rfl, tm6 (i := 20) (by decide +kernel) rfl, tms (i := 42) (by decide +kernel) rfl⟩
theorem cv_X12_228 : ev_CV RX12 228 11 M_X12_placeOf 1 := ⟨ok_X12_placeOf, ⟨_, _, rfl⟩, tm6 (i := 26) (by decide +kernel) rfl, tm6 (i := 28) (by decide +kernel) rfl, tms (i := 43) (by decide +kernel) rfl⟩
theorem cv_X12_231 : ev_CV RX12 231 11 M_X12_spans 1 := ⟨ok_X12_spans, ⟨_, _, rfl⟩, tm6 (i := 30) (by decide +kernel) rfl, tm6 (i := 32) (by decide +kernel) rfl, tms (i := 44) (by decide +kernel) rfl⟩
theorem cv_X12_240 : ev_CV RX12 240 11 M_X12_regrets 1 := ⟨ok_X12_regrets, ⟨_, _, rfl⟩, tm6 (i := 46) (by decide +kernel) rfl, tm6 (i := 48) (by decide +kernel) rfl, tms (i := 45) (by decide +kernel) rfl⟩
theorem cv_X12_243 : ev_CV RX12 243 11 M_X12_lineCost 3 := ⟨ok_X12_lineCost, ⟨_, _, rfl⟩, tm6 (i := 62) (by decide +kernel) rfl, tm6 (i := 64) (by decide +kernel) rfl, tms (i := 47) (by decide +kernel) rfl⟩
theorem cv_X12_247 : ev_CV RX12 247 11 M_X12_dearest 4 := ⟨ok_X12_dearest, ⟨_, _, rfl⟩, tm6 (i := 58) (by decide +kernel) rfl, tm6 (i := 60) (by decide +kernel) rfl, tms (i := 46) (by decide +kernel) rfl⟩
theorem cv_X12_262 : ev_CV RX12 262 11 M_X12_wrong 1 := ⟨ok_X12_wrong, ⟨_, _, rfl⟩, tm6 (i := 84) (by decide +kernel) rfl, tm6 (i := 86) (by decide +kernel) rfl, tms (i := 48) (by decide +kernel) rfl⟩
theorem cv_X12_268 : ev_CV RX12 268 11 M_X12_ran 1 := ⟨ok_X12_ran, ⟨_, _, rfl⟩, tm6 (i := 103) (by decide +kernel) rfl, tm6 (i := 105) (by decide +kernel) rfl, tms (i := 51) (by decide +kernel) rfl⟩
theorem cv_X12_274 : ev_CV RX12 274 11 M_X12_treeAsks 2 := ⟨ok_X12_treeAsks, ⟨_, _, rfl⟩, tm6 (i := 99) (by decide +kernel) rfl, tm6 (i := 101) (by decide +kernel) rfl, tms (i := 50) (by decide +kernel) rfl⟩
theorem cv_X12_278 : ev_CV RX12 278 11 M_X12_asks 2 := ⟨ok_X12_asks, ⟨_, _, rfl⟩, tm6 (i := 95) (by decide +kernel) rfl, tm6 (i := 97) (by decide +kernel) rfl, tms (i := 49) (by decide +kernel) rfl⟩
theorem cv_X12_281 : ev_CV RX12 281 11 M_X12_toldShows 2 := ⟨ok_X12_toldShows, ⟨_, _, rfl⟩, tm6 (i := 111) (by decide +kernel) rfl, tm6 (i := 113) (by decide +kernel) rfl, tms (i := 53) (by decide +kernel) rfl⟩
theorem cv_X12_284 : ev_CV RX12 284 11 M_X12_shows 2 := ⟨ok_X12_shows, ⟨_, _, rfl⟩, tm6 (i := 107) (by decide +kernel) rfl, tm6 (i := 109) (by decide +kernel) rfl, tms (i := 52) (by decide +kernel) rfl⟩
theorem cv_X12_287 : ev_CV RX12 287 11 M_X12_toldTurns 2 := ⟨ok_X12_toldTurns, ⟨_, _, rfl⟩, tm6 (i := 119) (by decide +kernel) rfl, tm6 (i := 121) (by decide +kernel) rfl, tms (i := 55) (by decide +kernel) rfl⟩
theorem cv_X12_290 : ev_CV RX12 290 11 M_X12_turns 2 := ⟨ok_X12_turns, ⟨_, _, rfl⟩, tm6 (i := 115) (by decide +kernel) rfl, tm6 (i := 117) (by decide +kernel) rfl, tms (i := 54) (by decide +kernel) rfl⟩
theorem cs_X12_293 : ev_CS RX12 293 M_X12_isSheet 1 := ⟨ok_X12_isSheet, tm6 (i := 135) (by decide +kernel) rfl, tm6 (i := 136) (by decide +kernel) rfl⟩
theorem cv_X12_296 : ev_CV RX12 296 11 M_X12_line 4 := ⟨ok_X12_line, ⟨_, _, rfl⟩, tm6 (i := 146) (by decide +kernel) rfl, tm5 (i := 65) (by decide +kernel) rfl, tm5 (i := 66) (by decide +kernel) rfl⟩
theorem ol_X2_3 : Cond.methodLink RX2 3 Lib.objectInit ∈ ev_tb := tm1 (i := 31) (by decide +kernel) rfl
theorem cv_X2_34 : ev_CV RX2 34 2 M_X2_changed 1 := ⟨ok_X2_changed, ⟨_, _, rfl⟩, tm1 (i := 206) (by decide +kernel) rfl, tm1 (i := 208) (by decide +kernel) rfl, tms (i := 0) (by decide +kernel) rfl⟩
theorem cv_X2_38 : ev_CV RX2 38 2 M_X2_isLine 1 := ⟨ok_X2_isLine, ⟨_, _, rfl⟩, tm1 (i := 237) (by decide +kernel) rfl, tm1 (i := 230) (by decide +kernel) rfl, tm1 (i := 231) (by decide +kernel) rfl⟩
theorem cv_X2_51 : ev_CV RX2 51 2 M_X2_changeLine 3 := ⟨ok_X2_changeLine, ⟨_, _, rfl⟩, tm2 (i := 33) (by decide +kernel) rfl, tm1 (i := 234) (by decide +kernel) rfl, tm1 (i := 235) (by decide +kernel) rfl⟩
theorem cv_X2_58 : ev_CV RX2 58 2 M_X2_isBetween 3 := ⟨ok_X2_isBetween, ⟨_, _, rfl⟩, tm4 (i := 50) (by decide +kernel) rfl, tm4 (i := 52) (by decide +kernel) rfl, tms (i := 11) (by decide +kernel) rfl⟩
theorem cv_X2_62 : ev_CV RX2 62 2 M_X2_lineCost 3 := ⟨ok_X2_lineCost, ⟨_, _, rfl⟩, tm4 (i := 55) (by decide +kernel) rfl, tm4 (i := 56) (by decide +kernel) rfl, tm4 (i := 57) (by decide +kernel) rfl⟩
theorem cv_X2_66 : ev_CV RX2 66 2 M_X2_hangingWith 2 := ⟨ok_X2_hangingWith, ⟨_, _, rfl⟩, tm4 (i := 54) (by decide +kernel) rfl, tm3 (i := 74) (by decide +kernel) rfl, tm3 (i := 75) (by decide +kernel) rfl⟩
theorem ol_X3_3 : Cond.methodLink RX3 3 Lib.objectInit ∈ ev_tb := tm2 (i := 54) (by decide +kernel) rfl
theorem ci_X3_11 : ev_CIN RX3 11 M_X1_init 0 := ⟨ok_X1_init, ⟨"PriceBench", List.mem_filter.mpr ⟨tn2 (i := 57) (by decide +kernel), rfl⟩⟩, tm2 (i := 58) (by decide +kernel) rfl, rfl, rfl⟩
theorem ci_X3_20 : ev_CIN RX3 20 M_X5_init 0 := ⟨ok_X5_init, ⟨"PriceBench", List.mem_filter.mpr ⟨tn2 (i := 84) (by decide +kernel), rfl⟩⟩, tm1 (i := 127) (by decide +kernel) rfl, rfl, rfl⟩
theorem cv_X3_43 : ev_CV RX3 43 1 M_X1_clear 0 := ⟨ok_X1_clear, ⟨_, _, rfl⟩, tm2 (i := 143) (by decide +kernel) rfl, tm2 (i := 144) (by decide +kernel) rfl, tm2 (i := 145) (by decide +kernel) rfl⟩
theorem cu_X3_46_3 : ev_CU RX3 46 3 M_X4_gather 1 := ⟨ok_X4_gather, RX4, "PriceBench$Offer", ⟨"PriceBench$Offer", "gather", "(LPriceBench$Net;)V"⟩, TX4, 7, rfl, tm2 (i := 147) (by decide +kernel) rfl, tm2 (i := 149) (by decide +kernel) rfl, tm2 (i := 150) (by decide +kernel) rfl, tm2 (i := 151) (by decide +kernel) rfl, ⟨by decide +kernel, by decide +kernel⟩, by decide +kernel, Or.inr (List.mem_filter.mpr ⟨tn2 (i := 148) (by decide +kernel), rfl⟩)⟩
theorem cu_X3_46_6 : ev_CU RX3 46 6 M_X7_gather 1 := ⟨ok_X7_gather, RX7, "PriceBench$Offer", ⟨"PriceBench$Offer", "gather", "(LPriceBench$Net;)V"⟩, TX7, 8, rfl, tm2 (i := 147) (by decide +kernel) rfl, tm2 (i := 149) (by decide +kernel) rfl, tm2 (i := 191) (by decide +kernel) rfl, tm2 (i := 192) (by decide +kernel) rfl, ⟨by decide +kernel, by decide +kernel⟩, by decide +kernel, Or.inr (List.mem_filter.mpr ⟨tn2 (i := 148) (by decide +kernel), rfl⟩)⟩
theorem cu_X3_46_7 : ev_CU RX3 46 7 M_X8_gather 1 := ⟨ok_X8_gather, RX8, "PriceBench$Offer", ⟨"PriceBench$Offer", "gather", "(LPriceBench$Net;)V"⟩, TX8, 6, rfl, tm2 (i := 147) (by decide +kernel) rfl, tm2 (i := 149) (by decide +kernel) rfl, tm2 (i := 195) (by decide +kernel) rfl, tm2 (i := 196) (by decide +kernel) rfl, ⟨by decide +kernel, by decide +kernel⟩, by decide +kernel, Or.inr (List.mem_filter.mpr ⟨tn2 (i := 148) (by decide +kernel), rfl⟩)⟩
theorem cu_X3_46_8 : ev_CU RX3 46 8 M_X9_gather 1 := ⟨ok_X9_gather, RX9, "PriceBench$Offer", ⟨"PriceBench$Offer", "gather", "(LPriceBench$Net;)V"⟩, TX9, 8, rfl, tm2 (i := 147) (by decide +kernel) rfl, tm2 (i := 149) (by decide +kernel) rfl, tm2 (i := 209) (by decide +kernel) rfl, tm2 (i := 210) (by decide +kernel) rfl, ⟨by decide +kernel, by decide +kernel⟩, by decide +kernel, Or.inr (List.mem_filter.mpr ⟨tn2 (i := 148) (by decide +kernel), rfl⟩)⟩
theorem cv_X3_53 : ev_CV RX3 53 4 M_X5_clear 0 := ⟨ok_X5_clear, ⟨_, _, rfl⟩, tm3 (i := 221) (by decide +kernel) rfl, tm3 (i := 222) (by decide +kernel) rfl, tm3 (i := 223) (by decide +kernel) rfl⟩
theorem cu_X3_54_3 : ev_CU RX3 54 3 M_X3_findBends 1 := ⟨ok_X3_findBends, RX4, "PriceBench$Offer", ⟨"PriceBench$Offer", "findBends", "(LPriceBench$Window;)V"⟩, TX4, 7, rfl, tm3 (i := 225) (by decide +kernel) rfl, tm6 (i := 155) (by decide +kernel) rfl, ev_memx (List.mem_of_getElem? (i := 0) rfl) rfl, tm3 (i := 227) (by decide +kernel) rfl, ⟨by decide +kernel, by decide +kernel⟩, by decide +kernel, Or.inl rfl⟩
theorem cu_X3_54_6 : ev_CU RX3 54 6 M_X3_findBends 1 := ⟨ok_X3_findBends, RX7, "PriceBench$Offer", ⟨"PriceBench$Offer", "findBends", "(LPriceBench$Window;)V"⟩, TX7, 8, rfl, tm3 (i := 225) (by decide +kernel) rfl, tm6 (i := 155) (by decide +kernel) rfl, ev_memx (List.mem_of_getElem? (i := 1) rfl) rfl, tm3 (i := 227) (by decide +kernel) rfl, ⟨by decide +kernel, by decide +kernel⟩, by decide +kernel, Or.inl rfl⟩
theorem cu_X3_54_7 : ev_CU RX3 54 7 M_X3_findBends 1 := ⟨ok_X3_findBends, RX8, "PriceBench$Offer", ⟨"PriceBench$Offer", "findBends", "(LPriceBench$Window;)V"⟩, TX8, 6, rfl, tm3 (i := 225) (by decide +kernel) rfl, tm6 (i := 155) (by decide +kernel) rfl, ev_memx (List.mem_of_getElem? (i := 2) rfl) rfl, tm3 (i := 227) (by decide +kernel) rfl, ⟨by decide +kernel, by decide +kernel⟩, by decide +kernel, Or.inl rfl⟩
theorem cu_X3_54_8 : ev_CU RX3 54 8 M_X3_findBends 1 := ⟨ok_X3_findBends, RX9, "PriceBench$Offer", ⟨"PriceBench$Offer", "findBends", "(LPriceBench$Window;)V"⟩, TX9, 8, rfl, tm3 (i := 225) (by decide +kernel) rfl, tm6 (i := 155) (by decide +kernel) rfl, ev_memx (List.mem_of_getElem? (i := 3) rfl) rfl, tm3 (i := 227) (by decide +kernel) rfl, ⟨by decide +kernel, by decide +kernel⟩, by decide +kernel, Or.inl rfl⟩
theorem cu_X3_54 {ci : Nat} (hc : ev_isO ci) : ev_CU RX3 54 ci M_X3_findBends 1 := by
  rcases hc with rfl | rfl | rfl | rfl
  · exact cu_X3_54_3
  · exact cu_X3_54_6
  · exact cu_X3_54_7
  · exact cu_X3_54_8
theorem cv_X3_64 : ev_CV RX3 64 1 M_X1_cheapestAt 3 := ⟨ok_X1_cheapestAt, ⟨_, _, rfl⟩, tm3 (i := 229) (by decide +kernel) rfl, tm3 (i := 153) (by decide +kernel) rfl, tm3 (i := 154) (by decide +kernel) rfl⟩
theorem cv_X3_71 : ev_CV RX3 71 1 M_X1_nextAbove 1 := ⟨ok_X1_nextAbove, ⟨_, _, rfl⟩, tm3 (i := 230) (by decide +kernel) rfl, tm3 (i := 231) (by decide +kernel) rfl, tm3 (i := 232) (by decide +kernel) rfl⟩
theorem cs_X3_88 : ev_CSN RX3 88 M_X11_isLess 4 := ⟨ok_X11_isLess, ⟨"PriceBench", List.mem_filter.mpr ⟨tn3 (i := 238) (by decide +kernel), rfl⟩⟩, tm3 (i := 182) (by decide +kernel) rfl⟩
theorem cv_X3_95 : ev_CV RX3 95 4 M_X5_put 4 := ⟨ok_X5_put, ⟨_, _, rfl⟩, tm3 (i := 239) (by decide +kernel) rfl, tm4 (i := 0) (by decide +kernel) rfl, tm4 (i := 1) (by decide +kernel) rfl⟩
theorem ci_X4_3 : ev_CI RX4 3 M_X3_init 2 := ⟨ok_X3_init, tm3 (i := 36) (by decide +kernel) rfl, tm2 (i := 52) (by decide +kernel) rfl, rfl, rfl⟩
theorem cv_X4_15 : ev_CV RX4 15 2 M_X2_allThings 0 := ⟨ok_X2_allThings, ⟨_, _, rfl⟩, tm2 (i := 153) (by decide +kernel) rfl, tm2 (i := 154) (by decide +kernel) rfl, tm2 (i := 155) (by decide +kernel) rfl⟩
theorem cs_X4_21 : ev_CS RX4 21 M_X4_pair 5 := ⟨ok_X4_pair, tm2 (i := 157) (by decide +kernel) rfl, tm2 (i := 158) (by decide +kernel) rfl⟩
theorem cv_X4_29 : ev_CV RX4 29 1 M_X1_put 2 := ⟨ok_X1_put, ⟨_, _, rfl⟩, tm2 (i := 160) (by decide +kernel) rfl, tm2 (i := 161) (by decide +kernel) rfl, tm2 (i := 162) (by decide +kernel) rfl⟩
theorem cs_X4_45 : ev_CS RX4 45 M_J6_bitCount_0f7a4 1 := ⟨ok_J6_bitCount_0f7a4, tm3 (i := 57) (by decide +kernel) rfl, tm3 (i := 58) (by decide +kernel) rfl⟩
theorem cv_X4_51 : ev_CV RX4 51 2 M_X2_beside 2 := ⟨ok_X2_beside, ⟨_, _, rfl⟩, tm3 (i := 63) (by decide +kernel) rfl, tm3 (i := 64) (by decide +kernel) rfl, tm3 (i := 65) (by decide +kernel) rfl⟩
theorem ol_X5_1 : Cond.methodLink RX5 1 Lib.objectInit ∈ ev_tb := tm1 (i := 129) (by decide +kernel) rfl
theorem cv_X5_17 : ev_CV RX5 17 4 M_X5_has 2 := ⟨ok_X5_has, ⟨_, _, rfl⟩, tm4 (i := 13) (by decide +kernel) rfl, tm4 (i := 14) (by decide +kernel) rfl, tm4 (i := 15) (by decide +kernel) rfl⟩
theorem cv_X5_21 : ev_CV RX5 21 4 M_X5_makeRoomFor 1 := ⟨ok_X5_makeRoomFor, ⟨_, _, rfl⟩, tm4 (i := 3) (by decide +kernel) rfl, tm4 (i := 5) (by decide +kernel) rfl, tms (i := 9) (by decide +kernel) rfl⟩
theorem cs_X5_25 : ev_CSN RX5 25 M_X11_lowest 3 := ⟨ok_X11_lowest, ⟨"PriceBench", List.mem_filter.mpr ⟨tn4 (i := 8) (by decide +kernel), rfl⟩⟩, tm3 (i := 140) (by decide +kernel) rfl⟩
theorem al_X5_31 : Cond.methodLink RX5 31 arraycopyName ∈ ev_tb := tm4 (i := 80) (by decide +kernel) rfl
theorem cs_X5_37 : ev_CS RX5 37 M_J7_copyOf_59c91 2 := ⟨ok_J7_copyOf_59c91, tm4 (i := 7) (by decide +kernel) rfl, tm2 (i := 169) (by decide +kernel) rfl⟩
theorem ol_X6_3 : Cond.methodLink RX6 3 Lib.objectInit ∈ ev_tb := tm1 (i := 159) (by decide +kernel) rfl
theorem cs_X6_22 : ev_CS RX6 22 M_J7_fill_d0a16 2 := ⟨ok_J7_fill_d0a16, tm4 (i := 156) (by decide +kernel) rfl, tm4 (i := 157) (by decide +kernel) rfl⟩
theorem ci_X7_3 : ev_CI RX7 3 M_X3_init 2 := ⟨ok_X3_init, tm2 (i := 51) (by decide +kernel) rfl, tm2 (i := 52) (by decide +kernel) rfl, rfl, rfl⟩
theorem cu_X7_19_6 : ev_CU RX7 19 6 M_X3_outdate 0 := ⟨ok_X3_outdate, RX7, "PriceBench$Offer", ⟨"PriceBench$Told", "outdate", "()V"⟩, TX7, 8, rfl, tm2 (i := 220) (by decide +kernel) rfl, tm2 (i := 221) (by decide +kernel) rfl, tm2 (i := 223) (by decide +kernel) rfl, tm2 (i := 224) (by decide +kernel) rfl, ⟨by decide +kernel, by decide +kernel⟩, by decide +kernel, Or.inl rfl⟩
theorem cv_X7_32 : ev_CV RX7 32 1 M_X1_put 2 := ⟨ok_X1_put, ⟨_, _, rfl⟩, tm2 (i := 194) (by decide +kernel) rfl, tm2 (i := 161) (by decide +kernel) rfl, tm2 (i := 162) (by decide +kernel) rfl⟩
theorem ci_X8_3 : ev_CI RX8 3 M_X3_init 2 := ⟨ok_X3_init, tm2 (i := 235) (by decide +kernel) rfl, tm2 (i := 52) (by decide +kernel) rfl, rfl, rfl⟩
theorem cs_X8_18 : ev_CS RX8 18 M_X8_grow 6 := ⟨ok_X8_grow, tm2 (i := 199) (by decide +kernel) rfl, tm2 (i := 200) (by decide +kernel) rfl⟩
theorem cv_X8_26 : ev_CV RX8 26 1 M_X1_put 2 := ⟨ok_X1_put, ⟨_, _, rfl⟩, tm2 (i := 202) (by decide +kernel) rfl, tm2 (i := 161) (by decide +kernel) rfl, tm2 (i := 162) (by decide +kernel) rfl⟩
theorem cs_X8_39 : ev_CS RX8 39 M_X8_groupOf 2 := ⟨ok_X8_groupOf, tm2 (i := 203) (by decide +kernel) rfl, tm2 (i := 204) (by decide +kernel) rfl⟩
theorem cs_X8_46 : ev_CS RX8 46 M_X8_join 4 := ⟨ok_X8_join, tm2 (i := 206) (by decide +kernel) rfl, tm2 (i := 207) (by decide +kernel) rfl⟩
theorem cv_X8_50 : ev_CV RX8 50 2 M_X2_hangingWith 2 := ⟨ok_X2_hangingWith, ⟨_, _, rfl⟩, tm3 (i := 73) (by decide +kernel) rfl, tm3 (i := 74) (by decide +kernel) rfl, tm3 (i := 75) (by decide +kernel) rfl⟩
theorem ci_X9_3 : ev_CI RX9 3 M_X3_init 2 := ⟨ok_X3_init, tm3 (i := 12) (by decide +kernel) rfl, tm2 (i := 52) (by decide +kernel) rfl, rfl, rfl⟩
theorem cs_X9_23 : ev_CS RX9 23 M_X9_walk 6 := ⟨ok_X9_walk, tm2 (i := 212) (by decide +kernel) rfl, tm2 (i := 213) (by decide +kernel) rfl⟩
theorem cv_X9_31 : ev_CV RX9 31 1 M_X1_put 2 := ⟨ok_X1_put, ⟨_, _, rfl⟩, tm2 (i := 215) (by decide +kernel) rfl, tm2 (i := 161) (by decide +kernel) rfl, tm2 (i := 162) (by decide +kernel) rfl⟩
theorem cv_X9_47 : ev_CV RX9 47 2 M_X2_ledToFrom 1 := ⟨ok_X2_ledToFrom, ⟨_, _, rfl⟩, tm3 (i := 80) (by decide +kernel) rfl, tm3 (i := 81) (by decide +kernel) rfl, tm3 (i := 82) (by decide +kernel) rfl⟩
theorem kc_X8_17 : Cond.constant RX8 17 (1754760 : Int32) ∈ lw_tbl := tn2 (i := 198) (by decide +kernel)
theorem kc_J6_265 : Cond.constant RJ6 265 (1431655765 : Int32) ∈ lw_tbl := tn3 (i := 60) (by decide +kernel)
theorem kc_J6_266 : Cond.constant RJ6 266 (858993459 : Int32) ∈ lw_tbl := tn3 (i := 61) (by decide +kernel)
theorem kc_J6_267 : Cond.constant RJ6 267 (252645135 : Int32) ∈ lw_tbl := tn3 (i := 62) (by decide +kernel)
theorem kc_X11_177 : Cond.constantLong RX11 177 (-4611686018427387904 : Int64) ∈ lw_tbl := tn3 (i := 137) (by decide +kernel)
theorem kc_X11_289 : Cond.constant RX11 289 (-1000000 : Int32) ∈ lw_tbl := tn4 (i := 89) (by decide +kernel)
theorem kc_X11_290 : Cond.constant RX11 290 (1000000 : Int32) ∈ lw_tbl := tn4 (i := 90) (by decide +kernel)
theorem kc_X12_178 : Cond.constantLong RX12 178 (-4611686018427387904 : Int64) ∈ lw_tbl := tn5 (i := 207) (by decide +kernel)
theorem kc_X12_254 : Cond.constant RX12 254 (-1000000 : Int32) ∈ lw_tbl := tn6 (i := 78) (by decide +kernel)
theorem kc_X12_255 : Cond.constant RX12 255 (1000000 : Int32) ∈ lw_tbl := tn6 (i := 79) (by decide +kernel)
theorem kc_X12_256 : Cond.constantLong RX12 256 (-10000 : Int64) ∈ lw_tbl := tn6 (i := 88) (by decide +kernel)
theorem kc_X12_258 : Cond.constantLong RX12 258 (10000 : Int64) ∈ lw_tbl := tn6 (i := 89) (by decide +kernel)
theorem kc_X12_260 : Cond.constantLong RX12 260 (1000 : Int64) ∈ lw_tbl := tn6 (i := 90) (by decide +kernel)
end
