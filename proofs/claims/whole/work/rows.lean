section
-- ===== PART A: goes FIRST, ahead of the names: the tables' words, and 'selects' of the private methods out of them =====
/-- a private method of a class that the tables say can be made, by its rows of tables_1 -/
def lw_okq (q : MethodName × Nat) : Prop := (q.1.cls ≠ "java/lang/invoke/MethodHandle" ∧ q.1.cls ≠ "java/lang/invoke/VarHandle") ∧ Cond.instantiable q.1.cls q.2 ∈ tables_1 ∧ Cond.privateMethod q.1 ∈ tables_1 ∧ Cond.instanceMethod q.1 ∈ tables_1
theorem lw_p0 : lw_okq (⟨"PriceBench$Net", "changed", "(I)V"⟩, 11) := ⟨⟨by decide +kernel, by decide +kernel⟩, List.mem_of_getElem? (i := 27) (by decide +kernel), List.mem_of_getElem? (i := 207) (by decide +kernel), List.mem_of_getElem? (i := 208) (by decide +kernel)⟩
theorem lw_p1 : lw_okq (⟨"PriceBench", "someOfferNeeds", "(I)Z"⟩, 8) := ⟨⟨by decide +kernel, by decide +kernel⟩, List.mem_of_getElem? (i := 19) (by decide +kernel), List.mem_of_getElem? (i := 251) (by decide +kernel), List.mem_of_getElem? (i := 252) (by decide +kernel)⟩
theorem lw_p2 : lw_okq (⟨"PriceBench", "addOffer", "(LPriceBench$Offer;)I"⟩, 8) := ⟨⟨by decide +kernel, by decide +kernel⟩, List.mem_of_getElem? (i := 19) (by decide +kernel), List.mem_of_getElem? (i := 364) (by decide +kernel), List.mem_of_getElem? (i := 365) (by decide +kernel)⟩
theorem lw_p3 : lw_okq (⟨"PriceBench", "offerAt", "(I)LPriceBench$Offer;"⟩, 8) := ⟨⟨by decide +kernel, by decide +kernel⟩, List.mem_of_getElem? (i := 19) (by decide +kernel), List.mem_of_getElem? (i := 372) (by decide +kernel), List.mem_of_getElem? (i := 373) (by decide +kernel)⟩
theorem lw_p4 : lw_okq (⟨"PriceBench$Choices", "widen", "()V"⟩, 4) := ⟨⟨by decide +kernel, by decide +kernel⟩, List.mem_of_getElem? (i := 296) (by decide +kernel), List.mem_of_getElem? (i := 405) (by decide +kernel), List.mem_of_getElem? (i := 406) (by decide +kernel)⟩
theorem lw_p5 : lw_okq (⟨"PriceBench$Choices", "leadsAmongLike", "(III)Z"⟩, 4) := ⟨⟨by decide +kernel, by decide +kernel⟩, List.mem_of_getElem? (i := 296) (by decide +kernel), List.mem_of_getElem? (i := 641) (by decide +kernel), List.mem_of_getElem? (i := 642) (by decide +kernel)⟩
theorem lw_p6 : lw_okq (⟨"PriceBench", "offerWithChoices", "(I)LPriceBench$Offer;"⟩, 8) := ⟨⟨by decide +kernel, by decide +kernel⟩, List.mem_of_getElem? (i := 19) (by decide +kernel), List.mem_of_getElem? (i := 649) (by decide +kernel), List.mem_of_getElem? (i := 650) (by decide +kernel)⟩
theorem lw_p7 : lw_okq (⟨"PriceBench", "findTop", "(LPriceBench$Offer;)V"⟩, 8) := ⟨⟨by decide +kernel, by decide +kernel⟩, List.mem_of_getElem? (i := 19) (by decide +kernel), List.mem_of_getElem? (i := 690) (by decide +kernel), List.mem_of_getElem? (i := 691) (by decide +kernel)⟩
theorem lw_p8 : lw_okq (⟨"PriceBench$Choices", "meetsSooner", "(III)Z"⟩, 4) := ⟨⟨by decide +kernel, by decide +kernel⟩, List.mem_of_getElem? (i := 296) (by decide +kernel), List.mem_of_getElem? (i := 715) (by decide +kernel), List.mem_of_getElem? (i := 716) (by decide +kernel)⟩
theorem lw_p9 : lw_okq (⟨"PriceBench$Rows", "makeRoomFor", "(I)V"⟩, 2) := ⟨⟨by decide +kernel, by decide +kernel⟩, List.mem_of_getElem? (i := 125) (by decide +kernel), List.mem_of_getElem? (i := 724) (by decide +kernel), List.mem_of_getElem? (i := 725) (by decide +kernel)⟩
theorem lw_p10 : lw_okq (⟨"PriceBench", "isCalmer", "(LPriceBench$Choices;II)Z"⟩, 8) := ⟨⟨by decide +kernel, by decide +kernel⟩, List.mem_of_getElem? (i := 19) (by decide +kernel), List.mem_of_getElem? (i := 759) (by decide +kernel), List.mem_of_getElem? (i := 760) (by decide +kernel)⟩
theorem lw_p11 : lw_okq (⟨"PriceBench$Net", "isBetween", "(III)Z"⟩, 11) := ⟨⟨by decide +kernel, by decide +kernel⟩, List.mem_of_getElem? (i := 27) (by decide +kernel), List.mem_of_getElem? (i := 771) (by decide +kernel), List.mem_of_getElem? (i := 772) (by decide +kernel)⟩
theorem lw_p12 : lw_okq (⟨"PriceBench", "howWrong", "(LPriceBench$Choices;I)I"⟩, 8) := ⟨⟨by decide +kernel, by decide +kernel⟩, List.mem_of_getElem? (i := 19) (by decide +kernel), List.mem_of_getElem? (i := 820) (by decide +kernel), List.mem_of_getElem? (i := 821) (by decide +kernel)⟩
theorem lw_p13 : lw_okq (⟨"PriceBench$Acts", "note", "(I)V"⟩, 2) := ⟨⟨by decide +kernel, by decide +kernel⟩, List.mem_of_getElem? (i := 139) (by decide +kernel), List.mem_of_getElem? (i := 853) (by decide +kernel), List.mem_of_getElem? (i := 854) (by decide +kernel)⟩
theorem lw_p14 : lw_okq (⟨"PriceBench", "sheetAt", "(I)LPriceBench$Sheet;"⟩, 8) := ⟨⟨by decide +kernel, by decide +kernel⟩, List.mem_of_getElem? (i := 19) (by decide +kernel), List.mem_of_getElem? (i := 869) (by decide +kernel), List.mem_of_getElem? (i := 870) (by decide +kernel)⟩
theorem lw_p15 : lw_okq (⟨"PriceBenchModel", "things", "()I"⟩, 36) := ⟨⟨by decide +kernel, by decide +kernel⟩, List.mem_of_getElem? (i := 898) (by decide +kernel), List.mem_of_getElem? (i := 1017) (by decide +kernel), List.mem_of_getElem? (i := 1018) (by decide +kernel)⟩
def lw_privs_1 : List (MethodName × Nat) := [(⟨"PriceBench$Net", "changed", "(I)V"⟩, 11), (⟨"PriceBench", "someOfferNeeds", "(I)Z"⟩, 8), (⟨"PriceBench", "addOffer", "(LPriceBench$Offer;)I"⟩, 8), (⟨"PriceBench", "offerAt", "(I)LPriceBench$Offer;"⟩, 8), (⟨"PriceBench$Choices", "widen", "()V"⟩, 4), (⟨"PriceBench$Choices", "leadsAmongLike", "(III)Z"⟩, 4), (⟨"PriceBench", "offerWithChoices", "(I)LPriceBench$Offer;"⟩, 8), (⟨"PriceBench", "findTop", "(LPriceBench$Offer;)V"⟩, 8), (⟨"PriceBench$Choices", "meetsSooner", "(III)Z"⟩, 4), (⟨"PriceBench$Rows", "makeRoomFor", "(I)V"⟩, 2), (⟨"PriceBench", "isCalmer", "(LPriceBench$Choices;II)Z"⟩, 8), (⟨"PriceBench$Net", "isBetween", "(III)Z"⟩, 11), (⟨"PriceBench", "howWrong", "(LPriceBench$Choices;I)I"⟩, 8), (⟨"PriceBench$Acts", "note", "(I)V"⟩, 2), (⟨"PriceBench", "sheetAt", "(I)LPriceBench$Sheet;"⟩, 8), (⟨"PriceBenchModel", "things", "()I"⟩, 36)]
theorem lw_r1 : ∀ q ∈ lw_privs_1, lw_okq q := List.forall_mem_cons.mpr ⟨lw_p0, List.forall_mem_cons.mpr ⟨lw_p1, List.forall_mem_cons.mpr ⟨lw_p2, List.forall_mem_cons.mpr ⟨lw_p3, List.forall_mem_cons.mpr ⟨lw_p4, List.forall_mem_cons.mpr ⟨lw_p5, List.forall_mem_cons.mpr ⟨lw_p6, List.forall_mem_cons.mpr ⟨lw_p7, List.forall_mem_cons.mpr ⟨lw_p8, List.forall_mem_cons.mpr ⟨lw_p9, List.forall_mem_cons.mpr ⟨lw_p10, List.forall_mem_cons.mpr ⟨lw_p11, List.forall_mem_cons.mpr ⟨lw_p12, List.forall_mem_cons.mpr ⟨lw_p13, List.forall_mem_cons.mpr ⟨lw_p14, List.forall_mem_cons.mpr ⟨lw_p15, fun _ h => absurd h List.not_mem_nil⟩⟩⟩⟩⟩⟩⟩⟩⟩⟩⟩⟩⟩⟩⟩⟩
theorem lw_p16 : lw_okq (⟨"PriceBenchModel", "keeps", "()V"⟩, 36) := ⟨⟨by decide +kernel, by decide +kernel⟩, List.mem_of_getElem? (i := 898) (by decide +kernel), List.mem_of_getElem? (i := 1021) (by decide +kernel), List.mem_of_getElem? (i := 1022) (by decide +kernel)⟩
theorem lw_p17 : lw_okq (⟨"PriceBenchModel", "isThing", "(I)Z"⟩, 36) := ⟨⟨by decide +kernel, by decide +kernel⟩, List.mem_of_getElem? (i := 898) (by decide +kernel), List.mem_of_getElem? (i := 1029) (by decide +kernel), List.mem_of_getElem? (i := 1030) (by decide +kernel)⟩
theorem lw_p18 : lw_okq (⟨"PriceBenchModel", "lines", "()I"⟩, 36) := ⟨⟨by decide +kernel, by decide +kernel⟩, List.mem_of_getElem? (i := 898) (by decide +kernel), List.mem_of_getElem? (i := 1039) (by decide +kernel), List.mem_of_getElem? (i := 1040) (by decide +kernel)⟩
theorem lw_p19 : lw_okq (⟨"PriceBenchModel", "made", "(III)I"⟩, 36) := ⟨⟨by decide +kernel, by decide +kernel⟩, List.mem_of_getElem? (i := 898) (by decide +kernel), List.mem_of_getElem? (i := 1063) (by decide +kernel), List.mem_of_getElem? (i := 1064) (by decide +kernel)⟩
theorem lw_p20 : lw_okq (⟨"PriceBenchModel", "isOffer", "(I)Z"⟩, 36) := ⟨⟨by decide +kernel, by decide +kernel⟩, List.mem_of_getElem? (i := 898) (by decide +kernel), List.mem_of_getElem? (i := 1071) (by decide +kernel), List.mem_of_getElem? (i := 1072) (by decide +kernel)⟩
theorem lw_p21 : lw_okq (⟨"PriceBenchModel", "gathers", "(I)V"⟩, 36) := ⟨⟨by decide +kernel, by decide +kernel⟩, List.mem_of_getElem? (i := 898) (by decide +kernel), List.mem_of_getElem? (i := 1091) (by decide +kernel), List.mem_of_getElem? (i := 1092) (by decide +kernel)⟩
theorem lw_p22 : lw_okq (⟨"PriceBenchModel", "isChoice", "(II)Z"⟩, 36) := ⟨⟨by decide +kernel, by decide +kernel⟩, List.mem_of_getElem? (i := 898) (by decide +kernel), List.mem_of_getElem? (i := 1098) (by decide +kernel), List.mem_of_getElem? (i := 1099) (by decide +kernel)⟩
theorem lw_p23 : lw_okq (⟨"PriceBenchModel", "allLines", "()I"⟩, 36) := ⟨⟨by decide +kernel, by decide +kernel⟩, List.mem_of_getElem? (i := 898) (by decide +kernel), List.mem_of_getElem? (i := 1102) (by decide +kernel), List.mem_of_getElem? (i := 1103) (by decide +kernel)⟩
theorem lw_p24 : lw_okq (⟨"PriceBenchModel", "isTree", "(I)Z"⟩, 36) := ⟨⟨by decide +kernel, by decide +kernel⟩, List.mem_of_getElem? (i := 898) (by decide +kernel), List.mem_of_getElem? (i := 1106) (by decide +kernel), List.mem_of_getElem? (i := 1107) (by decide +kernel)⟩
theorem lw_p25 : lw_okq (⟨"PriceBenchModel", "reached", "(IIZ)I"⟩, 36) := ⟨⟨by decide +kernel, by decide +kernel⟩, List.mem_of_getElem? (i := 898) (by decide +kernel), List.mem_of_getElem? (i := 1113) (by decide +kernel), List.mem_of_getElem? (i := 1114) (by decide +kernel)⟩
theorem lw_p26 : lw_okq (⟨"PriceBenchModel", "from", "(I)I"⟩, 36) := ⟨⟨by decide +kernel, by decide +kernel⟩, List.mem_of_getElem? (i := 898) (by decide +kernel), List.mem_of_getElem? (i := 1117) (by decide +kernel), List.mem_of_getElem? (i := 1118) (by decide +kernel)⟩
theorem lw_p27 : lw_okq (⟨"PriceBenchModel", "to", "(I)I"⟩, 36) := ⟨⟨by decide +kernel, by decide +kernel⟩, List.mem_of_getElem? (i := 898) (by decide +kernel), List.mem_of_getElem? (i := 1121) (by decide +kernel), List.mem_of_getElem? (i := 1122) (by decide +kernel)⟩
theorem lw_p28 : lw_okq (⟨"PriceBenchModel", "allThings", "()I"⟩, 36) := ⟨⟨by decide +kernel, by decide +kernel⟩, List.mem_of_getElem? (i := 898) (by decide +kernel), List.mem_of_getElem? (i := 1125) (by decide +kernel), List.mem_of_getElem? (i := 1126) (by decide +kernel)⟩
theorem lw_p29 : lw_okq (⟨"PriceBenchModel", "isWay", "(III)Z"⟩, 36) := ⟨⟨by decide +kernel, by decide +kernel⟩, List.mem_of_getElem? (i := 898) (by decide +kernel), List.mem_of_getElem? (i := 1129) (by decide +kernel), List.mem_of_getElem? (i := 1130) (by decide +kernel)⟩
theorem lw_p30 : lw_okq (⟨"PriceBenchModel", "isPairing", "(II)Z"⟩, 36) := ⟨⟨by decide +kernel, by decide +kernel⟩, List.mem_of_getElem? (i := 898) (by decide +kernel), List.mem_of_getElem? (i := 1133) (by decide +kernel), List.mem_of_getElem? (i := 1134) (by decide +kernel)⟩
theorem lw_p31 : lw_okq (⟨"PriceBenchModel", "isTold", "(II)Z"⟩, 36) := ⟨⟨by decide +kernel, by decide +kernel⟩, List.mem_of_getElem? (i := 898) (by decide +kernel), List.mem_of_getElem? (i := 1137) (by decide +kernel), List.mem_of_getElem? (i := 1138) (by decide +kernel)⟩
def lw_privs_2 : List (MethodName × Nat) := [(⟨"PriceBenchModel", "keeps", "()V"⟩, 36), (⟨"PriceBenchModel", "isThing", "(I)Z"⟩, 36), (⟨"PriceBenchModel", "lines", "()I"⟩, 36), (⟨"PriceBenchModel", "made", "(III)I"⟩, 36), (⟨"PriceBenchModel", "isOffer", "(I)Z"⟩, 36), (⟨"PriceBenchModel", "gathers", "(I)V"⟩, 36), (⟨"PriceBenchModel", "isChoice", "(II)Z"⟩, 36), (⟨"PriceBenchModel", "allLines", "()I"⟩, 36), (⟨"PriceBenchModel", "isTree", "(I)Z"⟩, 36), (⟨"PriceBenchModel", "reached", "(IIZ)I"⟩, 36), (⟨"PriceBenchModel", "from", "(I)I"⟩, 36), (⟨"PriceBenchModel", "to", "(I)I"⟩, 36), (⟨"PriceBenchModel", "allThings", "()I"⟩, 36), (⟨"PriceBenchModel", "isWay", "(III)Z"⟩, 36), (⟨"PriceBenchModel", "isPairing", "(II)Z"⟩, 36), (⟨"PriceBenchModel", "isTold", "(II)Z"⟩, 36)]
theorem lw_r2 : ∀ q ∈ lw_privs_2, lw_okq q := List.forall_mem_cons.mpr ⟨lw_p16, List.forall_mem_cons.mpr ⟨lw_p17, List.forall_mem_cons.mpr ⟨lw_p18, List.forall_mem_cons.mpr ⟨lw_p19, List.forall_mem_cons.mpr ⟨lw_p20, List.forall_mem_cons.mpr ⟨lw_p21, List.forall_mem_cons.mpr ⟨lw_p22, List.forall_mem_cons.mpr ⟨lw_p23, List.forall_mem_cons.mpr ⟨lw_p24, List.forall_mem_cons.mpr ⟨lw_p25, List.forall_mem_cons.mpr ⟨lw_p26, List.forall_mem_cons.mpr ⟨lw_p27, List.forall_mem_cons.mpr ⟨lw_p28, List.forall_mem_cons.mpr ⟨lw_p29, List.forall_mem_cons.mpr ⟨lw_p30, List.forall_mem_cons.mpr ⟨lw_p31, fun _ h => absurd h List.not_mem_nil⟩⟩⟩⟩⟩⟩⟩⟩⟩⟩⟩⟩⟩⟩⟩⟩
theorem lw_p32 : lw_okq (⟨"PriceBenchModel", "startOf", "(I)I"⟩, 36) := ⟨⟨by decide +kernel, by decide +kernel⟩, List.mem_of_getElem? (i := 898) (by decide +kernel), List.mem_of_getElem? (i := 1141) (by decide +kernel), List.mem_of_getElem? (i := 1142) (by decide +kernel)⟩
theorem lw_p33 : lw_okq (⟨"PriceBenchModel", "riseOf", "(I)I"⟩, 36) := ⟨⟨by decide +kernel, by decide +kernel⟩, List.mem_of_getElem? (i := 898) (by decide +kernel), List.mem_of_getElem? (i := 1145) (by decide +kernel), List.mem_of_getElem? (i := 1146) (by decide +kernel)⟩
theorem lw_p34 : lw_okq (⟨"PriceBenchModel", "barsOf", "(I)I"⟩, 36) := ⟨⟨by decide +kernel, by decide +kernel⟩, List.mem_of_getElem? (i := 898) (by decide +kernel), List.mem_of_getElem? (i := 1149) (by decide +kernel), List.mem_of_getElem? (i := 1150) (by decide +kernel)⟩
theorem lw_p35 : lw_okq (⟨"PriceBenchModel", "beside", "(I)I"⟩, 36) := ⟨⟨by decide +kernel, by decide +kernel⟩, List.mem_of_getElem? (i := 898) (by decide +kernel), List.mem_of_getElem? (i := 1153) (by decide +kernel), List.mem_of_getElem? (i := 1154) (by decide +kernel)⟩
theorem lw_p36 : lw_okq (⟨"PriceBenchModel", "bestAt", "(JJI)I"⟩, 36) := ⟨⟨by decide +kernel, by decide +kernel⟩, List.mem_of_getElem? (i := 898) (by decide +kernel), List.mem_of_getElem? (i := 1179) (by decide +kernel), List.mem_of_getElem? (i := 1180) (by decide +kernel)⟩
theorem lw_p37 : lw_okq (⟨"PriceBenchModel", "leastAt", "(JJ)J"⟩, 36) := ⟨⟨by decide +kernel, by decide +kernel⟩, List.mem_of_getElem? (i := 898) (by decide +kernel), List.mem_of_getElem? (i := 1183) (by decide +kernel), List.mem_of_getElem? (i := 1184) (by decide +kernel)⟩
theorem lw_p38 : lw_okq (⟨"PriceBenchModel", "costAt", "(IJJ)J"⟩, 36) := ⟨⟨by decide +kernel, by decide +kernel⟩, List.mem_of_getElem? (i := 898) (by decide +kernel), List.mem_of_getElem? (i := 1187) (by decide +kernel), List.mem_of_getElem? (i := 1188) (by decide +kernel)⟩
theorem lw_p39 : lw_okq (⟨"PriceBenchModel", "prepares", "(I)Z"⟩, 36) := ⟨⟨by decide +kernel, by decide +kernel⟩, List.mem_of_getElem? (i := 898) (by decide +kernel), List.mem_of_getElem? (i := 1203) (by decide +kernel), List.mem_of_getElem? (i := 1204) (by decide +kernel)⟩
theorem lw_p40 : lw_okq (⟨"PriceBenchModel", "walks", "()V"⟩, 36) := ⟨⟨by decide +kernel, by decide +kernel⟩, List.mem_of_getElem? (i := 898) (by decide +kernel), List.mem_of_getElem? (i := 1207) (by decide +kernel), List.mem_of_getElem? (i := 1208) (by decide +kernel)⟩
theorem lw_p41 : lw_okq (⟨"PriceBenchModel", "point", "(JJ)V"⟩, 36) := ⟨⟨by decide +kernel, by decide +kernel⟩, List.mem_of_getElem? (i := 898) (by decide +kernel), List.mem_of_getElem? (i := 1211) (by decide +kernel), List.mem_of_getElem? (i := 1212) (by decide +kernel)⟩
theorem lw_p42 : lw_okq (⟨"PriceBenchModel", "bendOf", "(II)J"⟩, 36) := ⟨⟨by decide +kernel, by decide +kernel⟩, List.mem_of_getElem? (i := 898) (by decide +kernel), List.mem_of_getElem? (i := 1219) (by decide +kernel), List.mem_of_getElem? (i := 1220) (by decide +kernel)⟩
theorem lw_p43 : lw_okq (⟨"PriceBenchModel", "placeOf", "(I)I"⟩, 36) := ⟨⟨by decide +kernel, by decide +kernel⟩, List.mem_of_getElem? (i := 898) (by decide +kernel), List.mem_of_getElem? (i := 1227) (by decide +kernel), List.mem_of_getElem? (i := 1228) (by decide +kernel)⟩
theorem lw_p44 : lw_okq (⟨"PriceBenchModel", "spans", "(I)Z"⟩, 36) := ⟨⟨by decide +kernel, by decide +kernel⟩, List.mem_of_getElem? (i := 898) (by decide +kernel), List.mem_of_getElem? (i := 1231) (by decide +kernel), List.mem_of_getElem? (i := 1232) (by decide +kernel)⟩
theorem lw_p45 : lw_okq (⟨"PriceBenchModel", "regrets", "(I)V"⟩, 36) := ⟨⟨by decide +kernel, by decide +kernel⟩, List.mem_of_getElem? (i := 898) (by decide +kernel), List.mem_of_getElem? (i := 1247) (by decide +kernel), List.mem_of_getElem? (i := 1248) (by decide +kernel)⟩
theorem lw_p46 : lw_okq (⟨"PriceBenchModel", "dearest", "(IIII)I"⟩, 36) := ⟨⟨by decide +kernel, by decide +kernel⟩, List.mem_of_getElem? (i := 898) (by decide +kernel), List.mem_of_getElem? (i := 1259) (by decide +kernel), List.mem_of_getElem? (i := 1260) (by decide +kernel)⟩
theorem lw_p47 : lw_okq (⟨"PriceBenchModel", "lineCost", "(III)J"⟩, 36) := ⟨⟨by decide +kernel, by decide +kernel⟩, List.mem_of_getElem? (i := 898) (by decide +kernel), List.mem_of_getElem? (i := 1263) (by decide +kernel), List.mem_of_getElem? (i := 1264) (by decide +kernel)⟩
def lw_privs_3 : List (MethodName × Nat) := [(⟨"PriceBenchModel", "startOf", "(I)I"⟩, 36), (⟨"PriceBenchModel", "riseOf", "(I)I"⟩, 36), (⟨"PriceBenchModel", "barsOf", "(I)I"⟩, 36), (⟨"PriceBenchModel", "beside", "(I)I"⟩, 36), (⟨"PriceBenchModel", "bestAt", "(JJI)I"⟩, 36), (⟨"PriceBenchModel", "leastAt", "(JJ)J"⟩, 36), (⟨"PriceBenchModel", "costAt", "(IJJ)J"⟩, 36), (⟨"PriceBenchModel", "prepares", "(I)Z"⟩, 36), (⟨"PriceBenchModel", "walks", "()V"⟩, 36), (⟨"PriceBenchModel", "point", "(JJ)V"⟩, 36), (⟨"PriceBenchModel", "bendOf", "(II)J"⟩, 36), (⟨"PriceBenchModel", "placeOf", "(I)I"⟩, 36), (⟨"PriceBenchModel", "spans", "(I)Z"⟩, 36), (⟨"PriceBenchModel", "regrets", "(I)V"⟩, 36), (⟨"PriceBenchModel", "dearest", "(IIII)I"⟩, 36), (⟨"PriceBenchModel", "lineCost", "(III)J"⟩, 36)]
theorem lw_r3 : ∀ q ∈ lw_privs_3, lw_okq q := List.forall_mem_cons.mpr ⟨lw_p32, List.forall_mem_cons.mpr ⟨lw_p33, List.forall_mem_cons.mpr ⟨lw_p34, List.forall_mem_cons.mpr ⟨lw_p35, List.forall_mem_cons.mpr ⟨lw_p36, List.forall_mem_cons.mpr ⟨lw_p37, List.forall_mem_cons.mpr ⟨lw_p38, List.forall_mem_cons.mpr ⟨lw_p39, List.forall_mem_cons.mpr ⟨lw_p40, List.forall_mem_cons.mpr ⟨lw_p41, List.forall_mem_cons.mpr ⟨lw_p42, List.forall_mem_cons.mpr ⟨lw_p43, List.forall_mem_cons.mpr ⟨lw_p44, List.forall_mem_cons.mpr ⟨lw_p45, List.forall_mem_cons.mpr ⟨lw_p46, List.forall_mem_cons.mpr ⟨lw_p47, fun _ h => absurd h List.not_mem_nil⟩⟩⟩⟩⟩⟩⟩⟩⟩⟩⟩⟩⟩⟩⟩⟩
theorem lw_p48 : lw_okq (⟨"PriceBenchModel", "wrong", "(I)I"⟩, 36) := ⟨⟨by decide +kernel, by decide +kernel⟩, List.mem_of_getElem? (i := 898) (by decide +kernel), List.mem_of_getElem? (i := 1285) (by decide +kernel), List.mem_of_getElem? (i := 1286) (by decide +kernel)⟩
theorem lw_p49 : lw_okq (⟨"PriceBenchModel", "asks", "(II)I"⟩, 36) := ⟨⟨by decide +kernel, by decide +kernel⟩, List.mem_of_getElem? (i := 898) (by decide +kernel), List.mem_of_getElem? (i := 1296) (by decide +kernel), List.mem_of_getElem? (i := 1297) (by decide +kernel)⟩
theorem lw_p50 : lw_okq (⟨"PriceBenchModel", "treeAsks", "(II)I"⟩, 36) := ⟨⟨by decide +kernel, by decide +kernel⟩, List.mem_of_getElem? (i := 898) (by decide +kernel), List.mem_of_getElem? (i := 1300) (by decide +kernel), List.mem_of_getElem? (i := 1301) (by decide +kernel)⟩
theorem lw_p51 : lw_okq (⟨"PriceBenchModel", "ran", "(I)V"⟩, 36) := ⟨⟨by decide +kernel, by decide +kernel⟩, List.mem_of_getElem? (i := 898) (by decide +kernel), List.mem_of_getElem? (i := 1304) (by decide +kernel), List.mem_of_getElem? (i := 1305) (by decide +kernel)⟩
theorem lw_p52 : lw_okq (⟨"PriceBenchModel", "shows", "(II)I"⟩, 36) := ⟨⟨by decide +kernel, by decide +kernel⟩, List.mem_of_getElem? (i := 898) (by decide +kernel), List.mem_of_getElem? (i := 1308) (by decide +kernel), List.mem_of_getElem? (i := 1309) (by decide +kernel)⟩
theorem lw_p53 : lw_okq (⟨"PriceBenchModel", "toldShows", "(II)I"⟩, 36) := ⟨⟨by decide +kernel, by decide +kernel⟩, List.mem_of_getElem? (i := 898) (by decide +kernel), List.mem_of_getElem? (i := 1312) (by decide +kernel), List.mem_of_getElem? (i := 1313) (by decide +kernel)⟩
theorem lw_p54 : lw_okq (⟨"PriceBenchModel", "turns", "(II)I"⟩, 36) := ⟨⟨by decide +kernel, by decide +kernel⟩, List.mem_of_getElem? (i := 898) (by decide +kernel), List.mem_of_getElem? (i := 1316) (by decide +kernel), List.mem_of_getElem? (i := 1317) (by decide +kernel)⟩
theorem lw_p55 : lw_okq (⟨"PriceBenchModel", "toldTurns", "(II)I"⟩, 36) := ⟨⟨by decide +kernel, by decide +kernel⟩, List.mem_of_getElem? (i := 898) (by decide +kernel), List.mem_of_getElem? (i := 1320) (by decide +kernel), List.mem_of_getElem? (i := 1321) (by decide +kernel)⟩
def lw_privs_4 : List (MethodName × Nat) := [(⟨"PriceBenchModel", "wrong", "(I)I"⟩, 36), (⟨"PriceBenchModel", "asks", "(II)I"⟩, 36), (⟨"PriceBenchModel", "treeAsks", "(II)I"⟩, 36), (⟨"PriceBenchModel", "ran", "(I)V"⟩, 36), (⟨"PriceBenchModel", "shows", "(II)I"⟩, 36), (⟨"PriceBenchModel", "toldShows", "(II)I"⟩, 36), (⟨"PriceBenchModel", "turns", "(II)I"⟩, 36), (⟨"PriceBenchModel", "toldTurns", "(II)I"⟩, 36)]
theorem lw_r4 : ∀ q ∈ lw_privs_4, lw_okq q := List.forall_mem_cons.mpr ⟨lw_p48, List.forall_mem_cons.mpr ⟨lw_p49, List.forall_mem_cons.mpr ⟨lw_p50, List.forall_mem_cons.mpr ⟨lw_p51, List.forall_mem_cons.mpr ⟨lw_p52, List.forall_mem_cons.mpr ⟨lw_p53, List.forall_mem_cons.mpr ⟨lw_p54, List.forall_mem_cons.mpr ⟨lw_p55, fun _ h => absurd h List.not_mem_nil⟩⟩⟩⟩⟩⟩⟩⟩
def lw_privs : List (MethodName × Nat) := lw_privs_1 ++ (lw_privs_2 ++ (lw_privs_3 ++ (lw_privs_4)))
def lw_tbl : List Cond := k2_sels lw_privs ++ tables_1
theorem lw_privs_ok : ∀ q ∈ lw_privs, lw_okq q := by
  show ∀ q ∈ lw_privs_1 ++ (lw_privs_2 ++ (lw_privs_3 ++ (lw_privs_4))), lw_okq q
  exact List.forall_mem_append.mpr ⟨lw_r1, List.forall_mem_append.mpr ⟨lw_r2, List.forall_mem_append.mpr ⟨lw_r3, lw_r4⟩⟩⟩
end
section
/-! ===== BEGIN words of one list among another's, by their places ===== -/
theorem goodIn_r {big : List Cond} (ws : List Cond) (ps : List Nat) (hp : ws = ps.filterMap (fun i => big[i]?)) (h : ws.all goodWord = true) : GoodIn big ws := by
  intro w hw
  have h1 := List.all_eq_true.mp h w hw
  rw [hp] at hw
  obtain ⟨i, -, hi⟩ := List.mem_filterMap.mp hw
  have hm : w ∈ big := by first | exact List.mem_of_getElem? hi | exact List.getElem?_mem hi
  exact ⟨hm, good_of_word h1⟩
theorem goodIn_app {big a b : List Cond} (ha : GoodIn big a) (hb : GoodIn big b) : GoodIn big (a ++ b) := fun w h => (List.mem_append.mp h).elim (ha w) (hb w)
theorem goodIn_ca {big a b : List Cond} {c : Cond} (ha : GoodIn big (c :: a)) (hb : GoodIn big b) : GoodIn big (c :: (a ++ b)) := fun w h => (List.mem_cons.mp h).elim (fun e => ha w (List.mem_cons.mpr (Or.inl e))) (fun h => (List.mem_append.mp h).elim (fun h => ha w (List.mem_cons.mpr (Or.inr h))) (hb w))
theorem goodIn_sub {big ws : List Cond} (hm : ∀ w ∈ ws, w ∈ big) (h : ws.all goodWord = true) : GoodIn big ws := fun w hw => ⟨hm w hw, good_of_word (List.all_eq_true.mp h w hw)⟩
/-! ===== END ===== -/

/-! ===== BEGIN printed: names, fields, word lists, decode rows ===== -/
def RX0 : String := "PriceBench$Acts"
def TX0 : u_T := fun k => match k with
  | 0 => ("PriceBench$Acts", "kept", "[I", true)
  | _ => ("PriceBench$Acts", "ran", "I", false)
def tyX0 : Nat → FieldType := fun k => match k with
  | 0 => .array .int
  | _ => .int
abbrev wsX00 : List Cond := u_ws RX0 TX0 2
theorem nmX0 : ∀ a, a < 2 → ∀ b, b < 2 → a ≠ b → (TX0 a).2.1 ≠ (TX0 b).2.1 := by decide +kernel
theorem tyX0_ok : ∀ k, k < 2 → parseFieldDescriptor (TX0 k).2.2.1 = some (tyX0 k) := by decide +kernel
abbrev cX0_init : ByteArray := prog_2_method_1_code
def yX0_init : MethodName := ⟨RX0, "<init>", "()V"⟩
abbrev cX0_isUnder : ByteArray := prog_2_method_2_code
def yX0_isUnder : MethodName := ⟨RX0, "isUnder", "(II)Z"⟩
abbrev cX0_kindAbove : ByteArray := prog_2_method_3_code
def yX0_kindAbove : MethodName := ⟨RX0, "kindAbove", "(I)I"⟩
abbrev cX0_forget : ByteArray := prog_2_method_4_code
def yX0_forget : MethodName := ⟨RX0, "forget", "()V"⟩
abbrev cX0_start : ByteArray := prog_2_method_5_code
def yX0_start : MethodName := ⟨RX0, "start", "(LPriceBench$Offer;II)I"⟩
abbrev cX0_play : ByteArray := prog_2_method_6_code
def yX0_play : MethodName := ⟨RX0, "play", "(LPriceBench$Acts;LPriceBench$Offer;IIII)I"⟩
abbrev cX0_kindWithBody : ByteArray := prog_2_method_7_code
def yX0_kindWithBody : MethodName := ⟨RX0, "kindWithBody", "(II)I"⟩
abbrev cX0_note : ByteArray := prog_2_method_8_code
def yX0_note : MethodName := ⟨RX0, "note", "(I)V"⟩
def RX1 : String := "PriceBench$Choices"
def TX1 : u_T := fun k => match k with
  | 0 => ("PriceBench$Choices", "sets", "[I", false)
  | 1 => ("PriceBench$Choices", "starts", "[I", false)
  | 2 => ("PriceBench$Choices", "rises", "[I", false)
  | _ => ("PriceBench$Choices", "many", "I", false)
def tyX1 : Nat → FieldType := fun k => match k with
  | 0 => .array .int
  | 1 => .array .int
  | 2 => .array .int
  | _ => .int
abbrev wsX10 : List Cond := u_ws RX1 TX1 4
theorem nmX1 : ∀ a, a < 4 → ∀ b, b < 4 → a ≠ b → (TX1 a).2.1 ≠ (TX1 b).2.1 := by decide +kernel
theorem tyX1_ok : ∀ k, k < 4 → parseFieldDescriptor (TX1 k).2.2.1 = some (tyX1 k) := by decide +kernel
abbrev cX1_init : ByteArray := prog_3_method_1_code
def yX1_init : MethodName := ⟨RX1, "<init>", "()V"⟩
abbrev cX1_clear : ByteArray := prog_3_method_2_code
def yX1_clear : MethodName := ⟨RX1, "clear", "()V"⟩
abbrev cX1_put : ByteArray := prog_3_method_3_code
def yX1_put : MethodName := ⟨RX1, "put", "(LPriceBench$Net;I)V"⟩
abbrev cX1_widen : ByteArray := prog_3_method_4_code
def yX1_widen : MethodName := ⟨RX1, "widen", "()V"⟩
abbrev cX1_comesAhead : ByteArray := prog_3_method_5_code
def yX1_comesAhead : MethodName := ⟨RX1, "comesAhead", "(II)Z"⟩
abbrev cX1_placeOf : ByteArray := prog_3_method_6_code
def yX1_placeOf : MethodName := ⟨RX1, "placeOf", "(I)I"⟩
abbrev cX1_costAt : ByteArray := prog_3_method_7_code
def yX1_costAt : MethodName := ⟨RX1, "costAt", "(III)J"⟩
abbrev cX1_cheapestAt : ByteArray := prog_3_method_8_code
def yX1_cheapestAt : MethodName := ⟨RX1, "cheapestAt", "(III)I"⟩
abbrev cX1_leadsAmongLike : ByteArray := prog_3_method_9_code
def yX1_leadsAmongLike : MethodName := ⟨RX1, "leadsAmongLike", "(III)Z"⟩
abbrev cX1_leastAt : ByteArray := prog_3_method_10_code
def yX1_leastAt : MethodName := ⟨RX1, "leastAt", "(II)J"⟩
abbrev cX1_nextAbove : ByteArray := prog_3_method_11_code
def yX1_nextAbove : MethodName := ⟨RX1, "nextAbove", "(I)I"⟩
abbrev cX1_meetsSooner : ByteArray := prog_3_method_12_code
def yX1_meetsSooner : MethodName := ⟨RX1, "meetsSooner", "(III)Z"⟩
abbrev cX1_findSpan : ByteArray := prog_3_method_13_code
def yX1_findSpan : MethodName := ⟨RX1, "findSpan", "(I[J)Z"⟩
abbrev cX1_leastRatio : ByteArray := prog_3_method_14_code
def yX1_leastRatio : MethodName := ⟨RX1, "leastRatio", "()I"⟩
abbrev cX1_findRegret : ByteArray := prog_3_method_15_code
def yX1_findRegret : MethodName := ⟨RX1, "findRegret", "(ILPriceBench$Window;[J)V"⟩
def RX2 : String := "PriceBench$Net"
def TX2 : u_T := fun k => match k with
  | 0 => ("PriceBench$Net", "from", "[I", true)
  | 1 => ("PriceBench$Net", "to", "[I", true)
  | 2 => ("PriceBench$Net", "start", "[I", true)
  | 3 => ("PriceBench$Net", "rise", "[I", true)
  | 4 => ("PriceBench$Net", "things", "I", false)
  | 5 => ("PriceBench$Net", "lines", "I", false)
  | 6 => ("PriceBench$Net", "latest", "I", false)
  | 7 => ("PriceBench$Net", "stamp", "I", false)
  | 8 => ("PriceBench$Net", "alteredLine", "I", false)
  | 9 => ("PriceBench$Net", "startBefore", "I", false)
  | _ => ("PriceBench$Net", "riseBefore", "I", false)
def tyX2 : Nat → FieldType := fun k => match k with
  | 0 => .array .int
  | 1 => .array .int
  | 2 => .array .int
  | 3 => .array .int
  | 4 => .int
  | 5 => .int
  | 6 => .int
  | 7 => .int
  | 8 => .int
  | 9 => .int
  | _ => .int
abbrev wsX20 : List Cond := u_ws RX2 TX2 11
theorem nmX2 : ∀ a, a < 11 → ∀ b, b < 11 → a ≠ b → (TX2 a).2.1 ≠ (TX2 b).2.1 := by decide +kernel
theorem tyX2_ok : ∀ k, k < 11 → parseFieldDescriptor (TX2 k).2.2.1 = some (tyX2 k) := by decide +kernel
abbrev cX2_init : ByteArray := prog_4_method_1_code
def yX2_init : MethodName := ⟨RX2, "<init>", "()V"⟩
abbrev cX2_isThing : ByteArray := prog_4_method_2_code
def yX2_isThing : MethodName := ⟨RX2, "isThing", "(I)Z"⟩
abbrev cX2_isLine : ByteArray := prog_4_method_3_code
def yX2_isLine : MethodName := ⟨RX2, "isLine", "(I)Z"⟩
abbrev cX2_allThings : ByteArray := prog_4_method_4_code
def yX2_allThings : MethodName := ⟨RX2, "allThings", "()I"⟩
abbrev cX2_addThing : ByteArray := prog_4_method_5_code
def yX2_addThing : MethodName := ⟨RX2, "addThing", "()I"⟩
abbrev cX2_addLine : ByteArray := prog_4_method_6_code
def yX2_addLine : MethodName := ⟨RX2, "addLine", "(IIII)I"⟩
abbrev cX2_changeLine : ByteArray := prog_4_method_7_code
def yX2_changeLine : MethodName := ⟨RX2, "changeLine", "(III)V"⟩
abbrev cX2_dropLine : ByteArray := prog_4_method_8_code
def yX2_dropLine : MethodName := ⟨RX2, "dropLine", "()I"⟩
abbrev cX2_stepBack : ByteArray := prog_4_method_9_code
def yX2_stepBack : MethodName := ⟨RX2, "stepBack", "()V"⟩
abbrev cX2_changed : ByteArray := prog_4_method_10_code
def yX2_changed : MethodName := ⟨RX2, "changed", "(I)V"⟩
abbrev cX2_numberOf : ByteArray := prog_4_method_11_code
def yX2_numberOf : MethodName := ⟨RX2, "numberOf", "(II)I"⟩
abbrev cX2_sumOver : ByteArray := prog_4_method_12_code
def yX2_sumOver : MethodName := ⟨RX2, "sumOver", "([II)I"⟩
abbrev cX2_lineCost : ByteArray := prog_4_method_13_code
def yX2_lineCost : MethodName := ⟨RX2, "lineCost", "(III)J"⟩
abbrev cX2_hangingWith : ByteArray := prog_4_method_14_code
def yX2_hangingWith : MethodName := ⟨RX2, "hangingWith", "(II)I"⟩
abbrev cX2_ledToFrom : ByteArray := prog_4_method_15_code
def yX2_ledToFrom : MethodName := ⟨RX2, "ledToFrom", "(I)I"⟩
abbrev cX2_beside : ByteArray := prog_4_method_16_code
def yX2_beside : MethodName := ⟨RX2, "beside", "(II)I"⟩
abbrev cX2_dearestBetween : ByteArray := prog_4_method_17_code
def yX2_dearestBetween : MethodName := ⟨RX2, "dearestBetween", "(IIII)I"⟩
abbrev cX2_isBetween : ByteArray := prog_4_method_18_code
def yX2_isBetween : MethodName := ⟨RX2, "isBetween", "(III)Z"⟩
def RX3 : String := "PriceBench$Offer"
def TX3 : u_T := fun k => match k with
  | _ => ("", "", "", false)
def tyX3 : Nat → FieldType := fun k => match k with
  | _ => .int
abbrev wsX30 : List Cond := u_ws RX3 TX3 0
theorem nmX3 : ∀ a, a < 0 → ∀ b, b < 0 → a ≠ b → (TX3 a).2.1 ≠ (TX3 b).2.1 := by decide +kernel
theorem tyX3_ok : ∀ k, k < 0 → parseFieldDescriptor (TX3 k).2.2.1 = some (tyX3 k) := by decide +kernel
abbrev cX3_init : ByteArray := prog_5_method_1_code
def yX3_init : MethodName := ⟨RX3, "<init>", "(II)V"⟩
abbrev cX3_renewChoices : ByteArray := prog_5_method_7_code
def yX3_renewChoices : MethodName := ⟨RX3, "renewChoices", "(LPriceBench$Net;)V"⟩
abbrev cX3_outdate : ByteArray := prog_5_method_8_code
def yX3_outdate : MethodName := ⟨RX3, "outdate", "()V"⟩
abbrev cX3_bendsIn : ByteArray := prog_5_method_9_code
def yX3_bendsIn : MethodName := ⟨RX3, "bendsIn", "(LPriceBench$Window;)LPriceBench$Rows;"⟩
abbrev cX3_findBends : ByteArray := prog_5_method_10_code
def yX3_findBends : MethodName := ⟨RX3, "findBends", "(LPriceBench$Window;)V"⟩
def RX4 : String := "PriceBench$Pairing"
def TX4 : u_T := fun k => match k with
  | 0 => ("PriceBench$Offer", "number", "I", true)
  | 1 => ("PriceBench$Offer", "kind", "I", true)
  | 2 => ("PriceBench$Offer", "choices", "LPriceBench$Choices;", true)
  | 3 => ("PriceBench$Offer", "bends", "LPriceBench$Rows;", true)
  | 4 => ("PriceBench$Offer", "choicesStamp", "I", false)
  | 5 => ("PriceBench$Offer", "bendsStamp", "I", false)
  | _ => ("PriceBench$Pairing", "side", "I", true)
def tyX4 : Nat → FieldType := fun k => match k with
  | 0 => .int
  | 1 => .int
  | 2 => .object "PriceBench$Choices"
  | 3 => .object "PriceBench$Rows"
  | 4 => .int
  | 5 => .int
  | _ => .int
abbrev wsX40 : List Cond := u_ws RX4 TX4 7
theorem nmX4 : ∀ a, a < 7 → ∀ b, b < 7 → a ≠ b → (TX4 a).2.1 ≠ (TX4 b).2.1 := by decide +kernel
theorem tyX4_ok : ∀ k, k < 7 → parseFieldDescriptor (TX4 k).2.2.1 = some (tyX4 k) := by decide +kernel
abbrev cX4_init : ByteArray := prog_6_method_1_code
def yX4_init : MethodName := ⟨RX4, "<init>", "(II)V"⟩
abbrev cX4_gather : ByteArray := prog_6_method_2_code
def yX4_gather : MethodName := ⟨RX4, "gather", "(LPriceBench$Net;)V"⟩
abbrev cX4_pair : ByteArray := prog_6_method_3_code
def yX4_pair : MethodName := ⟨RX4, "pair", "(LPriceBench$Pairing;LPriceBench$Net;III)V"⟩
abbrev cX4_barsIn : ByteArray := prog_6_method_4_code
def yX4_barsIn : MethodName := ⟨RX4, "barsIn", "(LPriceBench$Net;)I"⟩
abbrev cX4_needs : ByteArray := prog_6_method_5_code
def yX4_needs : MethodName := ⟨RX4, "needs", "(I)Z"⟩
abbrev cX4_firstNumber : ByteArray := prog_6_method_6_code
def yX4_firstNumber : MethodName := ⟨RX4, "firstNumber", "()I"⟩
abbrev cX4_secondNumber : ByteArray := prog_6_method_7_code
def yX4_secondNumber : MethodName := ⟨RX4, "secondNumber", "()I"⟩
def RX5 : String := "PriceBench$Rows"
def TX5 : u_T := fun k => match k with
  | 0 => ("PriceBench$Rows", "numbers", "[I", false)
  | _ => ("PriceBench$Rows", "many", "I", false)
def tyX5 : Nat → FieldType := fun k => match k with
  | 0 => .array .int
  | _ => .int
abbrev wsX50 : List Cond := u_ws RX5 TX5 2
theorem nmX5 : ∀ a, a < 2 → ∀ b, b < 2 → a ≠ b → (TX5 a).2.1 ≠ (TX5 b).2.1 := by decide +kernel
theorem tyX5_ok : ∀ k, k < 2 → parseFieldDescriptor (TX5 k).2.2.1 = some (tyX5 k) := by decide +kernel
abbrev cX5_init : ByteArray := prog_7_method_1_code
def yX5_init : MethodName := ⟨RX5, "<init>", "()V"⟩
abbrev cX5_clear : ByteArray := prog_7_method_2_code
def yX5_clear : MethodName := ⟨RX5, "clear", "()V"⟩
abbrev cX5_has : ByteArray := prog_7_method_3_code
def yX5_has : MethodName := ⟨RX5, "has", "(II)Z"⟩
abbrev cX5_number : ByteArray := prog_7_method_4_code
def yX5_number : MethodName := ⟨RX5, "number", "(II)I"⟩
abbrev cX5_set : ByteArray := prog_7_method_5_code
def yX5_set : MethodName := ⟨RX5, "set", "(III)V"⟩
abbrev cX5_put : ByteArray := prog_7_method_6_code
def yX5_put : MethodName := ⟨RX5, "put", "(JJII)V"⟩
abbrev cX5_becomeLike : ByteArray := prog_7_method_7_code
def yX5_becomeLike : MethodName := ⟨RX5, "becomeLike", "(LPriceBench$Rows;)V"⟩
abbrev cX5_makeRoomFor : ByteArray := prog_7_method_8_code
def yX5_makeRoomFor : MethodName := ⟨RX5, "makeRoomFor", "(I)V"⟩
def RX6 : String := "PriceBench$Sheet"
def TX6 : u_T := fun k => match k with
  | 0 => ("PriceBench$Sheet", "sort", "I", false)
  | 1 => ("PriceBench$Sheet", "size", "I", false)
  | _ => ("PriceBench$Sheet", "items", "[J", true)
def tyX6 : Nat → FieldType := fun k => match k with
  | 0 => .int
  | 1 => .int
  | _ => .array .long
abbrev wsX60 : List Cond := u_ws RX6 TX6 3
theorem nmX6 : ∀ a, a < 3 → ∀ b, b < 3 → a ≠ b → (TX6 a).2.1 ≠ (TX6 b).2.1 := by decide +kernel
theorem tyX6_ok : ∀ k, k < 3 → parseFieldDescriptor (TX6 k).2.2.1 = some (tyX6 k) := by decide +kernel
abbrev cX6_init : ByteArray := prog_8_method_1_code
def yX6_init : MethodName := ⟨RX6, "<init>", "()V"⟩
abbrev cX6_become : ByteArray := prog_8_method_2_code
def yX6_become : MethodName := ⟨RX6, "become", "(II)V"⟩
abbrev cX6_holds : ByteArray := prog_8_method_3_code
def yX6_holds : MethodName := ⟨RX6, "holds", "(II)Z"⟩
def RX7 : String := "PriceBench$Told"
def TX7 : u_T := fun k => match k with
  | 0 => ("PriceBench$Offer", "number", "I", true)
  | 1 => ("PriceBench$Offer", "kind", "I", true)
  | 2 => ("PriceBench$Offer", "choices", "LPriceBench$Choices;", true)
  | 3 => ("PriceBench$Offer", "bends", "LPriceBench$Rows;", true)
  | 4 => ("PriceBench$Offer", "choicesStamp", "I", false)
  | 5 => ("PriceBench$Offer", "bendsStamp", "I", false)
  | 6 => ("PriceBench$Told", "sets", "[I", true)
  | _ => ("PriceBench$Told", "many", "I", false)
def tyX7 : Nat → FieldType := fun k => match k with
  | 0 => .int
  | 1 => .int
  | 2 => .object "PriceBench$Choices"
  | 3 => .object "PriceBench$Rows"
  | 4 => .int
  | 5 => .int
  | 6 => .array .int
  | _ => .int
abbrev wsX70 : List Cond := u_ws RX7 TX7 8
theorem nmX7 : ∀ a, a < 8 → ∀ b, b < 8 → a ≠ b → (TX7 a).2.1 ≠ (TX7 b).2.1 := by decide +kernel
theorem tyX7_ok : ∀ k, k < 8 → parseFieldDescriptor (TX7 k).2.2.1 = some (tyX7 k) := by decide +kernel
abbrev cX7_init : ByteArray := prog_9_method_1_code
def yX7_init : MethodName := ⟨RX7, "<init>", "(I)V"⟩
abbrev cX7_take : ByteArray := prog_9_method_2_code
def yX7_take : MethodName := ⟨RX7, "take", "(I)I"⟩
abbrev cX7_gather : ByteArray := prog_9_method_3_code
def yX7_gather : MethodName := ⟨RX7, "gather", "(LPriceBench$Net;)V"⟩
abbrev cX7_barsIn : ByteArray := prog_9_method_4_code
def yX7_barsIn : MethodName := ⟨RX7, "barsIn", "(LPriceBench$Net;)I"⟩
abbrev cX7_needs : ByteArray := prog_9_method_5_code
def yX7_needs : MethodName := ⟨RX7, "needs", "(I)Z"⟩
abbrev cX7_firstNumber : ByteArray := prog_9_method_6_code
def yX7_firstNumber : MethodName := ⟨RX7, "firstNumber", "()I"⟩
abbrev cX7_secondNumber : ByteArray := prog_9_method_7_code
def yX7_secondNumber : MethodName := ⟨RX7, "secondNumber", "()I"⟩
def RX8 : String := "PriceBench$Tree"
def TX8 : u_T := fun k => match k with
  | 0 => ("PriceBench$Offer", "number", "I", true)
  | 1 => ("PriceBench$Offer", "kind", "I", true)
  | 2 => ("PriceBench$Offer", "choices", "LPriceBench$Choices;", true)
  | 3 => ("PriceBench$Offer", "bends", "LPriceBench$Rows;", true)
  | 4 => ("PriceBench$Offer", "choicesStamp", "I", false)
  | _ => ("PriceBench$Offer", "bendsStamp", "I", false)
def tyX8 : Nat → FieldType := fun k => match k with
  | 0 => .int
  | 1 => .int
  | 2 => .object "PriceBench$Choices"
  | 3 => .object "PriceBench$Rows"
  | 4 => .int
  | _ => .int
abbrev wsX80 : List Cond := u_ws RX8 TX8 6
theorem nmX8 : ∀ a, a < 6 → ∀ b, b < 6 → a ≠ b → (TX8 a).2.1 ≠ (TX8 b).2.1 := by decide +kernel
theorem tyX8_ok : ∀ k, k < 6 → parseFieldDescriptor (TX8 k).2.2.1 = some (tyX8 k) := by decide +kernel
abbrev cX8_init : ByteArray := prog_10_method_1_code
def yX8_init : MethodName := ⟨RX8, "<init>", "(I)V"⟩
abbrev cX8_gather : ByteArray := prog_10_method_2_code
def yX8_gather : MethodName := ⟨RX8, "gather", "(LPriceBench$Net;)V"⟩
abbrev cX8_grow : ByteArray := prog_10_method_3_code
def yX8_grow : MethodName := ⟨RX8, "grow", "(LPriceBench$Tree;LPriceBench$Net;IIII)V"⟩
abbrev cX8_groupOf : ByteArray := prog_10_method_4_code
def yX8_groupOf : MethodName := ⟨RX8, "groupOf", "(II)I"⟩
abbrev cX8_join : ByteArray := prog_10_method_5_code
def yX8_join : MethodName := ⟨RX8, "join", "(IIII)I"⟩
abbrev cX8_barsIn : ByteArray := prog_10_method_6_code
def yX8_barsIn : MethodName := ⟨RX8, "barsIn", "(LPriceBench$Net;)I"⟩
abbrev cX8_needs : ByteArray := prog_10_method_7_code
def yX8_needs : MethodName := ⟨RX8, "needs", "(I)Z"⟩
abbrev cX8_firstNumber : ByteArray := prog_10_method_8_code
def yX8_firstNumber : MethodName := ⟨RX8, "firstNumber", "()I"⟩
abbrev cX8_secondNumber : ByteArray := prog_10_method_9_code
def yX8_secondNumber : MethodName := ⟨RX8, "secondNumber", "()I"⟩
def RX9 : String := "PriceBench$Way"
def TX9 : u_T := fun k => match k with
  | 0 => ("PriceBench$Offer", "number", "I", true)
  | 1 => ("PriceBench$Offer", "kind", "I", true)
  | 2 => ("PriceBench$Offer", "choices", "LPriceBench$Choices;", true)
  | 3 => ("PriceBench$Offer", "bends", "LPriceBench$Rows;", true)
  | 4 => ("PriceBench$Offer", "choicesStamp", "I", false)
  | 5 => ("PriceBench$Offer", "bendsStamp", "I", false)
  | 6 => ("PriceBench$Way", "first", "I", true)
  | _ => ("PriceBench$Way", "last", "I", true)
def tyX9 : Nat → FieldType := fun k => match k with
  | 0 => .int
  | 1 => .int
  | 2 => .object "PriceBench$Choices"
  | 3 => .object "PriceBench$Rows"
  | 4 => .int
  | 5 => .int
  | 6 => .int
  | _ => .int
abbrev wsX90 : List Cond := u_ws RX9 TX9 8
theorem nmX9 : ∀ a, a < 8 → ∀ b, b < 8 → a ≠ b → (TX9 a).2.1 ≠ (TX9 b).2.1 := by decide +kernel
theorem tyX9_ok : ∀ k, k < 8 → parseFieldDescriptor (TX9 k).2.2.1 = some (tyX9 k) := by decide +kernel
abbrev cX9_init : ByteArray := prog_11_method_1_code
def yX9_init : MethodName := ⟨RX9, "<init>", "(III)V"⟩
abbrev cX9_gather : ByteArray := prog_11_method_2_code
def yX9_gather : MethodName := ⟨RX9, "gather", "(LPriceBench$Net;)V"⟩
abbrev cX9_walk : ByteArray := prog_11_method_3_code
def yX9_walk : MethodName := ⟨RX9, "walk", "(LPriceBench$Way;LPriceBench$Net;IIII)V"⟩
abbrev cX9_barsIn : ByteArray := prog_11_method_4_code
def yX9_barsIn : MethodName := ⟨RX9, "barsIn", "(LPriceBench$Net;)I"⟩
abbrev cX9_needs : ByteArray := prog_11_method_5_code
def yX9_needs : MethodName := ⟨RX9, "needs", "(I)Z"⟩
abbrev cX9_firstNumber : ByteArray := prog_11_method_6_code
def yX9_firstNumber : MethodName := ⟨RX9, "firstNumber", "()I"⟩
abbrev cX9_secondNumber : ByteArray := prog_11_method_7_code
def yX9_secondNumber : MethodName := ⟨RX9, "secondNumber", "()I"⟩
def RX10 : String := "PriceBench$Window"
def TX10 : u_T := fun k => match k with
  | 0 => ("PriceBench$Window", "p", "I", false)
  | 1 => ("PriceBench$Window", "q", "I", false)
  | 2 => ("PriceBench$Window", "p2", "I", false)
  | 3 => ("PriceBench$Window", "q2", "I", false)
  | _ => ("PriceBench$Window", "stamp", "I", false)
def tyX10 : Nat → FieldType := fun k => match k with
  | 0 => .int
  | 1 => .int
  | 2 => .int
  | 3 => .int
  | _ => .int
abbrev wsX100 : List Cond := u_ws RX10 TX10 5
theorem nmX10 : ∀ a, a < 5 → ∀ b, b < 5 → a ≠ b → (TX10 a).2.1 ≠ (TX10 b).2.1 := by decide +kernel
theorem tyX10_ok : ∀ k, k < 5 → parseFieldDescriptor (TX10 k).2.2.1 = some (tyX10 k) := by decide +kernel
abbrev cX10_init : ByteArray := prog_12_method_1_code
def yX10_init : MethodName := ⟨RX10, "<init>", "()V"⟩
abbrev cX10_become : ByteArray := prog_12_method_2_code
def yX10_become : MethodName := ⟨RX10, "become", "(IIII)V"⟩
abbrev cX10_holdsInside : ByteArray := prog_12_method_3_code
def yX10_holdsInside : MethodName := ⟨RX10, "holdsInside", "(II)Z"⟩
def RX11 : String := "PriceBench"
def TX11 : u_T := fun k => match k with
  | 0 => ("PriceBench", "net", "LPriceBench$Net;", true)
  | 1 => ("PriceBench", "offers", "[LPriceBench$Offer;", true)
  | 2 => ("PriceBench", "offerCount", "I", false)
  | 3 => ("PriceBench", "window", "LPriceBench$Window;", true)
  | 4 => ("PriceBench", "rows", "LPriceBench$Rows;", true)
  | 5 => ("PriceBench", "acts", "LPriceBench$Acts;", true)
  | 6 => ("PriceBench", "sheets", "[LPriceBench$Sheet;", true)
  | _ => ("PriceBench", "found", "[J", true)
def tyX11 : Nat → FieldType := fun k => match k with
  | 0 => .object "PriceBench$Net"
  | 1 => .array (.object "PriceBench$Offer")
  | 2 => .int
  | 3 => .object "PriceBench$Window"
  | 4 => .object "PriceBench$Rows"
  | 5 => .object "PriceBench$Acts"
  | 6 => .array (.object "PriceBench$Sheet")
  | _ => .array .long
abbrev wsX110 : List Cond := u_ws RX11 TX11 8
theorem nmX11 : ∀ a, a < 8 → ∀ b, b < 8 → a ≠ b → (TX11 a).2.1 ≠ (TX11 b).2.1 := by decide +kernel
theorem tyX11_ok : ∀ k, k < 8 → parseFieldDescriptor (TX11 k).2.2.1 = some (tyX11 k) := by decide +kernel
abbrev cX11_init : ByteArray := prog_1_method_1_code
def yX11_init : MethodName := ⟨RX11, "<init>", "()V"⟩
abbrev cX11_thing : ByteArray := prog_1_method_2_code
def yX11_thing : MethodName := ⟨RX11, "thing", "()I"⟩
abbrev cX11_line : ByteArray := prog_1_method_3_code
def yX11_line : MethodName := ⟨RX11, "line", "(IIII)I"⟩
abbrev cX11_alter : ByteArray := prog_1_method_4_code
def yX11_alter : MethodName := ⟨RX11, "alter", "(III)I"⟩
abbrev cX11_close : ByteArray := prog_1_method_5_code
def yX11_close : MethodName := ⟨RX11, "close", "()I"⟩
abbrev cX11_undo : ByteArray := prog_1_method_6_code
def yX11_undo : MethodName := ⟨RX11, "undo", "()I"⟩
abbrev cX11_lineTold : ByteArray := prog_1_method_7_code
def yX11_lineTold : MethodName := ⟨RX11, "lineTold", "(II)I"⟩
abbrev cX11_isLineCost : ByteArray := prog_1_method_8_code
def yX11_isLineCost : MethodName := ⟨RX11, "isLineCost", "(II)Z"⟩
abbrev cX11_told : ByteArray := prog_1_method_9_code
def yX11_told : MethodName := ⟨RX11, "told", "()I"⟩
abbrev cX11_tell : ByteArray := prog_1_method_10_code
def yX11_tell : MethodName := ⟨RX11, "tell", "(II)I"⟩
abbrev cX11_tree : ByteArray := prog_1_method_11_code
def yX11_tree : MethodName := ⟨RX11, "tree", "()I"⟩
abbrev cX11_way : ByteArray := prog_1_method_12_code
def yX11_way : MethodName := ⟨RX11, "way", "(II)I"⟩
abbrev cX11_pairing : ByteArray := prog_1_method_13_code
def yX11_pairing : MethodName := ⟨RX11, "pairing", "(I)I"⟩
abbrev cX11_offerTold : ByteArray := prog_1_method_14_code
def yX11_offerTold : MethodName := ⟨RX11, "offerTold", "(II)I"⟩
abbrev cX11_choice : ByteArray := prog_1_method_15_code
def yX11_choice : MethodName := ⟨RX11, "choice", "(II)I"⟩
abbrev cX11_taken : ByteArray := prog_1_method_16_code
def yX11_taken : MethodName := ⟨RX11, "taken", "(II)I"⟩
abbrev cX11_addOffer : ByteArray := prog_1_method_17_code
def yX11_addOffer : MethodName := ⟨RX11, "addOffer", "(LPriceBench$Offer;)I"⟩
abbrev cX11_offerAt : ByteArray := prog_1_method_18_code
def yX11_offerAt : MethodName := ⟨RX11, "offerAt", "(I)LPriceBench$Offer;"⟩
abbrev cX11_offerWithChoices : ByteArray := prog_1_method_19_code
def yX11_offerWithChoices : MethodName := ⟨RX11, "offerWithChoices", "(I)LPriceBench$Offer;"⟩
abbrev cX11_placeIn : ByteArray := prog_1_method_20_code
def yX11_placeIn : MethodName := ⟨RX11, "placeIn", "(LPriceBench$Offer;I)I"⟩
abbrev cX11_someOfferNeeds : ByteArray := prog_1_method_21_code
def yX11_someOfferNeeds : MethodName := ⟨RX11, "someOfferNeeds", "(I)Z"⟩
abbrev cX11_cost : ByteArray := prog_1_method_22_code
def yX11_cost : MethodName := ⟨RX11, "cost", "(IIII)J"⟩
abbrev cX11_best : ByteArray := prog_1_method_23_code
def yX11_best : MethodName := ⟨RX11, "best", "(IIII)I"⟩
abbrev cX11_least : ByteArray := prog_1_method_24_code
def yX11_least : MethodName := ⟨RX11, "least", "(IIII)J"⟩
abbrev cX11_window : ByteArray := prog_1_method_25_code
def yX11_window : MethodName := ⟨RX11, "window", "(IIII)I"⟩
abbrev cX11_span : ByteArray := prog_1_method_26_code
def yX11_span : MethodName := ⟨RX11, "span", "(III)J"⟩
abbrev cX11_top : ByteArray := prog_1_method_27_code
def yX11_top : MethodName := ⟨RX11, "top", "(II)J"⟩
abbrev cX11_ratio : ByteArray := prog_1_method_28_code
def yX11_ratio : MethodName := ⟨RX11, "ratio", "(II)J"⟩
abbrev cX11_regret : ByteArray := prog_1_method_29_code
def yX11_regret : MethodName := ⟨RX11, "regret", "(III)J"⟩
abbrev cX11_calm : ByteArray := prog_1_method_30_code
def yX11_calm : MethodName := ⟨RX11, "calm", "(I)I"⟩
abbrev cX11_why : ByteArray := prog_1_method_31_code
def yX11_why : MethodName := ⟨RX11, "why", "(IIII)I"⟩
abbrev cX11_findTop : ByteArray := prog_1_method_32_code
def yX11_findTop : MethodName := ⟨RX11, "findTop", "(LPriceBench$Offer;)V"⟩
abbrev cX11_isCalmer : ByteArray := prog_1_method_33_code
def yX11_isCalmer : MethodName := ⟨RX11, "isCalmer", "(LPriceBench$Choices;II)Z"⟩
abbrev cX11_isPrice : ByteArray := prog_1_method_34_code
def yX11_isPrice : MethodName := ⟨RX11, "isPrice", "(II)Z"⟩
abbrev cX11_isLess : ByteArray := prog_1_method_35_code
def yX11_isLess : MethodName := ⟨RX11, "isLess", "(JJJJ)Z"⟩
abbrev cX11_lowest : ByteArray := prog_1_method_36_code
def yX11_lowest : MethodName := ⟨RX11, "lowest", "(JJI)J"⟩
abbrev cX11_commonOf : ByteArray := prog_1_method_37_code
def yX11_commonOf : MethodName := ⟨RX11, "commonOf", "(JJ)J"⟩
abbrev cX11_bends : ByteArray := prog_1_method_38_code
def yX11_bends : MethodName := ⟨RX11, "bends", "(I)I"⟩
abbrev cX11_bend : ByteArray := prog_1_method_39_code
def yX11_bend : MethodName := ⟨RX11, "bend", "(III)J"⟩
abbrev cX11_write : ByteArray := prog_1_method_40_code
def yX11_write : MethodName := ⟨RX11, "write", "(I)I"⟩
abbrev cX11_row : ByteArray := prog_1_method_41_code
def yX11_row : MethodName := ⟨RX11, "row", "(II)J"⟩
abbrev cX11_forge : ByteArray := prog_1_method_42_code
def yX11_forge : MethodName := ⟨RX11, "forge", "(III)I"⟩
abbrev cX11_check : ByteArray := prog_1_method_43_code
def yX11_check : MethodName := ⟨RX11, "check", "(I)I"⟩
abbrev cX11_numberOrNo : ByteArray := prog_1_method_44_code
def yX11_numberOrNo : MethodName := ⟨RX11, "numberOrNo", "(LPriceBench$Rows;II)J"⟩
abbrev cX11_howWrong : ByteArray := prog_1_method_45_code
def yX11_howWrong : MethodName := ⟨RX11, "howWrong", "(LPriceBench$Choices;I)I"⟩
abbrev cX11_act : ByteArray := prog_1_method_46_code
def yX11_act : MethodName := ⟨RX11, "act", "(III)I"⟩
abbrev cX11_trace : ByteArray := prog_1_method_47_code
def yX11_trace : MethodName := ⟨RX11, "trace", "(I)I"⟩
abbrev cX11_count : ByteArray := prog_1_method_48_code
def yX11_count : MethodName := ⟨RX11, "count", "(I)I"⟩
abbrev cX11_sheet : ByteArray := prog_1_method_49_code
def yX11_sheet : MethodName := ⟨RX11, "sheet", "(III)I"⟩
abbrev cX11_cell : ByteArray := prog_1_method_50_code
def yX11_cell : MethodName := ⟨RX11, "cell", "(III)I"⟩
abbrev cX11_lay : ByteArray := prog_1_method_51_code
def yX11_lay : MethodName := ⟨RX11, "lay", "(III)I"⟩
abbrev cX11_copy : ByteArray := prog_1_method_52_code
def yX11_copy : MethodName := ⟨RX11, "copy", "(IIIII)I"⟩
abbrev cX11_sheetAt : ByteArray := prog_1_method_53_code
def yX11_sheetAt : MethodName := ⟨RX11, "sheetAt", "(I)LPriceBench$Sheet;"⟩
def RX12 : String := "PriceBenchModel"
def TX12 : u_T := fun k => match k with
  | 0 => ("PriceBenchModel", "net", "[I", true)
  | 1 => ("PriceBenchModel", "before", "[I", true)
  | 2 => ("PriceBenchModel", "mayUndo", "Z", false)
  | 3 => ("PriceBenchModel", "offers", "I", false)
  | 4 => ("PriceBenchModel", "kind", "[I", true)
  | 5 => ("PriceBenchModel", "first", "[I", true)
  | 6 => ("PriceBenchModel", "second", "[I", true)
  | 7 => ("PriceBenchModel", "many", "[I", true)
  | 8 => ("PriceBenchModel", "sets", "[I", true)
  | 9 => ("PriceBenchModel", "p1", "I", false)
  | 10 => ("PriceBenchModel", "q1", "I", false)
  | 11 => ("PriceBenchModel", "p2", "I", false)
  | 12 => ("PriceBenchModel", "q2", "I", false)
  | 13 => ("PriceBenchModel", "rows", "I", false)
  | 14 => ("PriceBenchModel", "row", "[J", true)
  | 15 => ("PriceBenchModel", "traced", "[I", true)
  | 16 => ("PriceBenchModel", "traces", "I", false)
  | 17 => ("PriceBenchModel", "sort", "[I", true)
  | 18 => ("PriceBenchModel", "size", "[I", true)
  | 19 => ("PriceBenchModel", "cells", "[J", true)
  | 20 => ("PriceBenchModel", "choices", "I", false)
  | 21 => ("PriceBenchModel", "set", "[I", true)
  | 22 => ("PriceBenchModel", "start", "[I", true)
  | 23 => ("PriceBenchModel", "rise", "[I", true)
  | 24 => ("PriceBenchModel", "points", "I", false)
  | 25 => ("PriceBenchModel", "px", "[J", true)
  | 26 => ("PriceBenchModel", "pq", "[J", true)
  | 27 => ("PriceBenchModel", "pl", "[J", true)
  | 28 => ("PriceBenchModel", "lowP", "J", false)
  | 29 => ("PriceBenchModel", "lowQ", "J", false)
  | 30 => ("PriceBenchModel", "highP", "J", false)
  | 31 => ("PriceBenchModel", "highQ", "J", false)
  | 32 => ("PriceBenchModel", "above", "J", false)
  | 33 => ("PriceBenchModel", "below", "J", false)
  | 34 => ("PriceBenchModel", "m", "I", false)
  | _ => ("PriceBenchModel", "between", "[J", true)
def tyX12 : Nat → FieldType := fun k => match k with
  | 0 => .array .int
  | 1 => .array .int
  | 2 => .boolean
  | 3 => .int
  | 4 => .array .int
  | 5 => .array .int
  | 6 => .array .int
  | 7 => .array .int
  | 8 => .array .int
  | 9 => .int
  | 10 => .int
  | 11 => .int
  | 12 => .int
  | 13 => .int
  | 14 => .array .long
  | 15 => .array .int
  | 16 => .int
  | 17 => .array .int
  | 18 => .array .int
  | 19 => .array .long
  | 20 => .int
  | 21 => .array .int
  | 22 => .array .int
  | 23 => .array .int
  | 24 => .int
  | 25 => .array .long
  | 26 => .array .long
  | 27 => .array .long
  | 28 => .long
  | 29 => .long
  | 30 => .long
  | 31 => .long
  | 32 => .long
  | 33 => .long
  | 34 => .int
  | _ => .array .long
abbrev wsX120 : List Cond := u_ws RX12 TX12 36
theorem nmX12 : ∀ a, a < 36 → ∀ b, b < 36 → a ≠ b → (TX12 a).2.1 ≠ (TX12 b).2.1 := by decide +kernel
theorem tyX12_ok : ∀ k, k < 36 → parseFieldDescriptor (TX12 k).2.2.1 = some (tyX12 k) := by decide +kernel
abbrev cX12_init : ByteArray := prog_14_method_1_code
def yX12_init : MethodName := ⟨RX12, "<init>", "()V"⟩
abbrev cX12_in : ByteArray := prog_14_method_2_code
def yX12_in : MethodName := ⟨RX12, "in", "(III)Z"⟩
abbrev cX12_things : ByteArray := prog_14_method_3_code
def yX12_things : MethodName := ⟨RX12, "things", "()I"⟩
abbrev cX12_lines : ByteArray := prog_14_method_4_code
def yX12_lines : MethodName := ⟨RX12, "lines", "()I"⟩
abbrev cX12_from : ByteArray := prog_14_method_5_code
def yX12_from : MethodName := ⟨RX12, "from", "(I)I"⟩
abbrev cX12_to : ByteArray := prog_14_method_6_code
def yX12_to : MethodName := ⟨RX12, "to", "(I)I"⟩
abbrev cX12_startOf : ByteArray := prog_14_method_7_code
def yX12_startOf : MethodName := ⟨RX12, "startOf", "(I)I"⟩
abbrev cX12_riseOf : ByteArray := prog_14_method_8_code
def yX12_riseOf : MethodName := ⟨RX12, "riseOf", "(I)I"⟩
abbrev cX12_isThing : ByteArray := prog_14_method_9_code
def yX12_isThing : MethodName := ⟨RX12, "isThing", "(I)Z"⟩
abbrev cX12_isOffer : ByteArray := prog_14_method_10_code
def yX12_isOffer : MethodName := ⟨RX12, "isOffer", "(I)Z"⟩
abbrev cX12_isPrice : ByteArray := prog_14_method_11_code
def yX12_isPrice : MethodName := ⟨RX12, "isPrice", "(II)Z"⟩
abbrev cX12_common : ByteArray := prog_14_method_12_code
def yX12_common : MethodName := ⟨RX12, "common", "(JJ)J"⟩
abbrev cX12_lowest : ByteArray := prog_14_method_13_code
def yX12_lowest : MethodName := ⟨RX12, "lowest", "(JJI)J"⟩
abbrev cX12_keeps : ByteArray := prog_14_method_14_code
def yX12_keeps : MethodName := ⟨RX12, "keeps", "()V"⟩
abbrev cX12_thing : ByteArray := prog_14_method_15_code
def yX12_thing : MethodName := ⟨RX12, "thing", "()I"⟩
abbrev cX12_areTold : ByteArray := prog_14_method_16_code
def yX12_areTold : MethodName := ⟨RX12, "areTold", "(II)Z"⟩
abbrev cX12_line : ByteArray := prog_14_method_17_code
def yX12_line : MethodName := ⟨RX12, "line", "(IIII)I"⟩
abbrev cX12_alter : ByteArray := prog_14_method_18_code
def yX12_alter : MethodName := ⟨RX12, "alter", "(III)I"⟩
abbrev cX12_close : ByteArray := prog_14_method_19_code
def yX12_close : MethodName := ⟨RX12, "close", "()I"⟩
abbrev cX12_undo : ByteArray := prog_14_method_20_code
def yX12_undo : MethodName := ⟨RX12, "undo", "()I"⟩
abbrev cX12_lineTold : ByteArray := prog_14_method_21_code
def yX12_lineTold : MethodName := ⟨RX12, "lineTold", "(II)I"⟩
abbrev cX12_made : ByteArray := prog_14_method_22_code
def yX12_made : MethodName := ⟨RX12, "made", "(III)I"⟩
abbrev cX12_told : ByteArray := prog_14_method_23_code
def yX12_told : MethodName := ⟨RX12, "told", "()I"⟩
abbrev cX12_tell : ByteArray := prog_14_method_24_code
def yX12_tell : MethodName := ⟨RX12, "tell", "(II)I"⟩
abbrev cX12_tree : ByteArray := prog_14_method_25_code
def yX12_tree : MethodName := ⟨RX12, "tree", "()I"⟩
abbrev cX12_way : ByteArray := prog_14_method_26_code
def yX12_way : MethodName := ⟨RX12, "way", "(II)I"⟩
abbrev cX12_pairing : ByteArray := prog_14_method_27_code
def yX12_pairing : MethodName := ⟨RX12, "pairing", "(I)I"⟩
abbrev cX12_bits : ByteArray := prog_14_method_28_code
def yX12_bits : MethodName := ⟨RX12, "bits", "(I)I"⟩
abbrev cX12_reached : ByteArray := prog_14_method_29_code
def yX12_reached : MethodName := ⟨RX12, "reached", "(IIZ)I"⟩
abbrev cX12_allThings : ByteArray := prog_14_method_30_code
def yX12_allThings : MethodName := ⟨RX12, "allThings", "()I"⟩
abbrev cX12_allLines : ByteArray := prog_14_method_31_code
def yX12_allLines : MethodName := ⟨RX12, "allLines", "()I"⟩
abbrev cX12_isTree : ByteArray := prog_14_method_32_code
def yX12_isTree : MethodName := ⟨RX12, "isTree", "(I)Z"⟩
abbrev cX12_isWay : ByteArray := prog_14_method_33_code
def yX12_isWay : MethodName := ⟨RX12, "isWay", "(III)Z"⟩
abbrev cX12_isPairing : ByteArray := prog_14_method_34_code
def yX12_isPairing : MethodName := ⟨RX12, "isPairing", "(II)Z"⟩
abbrev cX12_isTold : ByteArray := prog_14_method_35_code
def yX12_isTold : MethodName := ⟨RX12, "isTold", "(II)Z"⟩
abbrev cX12_isChoice : ByteArray := prog_14_method_36_code
def yX12_isChoice : MethodName := ⟨RX12, "isChoice", "(II)Z"⟩
abbrev cX12_ordered : ByteArray := prog_14_method_37_code
def yX12_ordered : MethodName := ⟨RX12, "ordered", "(I)I"⟩
abbrev cX12_gathers : ByteArray := prog_14_method_38_code
def yX12_gathers : MethodName := ⟨RX12, "gathers", "(I)V"⟩
abbrev cX12_placeOf : ByteArray := prog_14_method_39_code
def yX12_placeOf : MethodName := ⟨RX12, "placeOf", "(I)I"⟩
abbrev cX12_barsOf : ByteArray := prog_14_method_40_code
def yX12_barsOf : MethodName := ⟨RX12, "barsOf", "(I)I"⟩
abbrev cX12_beside : ByteArray := prog_14_method_41_code
def yX12_beside : MethodName := ⟨RX12, "beside", "(I)I"⟩
abbrev cX12_offerTold : ByteArray := prog_14_method_42_code
def yX12_offerTold : MethodName := ⟨RX12, "offerTold", "(II)I"⟩
abbrev cX12_choice : ByteArray := prog_14_method_43_code
def yX12_choice : MethodName := ⟨RX12, "choice", "(II)I"⟩
abbrev cX12_cost : ByteArray := prog_14_method_44_code
def yX12_cost : MethodName := ⟨RX12, "cost", "(IIII)J"⟩
abbrev cX12_costAt : ByteArray := prog_14_method_45_code
def yX12_costAt : MethodName := ⟨RX12, "costAt", "(IJJ)J"⟩
abbrev cX12_leastAt : ByteArray := prog_14_method_46_code
def yX12_leastAt : MethodName := ⟨RX12, "leastAt", "(JJ)J"⟩
abbrev cX12_bestAt : ByteArray := prog_14_method_47_code
def yX12_bestAt : MethodName := ⟨RX12, "bestAt", "(JJI)I"⟩
abbrev cX12_best : ByteArray := prog_14_method_48_code
def yX12_best : MethodName := ⟨RX12, "best", "(IIII)I"⟩
abbrev cX12_least : ByteArray := prog_14_method_49_code
def yX12_least : MethodName := ⟨RX12, "least", "(IIII)J"⟩
abbrev cX12_window : ByteArray := prog_14_method_50_code
def yX12_window : MethodName := ⟨RX12, "window", "(IIII)I"⟩
abbrev cX12_point : ByteArray := prog_14_method_51_code
def yX12_point : MethodName := ⟨RX12, "point", "(JJ)V"⟩
abbrev cX12_walks : ByteArray := prog_14_method_52_code
def yX12_walks : MethodName := ⟨RX12, "walks", "()V"⟩
abbrev cX12_prepares : ByteArray := prog_14_method_53_code
def yX12_prepares : MethodName := ⟨RX12, "prepares", "(I)Z"⟩
abbrev cX12_bends : ByteArray := prog_14_method_54_code
def yX12_bends : MethodName := ⟨RX12, "bends", "(I)I"⟩
abbrev cX12_bendOf : ByteArray := prog_14_method_55_code
def yX12_bendOf : MethodName := ⟨RX12, "bendOf", "(II)J"⟩
abbrev cX12_bend : ByteArray := prog_14_method_56_code
def yX12_bend : MethodName := ⟨RX12, "bend", "(III)J"⟩
abbrev cX12_spans : ByteArray := prog_14_method_57_code
def yX12_spans : MethodName := ⟨RX12, "spans", "(I)Z"⟩
abbrev cX12_span : ByteArray := prog_14_method_58_code
def yX12_span : MethodName := ⟨RX12, "span", "(III)J"⟩
abbrev cX12_top : ByteArray := prog_14_method_59_code
def yX12_top : MethodName := ⟨RX12, "top", "(II)J"⟩
abbrev cX12_ratio : ByteArray := prog_14_method_60_code
def yX12_ratio : MethodName := ⟨RX12, "ratio", "(II)J"⟩
abbrev cX12_regrets : ByteArray := prog_14_method_61_code
def yX12_regrets : MethodName := ⟨RX12, "regrets", "(I)V"⟩
abbrev cX12_regret : ByteArray := prog_14_method_62_code
def yX12_regret : MethodName := ⟨RX12, "regret", "(III)J"⟩
abbrev cX12_calm : ByteArray := prog_14_method_63_code
def yX12_calm : MethodName := ⟨RX12, "calm", "(I)I"⟩
abbrev cX12_lineCost : ByteArray := prog_14_method_64_code
def yX12_lineCost : MethodName := ⟨RX12, "lineCost", "(III)J"⟩
abbrev cX12_dearest : ByteArray := prog_14_method_65_code
def yX12_dearest : MethodName := ⟨RX12, "dearest", "(IIII)I"⟩
abbrev cX12_why : ByteArray := prog_14_method_66_code
def yX12_why : MethodName := ⟨RX12, "why", "(IIII)I"⟩
abbrev cX12_write : ByteArray := prog_14_method_67_code
def yX12_write : MethodName := ⟨RX12, "write", "(I)I"⟩
abbrev cX12_row : ByteArray := prog_14_method_68_code
def yX12_row : MethodName := ⟨RX12, "row", "(II)J"⟩
abbrev cX12_forge : ByteArray := prog_14_method_69_code
def yX12_forge : MethodName := ⟨RX12, "forge", "(III)I"⟩
abbrev cX12_wrong : ByteArray := prog_14_method_70_code
def yX12_wrong : MethodName := ⟨RX12, "wrong", "(I)I"⟩
abbrev cX12_check : ByteArray := prog_14_method_71_code
def yX12_check : MethodName := ⟨RX12, "check", "(I)I"⟩
abbrev cX12_ran : ByteArray := prog_14_method_72_code
def yX12_ran : MethodName := ⟨RX12, "ran", "(I)V"⟩
abbrev cX12_treeAsks : ByteArray := prog_14_method_73_code
def yX12_treeAsks : MethodName := ⟨RX12, "treeAsks", "(II)I"⟩
abbrev cX12_asks : ByteArray := prog_14_method_74_code
def yX12_asks : MethodName := ⟨RX12, "asks", "(II)I"⟩
abbrev cX12_toldShows : ByteArray := prog_14_method_75_code
def yX12_toldShows : MethodName := ⟨RX12, "toldShows", "(II)I"⟩
abbrev cX12_shows : ByteArray := prog_14_method_76_code
def yX12_shows : MethodName := ⟨RX12, "shows", "(II)I"⟩
abbrev cX12_toldTurns : ByteArray := prog_14_method_77_code
def yX12_toldTurns : MethodName := ⟨RX12, "toldTurns", "(II)I"⟩
abbrev cX12_turns : ByteArray := prog_14_method_78_code
def yX12_turns : MethodName := ⟨RX12, "turns", "(II)I"⟩
abbrev cX12_act : ByteArray := prog_14_method_79_code
def yX12_act : MethodName := ⟨RX12, "act", "(III)I"⟩
abbrev cX12_trace : ByteArray := prog_14_method_80_code
def yX12_trace : MethodName := ⟨RX12, "trace", "(I)I"⟩
abbrev cX12_count : ByteArray := prog_14_method_81_code
def yX12_count : MethodName := ⟨RX12, "count", "(I)I"⟩
abbrev cX12_isSheet : ByteArray := prog_14_method_82_code
def yX12_isSheet : MethodName := ⟨RX12, "isSheet", "(I)Z"⟩
abbrev cX12_sheet : ByteArray := prog_14_method_83_code
def yX12_sheet : MethodName := ⟨RX12, "sheet", "(III)I"⟩
abbrev cX12_cell : ByteArray := prog_14_method_84_code
def yX12_cell : MethodName := ⟨RX12, "cell", "(III)I"⟩
abbrev cX12_lay : ByteArray := prog_14_method_85_code
def yX12_lay : MethodName := ⟨RX12, "lay", "(III)I"⟩
abbrev cX12_copy : ByteArray := prog_14_method_86_code
def yX12_copy : MethodName := ⟨RX12, "copy", "(IIIII)I"⟩
abbrev cX12_taken : ByteArray := prog_14_method_87_code
def yX12_taken : MethodName := ⟨RX12, "taken", "(II)I"⟩
def RJx8e188 : String := "java/lang/Cloneable"
def TJx8e188 : u_T := fun k => match k with
  | _ => ("", "", "", false)
def tyJx8e188 : Nat → FieldType := fun k => match k with
  | _ => .int
abbrev wsJx8e1880 : List Cond := u_ws RJx8e188 TJx8e188 0
theorem nmJx8e188 : ∀ a, a < 0 → ∀ b, b < 0 → a ≠ b → (TJx8e188 a).2.1 ≠ (TJx8e188 b).2.1 := by decide +kernel
theorem tyJx8e188_ok : ∀ k, k < 0 → parseFieldDescriptor (TJx8e188 k).2.2.1 = some (tyJx8e188 k) := by decide +kernel
def RJ6 : String := "java/lang/Integer"
def TJ6 : u_T := fun k => match k with
  | _ => ("", "", "", false)
def tyJ6 : Nat → FieldType := fun k => match k with
  | _ => .int
abbrev wsJ60 : List Cond := u_ws RJ6 TJ6 0
theorem nmJ6 : ∀ a, a < 0 → ∀ b, b < 0 → a ≠ b → (TJ6 a).2.1 ≠ (TJ6 b).2.1 := by decide +kernel
theorem tyJ6_ok : ∀ k, k < 0 → parseFieldDescriptor (TJ6 k).2.2.1 = some (tyJ6 k) := by decide +kernel
abbrev cJ6_bitCount_0f7a4 : ByteArray := prog_16_method_49_code
def yJ6_bitCount_0f7a4 : MethodName := ⟨RJ6, "bitCount", "(I)I"⟩
def RJ9 : String := "java/lang/Math"
def TJ9 : u_T := fun k => match k with
  | _ => ("", "", "", false)
def tyJ9 : Nat → FieldType := fun k => match k with
  | _ => .int
abbrev wsJ90 : List Cond := u_ws RJ9 TJ9 0
theorem nmJ9 : ∀ a, a < 0 → ∀ b, b < 0 → a ≠ b → (TJ9 a).2.1 ≠ (TJ9 b).2.1 := by decide +kernel
theorem tyJ9_ok : ∀ k, k < 0 → parseFieldDescriptor (TJ9 k).2.2.1 = some (tyJ9 k) := by decide +kernel
abbrev cJ9_abs_0f7a4 : ByteArray := prog_17_method_59_code
def yJ9_abs_0f7a4 : MethodName := ⟨RJ9, "abs", "(I)I"⟩
abbrev cJ9_abs_067f4 : ByteArray := prog_17_method_61_code
def yJ9_abs_067f4 : MethodName := ⟨RJ9, "abs", "(J)J"⟩
abbrev cJ9_min_7cf53 : ByteArray := prog_17_method_69_code
def yJ9_min_7cf53 : MethodName := ⟨RJ9, "min", "(II)I"⟩
def RJ10 : String := "java/lang/System"
def TJ10 : u_T := fun k => match k with
  | _ => ("", "", "", false)
def tyJ10 : Nat → FieldType := fun k => match k with
  | _ => .int
abbrev wsJ100 : List Cond := u_ws RJ10 TJ10 0
theorem nmJ10 : ∀ a, a < 0 → ∀ b, b < 0 → a ≠ b → (TJ10 a).2.1 ≠ (TJ10 b).2.1 := by decide +kernel
theorem tyJ10_ok : ∀ k, k < 0 → parseFieldDescriptor (TJ10 k).2.2.1 = some (tyJ10 k) := by decide +kernel
def RJ7 : String := "java/util/Arrays"
def TJ7 : u_T := fun k => match k with
  | _ => ("", "", "", false)
def tyJ7 : Nat → FieldType := fun k => match k with
  | _ => .int
abbrev wsJ70 : List Cond := u_ws RJ7 TJ7 0
theorem nmJ7 : ∀ a, a < 0 → ∀ b, b < 0 → a ≠ b → (TJ7 a).2.1 ≠ (TJ7 b).2.1 := by decide +kernel
theorem tyJ7_ok : ∀ k, k < 0 → parseFieldDescriptor (TJ7 k).2.2.1 = some (tyJ7 k) := by decide +kernel
abbrev cJ7_fill_d0a16 : ByteArray := prog_19_method_101_code
def yJ7_fill_d0a16 : MethodName := ⟨RJ7, "fill", "([JJ)V"⟩
abbrev cJ7_copyOf_59c91 : ByteArray := prog_19_method_123_code
def yJ7_copyOf_59c91 : MethodName := ⟨RJ7, "copyOf", "([II)[I"⟩
def RL : String := "PriceBenchLaw"
abbrev cL_law : ByteArray := code
def yL_law : MethodName := ⟨RL, "law", "([I)Z"⟩
abbrev vwCl : List vw_C := [(RX0, TX0, 2), (RX1, TX1, 4), (RX2, TX2, 11), (RX4, TX4, 7), (RX5, TX5, 2), (RX6, TX6, 3), (RX7, TX7, 8), (RX8, TX8, 6), (RX9, TX9, 8), (RX10, TX10, 5), (RX11, TX11, 8), (RX12, TX12, 36)]
theorem inX0 : ∀ w ∈ wsX00, w ∈ lw_tbl := by decide +kernel
theorem inX1 : ∀ w ∈ wsX10, w ∈ lw_tbl := by decide +kernel
theorem inX2 : ∀ w ∈ wsX20, w ∈ lw_tbl := by decide +kernel
theorem inX3 : ∀ w ∈ wsX30, w ∈ lw_tbl := by decide +kernel
theorem inX4 : ∀ w ∈ wsX40, w ∈ lw_tbl := by decide +kernel
theorem inX5 : ∀ w ∈ wsX50, w ∈ lw_tbl := by decide +kernel
theorem inX6 : ∀ w ∈ wsX60, w ∈ lw_tbl := by decide +kernel
theorem inX7 : ∀ w ∈ wsX70, w ∈ lw_tbl := by decide +kernel
theorem inX8 : ∀ w ∈ wsX80, w ∈ lw_tbl := by decide +kernel
theorem inX9 : ∀ w ∈ wsX90, w ∈ lw_tbl := by decide +kernel
theorem inX10 : ∀ w ∈ wsX100, w ∈ lw_tbl := by decide +kernel
theorem inX11 : ∀ w ∈ wsX110, w ∈ lw_tbl := by decide +kernel
theorem inX12 : ∀ w ∈ wsX120, w ∈ lw_tbl := by decide +kernel
theorem inJx8e188 : ∀ w ∈ wsJx8e1880, w ∈ lw_tbl := by decide +kernel
theorem inJ6 : ∀ w ∈ wsJ60, w ∈ lw_tbl := by decide +kernel
theorem inJ9 : ∀ w ∈ wsJ90, w ∈ lw_tbl := by decide +kernel
theorem inJ10 : ∀ w ∈ wsJ100, w ∈ lw_tbl := by decide +kernel
theorem inJ7 : ∀ w ∈ wsJ70, w ∈ lw_tbl := by decide +kernel
end
section
/-! A JUDGEMENT OF ITS OWN: a method's frame over a heap that is a function. Wp .. Q: from pc, with these locals and this stack, the method comes to its end with an answer and a heap of which Q holds. -/
/-- a method: name, bytes, locals, what it returns -/
abbrev ev_M : Type := MethodName × ByteArray × Nat × Option FieldType
/-- a cell: an array (its kind: 0 ints, 1 longs, 2 offers, 3 sheets; its content), or an object (its class's number, its fields) -/
abbrev ev_E : Type := (Nat × vp_A) ⊕ (Nat × (Nat → Value))
/-- the heap: cells, the next address, what was made so far (cells and slots together) -/
abbrev ev_H : Type := (Nat → Option ev_E) × Nat × Nat
/-- what never changes: where the part that may be written begins, the addresses of the two static arrays, the int arrays that are only read -/
abbrev ev_B : Type := Nat × (Nat → Nat) × (Nat → Option (Nat × (Nat → Int32)))
abbrev ev_D : Type := va_G × (Nat → ClassId)
def ev_tb : List Cond := lw_tbl.filter goodWord
theorem ev_mem {w : Cond} (h : w ∈ lw_tbl) (g : goodWord w = true) : w ∈ ev_tb := List.mem_filter.mpr ⟨h, g⟩
def ev_ty : Nat → FieldType := fun t => match t with
  | 0 => .int
  | 1 => .long
  | 2 => .object "PriceBench$Offer"
  | _ => .object "PriceBench$Sheet"
def ev_at (D : ev_D) (a : Nat) (e : ev_E) (H : Heap) : Prop := match e with
  | .inl x => H[a]? = some (vp_cell (D.2 x.1) x.2)
  | .inr o => ∃ r : vw_C, vwCl[o.1]? = some r ∧ t_OB a (D.1.1 o.1) r.2.2 (D.1.2 o.1) H o.2
def ev_R (B : ev_B) (D : ev_D) (h : ev_H) (H : Heap) : Prop := H.size = h.2.1 ∧ ∀ (a : Nat) (e : ev_E), h.1 a = some e → B.1 ≤ a ∧ ev_at D a e H
/-- the links of nest mates, by class and number -/
def ev_nest : List Cond := lw_tbl.filter (fun w => match w with | .methodLinkNest .. => true | _ => false)
def ev_Yc (C T : String) (U : State) : Prop := ∃ c t : ClassId, U.vm.findClass C = some c ∧ U.vm.findClass T = some t ∧ U.vm.assignable c t = true
def ev_K (D : ev_D) (s : State) : Prop := va_K D.1 vwCl [] s ∧ (∀ t : Nat, t < 4 → ArrOfT s (D.2 t) (ev_ty t) ∧ va_RA s (D.2 t) (ev_ty t)) ∧ (∀ w ∈ ev_nest, va_Nw w s) ∧
  (va_Nc "PriceBench$Tree" "PriceBench$Told" s ∧ va_Nc "PriceBench$Way" "PriceBench$Told" s ∧ va_Nc "PriceBench$Pairing" "PriceBench$Told" s) ∧ va_AO "PriceBench$Offer" s ∧ va_AO "PriceBench$Sheet" s ∧
  ∀ C ∈ ["PriceBench$Pairing", "PriceBench$Told", "PriceBench$Tree", "PriceBench$Way"], ev_Yc C "PriceBench$Offer" s
def ev_A (B : ev_B) : Nat → Prop := fun q => B.1 ≤ q
def ev_Z (B : ev_B) (s : State) (H : Heap) : Prop := va_Z "PriceBench$Acts" "KIND_ABOVE" "[I" (.ref (B.2.1 0)) (ev_A B) s H ∧ va_Z "PriceBench$Acts" "BODIES" "[I" (.ref (B.2.1 1)) (ev_A B) s H ∧
  ∀ (t N : Nat) (f : Nat → Int32), B.2.2 t = some (N, f) → va_T .int t N (fun j => .int (f j)) (ev_A B) s H
def ev_G (B : ev_B) (D : ev_D) (d : Nat) (M : ev_M) (p : Program) (R : Room) (s : State) (m : MethodId) (args : Array Value) (meth : Method) (c : Code) : Prop :=
  p.tables.exec = Jvm.exec ∧ c.code = M.2.1 ∧ c.maxLocals = M.2.2.1 ∧ meth.sig.returnType = M.2.2.2 ∧ meth.locks = false ∧ s.vm.findClass M.1.cls = some m.cls ∧ meth.name = M.1.name ∧ (∀ w ∈ ev_tb, w.before args s = true) ∧ ev_K D s ∧
  d ≤ R.frames ∧ 40 * d ≤ R.locals ∧ B.1 ≤ s.heap.size ∧ ev_Z B s s.heap
/-- the locals: a place each; none: nothing is known of it -/
def ev_L (ls : List (Option Value)) (a : Array Slot) (n : Nat) : Prop := a.size = n ∧ lv_wf a ∧ ∀ (i : Nat) (v : Value), ls[i]? = some (some v) → a[i]? = some (.val v)
def ev_Q (B : ev_B) (D : ev_D) (v : Option Value) (h' : ev_H) : Array Value → State → Outcome → State → Prop := fun _ st o t => o = .returned v ∧ ev_R B D h' t.heap ∧ va_F (ev_A B) st t
def Ev (B : ev_B) (d : Nat) (M : ev_M) (pc : Nat) (ls : List (Option Value)) (st : List Value) (h : ev_H) (v : Option Value) (h' : ev_H) : Prop :=
  h.2.2 ≤ h'.2.2 ∧ ∀ (D : ev_D) (p : Program) (l : Launch) (e : Env) (R : Room) (s : State) (m : MethodId) (args : Array Value) (below : List Frame) (meth : Method) (c : Code), ev_G B D d M p R s m args meth c →
    ∀ (H : Heap) (locs : List Loc) (a : Array Slot) (cells slots : Nat), ev_R B D h H → va_S (ev_A B) s.heap H locs → ev_L ls a M.2.2.1 → cells + (h'.2.2 - h.2.2) ≤ R.cells → slots + (h'.2.2 - h.2.2) ≤ R.slots →
      W p l e R s m args below meth c H locs cells slots (MQ below (ev_Q B D v h') args s (cells + (h'.2.2 - h.2.2)) (slots + (h'.2.2 - h.2.2)) (ev_A B)) (F0 m pc a st)
def Wp (B : ev_B) (d : Nat) (M : ev_M) (pc : Nat) (ls : List (Option Value)) (st : List Value) (h : ev_H) (Q : Option Value → ev_H → Prop) : Prop := ∃ (v : Option Value) (h' : ev_H), Ev B d M pc ls st h v h' ∧ Q v h'
theorem Wp.mono {B : ev_B} {d : Nat} {M : ev_M} {pc : Nat} {ls : List (Option Value)} {st : List Value} {h : ev_H} {Q Q' : Option Value → ev_H → Prop} (k : Wp B d M pc ls st h Q) (f : ∀ v h', Q v h' → Q' v h') : Wp B d M pc ls st h Q' := by
  obtain ⟨v, h', hE, hQ⟩ := k
  exact ⟨v, h', hE, f v h' hQ⟩
theorem Wp.eqs {B : ev_B} {d : Nat} {M : ev_M} {pc pc' : Nat} {ls ls' : List (Option Value)} {st st' : List Value} {h h' : ev_H} {Q : Option Value → ev_H → Prop} (k : Wp B d M pc' ls' st' h' Q) (e1 : pc = pc') (e2 : ls = ls') (e3 : st = st') (e4 : h = h') : Wp B d M pc ls st h Q := by
  subst e1; subst e2; subst e3; subst e4; exact k
section EV
variable {B : ev_B} {d : Nat} {M : ev_M} {pc n : Nat} {ls ls' : List (Option Value)} {st st' : List Value} {h : ev_H} {Q : Option Value → ev_H → Prop}
/-- one instruction that leaves the heap -/
theorem Wp.go {pc' : Nat} (f : ∀ (D : ev_D) (p : Program) (l : Launch) (e : Env) (R : Room) (s : State) (m : MethodId) (args : Array Value) (below : List Frame) (meth : Method) (c : Code) (H : Heap) (locs : List Loc) (a : Array Slot) (cells slots : Nat) (Qf : State → Prop),
      ev_G B D d M p R s m args meth c → ev_R B D h H → va_S (ev_A B) s.heap H locs → ev_L ls a M.2.2.1 →
      (∀ a' : Array Slot, ev_L ls' a' M.2.2.1 → W p l e R s m args below meth c H locs cells slots Qf (F0 m pc' a' st')) → W p l e R s m args below meth c H locs cells slots Qf (F0 m pc a st))
    (k : Wp B d M pc' ls' st' h Q) : Wp B d M pc ls st h Q := by
  obtain ⟨v, h', ⟨hw, hE⟩, hQ⟩ := k
  refine ⟨v, h', ⟨hw, fun D p l e R s m args below meth c hG H locs a cells slots hR hS hL h1 h2 => ?_⟩, hQ⟩
  exact f D p l e R s m args below meth c H locs a cells slots _ hG hR hS hL (fun a' hL' => hE D p l e R s m args below meth c hG H locs a' cells slots hR hS hL' h1 h2)
end EV
/-! the locals -/
def ev_pr (ls : List (Option Value)) : List (Nat × Value) := (List.range ls.length).filterMap (fun i => match ls[i]? with | some (some v) => some (i, v) | _ => none)
theorem ev_pr_mem {ls : List (Option Value)} {q : Nat × Value} : q ∈ ev_pr ls ↔ ls[q.1]? = some (some q.2) := by
  unfold ev_pr
  rw [List.mem_filterMap]
  constructor
  · rintro ⟨i, hi, h⟩
    split at h
    next v hv => cases h; exact hv
    next => cases h
  · intro h
    refine ⟨q.1, List.mem_range.mpr (List.getElem?_eq_some_iff.mp h).1, ?_⟩
    rw [h]
theorem ev_L.has {ls : List (Option Value)} {a : Array Slot} {n : Nat} (h : ev_L ls a n) : lv_has a n (ev_pr ls) := ⟨h.1, h.2.1, fun q hq => h.2.2 q.1 q.2 (ev_pr_mem.mp hq)⟩
theorem ev_L.get {ls : List (Option Value)} {a : Array Slot} {n i : Nat} {v : Value} (h : ev_L ls a n) (hi : ls[i]? = some (some v)) : a[i]? = some (.val v) := h.2.2 i v hi
def ev_cl : Option Value → Option Value
  | some v => if v.category = 2 then none else some v
  | none => none
/-- a value of one slot is stored -/
def ev_st1 : List (Option Value) → Nat → Value → List (Option Value)
  | [], _, _ => []
  | _ :: t, 0, v => some v :: t
  | x :: t, 1, v => ev_cl x :: ev_st1 t 0 v
  | x :: t, i + 2, v => x :: ev_st1 t (i + 1) v
/-- a long is stored -/
def ev_st2 : List (Option Value) → Nat → Value → List (Option Value)
  | [], _, _ => []
  | [_], 0, _ => [none]
  | _ :: _ :: t, 0, v => some v :: none :: t
  | x :: t, 1, v => ev_cl x :: ev_st2 t 0 v
  | x :: t, i + 2, v => x :: ev_st2 t (i + 1) v
theorem ev_cl_some {x : Option Value} {w : Value} (h : ev_cl x = some w) : x = some w ∧ ¬ w.category = 2 := by
  cases x with
  | none => cases h
  | some v =>
    simp only [ev_cl] at h
    split at h
    · cases h
    · next hc => cases h; exact ⟨rfl, hc⟩
theorem ev_st1_spec : ∀ (ls : List (Option Value)) (i : Nat) (v : Value) (j : Nat) (w : Value), (ev_st1 ls i v)[j]? = some (some w) → (j = i ∧ w = v) ∨ (j ≠ i ∧ ls[j]? = some (some w) ∧ ¬ (j + 1 = i ∧ w.category = 2))
  | [], _, _, j, w, h => by simp [ev_st1] at h
  | x :: t, 0, v, 0, w, h => by
    simp [ev_st1] at h
    exact Or.inl ⟨rfl, h.symm⟩
  | x :: t, 0, v, j + 1, w, h => by
    simp [ev_st1] at h
    exact Or.inr ⟨by omega, by simpa using h, by omega⟩
  | x :: t, 1, v, 0, w, h => by
    simp [ev_st1] at h
    obtain ⟨h1, h2⟩ := ev_cl_some h
    exact Or.inr ⟨by omega, by simp [h1], fun z => h2 z.2⟩
  | x :: t, 1, v, j + 1, w, h => by
    simp only [ev_st1, List.getElem?_cons_succ] at h
    rcases ev_st1_spec t 0 v j w h with ⟨a, b⟩ | ⟨a, b, c⟩
    · exact Or.inl ⟨by omega, b⟩
    · exact Or.inr ⟨by omega, by simpa using b, by omega⟩
  | x :: t, i + 2, v, 0, w, h => by
    simp [ev_st1] at h
    exact Or.inr ⟨by omega, by simp [h], by omega⟩
  | x :: t, i + 2, v, j + 1, w, h => by
    simp only [ev_st1, List.getElem?_cons_succ] at h
    rcases ev_st1_spec t (i + 1) v j w h with ⟨a, b⟩ | ⟨a, b, c⟩
    · exact Or.inl ⟨by omega, b⟩
    · exact Or.inr ⟨by omega, by simpa using b, fun z => c ⟨by omega, z.2⟩⟩
theorem ev_st2_spec : ∀ (ls : List (Option Value)) (i : Nat) (v : Value) (j : Nat) (w : Value), (ev_st2 ls i v)[j]? = some (some w) → (j = i ∧ w = v) ∨ (j ≠ i ∧ j ≠ i + 1 ∧ ls[j]? = some (some w) ∧ ¬ (j + 1 = i ∧ w.category = 2))
  | [], _, _, j, w, h => by simp [ev_st2] at h
  | [x], 0, v, j, w, h => by
    cases j <;> simp [ev_st2] at h
  | x :: y :: t, 0, v, 0, w, h => by
    simp [ev_st2] at h
    exact Or.inl ⟨rfl, h.symm⟩
  | x :: y :: t, 0, v, 1, w, h => by simp [ev_st2] at h
  | x :: y :: t, 0, v, j + 2, w, h => by
    simp [ev_st2] at h
    exact Or.inr ⟨by omega, by omega, by simpa using h, by omega⟩
  | x :: t, 1, v, 0, w, h => by
    cases t <;> simp [ev_st2] at h <;> (obtain ⟨h1, h2⟩ := ev_cl_some h; exact Or.inr ⟨by omega, by omega, by simp [h1], fun z => h2 z.2⟩)
  | x :: t, 1, v, j + 1, w, h => by
    have h' : (ev_st2 t 0 v)[j]? = some (some w) := by cases t <;> simpa [ev_st2] using h
    rcases ev_st2_spec t 0 v j w h' with ⟨a, b⟩ | ⟨a, a2, b, c⟩
    · exact Or.inl ⟨by omega, b⟩
    · exact Or.inr ⟨by omega, by omega, by simpa using b, by omega⟩
  | x :: t, i + 2, v, 0, w, h => by
    have h' : x = some w := by cases t <;> simpa [ev_st2] using h
    exact Or.inr ⟨by omega, by omega, by simp [h'], by omega⟩
  | x :: t, i + 2, v, j + 1, w, h => by
    have h' : (ev_st2 t (i + 1) v)[j]? = some (some w) := by cases t <;> simpa [ev_st2] using h
    rcases ev_st2_spec t (i + 1) v j w h' with ⟨a, b⟩ | ⟨a, a2, b, c⟩
    · exact Or.inl ⟨by omega, b⟩
    · exact Or.inr ⟨by omega, by omega, by simpa using b, fun z => c ⟨by omega, z.2⟩⟩
theorem ev_L.st1 {ls : List (Option Value)} {a : Array Slot} {n i : Nat} {v : Value} (h : lv_has a n ((i, v) :: (ev_pr ls).filter (fun q => !(q.1 == i) && !(q.1 + 1 == i && q.2.category == 2)))) : ev_L (ev_st1 ls i v) a n := by
  refine ⟨h.1, h.2.1, fun j w hj => ?_⟩
  rcases ev_st1_spec ls i v j w hj with ⟨rfl, rfl⟩ | ⟨h1, h2, h3⟩
  · exact h.2.2 (j, w) List.mem_cons_self
  · refine h.2.2 (j, w) (List.mem_cons_of_mem _ (List.mem_filter.mpr ⟨ev_pr_mem.mpr h2, ?_⟩))
    by_cases h4 : w.category = 2
    · have : ¬ j + 1 = i := fun z => h3 ⟨z, h4⟩
      simp [h1, this]
    · simp [h1, h4]
theorem ev_L.st2 {ls : List (Option Value)} {a : Array Slot} {n i : Nat} {v : Value} (h : lv_has a n ((i, v) :: (ev_pr ls).filter (fun q => !(q.1 == i) && (!(q.1 == i + 1) && !(q.1 + 1 == i && q.2.category == 2))))) : ev_L (ev_st2 ls i v) a n := by
  refine ⟨h.1, h.2.1, fun j w hj => ?_⟩
  rcases ev_st2_spec ls i v j w hj with ⟨rfl, rfl⟩ | ⟨h1, h1', h2, h3⟩
  · exact h.2.2 (j, w) List.mem_cons_self
  · refine h.2.2 (j, w) (List.mem_cons_of_mem _ (List.mem_filter.mpr ⟨ev_pr_mem.mpr h2, ?_⟩))
    by_cases h4 : w.category = 2
    · have : ¬ j + 1 = i := fun z => h3 ⟨z, h4⟩
      simp [h1, h1', this]
    · simp [h1, h1', h4]
end
section
theorem ev_lc_eq {x y : Int64} : (lg_cmp x y = 0) ↔ x = y := by
  unfold lg_cmp
  by_cases h1 : x > y
  · rw [if_pos h1]; exact ⟨fun z => absurd z (by decide), fun z => by subst z; exact absurd h1 (by simp)⟩
  · rw [if_neg h1]
    by_cases h2 : x = y
    · rw [if_pos h2]; simp [h2]
    · rw [if_neg h2]; exact ⟨fun z => absurd z (by decide), fun z => absurd z h2⟩
theorem ev_lc_ne {x y : Int64} : (¬ lg_cmp x y = 0) ↔ ¬ x = y := not_congr ev_lc_eq
theorem ev_lc_ge {x y : Int64} : (0 ≤ lg_cmp x y) ↔ y ≤ x := lg_cmp_ge x y
theorem ev_lc_le {x y : Int64} : (lg_cmp x y ≤ 0) ↔ x ≤ y := lg_cmp_le x y
theorem ev_lc_lt {x y : Int64} : (lg_cmp x y < 0) ↔ x < y := by
  have h := @ev_lc_ge x y
  constructor
  · intro z
    refine Int64.not_le.mp fun q => ?_
    exact absurd (h.mpr q) (Int32.not_le.mpr z)
  · intro z
    refine Int32.not_le.mp fun q => ?_
    exact absurd (h.mp q) (Int64.not_le.mpr z)
theorem ev_lc_gt {x y : Int64} : (0 < lg_cmp x y) ↔ y < x := by
  have h := @ev_lc_le x y
  constructor
  · intro z
    refine Int64.not_le.mp fun q => ?_
    exact absurd (h.mpr q) (Int32.not_le.mpr z)
  · intro z
    refine Int32.not_le.mp fun q => ?_
    exact absurd (h.mp q) (Int64.not_le.mpr z)
/-! one row an instruction: those that leave the heap -/
def ev_isr (v : Value) : Prop := v = .null ∨ ∃ a : Nat, v = .ref a
section EVI
variable {B : ev_B} {d : Nat} {M : ev_M} {pc n : Nat} {ls ls' : List (Option Value)} {st st' : List Value} {h : ev_H} {Q : Option Value → ev_H → Prop}
theorem Wp.iadd {x y : Int32} (hd : decode M.2.1 pc = .ok (.iadd, 1)) (hn : pc + 1 = n) (k : Wp B d M n ls (.int (x + y) :: st) h Q) : Wp B d M pc ls (.int y :: .int x :: st) h Q := by
  subst hn
  exact Wp.go (fun D p l e R s m args below meth c H locs a cells slots Qf hG hR hS hL kk => lv_iadd hG.1 hG.2.1 hd (kk a hL)) k
theorem Wp.isub {x y : Int32} (hd : decode M.2.1 pc = .ok (.isub, 1)) (hn : pc + 1 = n) (k : Wp B d M n ls (.int (x - y) :: st) h Q) : Wp B d M pc ls (.int y :: .int x :: st) h Q := by
  subst hn
  exact Wp.go (fun D p l e R s m args below meth c H locs a cells slots Qf hG hR hS hL kk => lv_isub hG.1 hG.2.1 hd (kk a hL)) k
theorem Wp.imul {x y : Int32} (hd : decode M.2.1 pc = .ok (.imul, 1)) (hn : pc + 1 = n) (k : Wp B d M n ls (.int (x * y) :: st) h Q) : Wp B d M pc ls (.int y :: .int x :: st) h Q := by
  subst hn
  exact Wp.go (fun D p l e R s m args below meth c H locs a cells slots Qf hG hR hS hL kk => lv_imul hG.1 hG.2.1 hd (kk a hL)) k
theorem Wp.iand {x y : Int32} (hd : decode M.2.1 pc = .ok (.iand, 1)) (hn : pc + 1 = n) (k : Wp B d M n ls (.int (x &&& y) :: st) h Q) : Wp B d M pc ls (.int y :: .int x :: st) h Q := by
  subst hn
  exact Wp.go (fun D p l e R s m args below meth c H locs a cells slots Qf hG hR hS hL kk => lv_iand hG.1 hG.2.1 hd (kk a hL)) k
theorem Wp.ior {x y : Int32} (hd : decode M.2.1 pc = .ok (.ior, 1)) (hn : pc + 1 = n) (k : Wp B d M n ls (.int (x ||| y) :: st) h Q) : Wp B d M pc ls (.int y :: .int x :: st) h Q := by
  subst hn
  exact Wp.go (fun D p l e R s m args below meth c H locs a cells slots Qf hG hR hS hL kk => lv_ior hG.1 hG.2.1 hd (kk a hL)) k
theorem Wp.ixor {x y : Int32} (hd : decode M.2.1 pc = .ok (.ixor, 1)) (hn : pc + 1 = n) (k : Wp B d M n ls (.int (x ^^^ y) :: st) h Q) : Wp B d M pc ls (.int y :: .int x :: st) h Q := by
  subst hn
  exact Wp.go (fun D p l e R s m args below meth c H locs a cells slots Qf hG hR hS hL kk => lv_ixor hG.1 hG.2.1 hd (kk a hL)) k
theorem Wp.ishl {x y : Int32} (hd : decode M.2.1 pc = .ok (.ishl, 1)) (hn : pc + 1 = n) (k : Wp B d M n ls (.int (x <<< (y &&& 31)) :: st) h Q) : Wp B d M pc ls (.int y :: .int x :: st) h Q := by
  subst hn
  exact Wp.go (fun D p l e R s m args below meth c H locs a cells slots Qf hG hR hS hL kk => lv_ishl hG.1 hG.2.1 hd (kk a hL)) k
theorem Wp.ishr {x y : Int32} (hd : decode M.2.1 pc = .ok (.ishr, 1)) (hn : pc + 1 = n) (k : Wp B d M n ls (.int (x >>> (y &&& 31)) :: st) h Q) : Wp B d M pc ls (.int y :: .int x :: st) h Q := by
  subst hn
  exact Wp.go (fun D p l e R s m args below meth c H locs a cells slots Qf hG hR hS hL kk => lv_ishr hG.1 hG.2.1 hd (kk a hL)) k
theorem Wp.irem {x y : Int32} (hd : decode M.2.1 pc = .ok (.irem, 1)) (hne : ¬ y = 0) (hn : pc + 1 = n) (k : Wp B d M n ls (.int (x - x / y * y) :: st) h Q) : Wp B d M pc ls (.int y :: .int x :: st) h Q := by
  subst hn
  exact Wp.go (fun D p l e R s m args below meth c H locs a cells slots Qf hG hR hS hL kk => lv_irem hG.1 hG.2.1 hd hne (kk a hL)) k
theorem Wp.ladd {x y : Int64} (hd : decode M.2.1 pc = .ok (.ladd, 1)) (hn : pc + 1 = n) (k : Wp B d M n ls (.long (x + y) :: st) h Q) : Wp B d M pc ls (.long y :: .long x :: st) h Q := by
  subst hn
  exact Wp.go (fun D p l e R s m args below meth c H locs a cells slots Qf hG hR hS hL kk => lv_ladd hG.1 hG.2.1 hd (kk a hL)) k
theorem Wp.lsub {x y : Int64} (hd : decode M.2.1 pc = .ok (.lsub, 1)) (hn : pc + 1 = n) (k : Wp B d M n ls (.long (x - y) :: st) h Q) : Wp B d M pc ls (.long y :: .long x :: st) h Q := by
  subst hn
  exact Wp.go (fun D p l e R s m args below meth c H locs a cells slots Qf hG hR hS hL kk => lv_lsub hG.1 hG.2.1 hd (kk a hL)) k
theorem Wp.lmul {x y : Int64} (hd : decode M.2.1 pc = .ok (.lmul, 1)) (hn : pc + 1 = n) (k : Wp B d M n ls (.long (x * y) :: st) h Q) : Wp B d M pc ls (.long y :: .long x :: st) h Q := by
  subst hn
  exact Wp.go (fun D p l e R s m args below meth c H locs a cells slots Qf hG hR hS hL kk => lv_lmul hG.1 hG.2.1 hd (kk a hL)) k
theorem Wp.ldiv {x y : Int64} (hd : decode M.2.1 pc = .ok (.ldiv, 1)) (hne : ¬ y = 0) (hn : pc + 1 = n) (k : Wp B d M n ls (.long (x / y) :: st) h Q) : Wp B d M pc ls (.long y :: .long x :: st) h Q := by
  subst hn
  exact Wp.go (fun D p l e R s m args below meth c H locs a cells slots Qf hG hR hS hL kk => lv_ldiv hG.1 hG.2.1 hd hne (kk a hL)) k
theorem Wp.lrem {x y : Int64} (hd : decode M.2.1 pc = .ok (.lrem, 1)) (hne : ¬ y = 0) (hn : pc + 1 = n) (k : Wp B d M n ls (.long (x - x / y * y) :: st) h Q) : Wp B d M pc ls (.long y :: .long x :: st) h Q := by
  subst hn
  exact Wp.go (fun D p l e R s m args below meth c H locs a cells slots Qf hG hR hS hL kk => lv_lrem hG.1 hG.2.1 hd hne (kk a hL)) k
theorem Wp.iushr {x y : Int32} (hd : decode M.2.1 pc = .ok (.iushr, 1)) (hn : pc + 1 = n) (k : Wp B d M n ls (.int ((x.toUInt32 >>> (y.toUInt32 &&& Int32.toUInt32 31)).toInt32) :: st) h Q) : Wp B d M pc ls (.int y :: .int x :: st) h Q := by
  subst hn
  exact Wp.go (fun D p l e R s m args below meth c H locs a cells slots Qf hG hR hS hL kk => lv_iushr hG.1 hG.2.1 hd rfl (kk a hL)) k
theorem Wp.ineg {x : Int32} (hd : decode M.2.1 pc = .ok (.ineg, 1)) (hn : pc + 1 = n) (k : Wp B d M n ls (.int (-x) :: st) h Q) : Wp B d M pc ls (.int x :: st) h Q := by
  subst hn
  exact Wp.go (fun D p l e R s m args below meth c H locs a cells slots Qf hG hR hS hL kk => lv_ineg hG.1 hG.2.1 hd (kk a hL)) k
theorem Wp.lneg {x : Int64} (hd : decode M.2.1 pc = .ok (.lneg, 1)) (hn : pc + 1 = n) (k : Wp B d M n ls (.long (-x) :: st) h Q) : Wp B d M pc ls (.long x :: st) h Q := by
  subst hn
  exact Wp.go (fun D p l e R s m args below meth c H locs a cells slots Qf hG hR hS hL kk => lv_lneg hG.1 hG.2.1 hd (kk a hL)) k
theorem Wp.i2l {x : Int32} (hd : decode M.2.1 pc = .ok (.i2l, 1)) (hn : pc + 1 = n) (k : Wp B d M n ls (.long x.toInt64 :: st) h Q) : Wp B d M pc ls (.int x :: st) h Q := by
  subst hn
  exact Wp.go (fun D p l e R s m args below meth c H locs a cells slots Qf hG hR hS hL kk => lv_i2l hG.1 hG.2.1 hd rfl (kk a hL)) k
theorem Wp.l2i {x : Int64} (hd : decode M.2.1 pc = .ok (.l2i, 1)) (hn : pc + 1 = n) (k : Wp B d M n ls (.int x.toInt32 :: st) h Q) : Wp B d M pc ls (.long x :: st) h Q := by
  subst hn
  exact Wp.go (fun D p l e R s m args below meth c H locs a cells slots Qf hG hR hS hL kk => lv_l2i hG.1 hG.2.1 hd rfl (kk a hL)) k
theorem Wp.i2b {x : Int32} (hd : decode M.2.1 pc = .ok (.i2b, 1)) (hn : pc + 1 = n) (k : Wp B d M n ls (.int x.toInt8.toInt32 :: st) h Q) : Wp B d M pc ls (.int x :: st) h Q := by
  subst hn
  exact Wp.go (fun D p l e R s m args below meth c H locs a cells slots Qf hG hR hS hL kk => lv_i2b hG.1 hG.2.1 hd rfl (kk a hL)) k
theorem Wp.lcmp {x y : Int64} (hd : decode M.2.1 pc = .ok (.lcmp, 1)) (hn : pc + 1 = n) (k : Wp B d M n ls (.int (lg_cmp x y) :: st) h Q) : Wp B d M pc ls (.long y :: .long x :: st) h Q := by
  subst hn
  exact Wp.go (fun D p l e R s m args below meth c H locs a cells slots Qf hG hR hS hL kk => W.lcmp hG.1 hG.2.1 hd (kk a hL)) k
theorem Wp.iconst {i : Int} {v : Int32} (hd : decode M.2.1 pc = .ok (.iconst i, 1)) (hv : Int32.ofInt i = v) (hn : pc + 1 = n) (k : Wp B d M n ls (.int v :: st) h Q) : Wp B d M pc ls st h Q := by
  subst hn
  exact Wp.go (fun D p l e R s m args below meth c H locs a cells slots Qf hG hR hS hL kk => lv_iconst hG.1 hG.2.1 hd hv (kk a hL)) k
theorem Wp.bipush {i : Int} {v : Int32} (hd : decode M.2.1 pc = .ok (.bipush i, 2)) (hv : (Int8.ofInt i).toInt32 = v) (hn : pc + 2 = n) (k : Wp B d M n ls (.int v :: st) h Q) : Wp B d M pc ls st h Q := by
  subst hn
  exact Wp.go (fun D p l e R s m args below meth c H locs a cells slots Qf hG hR hS hL kk => lv_bipush hG.1 hG.2.1 hd hv (kk a hL)) k
theorem Wp.sipush {i : Int} {v : Int32} (hd : decode M.2.1 pc = .ok (.sipush i, 3)) (hv : (Int16.ofInt i).toInt32 = v) (hn : pc + 3 = n) (k : Wp B d M n ls (.int v :: st) h Q) : Wp B d M pc ls st h Q := by
  subst hn
  exact Wp.go (fun D p l e R s m args below meth c H locs a cells slots Qf hG hR hS hL kk => lv_sipush hG.1 hG.2.1 hd hv (kk a hL)) k
theorem Wp.lconst {i : Fin 2} {v : Int64} (hd : decode M.2.1 pc = .ok (.lconst i, 1)) (hv : Int64.ofNat (i : Nat) = v) (hn : pc + 1 = n) (k : Wp B d M n ls (.long v :: st) h Q) : Wp B d M pc ls st h Q := by
  subst hn
  exact Wp.go (fun D p l e R s m args below meth c H locs a cells slots Qf hG hR hS hL kk => lv_lconst hG.1 hG.2.1 hd hv (kk a hL)) k
theorem Wp.aconst_null (hd : decode M.2.1 pc = .ok (.aconst_null, 1)) (hn : pc + 1 = n) (k : Wp B d M n ls (.null :: st) h Q) : Wp B d M pc ls st h Q := by
  subst hn
  exact Wp.go (fun D p l e R s m args below meth c H locs a cells slots Qf hG hR hS hL kk => lv_null hG.1 hG.2.1 hd (kk a hL)) k
theorem Wp.dup {x : Value} (hd : decode M.2.1 pc = .ok (.dup, 1)) (hx : x.category = 1) (hn : pc + 1 = n) (k : Wp B d M n ls (x :: x :: st) h Q) : Wp B d M pc ls (x :: st) h Q := by
  subst hn
  exact Wp.go (fun D p l e R s m args below meth c H locs a cells slots Qf hG hR hS hL kk => lv_dup hG.1 hG.2.1 hd hx (kk a hL)) k
theorem Wp.pop {x : Value} (hd : decode M.2.1 pc = .ok (.pop, 1)) (hx : x.category = 1) (hn : pc + 1 = n) (k : Wp B d M n ls st h Q) : Wp B d M pc ls (x :: st) h Q := by
  subst hn
  exact Wp.go (fun D p l e R s m args below meth c H locs a cells slots Qf hG hR hS hL kk => lv_pop hG.1 hG.2.1 hd hx (kk a hL)) k
theorem Wp.dup_x1 {x y : Value} (hd : decode M.2.1 pc = .ok (.dup_x1, 1)) (hx : x.category = 1) (hy : y.category = 1) (hn : pc + 1 = n) (k : Wp B d M n ls (x :: y :: x :: st) h Q) : Wp B d M pc ls (x :: y :: st) h Q := by
  subst hn
  exact Wp.go (fun D p l e R s m args below meth c H locs a cells slots Qf hG hR hS hL kk => lv_dup_x1 hG.1 hG.2.1 hd hx hy (kk a hL)) k
theorem Wp.dup2 {x y : Value} (hd : decode M.2.1 pc = .ok (.dup2, 1)) (hx : x.category = 1) (hy : y.category = 1) (hn : pc + 1 = n) (k : Wp B d M n ls (x :: y :: x :: y :: st) h Q) : Wp B d M pc ls (x :: y :: st) h Q := by
  subst hn
  exact Wp.go (fun D p l e R s m args below meth c H locs a cells slots Qf hG hR hS hL kk => lv_dup2_11 hG.1 hG.2.1 hd hx hy (kk a hL)) k
theorem Wp.iload_n {k : Fin 4} {x : Int32} (hd : decode M.2.1 pc = .ok (.iload_n k, 1)) (hl : ls[(k : Nat)]? = some (some (.int x))) (hn : pc + 1 = n) (k : Wp B d M n ls (.int x :: st) h Q) : Wp B d M pc ls st h Q := by
  subst hn
  exact Wp.go (fun D p l e R s m args below meth c H locs a cells slots Qf hG hR hS hL kk => lv_iload_n hG.1 hG.2.1 hd rfl (hL.get hl) (kk a hL)) k
theorem Wp.iload {i : Nat} {x : Int32} (hd : decode M.2.1 pc = .ok (.iload i, 2)) (hl : ls[i]? = some (some (.int x))) (hn : pc + 2 = n) (k : Wp B d M n ls (.int x :: st) h Q) : Wp B d M pc ls st h Q := by
  subst hn
  exact Wp.go (fun D p l e R s m args below meth c H locs a cells slots Qf hG hR hS hL kk => lv_iload hG.1 hG.2.1 hd (hL.get hl) (kk a hL)) k
theorem Wp.lload_n {k : Fin 4} {x : Int64} (hd : decode M.2.1 pc = .ok (.lload_n k, 1)) (hl : ls[(k : Nat)]? = some (some (.long x))) (hn : pc + 1 = n) (k : Wp B d M n ls (.long x :: st) h Q) : Wp B d M pc ls st h Q := by
  subst hn
  exact Wp.go (fun D p l e R s m args below meth c H locs a cells slots Qf hG hR hS hL kk => lv_lload_n hG.1 hG.2.1 hd rfl (hL.get hl) (kk a hL)) k
theorem Wp.lload {i : Nat} {x : Int64} (hd : decode M.2.1 pc = .ok (.lload i, 2)) (hl : ls[i]? = some (some (.long x))) (hn : pc + 2 = n) (k : Wp B d M n ls (.long x :: st) h Q) : Wp B d M pc ls st h Q := by
  subst hn
  exact Wp.go (fun D p l e R s m args below meth c H locs a cells slots Qf hG hR hS hL kk => lv_lload hG.1 hG.2.1 hd (hL.get hl) (kk a hL)) k
theorem Wp.aload_n {k : Fin 4} {x : Value} (hd : decode M.2.1 pc = .ok (.aload_n k, 1)) (hl : ls[(k : Nat)]? = some (some x)) (hx : ev_isr x) (hn : pc + 1 = n) (k' : Wp B d M n ls (x :: st) h Q) : Wp B d M pc ls st h Q := by
  subst hn
  rcases hx with rfl | ⟨b, rfl⟩
  · exact Wp.go (fun D p l e R s m args below meth c H locs a cells slots Qf hG hR hS hL kk => lv_aload_nN hG.1 hG.2.1 hd rfl (hL.get hl) (kk a hL)) k'
  · exact Wp.go (fun D p l e R s m args below meth c H locs a cells slots Qf hG hR hS hL kk => lv_aload_n hG.1 hG.2.1 hd rfl (hL.get hl) (kk a hL)) k'
theorem Wp.aload {i : Nat} {x : Value} (hd : decode M.2.1 pc = .ok (.aload i, 2)) (hl : ls[i]? = some (some x)) (hx : ev_isr x) (hn : pc + 2 = n) (k' : Wp B d M n ls (x :: st) h Q) : Wp B d M pc ls st h Q := by
  subst hn
  rcases hx with rfl | ⟨b, rfl⟩
  · exact Wp.go (fun D p l e R s m args below meth c H locs a cells slots Qf hG hR hS hL kk => lv_aloadN hG.1 hG.2.1 hd (hL.get hl) (kk a hL)) k'
  · exact Wp.go (fun D p l e R s m args below meth c H locs a cells slots Qf hG hR hS hL kk => lv_aload hG.1 hG.2.1 hd (hL.get hl) (kk a hL)) k'
theorem Wp.istore_n {i : Fin 4} {x : Int32} (hd : decode M.2.1 pc = .ok (.istore_n i, 1)) (hi : (i : Nat) < M.2.2.1) (hl : ev_st1 ls (i : Nat) (.int x) = ls') (hn : pc + 1 = n) (k : Wp B d M n ls' st h Q) : Wp B d M pc ls (.int x :: st) h Q := by
  subst hn; subst hl
  exact Wp.go (fun D p l e R s m args below meth c H locs a cells slots Qf hG hR hS hL kk => lv_istore_n hG.1 hG.2.1 hd rfl hL.has hi rfl (fun a' h' => kk a' (ev_L.st1 h'))) k
theorem Wp.istore {i : Nat} {x : Int32} (hd : decode M.2.1 pc = .ok (.istore i, 2)) (hi : i < M.2.2.1) (hl : ev_st1 ls i (.int x) = ls') (hn : pc + 2 = n) (k : Wp B d M n ls' st h Q) : Wp B d M pc ls (.int x :: st) h Q := by
  subst hn; subst hl
  exact Wp.go (fun D p l e R s m args below meth c H locs a cells slots Qf hG hR hS hL kk => lv_istore hG.1 hG.2.1 hd hL.has hi rfl (fun a' h' => kk a' (ev_L.st1 h'))) k
theorem Wp.lstore_n {i : Fin 4} {x : Int64} (hd : decode M.2.1 pc = .ok (.lstore_n i, 1)) (hi : (i : Nat) + 1 < M.2.2.1) (hl : ev_st2 ls (i : Nat) (.long x) = ls') (hn : pc + 1 = n) (k : Wp B d M n ls' st h Q) : Wp B d M pc ls (.long x :: st) h Q := by
  subst hn; subst hl
  exact Wp.go (fun D p l e R s m args below meth c H locs a cells slots Qf hG hR hS hL kk => lv_lstore_n hG.1 hG.2.1 hd rfl hL.has hi rfl (fun a' h' => kk a' (ev_L.st2 h'))) k
theorem Wp.lstore {i : Nat} {x : Int64} (hd : decode M.2.1 pc = .ok (.lstore i, 2)) (hi : i + 1 < M.2.2.1) (hl : ev_st2 ls i (.long x) = ls') (hn : pc + 2 = n) (k : Wp B d M n ls' st h Q) : Wp B d M pc ls (.long x :: st) h Q := by
  subst hn; subst hl
  exact Wp.go (fun D p l e R s m args below meth c H locs a cells slots Qf hG hR hS hL kk => lv_lstore hG.1 hG.2.1 hd hL.has hi rfl (fun a' h' => kk a' (ev_L.st2 h'))) k
theorem Wp.astore_n {i : Fin 4} {x : Value} (hd : decode M.2.1 pc = .ok (.astore_n i, 1)) (hx : ev_isr x) (hi : (i : Nat) < M.2.2.1) (hl : ev_st1 ls (i : Nat) x = ls') (hn : pc + 1 = n) (k : Wp B d M n ls' st h Q) : Wp B d M pc ls (x :: st) h Q := by
  subst hn; subst hl
  rcases hx with rfl | ⟨b, rfl⟩
  · exact Wp.go (fun D p l e R s m args below meth c H locs a cells slots Qf hG hR hS hL kk => lv_astore_nN hG.1 hG.2.1 hd rfl hL.has hi rfl (fun a' h' => kk a' (ev_L.st1 h'))) k
  · exact Wp.go (fun D p l e R s m args below meth c H locs a cells slots Qf hG hR hS hL kk => lv_astore_n hG.1 hG.2.1 hd rfl hL.has hi rfl (fun a' h' => kk a' (ev_L.st1 h'))) k
theorem Wp.astore {i : Nat} {x : Value} (hd : decode M.2.1 pc = .ok (.astore i, 2)) (hx : ev_isr x) (hi : i < M.2.2.1) (hl : ev_st1 ls i x = ls') (hn : pc + 2 = n) (k : Wp B d M n ls' st h Q) : Wp B d M pc ls (x :: st) h Q := by
  subst hn; subst hl
  rcases hx with rfl | ⟨b, rfl⟩
  · exact Wp.go (fun D p l e R s m args below meth c H locs a cells slots Qf hG hR hS hL kk => lv_astoreN hG.1 hG.2.1 hd hL.has hi rfl (fun a' h' => kk a' (ev_L.st1 h'))) k
  · exact Wp.go (fun D p l e R s m args below meth c H locs a cells slots Qf hG hR hS hL kk => lv_astore hG.1 hG.2.1 hd hL.has hi rfl (fun a' h' => kk a' (ev_L.st1 h'))) k
theorem Wp.iinc {i : Nat} {z : Int} {x v : Int32} (hd : decode M.2.1 pc = .ok (.iinc i z, 3)) (hx : ls[i]? = some (some (.int x))) (hv : x + Int32.ofInt z = v) (hi : i < M.2.2.1) (hl : ev_st1 ls i (.int v) = ls') (hn : pc + 3 = n) (k : Wp B d M n ls' st h Q) : Wp B d M pc ls st h Q := by
  subst hn; subst hl
  refine Wp.go (fun D p l e R s m args below meth c H locs a cells slots Qf hG hR hS hL kk => ?_) k
  obtain ⟨j, hj⟩ := List.getElem?_of_mem (ev_pr_mem (q := (i, .int x)).mpr hx)
  exact lv_iinc hG.1 hG.2.1 hd hL.has hj hv hi rfl (fun a' h' => kk a' (ev_L.st1 h'))
theorem Wp.goto {off : Int} (hd : decode M.2.1 pc = .ok (.goto off, 3)) (ht : (pc : Int) + off = (n : Int)) (k : Wp B d M n ls st h Q) : Wp B d M pc ls st h Q :=
  Wp.go (fun D p l e R s m args below meth c H locs a cells slots Qf hG hR hS hL kk => lv_goto hG.1 hG.2.1 hd ht (kk a hL)) k
theorem Wp.icmp_eq {x y : Int32} {off : Int} {tgt : Nat} (hd : decode M.2.1 pc = .ok (.if_icmp .eq off, 3)) (ht : (pc : Int) + off = (tgt : Int)) (hn : pc + 3 = n) (kt : x = y → Wp B d M tgt ls st h Q) (kf : ¬ x = y → Wp B d M n ls st h Q) : Wp B d M pc ls (.int y :: .int x :: st) h Q := by
  subst hn
  by_cases hc : x = y
  · exact Wp.go (fun D p l e R s m args below meth c H locs a cells slots Qf hG hR hS hL kk => lv_icmp_eq hG.1 hG.2.1 hd ht (fun _ => kk a hL) (fun z => absurd hc z)) (kt hc)
  · exact Wp.go (fun D p l e R s m args below meth c H locs a cells slots Qf hG hR hS hL kk => lv_icmp_eq hG.1 hG.2.1 hd ht (fun z => absurd z hc) (fun _ => kk a hL)) (kf hc)
theorem Wp.if_eq {x : Int32} {off : Int} {tgt : Nat} (hd : decode M.2.1 pc = .ok (.ifCond .eq off, 3)) (ht : (pc : Int) + off = (tgt : Int)) (hn : pc + 3 = n) (kt : x = 0 → Wp B d M tgt ls st h Q) (kf : ¬ x = 0 → Wp B d M n ls st h Q) : Wp B d M pc ls (.int x :: st) h Q := by
  subst hn
  by_cases hc : x = 0
  · exact Wp.go (fun D p l e R s m args below meth c H locs a cells slots Qf hG hR hS hL kk => lv_if_eq hG.1 hG.2.1 hd ht (fun _ => kk a hL) (fun z => absurd hc z)) (kt hc)
  · exact Wp.go (fun D p l e R s m args below meth c H locs a cells slots Qf hG hR hS hL kk => lv_if_eq hG.1 hG.2.1 hd ht (fun z => absurd z hc) (fun _ => kk a hL)) (kf hc)
theorem Wp.icmp_ne {x y : Int32} {off : Int} {tgt : Nat} (hd : decode M.2.1 pc = .ok (.if_icmp .ne off, 3)) (ht : (pc : Int) + off = (tgt : Int)) (hn : pc + 3 = n) (kt : ¬ x = y → Wp B d M tgt ls st h Q) (kf : x = y → Wp B d M n ls st h Q) : Wp B d M pc ls (.int y :: .int x :: st) h Q := by
  subst hn
  by_cases hc : ¬ x = y
  · exact Wp.go (fun D p l e R s m args below meth c H locs a cells slots Qf hG hR hS hL kk => lv_icmp_ne hG.1 hG.2.1 hd ht (fun _ => kk a hL) (fun z => absurd z hc)) (kt hc)
  · exact Wp.go (fun D p l e R s m args below meth c H locs a cells slots Qf hG hR hS hL kk => lv_icmp_ne hG.1 hG.2.1 hd ht (fun z => absurd z hc) (fun _ => kk a hL)) (kf (Classical.not_not.mp hc))
theorem Wp.if_ne {x : Int32} {off : Int} {tgt : Nat} (hd : decode M.2.1 pc = .ok (.ifCond .ne off, 3)) (ht : (pc : Int) + off = (tgt : Int)) (hn : pc + 3 = n) (kt : ¬ x = 0 → Wp B d M tgt ls st h Q) (kf : x = 0 → Wp B d M n ls st h Q) : Wp B d M pc ls (.int x :: st) h Q := by
  subst hn
  by_cases hc : ¬ x = 0
  · exact Wp.go (fun D p l e R s m args below meth c H locs a cells slots Qf hG hR hS hL kk => lv_if_ne hG.1 hG.2.1 hd ht (fun _ => kk a hL) (fun z => absurd z hc)) (kt hc)
  · exact Wp.go (fun D p l e R s m args below meth c H locs a cells slots Qf hG hR hS hL kk => lv_if_ne hG.1 hG.2.1 hd ht (fun z => absurd z hc) (fun _ => kk a hL)) (kf (Classical.not_not.mp hc))
theorem Wp.icmp_lt {x y : Int32} {off : Int} {tgt : Nat} (hd : decode M.2.1 pc = .ok (.if_icmp .lt off, 3)) (ht : (pc : Int) + off = (tgt : Int)) (hn : pc + 3 = n) (kt : x < y → Wp B d M tgt ls st h Q) (kf : ¬ x < y → Wp B d M n ls st h Q) : Wp B d M pc ls (.int y :: .int x :: st) h Q := by
  subst hn
  by_cases hc : x < y
  · exact Wp.go (fun D p l e R s m args below meth c H locs a cells slots Qf hG hR hS hL kk => lv_icmp_lt hG.1 hG.2.1 hd ht (fun _ => kk a hL) (fun z => absurd hc z)) (kt hc)
  · exact Wp.go (fun D p l e R s m args below meth c H locs a cells slots Qf hG hR hS hL kk => lv_icmp_lt hG.1 hG.2.1 hd ht (fun z => absurd z hc) (fun _ => kk a hL)) (kf hc)
theorem Wp.if_lt {x : Int32} {off : Int} {tgt : Nat} (hd : decode M.2.1 pc = .ok (.ifCond .lt off, 3)) (ht : (pc : Int) + off = (tgt : Int)) (hn : pc + 3 = n) (kt : x < 0 → Wp B d M tgt ls st h Q) (kf : ¬ x < 0 → Wp B d M n ls st h Q) : Wp B d M pc ls (.int x :: st) h Q := by
  subst hn
  by_cases hc : x < 0
  · exact Wp.go (fun D p l e R s m args below meth c H locs a cells slots Qf hG hR hS hL kk => lv_if_lt hG.1 hG.2.1 hd ht (fun _ => kk a hL) (fun z => absurd hc z)) (kt hc)
  · exact Wp.go (fun D p l e R s m args below meth c H locs a cells slots Qf hG hR hS hL kk => lv_if_lt hG.1 hG.2.1 hd ht (fun z => absurd z hc) (fun _ => kk a hL)) (kf hc)
theorem Wp.icmp_ge {x y : Int32} {off : Int} {tgt : Nat} (hd : decode M.2.1 pc = .ok (.if_icmp .ge off, 3)) (ht : (pc : Int) + off = (tgt : Int)) (hn : pc + 3 = n) (kt : y ≤ x → Wp B d M tgt ls st h Q) (kf : ¬ y ≤ x → Wp B d M n ls st h Q) : Wp B d M pc ls (.int y :: .int x :: st) h Q := by
  subst hn
  by_cases hc : y ≤ x
  · exact Wp.go (fun D p l e R s m args below meth c H locs a cells slots Qf hG hR hS hL kk => lv_icmp_ge hG.1 hG.2.1 hd ht (fun _ => kk a hL) (fun z => absurd hc z)) (kt hc)
  · exact Wp.go (fun D p l e R s m args below meth c H locs a cells slots Qf hG hR hS hL kk => lv_icmp_ge hG.1 hG.2.1 hd ht (fun z => absurd z hc) (fun _ => kk a hL)) (kf hc)
theorem Wp.if_ge {x : Int32} {off : Int} {tgt : Nat} (hd : decode M.2.1 pc = .ok (.ifCond .ge off, 3)) (ht : (pc : Int) + off = (tgt : Int)) (hn : pc + 3 = n) (kt : 0 ≤ x → Wp B d M tgt ls st h Q) (kf : ¬ 0 ≤ x → Wp B d M n ls st h Q) : Wp B d M pc ls (.int x :: st) h Q := by
  subst hn
  by_cases hc : 0 ≤ x
  · exact Wp.go (fun D p l e R s m args below meth c H locs a cells slots Qf hG hR hS hL kk => lv_if_ge hG.1 hG.2.1 hd ht (fun _ => kk a hL) (fun z => absurd hc z)) (kt hc)
  · exact Wp.go (fun D p l e R s m args below meth c H locs a cells slots Qf hG hR hS hL kk => lv_if_ge hG.1 hG.2.1 hd ht (fun z => absurd z hc) (fun _ => kk a hL)) (kf hc)
theorem Wp.icmp_gt {x y : Int32} {off : Int} {tgt : Nat} (hd : decode M.2.1 pc = .ok (.if_icmp .gt off, 3)) (ht : (pc : Int) + off = (tgt : Int)) (hn : pc + 3 = n) (kt : y < x → Wp B d M tgt ls st h Q) (kf : ¬ y < x → Wp B d M n ls st h Q) : Wp B d M pc ls (.int y :: .int x :: st) h Q := by
  subst hn
  by_cases hc : y < x
  · exact Wp.go (fun D p l e R s m args below meth c H locs a cells slots Qf hG hR hS hL kk => lv_icmp_gt hG.1 hG.2.1 hd ht (fun _ => kk a hL) (fun z => absurd hc z)) (kt hc)
  · exact Wp.go (fun D p l e R s m args below meth c H locs a cells slots Qf hG hR hS hL kk => lv_icmp_gt hG.1 hG.2.1 hd ht (fun z => absurd z hc) (fun _ => kk a hL)) (kf hc)
theorem Wp.if_gt {x : Int32} {off : Int} {tgt : Nat} (hd : decode M.2.1 pc = .ok (.ifCond .gt off, 3)) (ht : (pc : Int) + off = (tgt : Int)) (hn : pc + 3 = n) (kt : 0 < x → Wp B d M tgt ls st h Q) (kf : ¬ 0 < x → Wp B d M n ls st h Q) : Wp B d M pc ls (.int x :: st) h Q := by
  subst hn
  by_cases hc : 0 < x
  · exact Wp.go (fun D p l e R s m args below meth c H locs a cells slots Qf hG hR hS hL kk => lv_if_gt hG.1 hG.2.1 hd ht (fun _ => kk a hL) (fun z => absurd hc z)) (kt hc)
  · exact Wp.go (fun D p l e R s m args below meth c H locs a cells slots Qf hG hR hS hL kk => lv_if_gt hG.1 hG.2.1 hd ht (fun z => absurd z hc) (fun _ => kk a hL)) (kf hc)
theorem Wp.icmp_le {x y : Int32} {off : Int} {tgt : Nat} (hd : decode M.2.1 pc = .ok (.if_icmp .le off, 3)) (ht : (pc : Int) + off = (tgt : Int)) (hn : pc + 3 = n) (kt : x ≤ y → Wp B d M tgt ls st h Q) (kf : ¬ x ≤ y → Wp B d M n ls st h Q) : Wp B d M pc ls (.int y :: .int x :: st) h Q := by
  subst hn
  by_cases hc : x ≤ y
  · exact Wp.go (fun D p l e R s m args below meth c H locs a cells slots Qf hG hR hS hL kk => lv_icmp_le hG.1 hG.2.1 hd ht (fun _ => kk a hL) (fun z => absurd hc z)) (kt hc)
  · exact Wp.go (fun D p l e R s m args below meth c H locs a cells slots Qf hG hR hS hL kk => lv_icmp_le hG.1 hG.2.1 hd ht (fun z => absurd z hc) (fun _ => kk a hL)) (kf hc)
theorem Wp.if_le {x : Int32} {off : Int} {tgt : Nat} (hd : decode M.2.1 pc = .ok (.ifCond .le off, 3)) (ht : (pc : Int) + off = (tgt : Int)) (hn : pc + 3 = n) (kt : x ≤ 0 → Wp B d M tgt ls st h Q) (kf : ¬ x ≤ 0 → Wp B d M n ls st h Q) : Wp B d M pc ls (.int x :: st) h Q := by
  subst hn
  by_cases hc : x ≤ 0
  · exact Wp.go (fun D p l e R s m args below meth c H locs a cells slots Qf hG hR hS hL kk => lv_if_le hG.1 hG.2.1 hd ht (fun _ => kk a hL) (fun z => absurd hc z)) (kt hc)
  · exact Wp.go (fun D p l e R s m args below meth c H locs a cells slots Qf hG hR hS hL kk => lv_if_le hG.1 hG.2.1 hd ht (fun z => absurd z hc) (fun _ => kk a hL)) (kf hc)
theorem Wp.lcmp_eq {x y : Int64} {off : Int} {tgt pc1 : Nat} (hd0 : decode M.2.1 pc = .ok (.lcmp, 1)) (h1 : pc + 1 = pc1) (hd : decode M.2.1 pc1 = .ok (.ifCond .eq off, 3)) (ht : (pc1 : Int) + off = (tgt : Int)) (hn : pc1 + 3 = n) (kt : x = y → Wp B d M tgt ls st h Q) (kf : ¬ x = y → Wp B d M n ls st h Q) : Wp B d M pc ls (.long y :: .long x :: st) h Q :=
  Wp.lcmp hd0 h1 (Wp.if_eq hd ht hn (fun z => kt (ev_lc_eq.mp z)) (fun z => kf (fun q => z (ev_lc_eq.mpr q))))
theorem Wp.lcmp_ne {x y : Int64} {off : Int} {tgt pc1 : Nat} (hd0 : decode M.2.1 pc = .ok (.lcmp, 1)) (h1 : pc + 1 = pc1) (hd : decode M.2.1 pc1 = .ok (.ifCond .ne off, 3)) (ht : (pc1 : Int) + off = (tgt : Int)) (hn : pc1 + 3 = n) (kt : ¬ x = y → Wp B d M tgt ls st h Q) (kf : x = y → Wp B d M n ls st h Q) : Wp B d M pc ls (.long y :: .long x :: st) h Q :=
  Wp.lcmp hd0 h1 (Wp.if_ne hd ht hn (fun z => kt (ev_lc_ne.mp z)) (fun z => kf (ev_lc_eq.mp z)))
theorem Wp.lcmp_lt {x y : Int64} {off : Int} {tgt pc1 : Nat} (hd0 : decode M.2.1 pc = .ok (.lcmp, 1)) (h1 : pc + 1 = pc1) (hd : decode M.2.1 pc1 = .ok (.ifCond .lt off, 3)) (ht : (pc1 : Int) + off = (tgt : Int)) (hn : pc1 + 3 = n) (kt : x < y → Wp B d M tgt ls st h Q) (kf : ¬ x < y → Wp B d M n ls st h Q) : Wp B d M pc ls (.long y :: .long x :: st) h Q :=
  Wp.lcmp hd0 h1 (Wp.if_lt hd ht hn (fun z => kt (ev_lc_lt.mp z)) (fun z => kf (fun q => z (ev_lc_lt.mpr q))))
theorem Wp.lcmp_ge {x y : Int64} {off : Int} {tgt pc1 : Nat} (hd0 : decode M.2.1 pc = .ok (.lcmp, 1)) (h1 : pc + 1 = pc1) (hd : decode M.2.1 pc1 = .ok (.ifCond .ge off, 3)) (ht : (pc1 : Int) + off = (tgt : Int)) (hn : pc1 + 3 = n) (kt : y ≤ x → Wp B d M tgt ls st h Q) (kf : ¬ y ≤ x → Wp B d M n ls st h Q) : Wp B d M pc ls (.long y :: .long x :: st) h Q :=
  Wp.lcmp hd0 h1 (Wp.if_ge hd ht hn (fun z => kt (ev_lc_ge.mp z)) (fun z => kf (fun q => z (ev_lc_ge.mpr q))))
theorem Wp.lcmp_gt {x y : Int64} {off : Int} {tgt pc1 : Nat} (hd0 : decode M.2.1 pc = .ok (.lcmp, 1)) (h1 : pc + 1 = pc1) (hd : decode M.2.1 pc1 = .ok (.ifCond .gt off, 3)) (ht : (pc1 : Int) + off = (tgt : Int)) (hn : pc1 + 3 = n) (kt : y < x → Wp B d M tgt ls st h Q) (kf : ¬ y < x → Wp B d M n ls st h Q) : Wp B d M pc ls (.long y :: .long x :: st) h Q :=
  Wp.lcmp hd0 h1 (Wp.if_gt hd ht hn (fun z => kt (ev_lc_gt.mp z)) (fun z => kf (fun q => z (ev_lc_gt.mpr q))))
theorem Wp.lcmp_le {x y : Int64} {off : Int} {tgt pc1 : Nat} (hd0 : decode M.2.1 pc = .ok (.lcmp, 1)) (h1 : pc + 1 = pc1) (hd : decode M.2.1 pc1 = .ok (.ifCond .le off, 3)) (ht : (pc1 : Int) + off = (tgt : Int)) (hn : pc1 + 3 = n) (kt : x ≤ y → Wp B d M tgt ls st h Q) (kf : ¬ x ≤ y → Wp B d M n ls st h Q) : Wp B d M pc ls (.long y :: .long x :: st) h Q :=
  Wp.lcmp hd0 h1 (Wp.if_le hd ht hn (fun z => kt (ev_lc_le.mp z)) (fun z => kf (fun q => z (ev_lc_le.mpr q))))
theorem Wp.tswIn {dflt lo hi : Int} {offs : Array Int} {len : Nat} {x : Int32} {off : Int} (hd : decode M.2.1 pc = .ok (.tableswitch dflt lo hi offs, len)) (h1 : ¬ x.toInt < lo) (h2 : ¬ hi < x.toInt) (ho : offs[(x.toInt - lo).toNat]? = some off) (ht : (pc : Int) + off = (n : Int)) (k : Wp B d M n ls st h Q) : Wp B d M pc ls (.int x :: st) h Q :=
  Wp.go (fun D p l e R s m args below meth c H locs a cells slots Qf hG hR hS hL kk => lv_tableIn hG.1 hG.2.1 hd h1 h2 ho ht (kk a hL)) k
theorem Wp.tswOut {dflt lo hi : Int} {offs : Array Int} {len : Nat} {x : Int32} (hd : decode M.2.1 pc = .ok (.tableswitch dflt lo hi offs, len)) (h1 : x.toInt < lo ∨ hi < x.toInt) (ht : (pc : Int) + dflt = (n : Int)) (k : Wp B d M n ls st h Q) : Wp B d M pc ls (.int x :: st) h Q :=
  Wp.go (fun D p l e R s m args below meth c H locs a cells slots Qf hG hR hS hL kk => lv_tableOut hG.1 hG.2.1 hd h1 ht (kk a hL)) k
theorem Wp.lsw {dflt : Int} {ps : Array (Int × Int)} {len : Nat} {x : Int32} {off : Int} (hd : decode M.2.1 pc = .ok (.lookupswitch dflt ps, len)) (hp : (ps.toList.zip (ps.toList.drop 1)).all (fun (a, next) => a.1 < next.1) = true) (ho : Op.lookupswitch.offset ps.toList dflt x.toInt = off) (ht : (pc : Int) + off = (n : Int)) (k : Wp B d M n ls st h Q) : Wp B d M pc ls (.int x :: st) h Q :=
  Wp.go (fun D p l e R s m args below meth c H locs a cells slots Qf hG hR hS hL kk => lv_lookup hG.1 hG.2.1 hd hp ho ht (kk a hL)) k
theorem Wp.ifnull {x : Nat} {off : Int} (hd : decode M.2.1 pc = .ok (.ifnull off, 3)) (hn : pc + 3 = n) (k : Wp B d M n ls st h Q) : Wp B d M pc ls (.ref x :: st) h Q := by
  subst hn
  exact Wp.go (fun D p l e R s m args below meth c H locs a cells slots Qf hG hR hS hL kk => lv_ifnull hG.1 hG.2.1 hd (kk a hL)) k
theorem Wp.ifnullN {off : Int} (hd : decode M.2.1 pc = .ok (.ifnull off, 3)) (ht : (pc : Int) + off = (n : Int)) (k : Wp B d M n ls st h Q) : Wp B d M pc ls (.null :: st) h Q :=
  Wp.go (fun D p l e R s m args below meth c H locs a cells slots Qf hG hR hS hL kk => lv_ifnullN hG.1 hG.2.1 hd ht (kk a hL)) k
theorem Wp.ifnonnull {x : Nat} {off : Int} (hd : decode M.2.1 pc = .ok (.ifnonnull off, 3)) (ht : (pc : Int) + off = (n : Int)) (k : Wp B d M n ls st h Q) : Wp B d M pc ls (.ref x :: st) h Q :=
  Wp.go (fun D p l e R s m args below meth c H locs a cells slots Qf hG hR hS hL kk => lv_ifnonnull hG.1 hG.2.1 hd ht (kk a hL)) k
theorem Wp.ifnonnullN {off : Int} (hd : decode M.2.1 pc = .ok (.ifnonnull off, 3)) (hn : pc + 3 = n) (k : Wp B d M n ls st h Q) : Wp B d M pc ls (.null :: st) h Q := by
  subst hn
  exact Wp.go (fun D p l e R s m args below meth c H locs a cells slots Qf hG hR hS hL kk => lv_ifnonnullN hG.1 hG.2.1 hd (kk a hL)) k
theorem Wp.ldc {i : Nat} {v : Int32} (hc : Cond.constant M.1.cls i v ∈ lw_tbl) (hd : decode M.2.1 pc = .ok (.ldc i, 2)) (hn : pc + 2 = n) (k : Wp B d M n ls (.int v :: st) h Q) : Wp B d M pc ls st h Q := by
  subst hn
  exact Wp.go (fun D p l e R s m args below meth c H locs a cells slots Qf hG hR hS hL kk => lv_ldc hG.1 hG.2.1 hG.2.2.2.2.2.1 (hG.2.2.2.2.2.2.2.1 _ (ev_mem hc rfl)) hd (kk a hL)) k
theorem Wp.ldc_w {i : Nat} {v : Int32} (hc : Cond.constant M.1.cls i v ∈ lw_tbl) (hd : decode M.2.1 pc = .ok (.ldc_w i, 3)) (hn : pc + 3 = n) (k : Wp B d M n ls (.int v :: st) h Q) : Wp B d M pc ls st h Q := by
  subst hn
  exact Wp.go (fun D p l e R s m args below meth c H locs a cells slots Qf hG hR hS hL kk => lv_ldcw hG.1 hG.2.1 hG.2.2.2.2.2.1 (hG.2.2.2.2.2.2.2.1 _ (ev_mem hc rfl)) hd (kk a hL)) k
theorem Wp.ldc2 {i : Nat} {v : Int64} (hc : Cond.constantLong M.1.cls i v ∈ lw_tbl) (hd : decode M.2.1 pc = .ok (.ldc2_w i, 3)) (hn : pc + 3 = n) (k : Wp B d M n ls (.long v :: st) h Q) : Wp B d M pc ls st h Q := by
  subst hn
  exact Wp.go (fun D p l e R s m args below meth c H locs a cells slots Qf hG hR hS hL kk => lv_ldc2 hG.1 hG.2.1 hG.2.2.2.2.2.1 (hG.2.2.2.2.2.2.2.1 _ (ev_mem hc rfl)) hd (kk a hL)) k
end EVI
end
section
/-! rows that read or write the heap -/
def ev_up (h : ev_H) (a : Nat) (e : ev_E) : ev_H := (fun q => if q = a then some e else h.1 q, h.2)
def ev_nw (h : ev_H) (e : ev_E) (k : Nat) : ev_H := (fun q => if q = h.2.1 then some e else h.1 q, h.2.1 + 1, h.2.2 + (k + 1))
theorem ev_up_s {h : ev_H} {a : Nat} {e : ev_E} : (ev_up h a e).1 a = some e := by simp [ev_up]
theorem ev_up_o {h : ev_H} {a b : Nat} {e : ev_E} (hb : b ≠ a) : (ev_up h a e).1 b = h.1 b := by simp [ev_up, hb]
theorem ev_up_w {h : ev_H} {a : Nat} {e : ev_E} : (ev_up h a e).2 = h.2 := rfl
theorem ev_nw_s {h : ev_H} {k : Nat} {e : ev_E} : (ev_nw h e k).1 h.2.1 = some e := by simp [ev_nw]
theorem ev_nw_o {h : ev_H} {b k : Nat} {e : ev_E} (hb : b ≠ h.2.1) : (ev_nw h e k).1 b = h.1 b := by simp [ev_nw, hb]
theorem ev_nw_n {h : ev_H} {k : Nat} {e : ev_E} : (ev_nw h e k).2.1 = h.2.1 + 1 := rfl
theorem ev_nw_w {h : ev_H} {k : Nat} {e : ev_E} : (ev_nw h e k).2.2 = h.2.2 + (k + 1) := rfl
/-- an int array, a long array, an array of references, an object -/
abbrev ev_ia (N : Nat) (f : Nat → Int32) : ev_E := .inl (0, N, .inl f)
abbrev ev_la (N : Nat) (f : Nat → Int64) : ev_E := .inl (1, N, .inr (.inl f))
abbrev ev_qa (t N : Nat) (f : Nat → Option Nat) : ev_E := .inl (t, N, .inr (.inr (.inr (.inr f))))
abbrev ev_ob (ci : Nat) (V : Nat → Value) : ev_E := .inr (ci, V)
theorem ev_at.kept {D : ev_D} {a : Nat} {e : ev_E} {H H1 : Heap} (h : ev_at D a e H) (hq : H1[a]? = H[a]?) : ev_at D a e H1 := by
  cases e with
  | inl x => exact hq.trans h
  | inr o =>
    obtain ⟨r, h1, h2⟩ := h
    exact ⟨r, h1, h2.kept hq⟩
theorem ev_at.lt {D : ev_D} {a : Nat} {e : ev_E} {H : Heap} (h : ev_at D a e H) : a < H.size := by
  cases e with
  | inl x => exact (Array.getElem?_eq_some_iff.mp h).1
  | inr o =>
    obtain ⟨r, h1, cell, h2, -⟩ := h
    exact (Array.getElem?_eq_some_iff.mp h2).1
theorem ev_R.up {B : ev_B} {D : ev_D} {h : ev_H} {H H1 : Heap} {a : Nat} {e0 e : ev_E} (hR : ev_R B D h H) (ha : h.1 a = some e0) (z : H1.size = H.size) (he : ev_at D a e H1) (oq : ∀ q : Nat, q ≠ a → H1[q]? = H[q]?) : ev_R B D (ev_up h a e) H1 := by
  refine ⟨z.trans hR.1, fun b x hx => ?_⟩
  by_cases hb : b = a
  · subst hb
    rw [ev_up_s] at hx
    cases hx
    exact ⟨(hR.2 _ _ ha).1, he⟩
  · rw [ev_up_o hb] at hx
    exact ⟨(hR.2 _ _ hx).1, (hR.2 _ _ hx).2.kept (oq b hb)⟩
theorem ev_R.nw {B : ev_B} {D : ev_D} {h : ev_H} {H H1 : Heap} {k : Nat} {e : ev_E} (hR : ev_R B D h H) (hb : B.1 ≤ H.size) (z : H1.size = H.size + 1) (he : ev_at D H.size e H1) (oq : ∀ q : Nat, q < H.size → H1[q]? = H[q]?) : ev_R B D (ev_nw h e k) H1 := by
  refine ⟨by rw [z, hR.1]; rfl, fun b x hx => ?_⟩
  by_cases hb' : b = h.2.1
  · subst hb'
    rw [ev_nw_s] at hx
    cases hx
    rw [← hR.1]
    exact ⟨hb, he⟩
  · rw [ev_nw_o hb'] at hx
    exact ⟨(hR.2 _ _ hx).1, (hR.2 _ _ hx).2.kept (oq b (hR.2 _ _ hx).2.lt)⟩
theorem ev_S.put {B : ev_B} {D : ev_D} {h : ev_H} {H0 H H1 : Heap} {locs : List Loc} {a k : Nat} {e0 : ev_E} (hS : va_S (ev_A B) H0 H locs) (hR : ev_R B D h H) (ha : h.1 a = some e0) (z : H1.size = H.size) (oq : ∀ q : Nat, q ≠ a → H1[q]? = H[q]?) : va_S (ev_A B) H0 H1 (locs ++ [⟨a, k⟩]) := hS.put z oq (hR.2 _ _ ha).1
theorem ev_S.nw {B : ev_B} {H0 H H1 : Heap} {locs : List Loc} (hS : va_S (ev_A B) H0 H locs) (z : H1.size = H.size + 1) (oq : ∀ q : Nat, q < H.size → H1[q]? = H[q]?) : va_S (ev_A B) H0 H1 locs :=
  ⟨Nat.le_trans hS.1 (by omega), fun x h1 h2 => (oq x (Nat.lt_of_lt_of_le h1 hS.1)).trans (hS.2.1 x h1 h2), hS.2.2⟩
/-! the links -/
def ev_FL (own : String) (idx ci k : Nat) : Prop := ∃ (ref C : String) (T : u_T) (N : Nat), vwCl[ci]? = some (C, T, N) ∧ k < N ∧ Cond.fieldLink own idx ref (T k).2.1 (T k).2.2.1 ∈ ev_tb ∧ (∀ w ∈ u_ws C T N, w ∈ ev_tb) ∧ ((T k).1 = ref ∨ Cond.sameField ref (T k).1 (T k).2.1 (T k).2.2.1 ∈ ev_tb)
def ev_FP (own : String) (idx ci k : Nat) (ty : FieldType) (fin : Bool) : Prop := ∃ (ref C : String) (T : u_T) (N : Nat) (ty0 : Nat → FieldType), vwCl[ci]? = some (C, T, N) ∧ k < N ∧ Cond.fieldLink own idx ref (T k).2.1 (T k).2.2.1 ∈ ev_tb ∧ (∀ w ∈ u_ws C T N, w ∈ ev_tb) ∧ (T k).1 = ref ∧
  (∀ k, k < N → parseFieldDescriptor (T k).2.2.1 = some (ty0 k)) ∧ (∀ a, a < N → ∀ b, b < N → a ≠ b → (T a).2.1 ≠ (T b).2.1) ∧ (T k).2.2.2 = fin ∧ (fin = true → (T k).1 = own) ∧ parseFieldDescriptor (T k).2.2.1 = some ty
def ev_NW (own : String) (idx ci N : Nat) (V0 : Nat → Value) : Prop := ∃ (C : String) (T : u_T) (ty0 : Nat → FieldType), vwCl[ci]? = some (C, T, N) ∧ (∀ w ∈ u_ws C T N, w ∈ ev_tb) ∧ (∀ k, k < N → parseFieldDescriptor (T k).2.2.1 = some (ty0 k)) ∧ Cond.classLink own idx C ∈ ev_tb ∧ Cond.instantiable C N ∈ ev_tb ∧ Cond.initialized C ∈ ev_tb ∧ ∀ j, j < N → defaultValue (ty0 j) = V0 j
theorem ev_cl_of {x : Int32} {j : Nat} (h : x.toInt = (j : Int)) : ¬ x < 0 ∧ x.toNatClampNeg = j := by
  refine ⟨fun z => ?_, ?_⟩
  · have := Int32.lt_iff_toInt_lt.mp z
    simp at this
    omega
  · show x.toInt.toNat = j
    omega
section EVH
variable {B : ev_B} {d : Nat} {M : ev_M} {pc n : Nat} {ls ls' : List (Option Value)} {st st' : List Value} {h : ev_H} {Q : Option Value → ev_H → Prop}
theorem Wp.goH {pc' : Nat} {h1 : ev_H} {dw : Nat} (hdw : h1.2.2 = h.2.2 + dw) (f : ∀ (D : ev_D) (p : Program) (l : Launch) (e : Env) (R : Room) (s : State) (m : MethodId) (args : Array Value) (below : List Frame) (meth : Method) (c : Code) (H : Heap) (locs : List Loc) (a : Array Slot) (cells slots : Nat) (Qf : State → Prop),
      ev_G B D d M p R s m args meth c → ev_R B D h H → va_S (ev_A B) s.heap H locs → ev_L ls a M.2.2.1 → cells + dw ≤ R.cells → slots + dw ≤ R.slots →
      (∀ (H1 : Heap) (locs1 : List Loc) (a' : Array Slot), ev_R B D h1 H1 → va_S (ev_A B) s.heap H1 locs1 → ev_L ls' a' M.2.2.1 → W p l e R s m args below meth c H1 locs1 (cells + dw) (slots + dw) Qf (F0 m pc' a' st')) → W p l e R s m args below meth c H locs cells slots Qf (F0 m pc a st))
    (k : Wp B d M pc' ls' st' h1 Q) : Wp B d M pc ls st h Q := by
  obtain ⟨v, h', ⟨hw, hE⟩, hQ⟩ := k
  refine ⟨v, h', ⟨by omega, fun D p l e R s m args below meth c hG H locs a cells slots hR hS hL h1' h2' => ?_⟩, hQ⟩
  refine f D p l e R s m args below meth c H locs a cells slots _ hG hR hS hL (by omega) (by omega) (fun H1 locs1 a' hR1 hS1 hL1 => ?_)
  have e1 : cells + (h'.2.2 - h.2.2) = (cells + dw) + (h'.2.2 - h1.2.2) := by omega
  have e2 : slots + (h'.2.2 - h.2.2) = (slots + dw) + (h'.2.2 - h1.2.2) := by omega
  rw [e1, e2]
  exact hE D p l e R s m args below meth c hG H1 locs1 a' _ _ hR1 hS1 hL1 (by omega) (by omega)
theorem Wp.get {a ci k idx : Nat} {V : Nat → Value} {v : Value} (hd : decode M.2.1 pc = .ok (.getfield idx, 3)) (hf : ev_FL M.1.cls idx ci k) (hh : h.1 a = some (ev_ob ci V)) (hv : V k = v) (hn : pc + 3 = n) (kk : Wp B d M n ls (v :: st) h Q) : Wp B d M pc ls (.ref a :: st) h Q := by
  subst hn
  refine Wp.go (fun D p l e R s m args below meth c H locs sl cells slots Qf hG hR hS hL kk => ?_) kk
  obtain ⟨ref, C, T, N, hc, hk, hlink, hin, hsm⟩ := hf
  obtain ⟨hx, hb, -, -, -, hown, -, hts, hK, -⟩ := hG
  obtain ⟨r, h1, cell, q1, q2, q3, q4⟩ := (hR.2 _ _ hh).2
  have hr : r = (C, T, N) := Option.some.inj (h1.symm.trans hc)
  subst hr
  obtain ⟨hSl, hfc, kC, hkC, hkind⟩ := hK.1.1 ci _ hc
  obtain ⟨cf, kf, fi, f, hi, hsl⟩ := hSl k hk
  have hi' : s.fieldFound? ref (T k).2.1 (T k).2.2.1 = some (cf, kf, fi, f) := by
    rcases hsm with e | e
    · rw [← e]; exact hi
    · exact u_same (hts _ e) _ hi
  refine W.getf hx hb hown (hts _ hlink) hi' (u_facts hfc hkC (u_lays hts hin hk) hi).1 q1 (by rw [q3]; exact fun h => by cases h) (v := v) ?_ rfl rfl hd (kk _ hL)
  rw [hsl, q4 k hk]
  show some (V k) = some v
  rw [hv]
theorem Wp.put {a ci k idx : Nat} {V : Nat → Value} {v : Value} {ty : FieldType} (hd : decode M.2.1 pc = .ok (.putfield idx, 3)) (hf : ev_FP M.1.cls idx ci k ty false) (hh : h.1 a = some (ev_ob ci V)) (hnr : narrow ty v = v) (hfit : fits ty v = true) (hn : pc + 3 = n) (kk : Wp B d M n ls st (ev_up h a (ev_ob ci (updV V k v))) Q) : Wp B d M pc ls (v :: .ref a :: st) h Q := by
  subst hn
  refine Wp.goH (h1 := ev_up h a (ev_ob ci (updV V k v))) (dw := 0) rfl (fun D p l e R s m args below meth c H locs sl cells slots Qf hG hR hS hL hc1 hc2 kk => ?_) kk
  obtain ⟨ref, C, T, N, ty0, hc, hk, hlink, hin, hsm, hty, hnm, hfin, hown', hdsc⟩ := hf
  obtain ⟨hx, hb, -, -, -, hown, -, hts, hK, -⟩ := hG
  have hap := va_apart (own := M.1.cls) hts hin ty0 hty hnm hK.1 hc
  obtain ⟨r, h1, cell, q1, q2, q3, q4⟩ := (hR.2 _ _ hh).2
  have hr : r = (C, T, N) := Option.some.inj (h1.symm.trans hc)
  subst hr
  obtain ⟨hSl, hfc, kC, hkC, hkind⟩ := hK.1.1 ci _ hc
  obtain ⟨cf, kf, fi, f, hi, hsl⟩ := hSl k hk
  have hlay := hts _ (hin _ (u_in_lay hk))
  unfold u_lay at hlay
  rw [if_neg (by rw [hfin]; decide)] at hlay
  have hst := (u_facts hfc hkC (u_lays hts hin hk) hi).1
  have h6 := u_store hfc hkC hkind hlay hi hdsc hnr hfit
  refine W.putK hx hb (f := f) ⟨hown, hts _ hlink, ⟨_, _, _, by rw [← hsm]; exact hi⟩, hst⟩ (by rw [q2]; exact h6) q1 q3 (by rw [hsl]; exact k2_hasslot (q4 k hk)) rfl rfl hd fun H' e1 e2 e3 => ?_
  rw [hsl] at e1 ⊢
  exact kk H' _ sl (hR.up hh e2 ⟨_, hc, _, e1, q2, q3, t_set q4 hap hk v⟩ e3) (ev_S.put hS hR hh e2 e3) hL
theorem Wp.putF {a ci k idx : Nat} {V : Nat → Value} {v : Value} {ty : FieldType} (hd : decode M.2.1 pc = .ok (.putfield idx, 3)) (hf : ev_FP M.1.cls idx ci k ty true) (hM : M.1.name = "<init>") (hh : h.1 a = some (ev_ob ci V)) (hnr : narrow ty v = v) (hfit : fits ty v = true) (hn : pc + 3 = n) (kk : Wp B d M n ls st (ev_up h a (ev_ob ci (updV V k v))) Q) : Wp B d M pc ls (v :: .ref a :: st) h Q := by
  subst hn
  refine Wp.goH (h1 := ev_up h a (ev_ob ci (updV V k v))) (dw := 0) rfl (fun D p l e R s m args below meth c H locs sl cells slots Qf hG hR hS hL hc1 hc2 kk => ?_) kk
  obtain ⟨ref, C, T, N, ty0, hc, hk, hlink, hin, hsm, hty, hnm, hfin, hown', hdsc⟩ := hf
  obtain ⟨hx, hb, -, -, -, hown, hname, hts, hK, -⟩ := hG
  have hap := va_apart (own := M.1.cls) hts hin ty0 hty hnm hK.1 hc
  obtain ⟨r, h1, cell, q1, q2, q3, q4⟩ := (hR.2 _ _ hh).2
  have hr : r = (C, T, N) := Option.some.inj (h1.symm.trans hc)
  subst hr
  obtain ⟨hSl, hfc, kC, hkC, hkind⟩ := hK.1.1 ci _ hc
  obtain ⟨cf, kf, fi, f, hi, hsl⟩ := hSl k hk
  have hlay := hts _ (hin _ (u_in_lay hk))
  unfold u_lay at hlay
  rw [if_pos hfin] at hlay
  have hst := (u_facts hfc hkC (u_lays hts hin hk) hi).1
  have hcf : m.cls = cf := by
    obtain ⟨_, _, c', _, _, _, -, -, hf', -, -, -, hown2, -⟩ := Cond.laysFinal_spec hlay
    have e1 : c' = cf := by have := hi.symm.trans hf'; simp at this; exact this.1.symm
    rw [hown' rfl] at hown2
    rw [← e1]; exact Option.some.inj (hown.symm.trans hown2)
  have h6 := u_fits hfc hkC hkind (Or.inr hlay) hi hdsc hnr hfit
  refine W.putFinK hx hb hown (hts _ hlink) (by rw [← hsm]; exact hi) hst hcf (by rw [hname, hM]) (by rw [q2]; exact h6) q1 q3 (by rw [hsl]; exact k2_hasslot (q4 k hk)) rfl rfl hd fun H' e1 e2 e3 => ?_
  rw [hsl] at e1 ⊢
  exact kk H' _ sl (hR.up hh e2 ⟨_, hc, _, e1, q2, q3, t_set q4 hap hk v⟩ e3) (ev_S.put hS hR hh e2 e3) hL
theorem Wp.new {ci N idx : Nat} {V0 : Nat → Value} (hd : decode M.2.1 pc = .ok (.new idx, 3)) (hf : ev_NW M.1.cls idx ci N V0) (hn : pc + 3 = n) (kk : Wp B d M n ls (.ref h.2.1 :: st) (ev_nw h (ev_ob ci V0) N) Q) : Wp B d M pc ls st h Q := by
  subst hn
  refine Wp.goH (h1 := ev_nw h (ev_ob ci V0) N) (dw := N + 1) rfl (fun D p l e R s m args below meth c H locs sl cells slots Qf hG hR hS hL hc1 hc2 kk => ?_) kk
  obtain ⟨C, T, ty0, hc, hin, hty, hcl, hinst, hini, hfs⟩ := hf
  obtain ⟨hx, hb, -, -, -, hown, hname, hts, hK, -, -, hB, -⟩ := hG
  have hKn := hK.1.1 ci _ hc
  refine W.newcK hx hb hown (hts _ hcl) (hts _ hinst) (hts _ hini) rfl hd (by omega) (by omega) hKn.2.1 rfl fun H1 kC hkC e1 z1 o1 => ?_
  refine W.widen (k := cells + (N + 1)) (n := slots + (N + 1)) (by omega) (by omega) ?_
  have e : H.size = h.2.1 := hR.1
  rw [← e] at kk
  exact kk H1 _ sl (hR.nw (Nat.le_trans hB hS.1) z1 ⟨_, hc, (u_born ty0 hts hin hKn hkC e1 hty).to hfs⟩ o1) (ev_S.nw hS z1 o1) hL
theorem ev_cls {s : State} {D : ev_D} (hK : ev_K D s) {t : Nat} (ht : t < 4) : ArrOfT s (D.2 t) (ev_ty t) := (hK.2.1 t ht).1
theorem Wp.newai {x : Int32} {N : Nat} (hd : decode M.2.1 pc = .ok (.newarray .int, 2)) (hN : x.toInt = (N : Int)) (hb : N ≤ 100000000) (hn : pc + 2 = n) (kk : Wp B d M n ls (.ref h.2.1 :: st) (ev_nw h (ev_ia N (fun _ => 0)) N) Q) : Wp B d M pc ls (.int x :: st) h Q := by
  subst hn
  refine Wp.goH (h1 := ev_nw h (ev_ia N (fun _ => 0)) N) (dw := N + 1) rfl (fun D p l e R s m args below meth c H locs sl cells slots Qf hG hR hS hL hc1 hc2 kk => ?_) kk
  obtain ⟨hx, hbb, -, -, -, hown, hname, hts, hK, -, -, hB, -⟩ := hG
  refine va_newaK hx hbb (hts _ (ev_mem (by decide +kernel) rfl)) rfl hd rfl (ev_cl_of hN).1 (ev_cl_of hN).2 (by show N * 4 ≤ _; omega) (by omega) (by omega) rfl fun H1 cA e1 z1 o1 hAr hNm => ?_
  refine W.widen (k := cells + (N + 1)) (n := slots + (N + 1)) (by omega) (by omega) ?_
  have hc : cA = D.2 0 := Option.some.inj (hNm.symm.trans (hK.2.1 0 (by decide)).2)
  subst hc
  have e : H.size = h.2.1 := hR.1
  rw [← e] at kk
  exact kk H1 _ sl (hR.nw (Nat.le_trans hB hS.1) z1 e1 o1) (ev_S.nw hS z1 o1) hL
theorem Wp.newal {x : Int32} {N : Nat} (hd : decode M.2.1 pc = .ok (.newarray .long, 2)) (hN : x.toInt = (N : Int)) (hb : N ≤ 50000000) (hn : pc + 2 = n) (kk : Wp B d M n ls (.ref h.2.1 :: st) (ev_nw h (ev_la N (fun _ => 0)) N) Q) : Wp B d M pc ls (.int x :: st) h Q := by
  subst hn
  refine Wp.goH (h1 := ev_nw h (ev_la N (fun _ => 0)) N) (dw := N + 1) rfl (fun D p l e R s m args below meth c H locs sl cells slots Qf hG hR hS hL hc1 hc2 kk => ?_) kk
  obtain ⟨hx, hbb, -, -, -, hown, hname, hts, hK, -, -, hB, -⟩ := hG
  refine va_newaK hx hbb (hts _ (ev_mem (by decide +kernel) rfl)) rfl hd rfl (ev_cl_of hN).1 (ev_cl_of hN).2 (by show N * 8 ≤ _; omega) (by omega) (by omega) rfl fun H1 cA e1 z1 o1 hAr hNm => ?_
  refine W.widen (k := cells + (N + 1)) (n := slots + (N + 1)) (by omega) (by omega) ?_
  have hc : cA = D.2 1 := Option.some.inj (hNm.symm.trans (hK.2.1 1 (by decide)).2)
  subst hc
  have e : H.size = h.2.1 := hR.1
  rw [← e] at kk
  exact kk H1 _ sl (hR.nw (Nat.le_trans hB hS.1) z1 e1 o1) (ev_S.nw hS z1 o1) hL
theorem Wp.newaq {x : Int32} {N idx t : Nat} {C : String} (hd : decode M.2.1 pc = .ok (.anewarray idx, 3)) (ht : t = 2 ∧ C = "PriceBench$Offer" ∨ t = 3 ∧ C = "PriceBench$Sheet") (hl : Cond.classLink M.1.cls idx C ∈ ev_tb) (hN : x.toInt = (N : Int)) (hb : N ≤ 100000000) (hn : pc + 3 = n) (kk : Wp B d M n ls (.ref h.2.1 :: st) (ev_nw h (ev_qa t N (fun _ => none)) N) Q) : Wp B d M pc ls (.int x :: st) h Q := by
  subst hn
  refine Wp.goH (h1 := ev_nw h (ev_qa t N (fun _ => none)) N) (dw := N + 1) rfl (fun D p l e R s m args below meth c H locs sl cells slots Qf hG hR hS hL hc1 hc2 kk => ?_) kk
  obtain ⟨hx, hbb, -, -, -, hown, hname, hts, hK, -, -, hB, -⟩ := hG
  have hN2 := (ev_cl_of hN).2
  have hAO : va_AO C s := by
    rcases ht with ⟨-, rfl⟩ | ⟨-, rfl⟩
    · exact hK.2.2.2.2.1
    · exact hK.2.2.2.2.2.1
  have hRA : ∃ (kA : Class) (comp : ClassId), s.vm.classes[D.2 t]? = some kA ∧ kA.kind = .array comp (.object C) ∧ s.vm.findClass C = some comp ∧ s.vm.findClass ("[" ++ (FieldType.object C).toString) = some (D.2 t) := by
    rcases ht with ⟨rfl, rfl⟩ | ⟨rfl, rfl⟩
    · exact (hK.2.1 2 (by decide)).2
    · exact (hK.2.1 3 (by decide)).2
  subst hN2
  refine W.anew hx hbb hown (hts _ hl) (va_AO.use hAO) rfl hd rfl (ev_cl_of hN).1 (by omega) (by omega) (by omega) fun cA kA comp f1 f2 f3 f4 => ?_
  refine W.widen (k := cells + (x.toNatClampNeg + 1)) (n := slots + (x.toNatClampNeg + 1)) (by omega) (by omega) ?_
  obtain ⟨kA', comp', g1, g2, g3, g4⟩ := hRA
  have hc : cA = D.2 t := by
    first
      | exact Option.some.inj (f4.symm.trans g4)
      | exact Option.some.inj (f1.symm.trans g4)
  subst hc
  generalize hH1 : H.push ({ cls := D.2 t, slots := Array.replicate x.toNatClampNeg .null, vm := .none } : Cell) = H1
  have z1 : H1.size = H.size + 1 := by rw [← hH1, Array.size_push]
  have e1 : H1[H.size]? = some (arrV (D.2 t) x.toNatClampNeg (fun _ => .null)) := by rw [← hH1, Array.getElem?_push_size, ← arrV_new]
  have o1 : ∀ q : Nat, q < H.size → H1[q]? = H[q]? := fun q hq => by rw [← hH1, Array.getElem?_push, if_neg (Nat.ne_of_lt hq)]
  have e : H.size = h.2.1 := hR.1
  rw [← e] at kk
  exact kk H1 _ sl (hR.nw (Nat.le_trans hB hS.1) z1 e1 o1) (ev_S.nw hS z1 o1) hL
end EVH
end
section
/-! arrays, statics, tests of a class, arraycopy, returns, calls -/
section EVA
variable {B : ev_B} {d : Nat} {M : ev_M} {pc n : Nat} {ls ls' : List (Option Value)} {st st' : List Value} {h : ev_H} {Q : Option Value → ev_H → Prop}
theorem ev_inn {i : Int32} {j N : Nat} (hj : i.toInt = (j : Int)) (hb : j < N) : ¬ (i < 0 ∨ N ≤ i.toNatClampNeg) := by
  obtain ⟨h1, h2⟩ := ev_cl_of hj
  rintro (z | z)
  · exact h1 z
  · omega
theorem Wp.iaload {a N j : Nat} {i : Int32} {f : Nat → Int32} (hd : decode M.2.1 pc = .ok (.iaload, 1)) (hh : h.1 a = some (ev_ia N f)) (hj : i.toInt = (j : Int)) (hb : j < N) (hn : pc + 1 = n) (k : Wp B d M n ls (.int (f j) :: st) h Q) : Wp B d M pc ls (.int i :: .ref a :: st) h Q := by
  subst hn
  refine Wp.go (fun D p l e R s m args below meth c H locs sl cells slots Qf hG hR hS hL kk => ?_) k
  have hcl := (ev_cl_of hj).2
  refine W.iald (v := .int (f j)) hG.1 hG.2.1 (hR.2 _ _ hh).2 ((ev_cls hG.2.2.2.2.2.2.2.2.1 (t := 0) (by decide)) N (fun j => .int (f j))) (fun q => by cases q) (by show ¬ (i < 0 ∨ (arrV _ _ _).slots.size ≤ _); rw [arrV_size]; exact ev_inn hj hb) (by show (arrV _ _ _).slots[_]? = _; rw [hcl, arrV_read _ _ hb]) rfl rfl hd (kk _ hL)
theorem Wp.laload {a N j : Nat} {i : Int32} {f : Nat → Int64} (hd : decode M.2.1 pc = .ok (.laload, 1)) (hh : h.1 a = some (ev_la N f)) (hj : i.toInt = (j : Int)) (hb : j < N) (hn : pc + 1 = n) (k : Wp B d M n ls (.long (f j) :: st) h Q) : Wp B d M pc ls (.int i :: .ref a :: st) h Q := by
  subst hn
  refine Wp.go (fun D p l e R s m args below meth c H locs sl cells slots Qf hG hR hS hL kk => ?_) k
  have hcl := (ev_cl_of hj).2
  refine W.lald (v := .long (f j)) hG.1 hG.2.1 (hR.2 _ _ hh).2 ((ev_cls hG.2.2.2.2.2.2.2.2.1 (t := 1) (by decide)) N (fun j => .long (f j))) (fun q => by cases q) (by show ¬ (i < 0 ∨ (arrV _ _ _).slots.size ≤ _); rw [arrV_size]; exact ev_inn hj hb) (by show (arrV _ _ _).slots[_]? = _; rw [hcl, arrV_read _ _ hb]) rfl rfl hd (kk _ hL)
theorem Wp.aaload {a t N j : Nat} {i : Int32} {f : Nat → Option Nat} {v : Value} (hd : decode M.2.1 pc = .ok (.aaload, 1)) (ht : t = 2 ∨ t = 3) (hh : h.1 a = some (ev_qa t N f)) (hj : i.toInt = (j : Int)) (hb : j < N) (hv : va_rf (f j) = v) (hn : pc + 1 = n) (k : Wp B d M n ls (v :: st) h Q) : Wp B d M pc ls (.int i :: .ref a :: st) h Q := by
  subst hn; subst hv
  refine Wp.go (fun D p l e R s m args below meth c H locs sl cells slots Qf hG hR hS hL kk => ?_) k
  have hcl := (ev_cl_of hj).2
  have hA : ∃ C : String, ArrOfT s (D.2 t) (.object C) := by
    rcases ht with rfl | rfl
    · exact ⟨_, ev_cls hG.2.2.2.2.2.2.2.2.1 (t := 2) (by decide)⟩
    · exact ⟨_, ev_cls hG.2.2.2.2.2.2.2.2.1 (t := 3) (by decide)⟩
  obtain ⟨C, hA⟩ := hA
  refine W.aald (v := va_rf (f j)) (ty := .object C) hG.1 hG.2.1 (hR.2 _ _ hh).2 (hA N (fun j => va_rf (f j))) rfl (fun q => by cases q) (by show ¬ (i < 0 ∨ (arrV _ _ _).slots.size ≤ _); rw [arrV_size]; exact ev_inn hj hb) (by show (arrV _ _ _).slots[_]? = _; rw [hcl, arrV_read _ _ hb]) rfl rfl hd (kk _ hL)
theorem Wp.iastore {a N j : Nat} {i : Int32} {x : Int32} {f : Nat → Int32} (hd : decode M.2.1 pc = .ok (.iastore, 1)) (hh : h.1 a = some (ev_ia N f)) (hj : i.toInt = (j : Int)) (hb : j < N) (hn : pc + 1 = n) (k : Wp B d M n ls st (ev_up h a (ev_ia N (upd f j x))) Q) : Wp B d M pc ls (.int x :: .int i :: .ref a :: st) h Q := by
  subst hn
  refine Wp.goH (h1 := ev_up h a (ev_ia N (upd f j x))) (dw := 0) rfl (fun D p l e R s m args below meth c H locs sl cells slots Qf hG hR hS hL hc1 hc2 kk => ?_) k
  have hcl := (ev_cl_of hj).2
  refine W.iast hG.1 hG.2.1 (hR.2 _ _ hh).2 ((ev_cls hG.2.2.2.2.2.2.2.2.1 (t := 0) (by decide)) N (fun j => .int (f j))) (fun q => by cases q) (by show ¬ (i < 0 ∨ (arrV _ _ _).slots.size ≤ _); rw [arrV_size]; exact ev_inn hj hb) rfl rfl hd fun H1 e1 z oq => ?_
  refine kk H1 _ sl (hR.up hh z ?_ oq) (ev_S.put hS hR hh z oq) hL
  show H1[a]? = some (vp_cell _ _)
  rw [e1, hcl]
  dsimp only
  rw [vp_cell_i, vp_cell_i, arrV_store]
  congr 2
  funext q
  by_cases hq : q = j
  · subst hq
    simp [updV, upd]
  · simp [updV, upd, hq]
theorem Wp.lastore {a N j : Nat} {i : Int32} {x : Int64} {f : Nat → Int64} (hd : decode M.2.1 pc = .ok (.lastore, 1)) (hh : h.1 a = some (ev_la N f)) (hj : i.toInt = (j : Int)) (hb : j < N) (hn : pc + 1 = n) (k : Wp B d M n ls st (ev_up h a (ev_la N (vp_updL f j x))) Q) : Wp B d M pc ls (.long x :: .int i :: .ref a :: st) h Q := by
  subst hn
  refine Wp.goH (h1 := ev_up h a (ev_la N (vp_updL f j x))) (dw := 0) rfl (fun D p l e R s m args below meth c H locs sl cells slots Qf hG hR hS hL hc1 hc2 kk => ?_) k
  have hcl := (ev_cl_of hj).2
  refine W.last hG.1 hG.2.1 (hR.2 _ _ hh).2 ((ev_cls hG.2.2.2.2.2.2.2.2.1 (t := 1) (by decide)) N (fun j => .long (f j))) (fun q => by cases q) (by show ¬ (i < 0 ∨ (arrV _ _ _).slots.size ≤ _); rw [arrV_size]; exact ev_inn hj hb) rfl rfl hd fun H1 e1 z oq => ?_
  refine kk H1 _ sl (hR.up hh z ?_ oq) (ev_S.put hS hR hh z oq) hL
  show H1[a]? = some (vp_cell _ _)
  rw [e1, hcl]
  dsimp only
  rw [vp_cell_l, vp_cell_l, arrV_store]
  congr 2
  funext q
  by_cases hq : q = j
  · subst hq
    simp [updV, vp_updL]
  · simp [updV, vp_updL, hq]
/-- the value's class may stand in the row: an offer, or a sheet -/
def ev_mayq (t ci : Nat) : Prop := (t = 3 ∧ ci = 5) ∨ (t = 2 ∧ (ci = 3 ∨ ci = 6 ∨ ci = 7 ∨ ci = 8))
theorem Wp.aastore {a t N j b ci : Nat} {V : Nat → Value} {i : Int32} {f : Nat → Option Nat} (hd : decode M.2.1 pc = .ok (.aastore, 1)) (ht : ev_mayq t ci) (hh : h.1 a = some (ev_qa t N f)) (hb' : h.1 b = some (ev_ob ci V)) (hj : i.toInt = (j : Int)) (hb : j < N) (hn : pc + 1 = n) (k : Wp B d M n ls st (ev_up h a (ev_qa t N (va_up f j (some b)))) Q) : Wp B d M pc ls (.ref b :: .int i :: .ref a :: st) h Q := by
  subst hn
  refine Wp.goH (h1 := ev_up h a (ev_qa t N (va_up f j (some b)))) (dw := 0) rfl (fun D p l e R s m args below meth c H locs sl cells slots Qf hG hR hS hL hc1 hc2 kk => ?_) k
  have hcl := ev_cl_of hj
  obtain ⟨hx, hbb, -, -, -, hown, hname, hts, hK, -⟩ := hG
  obtain ⟨r, hr, cellV, g1, g2, g3, -⟩ := (hR.2 _ _ hb').2
  have hcls := (hK.1.1 ci r hr).2
  have key : ∃ (C : String), (∃ (kA : Class) (comp : ClassId), s.vm.classes[D.2 t]? = some kA ∧ kA.kind = .array comp (.object C) ∧ s.vm.findClass C = some comp) ∧ (r.1 = C ∨ ev_Yc r.1 C s) := by
    rcases ht with ⟨rfl, rfl⟩ | ⟨rfl, hci⟩
    · obtain ⟨kA, comp, k1, k2, k3, -⟩ := (hK.2.1 3 (by decide)).2
      cases hr
      exact ⟨_, ⟨kA, comp, k1, k2, k3⟩, Or.inl rfl⟩
    · obtain ⟨kA, comp, k1, k2, k3, -⟩ := (hK.2.1 2 (by decide)).2
      refine ⟨_, ⟨kA, comp, k1, k2, k3⟩, Or.inr ?_⟩
      rcases hci with rfl | rfl | rfl | rfl <;> cases hr
      · exact hK.2.2.2.2.2.2 _ (by simp [RX4])
      · exact hK.2.2.2.2.2.2 _ (by simp [RX7])
      · exact hK.2.2.2.2.2.2 _ (by simp [RX8])
      · exact hK.2.2.2.2.2.2 _ (by simp [RX9])
  obtain ⟨C, ⟨kA, comp, k1, k2, k3⟩, hca⟩ := key
  obtain ⟨kE, hkE, -⟩ := Vm.findClass_spec k3
  obtain ⟨kC, hkC, -⟩ := hcls.2
  have hasg : s.vm.assignable (D.1.1 ci) comp = true := by
    rcases hca with e | e
    · have hcomp : comp = D.1.1 ci := by
        rw [← e] at k3
        exact Option.some.inj (k3.symm.trans hcls.1)
      rw [hcomp]
      exact va_assign hcls
    · obtain ⟨c0, t1, f1, f2, f3⟩ := e
      cases hcls.1.symm.trans f1
      cases k3.symm.trans f2
      exact f3
  refine W.aast hx hbb (hR.2 _ _ hh).2 (fun q h => by cases h) (fun h => by cases h) k1 k2 rfl hkE ⟨hcl.1, by show _ < (arrV _ _ _).slots.size; rw [arrV_size, hcl.2]; exact hb⟩ g1 (fun q h => by rw [g3] at h; cases h) (by rw [g2]; exact hkC) (by rw [g2]; exact hasg) rfl rfl hd fun H1 e1 z oq => ?_
  refine kk H1 _ sl (hR.up hh z ?_ oq) (ev_S.put hS hR hh z oq) hL
  show H1[a]? = some (vp_cell _ _)
  rw [e1, hcl.2]
  dsimp only
  rw [vp_cell_q, vp_cell_q, arrV_store]
  congr 2
  funext q
  by_cases hq : q = j
  · subst hq
    simp [updV, va_up, va_rf]
  · simp [updV, va_up, hq]
theorem Wp.alen {a t N : Nat} {x : (Nat → Int32) ⊕ (Nat → Int64) ⊕ (Nat → UInt32) ⊕ (Nat → UInt64) ⊕ (Nat → Option Nat)} (hd : decode M.2.1 pc = .ok (.arraylength, 1)) (ht : t < 4) (hh : h.1 a = some (.inl (t, N, x))) (hn : pc + 1 = n) (k : Wp B d M n ls (.int (Int32.ofNat N) :: st) h Q) : Wp B d M pc ls (.ref a :: st) h Q := by
  subst hn
  refine Wp.go (fun D p l e R s m args below meth c H locs sl cells slots Qf hG hR hS hL kk => ?_) k
  have hA := ev_cls hG.2.2.2.2.2.2.2.2.1 ht
  have hc := (hR.2 _ _ hh).2
  have hsz : (vp_cell (D.2 t) (N, x)).slots.size = N := by
    rcases x with f | f | f | f | f <;> exact arrV_size _ _ _
  refine W.alen (n := Int32.ofNat N) hG.1 hG.2.1 (ty := ev_ty t) hc ?_ (by rw [hsz] <;> rfl) rfl rfl hd (kk _ hL)
  rcases x with f | f | f | f | f
  · exact hA N _
  · exact hA N _
  · exact hA N _
  · exact hA N _
  · exact hA N _
theorem Wp.roload {t N j : Nat} {i : Int32} {f : Nat → Int32} (hd : decode M.2.1 pc = .ok (.iaload, 1)) (hh : B.2.2 t = some (N, f)) (hj : i.toInt = (j : Int)) (hb : j < N) (hn : pc + 1 = n) (k : Wp B d M n ls (.int (f j) :: st) h Q) : Wp B d M pc ls (.int i :: .ref t :: st) h Q := by
  subst hn
  refine Wp.go (fun D p l e R s m args below meth c H locs sl cells slots Qf hG hR hS hL kk => ?_) k
  exact va_ti hG.1 hG.2.1 (hG.2.2.2.2.2.2.2.2.2.2.2.2.2.2 t N f hh) hS (ev_inn hj hb) (by rw [(ev_cl_of hj).2]) hd (kk _ hL)
theorem Wp.rolen {t N : Nat} {f : Nat → Int32} (hd : decode M.2.1 pc = .ok (.arraylength, 1)) (hh : B.2.2 t = some (N, f)) (hn : pc + 1 = n) (k : Wp B d M n ls (.int (Int32.ofNat N) :: st) h Q) : Wp B d M pc ls (.ref t :: st) h Q := by
  subst hn
  refine Wp.go (fun D p l e R s m args below meth c H locs sl cells slots Qf hG hR hS hL kk => ?_) k
  exact va_tlen hG.1 hG.2.1 (hG.2.2.2.2.2.2.2.2.2.2.2.2.2.2 t N f hh) hS rfl hd (kk _ hL)
theorem Wp.getKA {idx : Nat} (hd : decode M.2.1 pc = .ok (.getstatic idx, 3)) (hl : Cond.fieldLink M.1.cls idx "PriceBench$Acts" "KIND_ABOVE" "[I" ∈ ev_tb) (hn : pc + 3 = n) (k : Wp B d M n ls (.ref (B.2.1 0) :: st) h Q) : Wp B d M pc ls st h Q := by
  subst hn
  refine Wp.go (fun D p l e R s m args below meth c H locs sl cells slots Qf hG hR hS hL kk => ?_) k
  exact va_gets hG.1 hG.2.1 hG.2.2.2.2.2.2.2.2.2.2.2.2.1 hS hG.2.2.2.2.2.1 (hG.2.2.2.2.2.2.2.1 _ hl) (fun _ q => q) hd (kk _ hL)
theorem Wp.getBO {idx : Nat} (hd : decode M.2.1 pc = .ok (.getstatic idx, 3)) (hl : Cond.fieldLink M.1.cls idx "PriceBench$Acts" "BODIES" "[I" ∈ ev_tb) (hn : pc + 3 = n) (k : Wp B d M n ls (.ref (B.2.1 1) :: st) h Q) : Wp B d M pc ls st h Q := by
  subst hn
  refine Wp.go (fun D p l e R s m args below meth c H locs sl cells slots Qf hG hR hS hL kk => ?_) k
  exact va_gets hG.1 hG.2.1 hG.2.2.2.2.2.2.2.2.2.2.2.2.2.1 hS hG.2.2.2.2.2.1 (hG.2.2.2.2.2.2.2.1 _ hl) (fun _ q => q) hd (kk _ hL)
theorem ev_recv {D : ev_D} {s : State} {H : Heap} {a ci : Nat} {V : Nat → Value} {q : vw_C} (hK : ev_K D s) (hR : ev_R B D h H) (hh : h.1 a = some (ev_ob ci V)) (hc : vwCl[ci]? = some q) : ∃ cell : Cell, H[a]? = some cell ∧ cell.vm.isStatics = false ∧ s.vm.findClass q.1 = some cell.cls := by
  obtain ⟨r, hr, cell, g1, g2, g3, -⟩ := (hR.2 _ _ hh).2
  have e : r = q := Option.some.inj (hr.symm.trans hc)
  subst e
  exact ⟨cell, g1, by rw [g3]; rfl, by rw [g2]; exact (hK.1.1 ci r hr).2.1⟩
theorem Wp.instY {a idx : Nat} {V : Nat → Value} (hd : decode M.2.1 pc = .ok (.instanceof idx, 3)) (hl : Cond.classLink M.1.cls idx RX7 ∈ ev_tb) (hh : h.1 a = some (ev_ob 6 V)) (hn : pc + 3 = n) (k : Wp B d M n ls (.int 1 :: st) h Q) : Wp B d M pc ls (.ref a :: st) h Q := by
  subst hn
  refine Wp.go (fun D p l e R s m args below meth c H locs sl cells slots Qf hG hR hS hL kk => ?_) k
  obtain ⟨hx, hbb, -, -, -, hown, hname, hts, hK, -⟩ := hG
  exact va_instS hx hbb hown (hts _ hl) (hK.1.1 6 (RX7, TX7, 8) rfl).2 (ev_recv hK hR hh (q := (RX7, TX7, 8)) rfl) hd (kk _ hL)
theorem Wp.instN {a idx ci : Nat} {V : Nat → Value} (hd : decode M.2.1 pc = .ok (.instanceof idx, 3)) (hl : Cond.classLink M.1.cls idx RX7 ∈ ev_tb) (hci : ci = 3 ∨ ci = 7 ∨ ci = 8) (hh : h.1 a = some (ev_ob ci V)) (hn : pc + 3 = n) (k : Wp B d M n ls (.int 0 :: st) h Q) : Wp B d M pc ls (.ref a :: st) h Q := by
  subst hn
  refine Wp.go (fun D p l e R s m args below meth c H locs sl cells slots Qf hG hR hS hL kk => ?_) k
  obtain ⟨hx, hbb, -, -, -, hown, hname, hts, hK, -⟩ := hG
  rcases hci with rfl | rfl | rfl
  · exact va_instNo hx hbb hown (hts _ hl) hK.2.2.2.1.2.2 (ev_recv hK hR hh (q := (RX4, TX4, 7)) rfl) hd (kk _ hL)
  · exact va_instNo hx hbb hown (hts _ hl) hK.2.2.2.1.1 (ev_recv hK hR hh (q := (RX8, TX8, 6)) rfl) hd (kk _ hL)
  · exact va_instNo hx hbb hown (hts _ hl) hK.2.2.2.1.2.1 (ev_recv hK hR hh (q := (RX9, TX9, 8)) rfl) hd (kk _ hL)
theorem Wp.castY {a idx : Nat} {V : Nat → Value} (hd : decode M.2.1 pc = .ok (.checkcast idx, 3)) (hl : Cond.classLink M.1.cls idx RX7 ∈ ev_tb) (hh : h.1 a = some (ev_ob 6 V)) (hn : pc + 3 = n) (k : Wp B d M n ls (.ref a :: st) h Q) : Wp B d M pc ls (.ref a :: st) h Q := by
  subst hn
  refine Wp.go (fun D p l e R s m args below meth c H locs sl cells slots Qf hG hR hS hL kk => ?_) k
  obtain ⟨hx, hbb, -, -, -, hown, hname, hts, hK, -⟩ := hG
  exact va_castS hx hbb hown (hts _ hl) (hK.1.1 6 (RX7, TX7, 8) rfl).2 (ev_recv hK hR hh (q := (RX7, TX7, 8)) rfl) hd (kk _ hL)
/-- System.arraycopy between two rows of one sort (it may be one row) -/
theorem Wp.copyi {a b N0 N1 idx x y z : Nat} {sp dp k : Int32} {f g : Nat → Int32} (hd : decode M.2.1 pc = .ok (.invokestatic idx, 3)) (hl : Cond.methodLink M.1.cls idx arraycopyName ∈ ev_tb) (hdp : 1 ≤ d) (h0 : h.1 b = some (ev_ia N0 f)) (h1 : h.1 a = some (ev_ia N1 g)) (hx : sp.toInt = (x : Int)) (hy : dp.toInt = (y : Int)) (hz : k.toInt = (z : Int)) (hs1 : x + z ≤ N0) (hs2 : y + z ≤ N1) (hst : (st.map fun v => v.category).sum ≤ 8) (hn : pc + 3 = n)
    (kk : Wp B d M n ls st (ev_up h a (ev_ia N1 (va_cpy f g x y z))) Q) : Wp B d M pc ls (.int k :: .int dp :: .ref a :: .int sp :: .ref b :: st) h Q := by
  subst hn
  refine Wp.goH (h1 := ev_up h a (ev_ia N1 (va_cpy f g x y z))) (dw := 0) rfl (fun D p l e R s m args below meth c H locs sl cells slots Qf hG hR hS hL hc1 hc2 kk => ?_) kk
  obtain ⟨hxx, hbb, hml, -, -, hown, hname, hts, hK, hfr, hlo, -⟩ := hG
  have hc0 : H[b]? = some (arrV (D.2 0) N0 (fun j => .int (f j))) := (hR.2 _ _ h0).2
  have hc1 : H[a]? = some (arrV (D.2 0) N1 (fun j => .int (g j))) := (hR.2 _ _ h1).2
  obtain ⟨-, k0, hk0, cm0, hkk0⟩ := (ev_cls hK (t := 0) (by decide)) N0 (fun j => .int (f j))
  obtain ⟨ex1, ex2⟩ := ev_cl_of hx
  obtain ⟨ey1, ey2⟩ := ev_cl_of hy
  obtain ⟨ez1, ez2⟩ := ev_cl_of hz
  intro T hT X
  obtain ⟨vm', X', step⟩ := X.arraycopy hxx hown (hts _ hl) (hts _ (ev_mem (by decide +kernel) rfl)) (hts _ (ev_mem (by decide +kernel) rfl)) (hts _ (ev_mem (by decide +kernel) rfl)) (src := b) (dst := a) (cs := arrV (D.2 0) N0 (fun j => .int (f j))) (cd := arrV (D.2 0) N1 (fun j => .int (g j))) (srcPos := sp) (destPos := dp) (n := k) (by rw [hT]; exact hc0) (by rw [hT]; exact hc1)
    (fun _ h => by cases h) (fun _ h => by cases h) (fun h => by cases h) (fun h => by cases h) hk0 hk0 hkk0 hkk0 rfl ex1 ey1 ez1
    (by rw [hx, hz, arrV_size]; omega) (by rw [hy, hz, arrV_size]; omega)
    (fun vm₁ _ i hi => by
      have e : (arrV (D.2 0) N0 (fun j => .int (f j))).slots.getD (sp.toNatClampNeg + i) .null = .int (f (x + i)) := by
        rw [Array.getD_eq_getD_getElem?, ex2, arrV_read _ _ (by omega)]
        rfl
      rw [e]
      exact ⟨rfl, trivial⟩)
    (g := F0 m pc sl (.int k :: .int dp :: .ref a :: .int sp :: .ref b :: st)) rfl (by rw [hml]; exact hL.1) (rest := st) rfl (by rw [hbb]; exact hd) (by omega) (by
      show 2 * 0 + _ + (nativeFrameWords "java/lang/System" "arraycopy" 5 + 11) ≤ _
      have : nativeFrameWords "java/lang/System" "arraycopy" 5 ≤ 20 := by decide +kernel
      omega)
  have e1 : copied (arrV (D.2 0) N0 (fun j => .int (f j))) (arrV (D.2 0) N1 (fun j => .int (g j))) sp dp k = arrV (D.2 0) N1 (fun j => .int (va_cpy f g x y z j)) := by
    rw [← ex2, ← ey2, ← ez2]
    exact va_copied (fun z => .int z) _ _ f g (by omega)
  rw [e1] at X' step
  have hl' : a < H.size := (Array.getElem?_eq_some_iff.mp hc1).1
  have hheap : ((T.setVm vm').setCell a (arrV (D.2 0) N1 (fun j => .int (va_cpy f g x y z j)))).heap = H.setIfInBounds a (arrV (D.2 0) N1 (fun j => .int (va_cpy f g x y z j))) := by rw [← hT]; rfl
  have oq : ∀ q : Nat, q ≠ a → (H.setIfInBounds a (arrV (D.2 0) N1 (fun j => .int (va_cpy f g x y z j))))[q]? = H[q]? := fun q hq => by simp [Array.getElem?_setIfInBounds, Ne.symm hq]
  have hA : ev_A B a := (hR.2 _ _ h1).1
  obtain ⟨t, a1, b1⟩ := kk _ _ sl (hR.up h1 (by simp) (e := ev_ia N1 (va_cpy f g x y z)) (show (H.setIfInBounds a _)[a]? = some _ by simp [Array.getElem?_setIfInBounds, hl']; rfl) oq) ⟨by simp; exact hS.1, fun q g1 g2 => by
      rw [oq q (fun e => g2 (by rw [e]; exact hA))]
      exact hS.2.1 q g1 g2, fun q hq => by
      rcases List.mem_append.mp hq with h | h
      · exact hS.2.2 q h
      · obtain ⟨z, -, hz⟩ := List.mem_map.mp h
        rw [← hz]
        exact hA⟩ hL _ hheap X'
  exact ⟨t, step t a1, b1⟩
/-- System.arraycopy between two rows of one sort (it may be one row) -/
theorem Wp.copyl {a b N0 N1 idx x y z : Nat} {sp dp k : Int32} {f g : Nat → Int64} (hd : decode M.2.1 pc = .ok (.invokestatic idx, 3)) (hl : Cond.methodLink M.1.cls idx arraycopyName ∈ ev_tb) (hdp : 1 ≤ d) (h0 : h.1 b = some (ev_la N0 f)) (h1 : h.1 a = some (ev_la N1 g)) (hx : sp.toInt = (x : Int)) (hy : dp.toInt = (y : Int)) (hz : k.toInt = (z : Int)) (hs1 : x + z ≤ N0) (hs2 : y + z ≤ N1) (hst : (st.map fun v => v.category).sum ≤ 8) (hn : pc + 3 = n)
    (kk : Wp B d M n ls st (ev_up h a (ev_la N1 (va_cpy f g x y z))) Q) : Wp B d M pc ls (.int k :: .int dp :: .ref a :: .int sp :: .ref b :: st) h Q := by
  subst hn
  refine Wp.goH (h1 := ev_up h a (ev_la N1 (va_cpy f g x y z))) (dw := 0) rfl (fun D p l e R s m args below meth c H locs sl cells slots Qf hG hR hS hL hc1 hc2 kk => ?_) kk
  obtain ⟨hxx, hbb, hml, -, -, hown, hname, hts, hK, hfr, hlo, -⟩ := hG
  have hc0 : H[b]? = some (arrV (D.2 1) N0 (fun j => .long (f j))) := (hR.2 _ _ h0).2
  have hc1 : H[a]? = some (arrV (D.2 1) N1 (fun j => .long (g j))) := (hR.2 _ _ h1).2
  obtain ⟨-, k0, hk0, cm0, hkk0⟩ := (ev_cls hK (t := 1) (by decide)) N0 (fun j => .long (f j))
  obtain ⟨ex1, ex2⟩ := ev_cl_of hx
  obtain ⟨ey1, ey2⟩ := ev_cl_of hy
  obtain ⟨ez1, ez2⟩ := ev_cl_of hz
  intro T hT X
  obtain ⟨vm', X', step⟩ := X.arraycopy hxx hown (hts _ hl) (hts _ (ev_mem (by decide +kernel) rfl)) (hts _ (ev_mem (by decide +kernel) rfl)) (hts _ (ev_mem (by decide +kernel) rfl)) (src := b) (dst := a) (cs := arrV (D.2 1) N0 (fun j => .long (f j))) (cd := arrV (D.2 1) N1 (fun j => .long (g j))) (srcPos := sp) (destPos := dp) (n := k) (by rw [hT]; exact hc0) (by rw [hT]; exact hc1)
    (fun _ h => by cases h) (fun _ h => by cases h) (fun h => by cases h) (fun h => by cases h) hk0 hk0 hkk0 hkk0 rfl ex1 ey1 ez1
    (by rw [hx, hz, arrV_size]; omega) (by rw [hy, hz, arrV_size]; omega)
    (fun vm₁ _ i hi => by
      have e : (arrV (D.2 1) N0 (fun j => .long (f j))).slots.getD (sp.toNatClampNeg + i) .null = .long (f (x + i)) := by
        rw [Array.getD_eq_getD_getElem?, ex2, arrV_read _ _ (by omega)]
        rfl
      rw [e]
      exact ⟨rfl, trivial⟩)
    (g := F0 m pc sl (.int k :: .int dp :: .ref a :: .int sp :: .ref b :: st)) rfl (by rw [hml]; exact hL.1) (rest := st) rfl (by rw [hbb]; exact hd) (by omega) (by
      show 2 * 0 + _ + (nativeFrameWords "java/lang/System" "arraycopy" 5 + 11) ≤ _
      have : nativeFrameWords "java/lang/System" "arraycopy" 5 ≤ 20 := by decide +kernel
      omega)
  have e1 : copied (arrV (D.2 1) N0 (fun j => .long (f j))) (arrV (D.2 1) N1 (fun j => .long (g j))) sp dp k = arrV (D.2 1) N1 (fun j => .long (va_cpy f g x y z j)) := by
    rw [← ex2, ← ey2, ← ez2]
    exact va_copied (fun z => .long z) _ _ f g (by omega)
  rw [e1] at X' step
  have hl' : a < H.size := (Array.getElem?_eq_some_iff.mp hc1).1
  have hheap : ((T.setVm vm').setCell a (arrV (D.2 1) N1 (fun j => .long (va_cpy f g x y z j)))).heap = H.setIfInBounds a (arrV (D.2 1) N1 (fun j => .long (va_cpy f g x y z j))) := by rw [← hT]; rfl
  have oq : ∀ q : Nat, q ≠ a → (H.setIfInBounds a (arrV (D.2 1) N1 (fun j => .long (va_cpy f g x y z j))))[q]? = H[q]? := fun q hq => by simp [Array.getElem?_setIfInBounds, Ne.symm hq]
  have hA : ev_A B a := (hR.2 _ _ h1).1
  obtain ⟨t, a1, b1⟩ := kk _ _ sl (hR.up h1 (by simp) (e := ev_la N1 (va_cpy f g x y z)) (show (H.setIfInBounds a _)[a]? = some _ by simp [Array.getElem?_setIfInBounds, hl']; rfl) oq) ⟨by simp; exact hS.1, fun q g1 g2 => by
      rw [oq q (fun e => g2 (by rw [e]; exact hA))]
      exact hS.2.1 q g1 g2, fun q hq => by
      rcases List.mem_append.mp hq with h | h
      · exact hS.2.2 q h
      · obtain ⟨z, -, hz⟩ := List.mem_map.mp h
        rw [← hz]
        exact hA⟩ hL _ hheap X'
  exact ⟨t, step t a1, b1⟩
/-! returns -/
theorem Ev.ret0 {v : Option Value} (f : ∀ (D : ev_D) (p : Program) (l : Launch) (e : Env) (R : Room) (s : State) (m : MethodId) (args : Array Value) (below : List Frame) (meth : Method) (c : Code) (H : Heap) (locs : List Loc) (a : Array Slot) (cells slots : Nat),
      ev_G B D d M p R s m args meth c → (∀ t : State, t.heap = H → s.WarmedH t.vm → ev_Q B D v h args s (.returned v) t) → (∀ q ∈ locs, ev_A B q.base) →
      W p l e R s m args below meth c H locs cells slots (MQ below (ev_Q B D v h) args s cells slots (ev_A B)) (F0 m pc a st)) : Ev B d M pc ls st h v h := by
  refine ⟨Nat.le_refl _, fun D p l e R s m args below meth c hG H locs a cells slots hR hS hL h1 h2 => ?_⟩
  rw [Nat.sub_self, Nat.add_zero, Nat.add_zero]
  exact f D p l e R s m args below meth c H locs a cells slots hG (fun t ht hW => ⟨rfl, by rw [ht]; exact hR, hS.F ht⟩) hS.2.2
theorem Wp.iret {x : Int32} (hd : decode M.2.1 pc = .ok (.ireturn, 1)) (hr : M.2.2.2 = some .int) (hq : Q (some (.int x)) h) : Wp B d M pc ls [.int x] h Q :=
  ⟨_, _, Ev.ret0 (fun D p l e R s m args below meth c H locs a cells slots hG h1 h2 => W.iret hG.1 hG.2.1 (hG.2.2.2.1.trans hr) h1 h2 hd hG.2.2.2.2.1), hq⟩
theorem Wp.zret {x : Int32} (hd : decode M.2.1 pc = .ok (.ireturn, 1)) (hr : M.2.2.2 = some .boolean) (hx : x = 0 ∨ x = 1) (hq : Q (some (.int x)) h) : Wp B d M pc ls [.int x] h Q :=
  ⟨_, _, Ev.ret0 (fun D p l e R s m args below meth c H locs a cells slots hG h1 h2 => W.zret hG.1 hG.2.1 (hG.2.2.2.1.trans hr) (by rcases hx with rfl | rfl <;> rfl) h1 h2 hd hG.2.2.2.2.1), hq⟩
theorem Wp.lret {x : Int64} (hd : decode M.2.1 pc = .ok (.lreturn, 1)) (hr : M.2.2.2 = some .long) (hq : Q (some (.long x)) h) : Wp B d M pc ls [.long x] h Q :=
  ⟨_, _, Ev.ret0 (fun D p l e R s m args below meth c H locs a cells slots hG h1 h2 => W.lret hG.1 hG.2.1 (hG.2.2.2.1.trans hr) h1 h2 hd hG.2.2.2.2.1), hq⟩
theorem Wp.vret (hd : decode M.2.1 pc = .ok (.return_, 1)) (hr : M.2.2.2 = none) (hq : Q none h) : Wp B d M pc ls [] h Q :=
  ⟨_, _, Ev.ret0 (fun D p l e R s m args below meth c H locs a cells slots hG h1 h2 => W.vret hG.1 hG.2.1 (hG.2.2.2.1.trans hr) h1 h2 hd hG.2.2.2.2.1), hq⟩
theorem Wp.aret {x : Value} {rt : FieldType} (hd : decode M.2.1 pc = .ok (.areturn, 1)) (hr : M.2.2.2 = some rt) (hrt : (∃ n, rt = .object n) ∨ ∃ t, rt = .array t) (hx : ev_isr x) (hq : Q (some x) h) : Wp B d M pc ls [x] h Q :=
  ⟨_, _, Ev.ret0 (fun D p l e R s m args below meth c H locs a cells slots hG h1 h2 => W.aret hG.1 hG.2.1 (hG.2.2.2.1.trans hr) hrt hx h1 h2 hd hG.2.2.2.2.1), hq⟩
end EVA
end
section
/-! calls: a method's run from its entry is a contract (Met); a call takes it at its word -/
def ev_sl : List Value → List (Option Value)
  | [] => []
  | .long x :: t => some (.long x) :: none :: ev_sl t
  | .double x :: t => some (.double x) :: none :: ev_sl t
  | .int x :: t => some (.int x) :: ev_sl t
  | .float x :: t => some (.float x) :: ev_sl t
  | .null :: t => some .null :: ev_sl t
  | .ref x :: t => some (.ref x) :: ev_sl t
  | .retAddr x :: t => some (.retAddr x) :: ev_sl t
/-- the locals with which a method begins -/
def ev_en (As : List Value) (n : Nat) : List (Option Value) := ev_sl As ++ List.replicate (n - (ev_sl As).length) none
theorem ev_sl_len (As : List Value) : (ev_sl As).length = (lg_sl As).length := by
  induction As with
  | nil => rfl
  | cons v t ih =>
    have e : lg_sl (v :: t) = lg_sl [v] ++ lg_sl t := by simp [lg_sl]
    rw [e, List.length_append, ← ih]
    cases v <;> simp [ev_sl, lg_sl, Value.category] <;> omega
theorem ev_sl_args : ∀ (As : List Value) (k i : Nat) (v : Value), (ev_sl As)[i]? = some (some v) → (k + i, v) ∈ lv_args k As
  | [], k, i, v, h => by simp [ev_sl] at h
  | w :: t, k, i, v, h => by
    have one : ∀ (x : Value), x = w → x.category ≠ 2 → ev_sl (w :: t) = some w :: ev_sl t → (k + i, v) ∈ lv_args k (w :: t) := by
      intro x hx hc he
      subst hx
      rw [he] at h
      show (k + i, v) ∈ (k, x) :: lv_args (if x.category = 2 then k + 2 else k + 1) t
      rw [if_neg hc]
      cases i with
      | zero => simp at h; subst h; exact List.mem_cons_self
      | succ i =>
        have := ev_sl_args t (k + 1) i v (by simpa using h)
        rw [show k + 1 + i = k + (i + 1) by omega] at this
        exact List.mem_cons_of_mem _ this
    have two : ∀ (x : Value), x = w → x.category = 2 → ev_sl (w :: t) = some w :: none :: ev_sl t → (k + i, v) ∈ lv_args k (w :: t) := by
      intro x hx hc he
      subst hx
      rw [he] at h
      show (k + i, v) ∈ (k, x) :: lv_args (if x.category = 2 then k + 2 else k + 1) t
      rw [if_pos hc]
      cases i with
      | zero => simp at h; subst h; exact List.mem_cons_self
      | succ i =>
        cases i with
        | zero => simp at h
        | succ i =>
          have := ev_sl_args t (k + 2) i v (by simpa using h)
          rw [show k + 2 + i = k + (i + 1 + 1) by omega] at this
          exact List.mem_cons_of_mem _ this
    cases hw : w with
    | long x => rw [← hw]; exact two w rfl (by rw [hw]; rfl) (by rw [hw]; rfl)
    | double x => rw [← hw]; exact two w rfl (by rw [hw]; rfl) (by rw [hw]; rfl)
    | int x => rw [← hw]; exact one w rfl (by rw [hw]; exact (show ¬ (1 : Nat) = 2 by decide)) (by rw [hw]; rfl)
    | float x => rw [← hw]; exact one w rfl (by rw [hw]; exact (show ¬ (1 : Nat) = 2 by decide)) (by rw [hw]; rfl)
    | null => rw [← hw]; exact one w rfl (by rw [hw]; exact (show ¬ (1 : Nat) = 2 by decide)) (by rw [hw]; rfl)
    | ref x => rw [← hw]; exact one w rfl (by rw [hw]; exact (show ¬ (1 : Nat) = 2 by decide)) (by rw [hw]; rfl)
    | retAddr x => rw [← hw]; exact one w rfl (by rw [hw]; exact (show ¬ (1 : Nat) = 2 by decide)) (by rw [hw]; rfl)
theorem ev_en_L {As : List Value} {n : Nat} {a : Array Slot} (h : lv_has a n (lv_args 0 As)) : ev_L (ev_en As n) a n := by
  refine ⟨h.1, h.2.1, fun i v hi => ?_⟩
  unfold ev_en at hi
  by_cases hl : i < (ev_sl As).length
  · rw [List.getElem?_append_left hl] at hi
    have := h.2.2 _ (ev_sl_args As 0 i v hi)
    rw [Nat.zero_add] at this
    exact this
  · rw [List.getElem?_append_right (by omega)] at hi
    have := List.eq_of_mem_replicate (List.mem_of_getElem? hi)
    cases this
/-- what a method must have to be called: its code among the words, room for its locals -/
def ev_okM (M : ev_M) (n : Nat) : Prop := plainName M.1.cls = true ∧ M.2.2.1 ≤ 21 ∧ Cond.code M.1 M.2.1 M.2.2.1 M.2.2.2 ∈ ev_tb ∧ Cond.initialized M.1.cls ∈ ev_tb ∧ (M.1.cls ≠ "java/lang/invoke/MethodHandle" ∧ M.1.cls ≠ "java/lang/invoke/VarHandle") ∧ (parseMethodDescriptor M.1.desc).map (fun d => d.parameters.length) = some n
abbrev ev_ws (M : ev_M) : List Cond := Cond.code M.1 M.2.1 M.2.2.1 M.2.2.2 :: ev_tb
abbrev ev_rm (d w : Nat) : Room := { frames := d, cells := w, slots := w, locals := 40 * d }
def ev_P (B : ev_B) (D : ev_D) (h : ev_H) (As : List Value) : Array Value → State → Prop := fun av U => av = As.toArray ∧ ev_R B D h U.heap ∧ ev_K D U ∧ B.1 ≤ U.heap.size ∧ ev_Z B U U.heap
theorem ev_good {w : Cond} (h : w ∈ ev_tb) : (w.onTables && w.keeps) = true ∨ ∃ ty, w = .arrayClass ty := good_of_word (List.mem_filter.mp h).2
theorem ev_gin {ws : List Cond} (h : ∀ w ∈ ws, w ∈ ev_tb) : GoodIn ev_tb ws := fun w hw => ⟨h w hw, ev_good (h w hw)⟩
theorem ev_met {B : ev_B} {d n : Nat} {M : ev_M} {As : List Value} {h h' : ev_H} {v : Option Value} (hE : Ev B d M 0 (ev_en As M.2.2.1) [] h v h') (hok : ev_okM M n) (hlen : (ev_sl As).length ≤ M.2.2.1) (l : Launch) (D : ev_D) :
    Met l M.1 (ev_ws M) (ev_rm d (h'.2.2 - h.2.2)) (ev_P B D h As) (ev_Q B D v h') (h'.2.2 - h.2.2) (h'.2.2 - h.2.2) (ev_A B) := by
  refine Met.ofW (cc := M.2.1) (maxL := M.2.2.1) (ret := M.2.2.2) hok.1 rfl ?_
  intro p e s m args below meth c s₁ BL hml hv
  obtain ⟨rfl, hR, hK, hB, hZ⟩ := hv
  have hts := atoms_spec (ws := ev_ws M) BL.pre
  have hl := lv_entry As (n := M.2.2.1) (by rw [← ev_sl_len]; exact hlen)
  rw [lg_entry_eq]
  generalize (lg_sl As ++ List.replicate (M.2.2.1 - (lg_sl As).length) Slot.unset).toArray = a at hl ⊢
  have key := hE.2 D p l e (ev_rm d (h'.2.2 - h.2.2)) s m As.toArray below meth c ⟨BL.exec, BL.bytes, hml, BL.returns, BL.notSynchronized, findClass_of_methodNamed BL.named, (name_of_methodNamed BL.named BL.method).1, fun w hw => hts w (List.mem_cons_of_mem _ hw), hK, Nat.le_refl _, Nat.le_refl _, hB, hZ⟩
    s.heap [] a 0 0 hR va_S.rf (ev_en_L hl) (by show 0 + _ ≤ h'.2.2 - h.2.2; omega) (by show 0 + _ ≤ h'.2.2 - h.2.2; omega)
  rw [Nat.zero_add] at key
  exact key
theorem ev_K.moved {D : ev_D} {s U : State} (hW : s.WarmedH U.vm) (h : ev_K D s) : ev_K D U := by
  have ha := hW.alike
  obtain ⟨h1, h2, h3, h4, h5, h6, h7⟩ := h
  refine ⟨va_K.moved ha h1, fun t ht => ⟨arrOfT_moved ha (h2 t ht).1, (h2 t ht).2.moved ha⟩, fun w hw => ?_, ⟨h4.1.moved ha, h4.2.1.moved ha, h4.2.2.moved ha⟩, h5.moved ha, h6.moved ha, fun C hC => ?_⟩
  · have h8 := h3 w hw
    have h9 := (List.mem_filter.mp hw).2
    cases w <;> first | exact va_Nw.warmM hW h8 | (simp at h9)
  · obtain ⟨c, t, e1, e2, e3⟩ := h7 C hC
    exact ⟨c, t, by rw [ha.findClass]; exact e1, by rw [ha.findClass]; exact e2, by rw [ha.assignable]; exact e3⟩
theorem ev_K.same {D : ev_D} {s U : State} (hv : s.vm = U.vm) (h : ev_K D s) : ev_K D U := by
  have ha : s.vm.Alike U.vm := by rw [hv]; exact Vm.Alike.refl _
  obtain ⟨h1, h2, h3, h4, h5, h6, h7⟩ := h
  refine ⟨va_K.moved ha h1, fun t ht => ⟨arrOfT_moved ha (h2 t ht).1, (h2 t ht).2.moved ha⟩, fun w hw => ?_, ⟨h4.1.moved ha, h4.2.1.moved ha, h4.2.2.moved ha⟩, h5.moved ha, h6.moved ha, fun C hC => ?_⟩
  · have h8 := h3 w hw
    have h9 := (List.mem_filter.mp hw).2
    cases w <;> first | exact va_Nw.same rfl hv h8 | (simp at h9)
  · obtain ⟨c, t, e1, e2, e3⟩ := h7 C hC
    exact ⟨c, t, by rw [ha.findClass]; exact e1, by rw [ha.findClass]; exact e2, by rw [ha.assignable]; exact e3⟩
theorem ev_Z.moved {B : ev_B} {s U : State} {H : Heap} (ha : s.vm.Alike U.vm) (h : ev_Z B s H) : ev_Z B U H := ⟨va_Z.moved ha h.1, va_Z.moved ha h.2.1, fun t N f hf => va_T.moved ha (h.2.2 t N f hf)⟩
theorem ev_Z.kept {B : ev_B} {s : State} {H H1 : Heap} (h : ev_Z B s H) (hq : ∀ a : Nat, a < H.size → ¬ ev_A B a → H1[a]? = H[a]?) : ev_Z B s H1 := ⟨va_Z.kept h.1 hq, va_Z.kept h.2.1 hq, fun t N f hf => va_T.kept (h.2.2 t N f hf) hq⟩
theorem ev_blind {B : ev_B} {D : ev_D} {h : ev_H} {As : List Value} : FrameBlind (ev_P B D h As) := by
  intro a U g mk q
  obtain ⟨h1, h2, h3, h4, h5⟩ := q
  exact ⟨h1, h2, ev_K.same (s := U) (U := U.calling g mk a) rfl h3, h4, ev_Z.moved (U := U.calling g mk a) (Vm.Alike.refl U.vm) h5⟩
/-- the callee's start, out of the caller's state -/
theorem ev_pre {B : ev_B} {D : ev_D} {d : Nat} {M : ev_M} {p : Program} {R : Room} {s : State} {m : MethodId} {args : Array Value} {meth : Method} {c : Code} {h : ev_H} {H : Heap} {locs : List Loc} {As : List Value} (hG : ev_G B D d M p R s m args meth c) (hR : ev_R B D h H) (hS : va_S (ev_A B) s.heap H locs) :
    ∀ U : State, U.heap = H → s.WarmedH U.vm → ev_P B D h As As.toArray U := by
  obtain ⟨-, -, -, -, -, -, -, -, hK, -, -, hB, hZ⟩ := hG
  intro U hU hW
  refine ⟨rfl, by rw [hU]; exact hR, hK.moved hW, by rw [hU]; exact Nat.le_trans hB hS.1, ?_⟩
  rw [hU]
  exact (hZ.kept (fun a h1 h2 => hS.2.1 a h1 h2)).moved hW.alike
section EVC
variable {B : ev_B} {d : Nat} {M : ev_M} {pc n : Nat} {ls ls' : List (Option Value)} {st st' : List Value} {h : ev_H} {Q : Option Value → ev_H → Prop}
/-- a call, however it is linked: 'run' is the kit's row for it -/
theorem Wp.callG {dc k : Nat} {N : ev_M} {As rest : List Value} {Qc : Option Value → ev_H → Prop} (hlt : dc + 1 ≤ d) (hok : ev_okM N k) (hlen : (ev_sl As).length ≤ N.2.2.1) (hc : Wp B dc N 0 (ev_en As N.2.2.1) [] h Qc)
    (run : ∀ (D : ev_D) (p : Program) (l : Launch) (e : Env) (R : Room) (s : State) (m : MethodId) (args : Array Value) (below : List Frame) (meth : Method) (c : Code) (H : Heap) (locs : List Loc) (a : Array Slot) (cells slots w : Nat) (Pc : Array Value → State → Prop) (Qq : Array Value → State → Outcome → State → Prop),
      ev_G B D d M p R s m args meth c → ev_R B D h H → a.size = M.2.2.1 → Met l N.1 (ev_ws N) (ev_rm dc w) Pc Qq w w (ev_A B) → FrameBlind Pc → (∀ U : State, U.heap = H → s.WarmedH U.vm → Pc As.toArray U) →
      (ev_rm dc w).frames + 1 ≤ R.frames ∧ 8 + (N.2.2.1 + 11) + (ev_rm dc w).locals ≤ R.locals → cells + w ≤ R.cells ∧ slots + w ≤ R.slots →
      va_Run p l e R s m args below meth c H locs cells slots w w (F0 m pc a st) rest (Qq As.toArray) (ev_A B))
    (hn : pc + 3 = n) (kk : ∀ (v : Option Value) (h1 : ev_H), Qc v h1 → Wp B d M n ls (v.toList ++ rest) h1 Q) : Wp B d M pc ls st h Q := by
  subst hn
  obtain ⟨v1, h1, hE, hQ⟩ := hc
  obtain ⟨v, h', ⟨hw, hE2⟩, hQ2⟩ := kk v1 h1 hQ
  have hw1 := hE.1
  refine ⟨v, h', ⟨by omega, fun D p l e R s m args below meth c hG H locs a cells slots hR hS hL hc1 hc2 => ?_⟩, hQ2⟩
  have hM := ev_met hE hok hlen l D
  have hG' := hG
  obtain ⟨-, -, -, -, -, -, -, -, -, hfr, hlo, -⟩ := hG'
  have hN := hok.2.1
  have hr := run D p l e R s m args below meth c H locs a cells slots (h1.2.2 - h.2.2) _ _ hG hR hL.1 hM ev_blind (ev_pre hG hR hS) ⟨by show dc + 1 ≤ _; omega, by show 8 + (N.2.2.1 + 11) + 40 * dc ≤ _; omega⟩ ⟨by omega, by omega⟩
  intro T hT X
  obtain ⟨v0, st₀, t, T', L, h0, X', hL', e1, e2, ⟨hv, hR1, hF⟩, stp⟩ := hr T hT X
  cases hv
  have hS1 : va_S (ev_A B) s.heap T'.heap (locs ++ L) := by
    rw [e1]
    refine ⟨Nat.le_trans hS.1 (by rw [← h0]; exact hF.1), fun q g1 g2 => ?_, fun q hq => ?_⟩
    · rw [hF.2 q (by rw [h0]; exact Nat.lt_of_lt_of_le g1 hS.1) g2, h0]
      exact hS.2.1 q g1 g2
    · rcases List.mem_append.mp hq with z | z
      · exact hS.2.2 q z
      · exact hL' q z
  have key := hE2 D p l e R s m args below meth c hG T'.heap (locs ++ L) a (cells + (h1.2.2 - h.2.2)) (slots + (h1.2.2 - h.2.2)) (by rw [e1]; exact hR1) hS1 hL (by omega) (by omega)
  have ee1 : cells + (h'.2.2 - h.2.2) = (cells + (h1.2.2 - h.2.2)) + (h'.2.2 - h1.2.2) := by omega
  have ee2 : slots + (h'.2.2 - h.2.2) = (slots + (h1.2.2 - h.2.2)) + (h'.2.2 - h1.2.2) := by omega
  rw [ee1, ee2]
  obtain ⟨t2, a1, b1⟩ := key T' rfl X'
  exact ⟨t2, stp t2 a1, b1⟩
/-- an instance method, or a private one: the receiver's class declares it -/
def ev_CV (own : String) (idx ci : Nat) (N : ev_M) (k : Nat) : Prop := ev_okM N k ∧ (∃ (T : u_T) (nn : Nat), vwCl[ci]? = some (N.1.cls, T, nn)) ∧ Cond.methodLink own idx N.1 ∈ ev_tb ∧ Cond.instanceMethod N.1 ∈ ev_tb ∧ Cond.selects N.1.cls N.1 N.1 ∈ ev_tb
/-- an instance method named through a class above, or one that overrides -/
def ev_CU (own : String) (idx ci : Nat) (N : ev_M) (k : Nat) : Prop := ev_okM N k ∧ ∃ (C owner : String) (x : MethodName) (T : u_T) (nn : Nat), vwCl[ci]? = some (C, T, nn) ∧ Cond.methodLink own idx x ∈ ev_tb ∧ Cond.sameMethod x.cls owner x.name x.desc ∈ ev_tb ∧ Cond.selects C x N.1 ∈ ev_tb ∧ Cond.instanceMethod N.1 ∈ ev_tb ∧
  (owner ≠ "java/lang/invoke/MethodHandle" ∧ owner ≠ "java/lang/invoke/VarHandle") ∧ (parseMethodDescriptor x.desc).map (fun d => d.parameters.length) = some k ∧ (N.1 = ⟨owner, x.name, x.desc⟩ ∨ Cond.declares ⟨owner, x.name, x.desc⟩ ∈ ev_tb)
def ev_CS (own : String) (idx : Nat) (N : ev_M) (k : Nat) : Prop := ev_okM N k ∧ Cond.methodLink own idx N.1 ∈ ev_tb ∧ Cond.static N.1 ∈ ev_tb
def ev_CSN (own : String) (idx : Nat) (N : ev_M) (k : Nat) : Prop := ev_okM N k ∧ (∃ host : String, Cond.methodLinkNest own idx N.1 host ∈ ev_nest) ∧ Cond.static N.1 ∈ ev_tb
def ev_CI (own : String) (idx : Nat) (N : ev_M) (k : Nat) : Prop := ev_okM N k ∧ Cond.methodLink own idx N.1 ∈ ev_tb ∧ Cond.instanceMethod N.1 ∈ ev_tb ∧ N.1.name = "<init>" ∧ N.2.2.2 = none
def ev_CIN (own : String) (idx : Nat) (N : ev_M) (k : Nat) : Prop := ev_okM N k ∧ (∃ host : String, Cond.methodLinkNest own idx N.1 host ∈ ev_nest) ∧ Cond.instanceMethod N.1 ∈ ev_tb ∧ N.1.name = "<init>" ∧ N.2.2.2 = none
theorem ev_B0 {own : String} {idx k w dc : Nat} {N : ev_M} {R : Room} {s : State} {args : Array Value} (hok : ev_okM N k) (hts : ∀ x ∈ ev_tb, x.before args s = true) (hl : (Cond.methodLink own idx N.1).before args s = true) (hR : (ev_rm dc w).frames + 1 ≤ R.frames ∧ 8 + (N.2.2.1 + 11) + (ev_rm dc w).locals ≤ R.locals) :
    CallB R s args own idx N.1 N.2.1 N.2.2.1 N.2.2.2 (ev_ws N) (ev_rm dc w) w w k :=
  callB_of k hts (ev_gin (fun x hx => (List.mem_cons.mp hx).elim (fun e => by rw [e]; exact hok.2.2.1) (fun e => e))) rfl rfl rfl (hts _ hok.2.2.2.1) hl ⟨hok.2.2.2.2.1.1, hok.2.2.2.2.1.2, hok.2.2.2.2.2⟩ hR
theorem ev_pay {N : ev_M} {k : Nat} {s : State} {args : Array Value} (hok : ev_okM N k) (hts : ∀ x ∈ ev_tb, x.before args s = true) : ∀ w ∈ ev_ws N, ∀ (a' : Array Value) (U : State), s.WarmedH U.vm → w.before a' U = true :=
  pay_in hts (ev_gin (fun x hx => (List.mem_cons.mp hx).elim (fun e => by rw [e]; exact hok.2.2.1) (fun e => e)))
theorem ev_kl {N : ev_M} {k : Nat} (hok : ev_okM N k) : ∀ sig, parseMethodDescriptor N.1.desc = some sig → k = sig.parameters.length := by
  intro sig hs
  have h2 := hok.2.2.2.2.2
  rw [hs] at h2
  exact (Option.some.inj h2).symm
theorem Wp.callV {dc k idx ci b : Nat} {N : ev_M} {V : Nat → Value} {As rest : List Value} {Qc : Option Value → ev_H → Prop} (hd : decode M.2.1 pc = .ok (.invokevirtual idx, 3)) (hL : ev_CV M.1.cls idx ci N k) (hst : st = As.reverse ++ .ref b :: rest) (hlt : dc + 1 ≤ d) (hk : As.length = k) (hlen : (ev_sl (.ref b :: As)).length ≤ N.2.2.1) (hrest : (rest.map fun v => v.category).sum ≤ 8) (hb : h.1 b = some (ev_ob ci V)) (hn : pc + 3 = n) (hc : Wp B dc N 0 (ev_en (.ref b :: As) N.2.2.1) [] h Qc)
    (kk : ∀ (v : Option Value) (h1 : ev_H), Qc v h1 → Wp B d M n ls (v.toList ++ rest) h1 Q) : Wp B d M pc ls st h Q := by
  obtain ⟨hok, ⟨TT, nn, hci⟩, hl, hin, hsel⟩ := hL
  refine Wp.callG hlt hok hlen hc (fun D p l e R s m args below meth c H locs a cells slots w Pc Qq hG hR hsz hM hbl hpre hroom hf => ?_) hn kk
  have hrecv := ev_recv hG.2.2.2.2.2.2.2.2.1 hR hb hci
  obtain ⟨hx, hbb, hml, -, -, hown, hname, hts, hK, -⟩ := hG
  exact va_runV (C := N.1.cls) (As := As) (rest := rest) (n := k) ⟨hx, hbb, hml, hown, hts⟩ hM ⟨ev_B0 hok hts (hts _ hl) hroom, hts _ hin, hts _ hsel⟩ ⟨hbl, hrecv, hpre⟩ rfl hk hsz (by rw [hst]) (by show 2 * 0 + _ ≤ 8; omega) hd hf
theorem Wp.callU {dc k idx ci b : Nat} {N : ev_M} {V : Nat → Value} {As rest : List Value} {Qc : Option Value → ev_H → Prop} (hd : decode M.2.1 pc = .ok (.invokevirtual idx, 3)) (hL : ev_CU M.1.cls idx ci N k) (hst : st = As.reverse ++ .ref b :: rest) (hlt : dc + 1 ≤ d) (hk : As.length = k) (hlen : (ev_sl (.ref b :: As)).length ≤ N.2.2.1) (hrest : (rest.map fun v => v.category).sum ≤ 8) (hb : h.1 b = some (ev_ob ci V)) (hn : pc + 3 = n) (hc : Wp B dc N 0 (ev_en (.ref b :: As) N.2.2.1) [] h Qc)
    (kk : ∀ (v : Option Value) (h1 : ev_H), Qc v h1 → Wp B d M n ls (v.toList ++ rest) h1 Q) : Wp B d M pc ls st h Q := by
  obtain ⟨hok, C, owner, x, TT, nn, hci, hl, hsame, hsel, hin, hmh, hpar, hdec⟩ := hL
  refine Wp.callG hlt hok hlen hc (fun D p l e R s m args below meth c H locs a cells slots w Pc Qq hG hR hsz hM hbl hpre hroom hf => ?_) hn kk
  have hrecv := ev_recv hG.2.2.2.2.2.2.2.2.1 hR hb hci
  obtain ⟨hx, hbb, hml, -, -, hown, hname, hts, hK, -⟩ := hG
  have hcode := hok.2.2.1
  have hdd : va_Decl s ⟨owner, x.name, x.desc⟩ := by
    rcases hdec with e | e
    · rw [← e]; exact va_Decl.of (hts _ hin) (hts _ hcode)
    · exact va_Decl.abs (va_Nw.of (by rfl) (hts _ e))
  refine va_runU (C := C) (owner := owner) (x := x) (As := As) (rest := rest) (n := k) ⟨hx, hbb, hml, hown, hts⟩ hM ⟨⟨rfl, rfl, hroom.1, hroom.2, ev_pay hok hts, List.mem_cons_self⟩, hts _ hcode, hts _ hok.2.2.2.1, hmh, ?_, hts _ hl, hts _ hsame, hdd, hts _ hsel, hts _ hin⟩ ⟨hbl, hrecv, hpre⟩ rfl hk hsz (by rw [hst]) (by show 2 * 0 + _ ≤ 8; omega) hd hf
  intro sig hs
  rw [hs] at hpar
  exact (Option.some.inj hpar).symm
theorem Wp.callS {dc k idx : Nat} {N : ev_M} {As rest : List Value} {Qc : Option Value → ev_H → Prop} (hd : decode M.2.1 pc = .ok (.invokestatic idx, 3)) (hL : ev_CS M.1.cls idx N k) (hst : st = As.reverse ++ rest) (hlt : dc + 1 ≤ d) (hk : As.length = k) (hlen : (ev_sl As).length ≤ N.2.2.1) (hrest : (rest.map fun v => v.category).sum ≤ 8) (hn : pc + 3 = n) (hc : Wp B dc N 0 (ev_en As N.2.2.1) [] h Qc)
    (kk : ∀ (v : Option Value) (h1 : ev_H), Qc v h1 → Wp B d M n ls (v.toList ++ rest) h1 Q) : Wp B d M pc ls st h Q := by
  obtain ⟨hok, hl, hstat⟩ := hL
  refine Wp.callG hlt hok hlen hc (fun D p l e R s m args below meth c H locs a cells slots w Pc Qq hG hR hsz hM hbl hpre hroom hf => ?_) hn kk
  obtain ⟨hx, hbb, hml, -, -, hown, hname, hts, hK, -⟩ := hG
  exact va_runS (As := As) (rest := rest) (n := k) ⟨hx, hbb, hml, hown, hts⟩ hM ⟨ev_B0 hok hts (hts _ hl) hroom, hts _ hstat⟩ ⟨hbl, hpre⟩ rfl hk hsz (by rw [hst]) (by show 2 * 0 + _ ≤ 8; omega) hd hf
theorem Wp.callSN {dc k idx : Nat} {N : ev_M} {As rest : List Value} {Qc : Option Value → ev_H → Prop} (hd : decode M.2.1 pc = .ok (.invokestatic idx, 3)) (hL : ev_CSN M.1.cls idx N k) (hst : st = As.reverse ++ rest) (hlt : dc + 1 ≤ d) (hk : As.length = k) (hlen : (ev_sl As).length ≤ N.2.2.1) (hrest : (rest.map fun v => v.category).sum ≤ 8) (hn : pc + 3 = n) (hc : Wp B dc N 0 (ev_en As N.2.2.1) [] h Qc)
    (kk : ∀ (v : Option Value) (h1 : ev_H), Qc v h1 → Wp B d M n ls (v.toList ++ rest) h1 Q) : Wp B d M pc ls st h Q := by
  obtain ⟨hok, ⟨host, hl⟩, hstat⟩ := hL
  refine Wp.callG hlt hok hlen hc (fun D p l e R s m args below meth c H locs a cells slots w Pc Qq hG hR hsz hM hbl hpre hroom hf => ?_) hn kk
  obtain ⟨hx, hbb, hml, -, -, hown, hname, hts, hK, -⟩ := hG
  exact va_runSN (host := host) (As := As) (rest := rest) (n := k) ⟨hx, hbb, hml, hown, hts⟩ hM ⟨⟨⟨rfl, rfl, hroom.1, hroom.2, ev_pay hok hts, List.mem_cons_self⟩, hts _ hok.2.2.1, hts _ hok.2.2.2.1, hok.2.2.2.2.1, ev_kl hok, va_Nw.use rfl (hK.2.2.1 _ hl)⟩, hts _ hstat, trivial⟩ ⟨hbl, hpre⟩ rfl hk hsz (by rw [hst]) (by show 2 * 0 + _ ≤ 8; omega) hd hf
theorem Wp.callI {dc k idx b : Nat} {N : ev_M} {As rest : List Value} {Qc : Option Value → ev_H → Prop} (hd : decode M.2.1 pc = .ok (.invokespecial idx, 3)) (hL : ev_CI M.1.cls idx N k) (hst : st = As.reverse ++ .ref b :: rest) (hlt : dc + 1 ≤ d) (hk : As.length = k) (hlen : (ev_sl (.ref b :: As)).length ≤ N.2.2.1) (hrest : (rest.map fun v => v.category).sum ≤ 8) (hn : pc + 3 = n) (hc : Wp B dc N 0 (ev_en (.ref b :: As) N.2.2.1) [] h Qc)
    (kk : ∀ (v : Option Value) (h1 : ev_H), Qc v h1 → Wp B d M n ls (v.toList ++ rest) h1 Q) : Wp B d M pc ls st h Q := by
  obtain ⟨hok, hl, hin, hnm, hret⟩ := hL
  refine Wp.callG hlt hok hlen hc (fun D p l e R s m args below meth c H locs a cells slots w Pc Qq hG hR hsz hM hbl hpre hroom hf => ?_) hn kk
  obtain ⟨hx, hbb, hml, -, -, hown, hname, hts, hK, -⟩ := hG
  have hB0 := ev_B0 hok hts (hts _ hl) hroom
  rw [hret] at hB0
  exact va_runI (As := As) (rest := rest) (n := k) ⟨hx, hbb, hml, hown, hts⟩ hM ⟨hB0, hnm, hts _ hin⟩ ⟨hbl, hpre⟩ rfl hk hsz (by rw [hst]) (by show 2 * 0 + _ ≤ 8; omega) hd hf
theorem Wp.callIN {dc k idx b : Nat} {N : ev_M} {As rest : List Value} {Qc : Option Value → ev_H → Prop} (hd : decode M.2.1 pc = .ok (.invokespecial idx, 3)) (hL : ev_CIN M.1.cls idx N k) (hst : st = As.reverse ++ .ref b :: rest) (hlt : dc + 1 ≤ d) (hk : As.length = k) (hlen : (ev_sl (.ref b :: As)).length ≤ N.2.2.1) (hrest : (rest.map fun v => v.category).sum ≤ 8) (hn : pc + 3 = n) (hc : Wp B dc N 0 (ev_en (.ref b :: As) N.2.2.1) [] h Qc)
    (kk : ∀ (v : Option Value) (h1 : ev_H), Qc v h1 → Wp B d M n ls (v.toList ++ rest) h1 Q) : Wp B d M pc ls st h Q := by
  obtain ⟨hok, ⟨host, hl⟩, hin, hnm, hret⟩ := hL
  refine Wp.callG hlt hok hlen hc (fun D p l e R s m args below meth c H locs a cells slots w Pc Qq hG hR hsz hM hbl hpre hroom hf => ?_) hn kk
  obtain ⟨hx, hbb, hml, -, -, hown, hname, hts, hK, -⟩ := hG
  have hcode := hts _ hok.2.2.1
  have hmem : Cond.code N.1 N.2.1 N.2.2.1 none ∈ ev_ws N := by rw [← hret]; exact List.mem_cons_self
  rw [hret] at hcode
  exact va_runIN (host := host) (As := As) (rest := rest) (n := k) ⟨hx, hbb, hml, hown, hts⟩ hM ⟨⟨⟨rfl, rfl, hroom.1, hroom.2, ev_pay hok hts, hmem⟩, hcode, hts _ hok.2.2.2.1, hok.2.2.2.2.1, ev_kl hok, va_Nw.use rfl (hK.2.2.1 _ hl)⟩, hnm, hts _ hin⟩ ⟨hbl, hpre⟩ rfl hk hsz (by rw [hst]) (by show 2 * 0 + _ ≤ 8; omega) hd hf
/-- Object's own constructor -/
theorem Wp.objInit {idx b : Nat} (hd : decode M.2.1 pc = .ok (.invokespecial idx, 3)) (hl : Cond.methodLink M.1.cls idx Lib.objectInit ∈ ev_tb) (hd1 : 1 ≤ d) (hrest : (st.map fun v => v.category).sum ≤ 8) (hn : pc + 3 = n) (k : Wp B d M n ls st h Q) : Wp B d M pc ls (.ref b :: st) h Q := by
  subst hn
  refine Wp.go (fun D p l e R s m args below meth c H locs sl cells slots Qf hG hR hS hL kk => ?_) k
  obtain ⟨hx, hbb, hml, -, -, hown, hname, hts, hK, hfr, hlo, -⟩ := hG
  exact W.objInit hx hbb hown (hts _ hl) (hts _ (ev_mem (by decide +kernel) rfl)) (hts _ (ev_mem (by decide +kernel) rfl)) rfl (by rw [hml]; exact hL.1) rfl hd (by omega) (by show 2 * 0 + _ + 12 ≤ _; omega) (kk _ hL)
end EVC
end
section
/-! THE CLAIM OUT OF THE LAW'S RUN: what is wanted of the law is one run (ev_law) -/
def R_law : String := "PriceBenchLaw"
abbrev M_law : ev_M := (⟨R_law, "law", "([I)Z"⟩, code, 4, ret)
def ev_KA : Nat → Int32 := fun k => match k with
  | 0 => -1
  | 3 => 1
  | _ => 0
def ev_BO : Nat → Int32 := fun k => match k with
  | 0 => 10
  | 1 => 11
  | 2 => 12
  | 3 => 20
  | 5 => 21
  | 7 => 30
  | 9 => 40
  | 10 => 41
  | _ => 0
/-- the two static arrays -/
def ev_sta (B : ev_B) : Prop := B.2.2 (B.2.1 0) = some (4, ev_KA) ∧ B.2.2 (B.2.1 1) = some (12, ev_BO)
/-- the law's run: from an empty heap, with a script of at most 3072 ints -/
def ev_law : Prop := ∀ (B : ev_B) (b L : Nat) (f : Nat → Int32) (n : Nat), ev_sta B → B.2.2 b = some (L, f) → L ≤ 3072 → Wp B 100 M_law 0 [some (.ref b), none, none, none] [] ((fun _ => none, n, 0) : ev_H) (fun v h' => v = some (.int 1) ∧ h'.2.2 ≤ 600000)
def lw_P (b : Addr) (xs : List Int32) (args : Array Value) (s : State) : Prop := args = #[.ref b] ∧ s.IntsAt b xs ∧ xs.length ≤ 3072 ∧ (Jvm.Cond.and given_1 narrow_1).before args s = true
def lw_Q (_ : Array Value) (s : State) (o : Outcome) (t : State) : Prop := o = .returned (some (.int 1)) ∧ Framed s o t [] 600000 7302250
def lw_Z (below : List Frame) (a : Array Value) (s : State) : State → Prop := fun t => ∃ o, t.status = .running ∧ Ended t below o ∧ lw_Q a s o t
def lw_At (p : Program) (s : State) (m : MethodId) (meth : Method) (c : Code) (b L : Nat) (xs : Nat → Int32) : Prop :=
  p.tables.exec = Jvm.exec ∧ c.code = code ∧ meth.sig.returnType = ret ∧ c.maxLocals = 4 ∧ s.vm.findClass R_law = some m.cls ∧ meth.name = "law" ∧ (∀ w ∈ lw_tbl, w.before #[Value.ref b] s = true) ∧ va_X b L xs s s.heap ∧ b < s.heap.size ∧ meth.locks = false ∧ (Jvm.Cond.and given_1 narrow_1).before #[Value.ref b] s = true
theorem ev_same {s t : State} {L : List Loc} {k n k' n' : Nat} (hL : ∀ q ∈ L, s.heap.size ≤ q.base) (hk : k ≤ k') (hn : n ≤ n') (h : s.sameButNew t L k n) : s.sameButNew t [] k' n' := by
  obtain ⟨h1, h2, h3, h4, h5, h6⟩ := h
  refine ⟨h1, h2, by omega, h4, by omega, fun a c hc => ?_⟩
  obtain ⟨c', e1, e2, e3, e4⟩ := h6 a c hc
  refine ⟨c', e1, e2, e3, fun i _ => e4 i (fun z => ?_)⟩
  have := hL _ z
  have hl := (Array.getElem?_eq_some_iff.mp hc).1
  exact absurd this (Nat.not_le.mpr hl)
theorem ev_cast {s : State} {A : Array Value} {C T : String} (h : (Cond.castable C T).before A s = true) : ev_Yc C T s := by
  obtain ⟨c, t, h1, h2, h3⟩ := Cond.castable_spec h
  exact ⟨c, t, h1, h2, h3⟩
set_option maxRecDepth 100000 in
set_option maxHeartbeats 4000000 in
theorem ev_startK {s : State} {b : Nat} (hts : ∀ w ∈ lw_tbl, w.before #[Value.ref b] s = true) (hgv : (Jvm.Cond.and given_1 narrow_1).before #[Value.ref b] s = true) : ∃ D : ev_D, ev_K D s := by
  have hs := flat_of_before _ hgv
  have hk : ∀ c : Nat, ∃ g : ClassId × (Nat → Nat), ∀ q : vw_C, vwCl[c]? = some q → u_Kn s q.1 q.2.1 q.2.2 g.1 g.2 := by
    intro c
    have one : ∀ (C : String) (T : u_T) (N : Nat), vwCl[c]? = some (C, T, N) → (∀ w ∈ u_ws C T N, w ∈ lw_tbl) → Cond.instantiable C N ∈ lw_tbl → ∃ g : ClassId × (Nat → Nat), ∀ q : vw_C, vwCl[c]? = some q → u_Kn s q.1 q.2.1 q.2.2 g.1 g.2 := by
      intro C T N hc hin hi
      obtain ⟨cC, iS, h⟩ := u_known hts hin (hts _ hi)
      refine ⟨(cC, iS), fun q hq => ?_⟩
      cases hc.symm.trans hq
      exact h
    match c with
    | 0 => exact one RX0 TX0 2 rfl inX0 (by decide +kernel)
    | 1 => exact one RX1 TX1 4 rfl inX1 (by decide +kernel)
    | 2 => exact one RX2 TX2 11 rfl inX2 (by decide +kernel)
    | 3 => exact one RX4 TX4 7 rfl inX4 (by decide +kernel)
    | 4 => exact one RX5 TX5 2 rfl inX5 (by decide +kernel)
    | 5 => exact one RX6 TX6 3 rfl inX6 (by decide +kernel)
    | 6 => exact one RX7 TX7 8 rfl inX7 (by decide +kernel)
    | 7 => exact one RX8 TX8 6 rfl inX8 (by decide +kernel)
    | 8 => exact one RX9 TX9 8 rfl inX9 (by decide +kernel)
    | 9 => exact one RX10 TX10 5 rfl inX10 (by decide +kernel)
    | 10 => exact one RX11 TX11 8 rfl inX11 (by decide +kernel)
    | 11 => exact one RX12 TX12 36 rfl inX12 (by decide +kernel)
    | c + 12 => exact ⟨(0, fun _ => 0), fun q hq => by simp [vwCl] at hq⟩
  have harr : ∀ t : Nat, ∃ cA : ClassId, t < 4 → ArrOfT s cA (ev_ty t) ∧ va_RA s cA (ev_ty t) := by
    intro t
    match t with
    | 0 =>
      obtain ⟨cA, kA, comp, h1, h2, h3⟩ := Cond.arrayClass_spec (hts (.arrayClass .int) (by decide +kernel))
      exact ⟨cA, fun _ => ⟨fun n z => ⟨fun k h => (by cases h), kA, h2, comp, h3⟩, h1⟩⟩
    | 1 =>
      obtain ⟨cA, kA, comp, h1, h2, h3⟩ := Cond.arrayClass_spec (hts (.arrayClass .long) (by decide +kernel))
      exact ⟨cA, fun _ => ⟨fun n z => ⟨fun k h => (by cases h), kA, h2, comp, h3⟩, h1⟩⟩
    | 2 =>
      obtain ⟨comp, cA, kA, h1, h2, h3, h4, h5⟩ := Cond.arrayOver_spec (hts (.arrayOver (.object "PriceBench$Offer")) (by decide +kernel))
      exact ⟨cA, fun _ => ⟨fun n z => ⟨fun k h => (by cases h), kA, h3, comp, h4⟩, kA, comp, h3, h4, h1, h5⟩⟩
    | 3 =>
      obtain ⟨comp, cA, kA, h1, h2, h3, h4, h5⟩ := Cond.arrayOver_spec (hts (.arrayOver (.object "PriceBench$Sheet")) (by decide +kernel))
      exact ⟨cA, fun _ => ⟨fun n z => ⟨fun k h => (by cases h), kA, h3, comp, h4⟩, kA, comp, h3, h4, h1, h5⟩⟩
    | t + 4 => exact ⟨0, fun h => absurd h (by omega)⟩
  refine ⟨((fun c => (Classical.choose (hk c)).1, fun c => (Classical.choose (hk c)).2), fun t => Classical.choose (harr t)), ⟨fun c q hq => Classical.choose_spec (hk c) q hq, fun k q h => by simp at h⟩, fun t ht => Classical.choose_spec (harr t) ht, fun w hw => ?_, ⟨va_Nc.of (hs _ (by decide +kernel)), va_Nc.of (hs _ (by decide +kernel)), va_Nc.of (hs _ (by decide +kernel))⟩, va_AO.of (A := #[Value.ref b]) (hts _ (by decide +kernel)), va_AO.of (A := #[Value.ref b]) (hts _ (by decide +kernel)), fun C hC => ?_⟩
  · have h9 := (List.mem_filter.mp hw).2
    have h8 := hts w (List.mem_filter.mp hw).1
    cases w <;> first | exact va_Nw.of rfl h8 | (simp at h9)
  · simp only [List.mem_cons, List.mem_nil_iff, or_false] at hC
    rcases hC with rfl | rfl | rfl | rfl <;> exact ev_cast (A := #[Value.ref b]) (hts _ (by decide +kernel))
set_option maxRecDepth 100000 in
set_option maxHeartbeats 4000000 in
theorem ev_startT {s : State} {b : Nat} {A : Nat → Prop} (hA : ∀ a : Nat, a < s.heap.size → ¬ A a) (hts : ∀ w ∈ lw_tbl, w.before #[Value.ref b] s = true) (hgv : (Jvm.Cond.and given_1 narrow_1).before #[Value.ref b] s = true) :
    ∃ t1 t2 : Nat, va_Z "PriceBench$Acts" "KIND_ABOVE" "[I" (.ref t1) A s s.heap ∧ va_Z "PriceBench$Acts" "BODIES" "[I" (.ref t2) A s s.heap ∧ va_T .int t1 4 (fun j => .int (ev_KA j)) A s s.heap ∧ va_T .int t2 12 (fun j => .int (ev_BO j)) A s s.heap := by
  have hs := flat_of_before _ hgv
  obtain ⟨t1, e1, hT1⟩ := va_Tof (tm := .static "PriceBench$Acts" "KIND_ABOVE" "[I") (ty := .int) (N := 4) (f := fun j => .int (ev_KA j)) (A := A) (by decide) (hs _ (by decide +kernel)) (va_eqt (hs _ (by decide +kernel))) (fun j hj => by
    match j, hj with
    | 0, _ => exact va_eqt (hs _ (by decide +kernel))
    | 1, _ => exact va_eqt (hs _ (by decide +kernel))
    | 2, _ => exact va_eqt (hs _ (by decide +kernel))
    | 3, _ => exact va_eqt (hs _ (by decide +kernel))
    | j + 4, h => exact absurd h (by omega)) hA
  obtain ⟨t2, e2, hT2⟩ := va_Tof (tm := .static "PriceBench$Acts" "BODIES" "[I") (ty := .int) (N := 12) (f := fun j => .int (ev_BO j)) (A := A) (by decide) (hs _ (by decide +kernel)) (va_eqt (hs _ (by decide +kernel))) (fun j hj => by
    match j, hj with
    | 0, _ => exact va_eqt (hs _ (by decide +kernel))
    | 1, _ => exact va_eqt (hs _ (by decide +kernel))
    | 2, _ => exact va_eqt (hs _ (by decide +kernel))
    | 3, _ => exact va_eqt (hs _ (by decide +kernel))
    | 4, _ => exact va_eqt (hs _ (by decide +kernel))
    | 5, _ => exact va_eqt (hs _ (by decide +kernel))
    | 6, _ => exact va_eqt (hs _ (by decide +kernel))
    | 7, _ => exact va_eqt (hs _ (by decide +kernel))
    | 8, _ => exact va_eqt (hs _ (by decide +kernel))
    | 9, _ => exact va_eqt (hs _ (by decide +kernel))
    | 10, _ => exact va_eqt (hs _ (by decide +kernel))
    | 11, _ => exact va_eqt (hs _ (by decide +kernel))
    | j + 12, h => exact absurd h (by omega)) hA
  exact ⟨t1, t2, va_Zref (hts (.laysStatic "PriceBench$Acts" "KIND_ABOVE" "[I") (by decide +kernel)) (hts (.initialized "PriceBench$Acts") (by decide +kernel)) e1 hA, va_Zref (hts (.laysStatic "PriceBench$Acts" "BODIES" "[I") (by decide +kernel)) (hts (.initialized "PriceBench$Acts") (by decide +kernel)) e2 hA, hT1, hT2⟩
set_option maxHeartbeats 4000000 in
theorem whole_start_open (hlaw : ev_law) {p : Program} {e : Env} {s : State} {m : MethodId} {below : List Frame} {meth : Method} {c : Code} (l : Launch) {b L : Nat} {xs : Nat → Int32} (hL : L ≤ 3072) (C0 : lw_At p s m meth c b L xs) : W p l e room_1 s m #[Value.ref b] below meth c s.heap [] 0 0 (lw_Z below #[Value.ref b] s) (entryFrame m ([Value.ref b] : List Value).toArray 4) := by
  obtain ⟨hx, hb, hr, hml, hown, hname, hts, hX, hbl, hlocks, hgv⟩ := id C0
  have hA : ∀ a : Nat, a < s.heap.size → ¬ (fun q : Nat => s.heap.size ≤ q) a := fun a h z => absurd z (Nat.not_le.mpr h)
  obtain ⟨D, hK⟩ := ev_startK hts hgv
  obtain ⟨t1, t2, hZ1, hZ2, hT1, hT2⟩ := ev_startT hA hts hgv
  have hne : t2 ≠ t1 := by
    intro h
    obtain ⟨c1, a1, -, -, -, z1, -⟩ := hT1
    obtain ⟨c2, a2, -, -, -, z2, -⟩ := hT2
    rw [h, a1] at a2
    cases a2
    rw [z1] at z2
    exact absurd z2 (by decide)
  have hTb : va_T .int b L (fun j => .int (xs j)) (fun q : Nat => s.heap.size ≤ q) s s.heap := by
    obtain ⟨scr, h1, h2, h3, h4, h5⟩ := hX
    exact ⟨scr, h1, h2, h3, by omega, by rw [h4] <;> rfl, h5, hA b hbl⟩
  let ro : Nat → Option (Nat × (Nat → Int32)) := fun t => if t = t1 then some (4, ev_KA) else if t = t2 then some (12, ev_BO) else if t = b then some (L, xs) else none
  let B : ev_B := (s.heap.size, fun k => if k = 0 then t1 else t2, ro)
  have hsta : ev_sta B := ⟨by simp [B, ro], by simp [B, ro, hne]⟩
  have hro : ∃ (L' : Nat) (f : Nat → Int32), B.2.2 b = some (L', f) ∧ L' ≤ 3072 := by
    by_cases h1 : b = t1
    · exact ⟨4, ev_KA, by simp [B, ro, h1], by omega⟩
    · by_cases h2 : b = t2
      · exact ⟨12, ev_BO, by simp [B, ro, h2, hne], by omega⟩
      · exact ⟨L, xs, by simp [B, ro, h1, h2], hL⟩
  obtain ⟨L', f, hf, hL'⟩ := hro
  obtain ⟨v, h', ⟨hw, hE⟩, rfl, hw'⟩ := hlaw B b L' f s.heap.size hsta hf hL'
  have hl := lv_entry ([.ref b]) (n := 4) (Nat.le_of_ble_eq_true rfl)
  rw [lg_entry_eq]
  generalize (lg_sl ([.ref b]) ++ List.replicate (4 - (lg_sl ([.ref b])).length) Slot.unset).toArray = ls at hl ⊢
  have key := hE D p l e room_1 s m #[Value.ref b] below meth c ⟨hx, hb, hml, hr, hlocks, hown, hname, fun w hw => hts w (List.mem_filter.mp hw).1, hK, by decide, by decide, Nat.le_refl _, hZ1, hZ2, fun t N f hf => ?_⟩ s.heap [] ls 0 0 ⟨rfl, fun a e h => by cases h⟩ va_S.rf (ev_en_L (As := [.ref b]) (n := 4) hl) (by show 0 + (h'.2.2 - 0) ≤ 600000; omega) (by show 0 + (h'.2.2 - 0) ≤ 7302250; omega)
  · intro T hT X
    obtain ⟨t, a1, o, b1, b2, ⟨rfl, -⟩, LL, hF, hLL⟩ := key T hT X
    refine ⟨t, a1, _, b1, b2, rfl, hF.1, hF.2.1, ev_same hLL ?_ ?_ hF.2.2⟩
    · show 0 + (h'.2.2 - 0) ≤ 600000; omega
    · show 0 + (h'.2.2 - 0) ≤ 7302250; omega
  · have hf' : ro t = some (N, f) := hf
    simp only [ro] at hf'
    by_cases h1 : t = t1
    · rw [if_pos h1] at hf'; cases hf'; rw [h1]; exact hT1
    · rw [if_neg h1] at hf'
      by_cases h2 : t = t2
      · rw [if_pos h2] at hf'; cases hf'; rw [h2]; exact hT2
      · rw [if_neg h2] at hf'
        by_cases h3 : t = b
        · rw [if_pos h3] at hf'; cases hf'; rw [h3]; exact hTb
        · rw [if_neg h3] at hf'; cases hf'
end
