section
-- ===== PART A: goes FIRST, ahead of the names: the tables' words, and 'selects' of the private methods out of them =====
/-- a private method of a class that the tables say can be made, by its rows of tables_1 -/
def lw_okq (q : MethodName × Nat) : Prop := (q.1.cls ≠ "java/lang/invoke/MethodHandle" ∧ q.1.cls ≠ "java/lang/invoke/VarHandle") ∧ Cond.instantiable q.1.cls q.2 ∈ tables_1 ∧ Cond.privateMethod q.1 ∈ tables_1 ∧ Cond.instanceMethod q.1 ∈ tables_1
theorem lw_p0 : lw_okq (⟨"OneDraught$Laws", "workOutLets", "()V"⟩, 5) := ⟨⟨by decide +kernel, by decide +kernel⟩, List.mem_of_getElem? (i := 76) (by decide +kernel), List.mem_of_getElem? (i := 85) (by decide +kernel), List.mem_of_getElem? (i := 86) (by decide +kernel)⟩
theorem lw_p1 : lw_okq (⟨"OneDraught$Hall", "draw", "()I"⟩, 12) := ⟨⟨by decide +kernel, by decide +kernel⟩, List.mem_of_getElem? (i := 30) (by decide +kernel), List.mem_of_getElem? (i := 436) (by decide +kernel), List.mem_of_getElem? (i := 437) (by decide +kernel)⟩
theorem lw_p2 : lw_okq (⟨"OneDraught$Hall", "snuffCandles", "()V"⟩, 12) := ⟨⟨by decide +kernel, by decide +kernel⟩, List.mem_of_getElem? (i := 30) (by decide +kernel), List.mem_of_getElem? (i := 484) (by decide +kernel), List.mem_of_getElem? (i := 485) (by decide +kernel)⟩
theorem lw_p3 : lw_okq (⟨"OneDraught$Thought", "isCalm", "(III)Z"⟩, 1) := ⟨⟨by decide +kernel, by decide +kernel⟩, List.mem_of_getElem? (i := 192) (by decide +kernel), List.mem_of_getElem? (i := 569) (by decide +kernel), List.mem_of_getElem? (i := 570) (by decide +kernel)⟩
theorem lw_p4 : lw_okq (⟨"OneDraught", "putBytes", "(I)V"⟩, 11) := ⟨⟨by decide +kernel, by decide +kernel⟩, List.mem_of_getElem? (i := 22) (by decide +kernel), List.mem_of_getElem? (i := 645) (by decide +kernel), List.mem_of_getElem? (i := 646) (by decide +kernel)⟩
theorem lw_p5 : lw_okq (⟨"OneDraught$LawReader", "step", "()V"⟩, 10) := ⟨⟨by decide +kernel, by decide +kernel⟩, List.mem_of_getElem? (i := 204) (by decide +kernel), List.mem_of_getElem? (i := 662) (by decide +kernel), List.mem_of_getElem? (i := 663) (by decide +kernel)⟩
theorem lw_p6 : lw_okq (⟨"OneDraught$LawReader", "sortAt", "(I)I"⟩, 10) := ⟨⟨by decide +kernel, by decide +kernel⟩, List.mem_of_getElem? (i := 204) (by decide +kernel), List.mem_of_getElem? (i := 666) (by decide +kernel), List.mem_of_getElem? (i := 667) (by decide +kernel)⟩
theorem lw_p7 : lw_okq (⟨"OneDraught$LawReader", "readKey", "()V"⟩, 10) := ⟨⟨by decide +kernel, by decide +kernel⟩, List.mem_of_getElem? (i := 204) (by decide +kernel), List.mem_of_getElem? (i := 670) (by decide +kernel), List.mem_of_getElem? (i := 671) (by decide +kernel)⟩
theorem lw_p8 : lw_okq (⟨"OneDraught$LawReader", "isWord", "(Ljava/lang/String;)Z"⟩, 10) := ⟨⟨by decide +kernel, by decide +kernel⟩, List.mem_of_getElem? (i := 204) (by decide +kernel), List.mem_of_getElem? (i := 675) (by decide +kernel), List.mem_of_getElem? (i := 676) (by decide +kernel)⟩
theorem lw_p9 : lw_okq (⟨"OneDraught$LawReader", "readLevel", "(III)V"⟩, 10) := ⟨⟨by decide +kernel, by decide +kernel⟩, List.mem_of_getElem? (i := 204) (by decide +kernel), List.mem_of_getElem? (i := 729) (by decide +kernel), List.mem_of_getElem? (i := 730) (by decide +kernel)⟩
theorem lw_p10 : lw_okq (⟨"OneDraught$LawReader", "readPiece", "(II)V"⟩, 10) := ⟨⟨by decide +kernel, by decide +kernel⟩, List.mem_of_getElem? (i := 204) (by decide +kernel), List.mem_of_getElem? (i := 733) (by decide +kernel), List.mem_of_getElem? (i := 734) (by decide +kernel)⟩
theorem lw_p11 : lw_okq (⟨"OneDraught$LawReader", "numberRead", "()I"⟩, 10) := ⟨⟨by decide +kernel, by decide +kernel⟩, List.mem_of_getElem? (i := 204) (by decide +kernel), List.mem_of_getElem? (i := 737) (by decide +kernel), List.mem_of_getElem? (i := 738) (by decide +kernel)⟩
theorem lw_p12 : lw_okq (⟨"OneDraught$LawReader", "putLeaf", "(I)V"⟩, 10) := ⟨⟨by decide +kernel, by decide +kernel⟩, List.mem_of_getElem? (i := 204) (by decide +kernel), List.mem_of_getElem? (i := 741) (by decide +kernel), List.mem_of_getElem? (i := 742) (by decide +kernel)⟩
theorem lw_p13 : lw_okq (⟨"OneDraught$LawReader", "put", "(I)V"⟩, 10) := ⟨⟨by decide +kernel, by decide +kernel⟩, List.mem_of_getElem? (i := 204) (by decide +kernel), List.mem_of_getElem? (i := 745) (by decide +kernel), List.mem_of_getElem? (i := 746) (by decide +kernel)⟩
theorem lw_p14 : lw_okq (⟨"OneDraught$LawReader", "firstName", "()Ljava/lang/String;"⟩, 10) := ⟨⟨by decide +kernel, by decide +kernel⟩, List.mem_of_getElem? (i := 204) (by decide +kernel), List.mem_of_getElem? (i := 749) (by decide +kernel), List.mem_of_getElem? (i := 750) (by decide +kernel)⟩
theorem lw_p15 : lw_okq (⟨"OneDraught$LawReader", "secondName", "()Ljava/lang/String;"⟩, 10) := ⟨⟨by decide +kernel, by decide +kernel⟩, List.mem_of_getElem? (i := 204) (by decide +kernel), List.mem_of_getElem? (i := 756) (by decide +kernel), List.mem_of_getElem? (i := 757) (by decide +kernel)⟩
def lw_privs_1 : List (MethodName × Nat) := [(⟨"OneDraught$Laws", "workOutLets", "()V"⟩, 5), (⟨"OneDraught$Hall", "draw", "()I"⟩, 12), (⟨"OneDraught$Hall", "snuffCandles", "()V"⟩, 12), (⟨"OneDraught$Thought", "isCalm", "(III)Z"⟩, 1), (⟨"OneDraught", "putBytes", "(I)V"⟩, 11), (⟨"OneDraught$LawReader", "step", "()V"⟩, 10), (⟨"OneDraught$LawReader", "sortAt", "(I)I"⟩, 10), (⟨"OneDraught$LawReader", "readKey", "()V"⟩, 10), (⟨"OneDraught$LawReader", "isWord", "(Ljava/lang/String;)Z"⟩, 10), (⟨"OneDraught$LawReader", "readLevel", "(III)V"⟩, 10), (⟨"OneDraught$LawReader", "readPiece", "(II)V"⟩, 10), (⟨"OneDraught$LawReader", "numberRead", "()I"⟩, 10), (⟨"OneDraught$LawReader", "putLeaf", "(I)V"⟩, 10), (⟨"OneDraught$LawReader", "put", "(I)V"⟩, 10), (⟨"OneDraught$LawReader", "firstName", "()Ljava/lang/String;"⟩, 10), (⟨"OneDraught$LawReader", "secondName", "()Ljava/lang/String;"⟩, 10)]
theorem lw_r1 : ∀ q ∈ lw_privs_1, lw_okq q := List.forall_mem_cons.mpr ⟨lw_p0, List.forall_mem_cons.mpr ⟨lw_p1, List.forall_mem_cons.mpr ⟨lw_p2, List.forall_mem_cons.mpr ⟨lw_p3, List.forall_mem_cons.mpr ⟨lw_p4, List.forall_mem_cons.mpr ⟨lw_p5, List.forall_mem_cons.mpr ⟨lw_p6, List.forall_mem_cons.mpr ⟨lw_p7, List.forall_mem_cons.mpr ⟨lw_p8, List.forall_mem_cons.mpr ⟨lw_p9, List.forall_mem_cons.mpr ⟨lw_p10, List.forall_mem_cons.mpr ⟨lw_p11, List.forall_mem_cons.mpr ⟨lw_p12, List.forall_mem_cons.mpr ⟨lw_p13, List.forall_mem_cons.mpr ⟨lw_p14, List.forall_mem_cons.mpr ⟨lw_p15, fun _ h => absurd h List.not_mem_nil⟩⟩⟩⟩⟩⟩⟩⟩⟩⟩⟩⟩⟩⟩⟩⟩
theorem lw_p16 : lw_okq (⟨"OneDraught$LawReader", "isSignOf", "(Ljava/lang/String;)Z"⟩, 10) := ⟨⟨by decide +kernel, by decide +kernel⟩, List.mem_of_getElem? (i := 204) (by decide +kernel), List.mem_of_getElem? (i := 764) (by decide +kernel), List.mem_of_getElem? (i := 765) (by decide +kernel)⟩
theorem lw_p17 : lw_okq (⟨"OneDraught$LawReader", "closeBracket", "()V"⟩, 10) := ⟨⟨by decide +kernel, by decide +kernel⟩, List.mem_of_getElem? (i := 204) (by decide +kernel), List.mem_of_getElem? (i := 824) (by decide +kernel), List.mem_of_getElem? (i := 825) (by decide +kernel)⟩
theorem lw_p18 : lw_okq (⟨"OneDraught", "canLay", "(II)Z"⟩, 11) := ⟨⟨by decide +kernel, by decide +kernel⟩, List.mem_of_getElem? (i := 22) (by decide +kernel), List.mem_of_getElem? (i := 929) (by decide +kernel), List.mem_of_getElem? (i := 930) (by decide +kernel)⟩
theorem lw_p19 : lw_okq (⟨"OneDraughtModel", "comes", "(IIIII)I"⟩, 37) := ⟨⟨by decide +kernel, by decide +kernel⟩, List.mem_of_getElem? (i := 979) (by decide +kernel), List.mem_of_getElem? (i := 1111) (by decide +kernel), List.mem_of_getElem? (i := 1112) (by decide +kernel)⟩
theorem lw_p20 : lw_okq (⟨"OneDraughtModel", "isDoor", "(I)Z"⟩, 37) := ⟨⟨by decide +kernel, by decide +kernel⟩, List.mem_of_getElem? (i := 979) (by decide +kernel), List.mem_of_getElem? (i := 1119) (by decide +kernel), List.mem_of_getElem? (i := 1120) (by decide +kernel)⟩
theorem lw_p21 : lw_okq (⟨"OneDraughtModel", "of", "(II)I"⟩, 37) := ⟨⟨by decide +kernel, by decide +kernel⟩, List.mem_of_getElem? (i := 979) (by decide +kernel), List.mem_of_getElem? (i := 1123) (by decide +kernel), List.mem_of_getElem? (i := 1124) (by decide +kernel)⟩
theorem lw_p22 : lw_okq (⟨"OneDraughtModel", "letsOf", "(I)I"⟩, 37) := ⟨⟨by decide +kernel, by decide +kernel⟩, List.mem_of_getElem? (i := 979) (by decide +kernel), List.mem_of_getElem? (i := 1127) (by decide +kernel), List.mem_of_getElem? (i := 1128) (by decide +kernel)⟩
theorem lw_p23 : lw_okq (⟨"OneDraughtModel", "counts", "(I)I"⟩, 37) := ⟨⟨by decide +kernel, by decide +kernel⟩, List.mem_of_getElem? (i := 979) (by decide +kernel), List.mem_of_getElem? (i := 1131) (by decide +kernel), List.mem_of_getElem? (i := 1132) (by decide +kernel)⟩
theorem lw_p24 : lw_okq (⟨"OneDraughtModel", "worksOut", "(I)I"⟩, 37) := ⟨⟨by decide +kernel, by decide +kernel⟩, List.mem_of_getElem? (i := 979) (by decide +kernel), List.mem_of_getElem? (i := 1135) (by decide +kernel), List.mem_of_getElem? (i := 1136) (by decide +kernel)⟩
theorem lw_p25 : lw_okq (⟨"OneDraughtModel", "flowOf", "(I)I"⟩, 37) := ⟨⟨by decide +kernel, by decide +kernel⟩, List.mem_of_getElem? (i := 979) (by decide +kernel), List.mem_of_getElem? (i := 1145) (by decide +kernel), List.mem_of_getElem? (i := 1146) (by decide +kernel)⟩
theorem lw_p26 : lw_okq (⟨"OneDraughtModel", "airOf", "(I)I"⟩, 37) := ⟨⟨by decide +kernel, by decide +kernel⟩, List.mem_of_getElem? (i := 979) (by decide +kernel), List.mem_of_getElem? (i := 1149) (by decide +kernel), List.mem_of_getElem? (i := 1150) (by decide +kernel)⟩
theorem lw_p27 : lw_okq (⟨"OneDraughtModel", "at0", "(II)I"⟩, 37) := ⟨⟨by decide +kernel, by decide +kernel⟩, List.mem_of_getElem? (i := 979) (by decide +kernel), List.mem_of_getElem? (i := 1153) (by decide +kernel), List.mem_of_getElem? (i := 1154) (by decide +kernel)⟩
theorem lw_p28 : lw_okq (⟨"OneDraughtModel", "worthOf", "(I)I"⟩, 37) := ⟨⟨by decide +kernel, by decide +kernel⟩, List.mem_of_getElem? (i := 979) (by decide +kernel), List.mem_of_getElem? (i := 1158) (by decide +kernel), List.mem_of_getElem? (i := 1159) (by decide +kernel)⟩
theorem lw_p29 : lw_okq (⟨"OneDraughtModel", "becomes", "(II)I"⟩, 37) := ⟨⟨by decide +kernel, by decide +kernel⟩, List.mem_of_getElem? (i := 979) (by decide +kernel), List.mem_of_getElem? (i := 1174) (by decide +kernel), List.mem_of_getElem? (i := 1175) (by decide +kernel)⟩
theorem lw_p30 : lw_okq (⟨"OneDraughtModel", "findFlows", "()V"⟩, 37) := ⟨⟨by decide +kernel, by decide +kernel⟩, List.mem_of_getElem? (i := 979) (by decide +kernel), List.mem_of_getElem? (i := 1186) (by decide +kernel), List.mem_of_getElem? (i := 1187) (by decide +kernel)⟩
theorem lw_p31 : lw_okq (⟨"OneDraughtModel", "draw", "()I"⟩, 37) := ⟨⟨by decide +kernel, by decide +kernel⟩, List.mem_of_getElem? (i := 979) (by decide +kernel), List.mem_of_getElem? (i := 1202) (by decide +kernel), List.mem_of_getElem? (i := 1203) (by decide +kernel)⟩
def lw_privs_2 : List (MethodName × Nat) := [(⟨"OneDraught$LawReader", "isSignOf", "(Ljava/lang/String;)Z"⟩, 10), (⟨"OneDraught$LawReader", "closeBracket", "()V"⟩, 10), (⟨"OneDraught", "canLay", "(II)Z"⟩, 11), (⟨"OneDraughtModel", "comes", "(IIIII)I"⟩, 37), (⟨"OneDraughtModel", "isDoor", "(I)Z"⟩, 37), (⟨"OneDraughtModel", "of", "(II)I"⟩, 37), (⟨"OneDraughtModel", "letsOf", "(I)I"⟩, 37), (⟨"OneDraughtModel", "counts", "(I)I"⟩, 37), (⟨"OneDraughtModel", "worksOut", "(I)I"⟩, 37), (⟨"OneDraughtModel", "flowOf", "(I)I"⟩, 37), (⟨"OneDraughtModel", "airOf", "(I)I"⟩, 37), (⟨"OneDraughtModel", "at0", "(II)I"⟩, 37), (⟨"OneDraughtModel", "worthOf", "(I)I"⟩, 37), (⟨"OneDraughtModel", "becomes", "(II)I"⟩, 37), (⟨"OneDraughtModel", "findFlows", "()V"⟩, 37), (⟨"OneDraughtModel", "draw", "()I"⟩, 37)]
theorem lw_r2 : ∀ q ∈ lw_privs_2, lw_okq q := List.forall_mem_cons.mpr ⟨lw_p16, List.forall_mem_cons.mpr ⟨lw_p17, List.forall_mem_cons.mpr ⟨lw_p18, List.forall_mem_cons.mpr ⟨lw_p19, List.forall_mem_cons.mpr ⟨lw_p20, List.forall_mem_cons.mpr ⟨lw_p21, List.forall_mem_cons.mpr ⟨lw_p22, List.forall_mem_cons.mpr ⟨lw_p23, List.forall_mem_cons.mpr ⟨lw_p24, List.forall_mem_cons.mpr ⟨lw_p25, List.forall_mem_cons.mpr ⟨lw_p26, List.forall_mem_cons.mpr ⟨lw_p27, List.forall_mem_cons.mpr ⟨lw_p28, List.forall_mem_cons.mpr ⟨lw_p29, List.forall_mem_cons.mpr ⟨lw_p30, List.forall_mem_cons.mpr ⟨lw_p31, fun _ h => absurd h List.not_mem_nil⟩⟩⟩⟩⟩⟩⟩⟩⟩⟩⟩⟩⟩⟩⟩⟩
theorem lw_p32 : lw_okq (⟨"OneDraughtModel", "goesOn", "(I)I"⟩, 37) := ⟨⟨by decide +kernel, by decide +kernel⟩, List.mem_of_getElem? (i := 979) (by decide +kernel), List.mem_of_getElem? (i := 1215) (by decide +kernel), List.mem_of_getElem? (i := 1216) (by decide +kernel)⟩
theorem lw_p33 : lw_okq (⟨"OneDraughtModel", "minute", "()I"⟩, 37) := ⟨⟨by decide +kernel, by decide +kernel⟩, List.mem_of_getElem? (i := 979) (by decide +kernel), List.mem_of_getElem? (i := 1219) (by decide +kernel), List.mem_of_getElem? (i := 1220) (by decide +kernel)⟩
theorem lw_p34 : lw_okq (⟨"OneDraughtModel", "carries", "()V"⟩, 37) := ⟨⟨by decide +kernel, by decide +kernel⟩, List.mem_of_getElem? (i := 979) (by decide +kernel), List.mem_of_getElem? (i := 1223) (by decide +kernel), List.mem_of_getElem? (i := 1224) (by decide +kernel)⟩
theorem lw_p35 : lw_okq (⟨"OneDraughtModel", "blows", "()V"⟩, 37) := ⟨⟨by decide +kernel, by decide +kernel⟩, List.mem_of_getElem? (i := 979) (by decide +kernel), List.mem_of_getElem? (i := 1227) (by decide +kernel), List.mem_of_getElem? (i := 1228) (by decide +kernel)⟩
theorem lw_p36 : lw_okq (⟨"OneDraughtModel", "gustOf", "(I)I"⟩, 37) := ⟨⟨by decide +kernel, by decide +kernel⟩, List.mem_of_getElem? (i := 979) (by decide +kernel), List.mem_of_getElem? (i := 1231) (by decide +kernel), List.mem_of_getElem? (i := 1232) (by decide +kernel)⟩
theorem lw_p37 : lw_okq (⟨"OneDraughtModel", "sumOf", "(I)I"⟩, 37) := ⟨⟨by decide +kernel, by decide +kernel⟩, List.mem_of_getElem? (i := 979) (by decide +kernel), List.mem_of_getElem? (i := 1243) (by decide +kernel), List.mem_of_getElem? (i := 1244) (by decide +kernel)⟩
theorem lw_p38 : lw_okq (⟨"OneDraughtModel", "litSet", "()I"⟩, 37) := ⟨⟨by decide +kernel, by decide +kernel⟩, List.mem_of_getElem? (i := 979) (by decide +kernel), List.mem_of_getElem? (i := 1247) (by decide +kernel), List.mem_of_getElem? (i := 1248) (by decide +kernel)⟩
theorem lw_p39 : lw_okq (⟨"OneDraughtModel", "openSet", "()I"⟩, 37) := ⟨⟨by decide +kernel, by decide +kernel⟩, List.mem_of_getElem? (i := 979) (by decide +kernel), List.mem_of_getElem? (i := 1251) (by decide +kernel), List.mem_of_getElem? (i := 1252) (by decide +kernel)⟩
theorem lw_p40 : lw_okq (⟨"OneDraughtModel", "thinks", "()V"⟩, 37) := ⟨⟨by decide +kernel, by decide +kernel⟩, List.mem_of_getElem? (i := 979) (by decide +kernel), List.mem_of_getElem? (i := 1259) (by decide +kernel), List.mem_of_getElem? (i := 1260) (by decide +kernel)⟩
theorem lw_p41 : lw_okq (⟨"OneDraughtModel", "putsBack", "()V"⟩, 37) := ⟨⟨by decide +kernel, by decide +kernel⟩, List.mem_of_getElem? (i := 979) (by decide +kernel), List.mem_of_getElem? (i := 1263) (by decide +kernel), List.mem_of_getElem? (i := 1264) (by decide +kernel)⟩
theorem lw_p42 : lw_okq (⟨"OneDraughtModel", "isStill", "()Z"⟩, 37) := ⟨⟨by decide +kernel, by decide +kernel⟩, List.mem_of_getElem? (i := 979) (by decide +kernel), List.mem_of_getElem? (i := 1271) (by decide +kernel), List.mem_of_getElem? (i := 1272) (by decide +kernel)⟩
theorem lw_p43 : lw_okq (⟨"OneDraughtModel", "isCalm", "(IIII)Z"⟩, 37) := ⟨⟨by decide +kernel, by decide +kernel⟩, List.mem_of_getElem? (i := 979) (by decide +kernel), List.mem_of_getElem? (i := 1283) (by decide +kernel), List.mem_of_getElem? (i := 1284) (by decide +kernel)⟩
theorem lw_p44 : lw_okq (⟨"OneDraughtModel", "litBehind", "(III)I"⟩, 37) := ⟨⟨by decide +kernel, by decide +kernel⟩, List.mem_of_getElem? (i := 979) (by decide +kernel), List.mem_of_getElem? (i := 1295) (by decide +kernel), List.mem_of_getElem? (i := 1296) (by decide +kernel)⟩
theorem lw_p45 : lw_okq (⟨"OneDraughtModel", "offBy", "(III)J"⟩, 37) := ⟨⟨by decide +kernel, by decide +kernel⟩, List.mem_of_getElem? (i := 979) (by decide +kernel), List.mem_of_getElem? (i := 1311) (by decide +kernel), List.mem_of_getElem? (i := 1312) (by decide +kernel)⟩
theorem lw_p46 : lw_okq (⟨"OneDraughtModel", "go", "()V"⟩, 37) := ⟨⟨by decide +kernel, by decide +kernel⟩, List.mem_of_getElem? (i := 979) (by decide +kernel), List.mem_of_getElem? (i := 1331) (by decide +kernel), List.mem_of_getElem? (i := 1332) (by decide +kernel)⟩
theorem lw_p47 : lw_okq (⟨"OneDraughtModel", "isLetter", "(I)Z"⟩, 37) := ⟨⟨by decide +kernel, by decide +kernel⟩, List.mem_of_getElem? (i := 979) (by decide +kernel), List.mem_of_getElem? (i := 1335) (by decide +kernel), List.mem_of_getElem? (i := 1336) (by decide +kernel)⟩
def lw_privs_3 : List (MethodName × Nat) := [(⟨"OneDraughtModel", "goesOn", "(I)I"⟩, 37), (⟨"OneDraughtModel", "minute", "()I"⟩, 37), (⟨"OneDraughtModel", "carries", "()V"⟩, 37), (⟨"OneDraughtModel", "blows", "()V"⟩, 37), (⟨"OneDraughtModel", "gustOf", "(I)I"⟩, 37), (⟨"OneDraughtModel", "sumOf", "(I)I"⟩, 37), (⟨"OneDraughtModel", "litSet", "()I"⟩, 37), (⟨"OneDraughtModel", "openSet", "()I"⟩, 37), (⟨"OneDraughtModel", "thinks", "()V"⟩, 37), (⟨"OneDraughtModel", "putsBack", "()V"⟩, 37), (⟨"OneDraughtModel", "isStill", "()Z"⟩, 37), (⟨"OneDraughtModel", "isCalm", "(IIII)Z"⟩, 37), (⟨"OneDraughtModel", "litBehind", "(III)I"⟩, 37), (⟨"OneDraughtModel", "offBy", "(III)J"⟩, 37), (⟨"OneDraughtModel", "go", "()V"⟩, 37), (⟨"OneDraughtModel", "isLetter", "(I)Z"⟩, 37)]
theorem lw_r3 : ∀ q ∈ lw_privs_3, lw_okq q := List.forall_mem_cons.mpr ⟨lw_p32, List.forall_mem_cons.mpr ⟨lw_p33, List.forall_mem_cons.mpr ⟨lw_p34, List.forall_mem_cons.mpr ⟨lw_p35, List.forall_mem_cons.mpr ⟨lw_p36, List.forall_mem_cons.mpr ⟨lw_p37, List.forall_mem_cons.mpr ⟨lw_p38, List.forall_mem_cons.mpr ⟨lw_p39, List.forall_mem_cons.mpr ⟨lw_p40, List.forall_mem_cons.mpr ⟨lw_p41, List.forall_mem_cons.mpr ⟨lw_p42, List.forall_mem_cons.mpr ⟨lw_p43, List.forall_mem_cons.mpr ⟨lw_p44, List.forall_mem_cons.mpr ⟨lw_p45, List.forall_mem_cons.mpr ⟨lw_p46, List.forall_mem_cons.mpr ⟨lw_p47, fun _ h => absurd h List.not_mem_nil⟩⟩⟩⟩⟩⟩⟩⟩⟩⟩⟩⟩⟩⟩⟩⟩
theorem lw_p48 : lw_okq (⟨"OneDraughtModel", "isFigure", "(I)Z"⟩, 37) := ⟨⟨by decide +kernel, by decide +kernel⟩, List.mem_of_getElem? (i := 979) (by decide +kernel), List.mem_of_getElem? (i := 1339) (by decide +kernel), List.mem_of_getElem? (i := 1340) (by decide +kernel)⟩
theorem lw_p49 : lw_okq (⟨"OneDraughtModel", "takesKey", "()Z"⟩, 37) := ⟨⟨by decide +kernel, by decide +kernel⟩, List.mem_of_getElem? (i := 979) (by decide +kernel), List.mem_of_getElem? (i := 1343) (by decide +kernel), List.mem_of_getElem? (i := 1344) (by decide +kernel)⟩
theorem lw_p50 : lw_okq (⟨"OneDraughtModel", "takesE", "()Z"⟩, 37) := ⟨⟨by decide +kernel, by decide +kernel⟩, List.mem_of_getElem? (i := 979) (by decide +kernel), List.mem_of_getElem? (i := 1347) (by decide +kernel), List.mem_of_getElem? (i := 1348) (by decide +kernel)⟩
theorem lw_p51 : lw_okq (⟨"OneDraughtModel", "takesPart", "()Z"⟩, 37) := ⟨⟨by decide +kernel, by decide +kernel⟩, List.mem_of_getElem? (i := 979) (by decide +kernel), List.mem_of_getElem? (i := 1351) (by decide +kernel), List.mem_of_getElem? (i := 1352) (by decide +kernel)⟩
theorem lw_p52 : lw_okq (⟨"OneDraughtModel", "nameOf", "(I)I"⟩, 37) := ⟨⟨by decide +kernel, by decide +kernel⟩, List.mem_of_getElem? (i := 979) (by decide +kernel), List.mem_of_getElem? (i := 1355) (by decide +kernel), List.mem_of_getElem? (i := 1356) (by decide +kernel)⟩
theorem lw_p53 : lw_okq (⟨"OneDraughtModel", "settle", "(I)V"⟩, 37) := ⟨⟨by decide +kernel, by decide +kernel⟩, List.mem_of_getElem? (i := 979) (by decide +kernel), List.mem_of_getElem? (i := 1359) (by decide +kernel), List.mem_of_getElem? (i := 1360) (by decide +kernel)⟩
theorem lw_p54 : lw_okq (⟨"OneDraughtModel", "notsOpen", "()I"⟩, 37) := ⟨⟨by decide +kernel, by decide +kernel⟩, List.mem_of_getElem? (i := 979) (by decide +kernel), List.mem_of_getElem? (i := 1366) (by decide +kernel), List.mem_of_getElem? (i := 1367) (by decide +kernel)⟩
theorem lw_p55 : lw_okq (⟨"OneDraughtModel", "signHere", "()I"⟩, 37) := ⟨⟨by decide +kernel, by decide +kernel⟩, List.mem_of_getElem? (i := 979) (by decide +kernel), List.mem_of_getElem? (i := 1370) (by decide +kernel), List.mem_of_getElem? (i := 1371) (by decide +kernel)⟩
def lw_privs_4 : List (MethodName × Nat) := [(⟨"OneDraughtModel", "isFigure", "(I)Z"⟩, 37), (⟨"OneDraughtModel", "takesKey", "()Z"⟩, 37), (⟨"OneDraughtModel", "takesE", "()Z"⟩, 37), (⟨"OneDraughtModel", "takesPart", "()Z"⟩, 37), (⟨"OneDraughtModel", "nameOf", "(I)I"⟩, 37), (⟨"OneDraughtModel", "settle", "(I)V"⟩, 37), (⟨"OneDraughtModel", "notsOpen", "()I"⟩, 37), (⟨"OneDraughtModel", "signHere", "()I"⟩, 37)]
theorem lw_r4 : ∀ q ∈ lw_privs_4, lw_okq q := List.forall_mem_cons.mpr ⟨lw_p48, List.forall_mem_cons.mpr ⟨lw_p49, List.forall_mem_cons.mpr ⟨lw_p50, List.forall_mem_cons.mpr ⟨lw_p51, List.forall_mem_cons.mpr ⟨lw_p52, List.forall_mem_cons.mpr ⟨lw_p53, List.forall_mem_cons.mpr ⟨lw_p54, List.forall_mem_cons.mpr ⟨lw_p55, fun _ h => absurd h List.not_mem_nil⟩⟩⟩⟩⟩⟩⟩⟩
def lw_privs : List (MethodName × Nat) := lw_privs_1 ++ (lw_privs_2 ++ (lw_privs_3 ++ (lw_privs_4)))
def lw_tbl : List Cond := k2_sels lw_privs ++ tables_1
theorem lw_privs_ok : ∀ q ∈ lw_privs, lw_okq q := by
  show ∀ q ∈ lw_privs_1 ++ (lw_privs_2 ++ (lw_privs_3 ++ (lw_privs_4))), lw_okq q
  exact List.forall_mem_append.mpr ⟨lw_r1, List.forall_mem_append.mpr ⟨lw_r2, List.forall_mem_append.mpr ⟨lw_r3, lw_r4⟩⟩⟩
end
section
def RX0 : String := "OneDraught$Doors"
def TX0 : u_T := fun k => match k with
  | 0 => ("OneDraught$Doors", "many", "I", false)
  | 1 => ("OneDraught$Doors", "openSet", "I", false)
  | 2 => ("OneDraught$Doors", "kind", "[I", true)
  | 3 => ("OneDraught$Doors", "first", "[I", true)
  | 4 => ("OneDraught$Doors", "second", "[I", true)
  | _ => ("OneDraught$Doors", "wide", "[I", true)
def tyX0 : Nat → FieldType := fun k => match k with
  | 0 => .int
  | 1 => .int
  | 2 => .array .int
  | 3 => .array .int
  | 4 => .array .int
  | _ => .array .int
abbrev wsX00 : List Cond := u_ws RX0 TX0 6
theorem nmX0 : ∀ a, a < 6 → ∀ b, b < 6 → a ≠ b → (TX0 a).2.1 ≠ (TX0 b).2.1 := by decide +kernel
theorem tyX0_ok : ∀ k, k < 6 → parseFieldDescriptor (TX0 k).2.2.1 = some (tyX0 k) := by decide +kernel
abbrev cX0_init : ByteArray := prog_2_method_1_code
def yX0_init : MethodName := ⟨RX0, "<init>", "()V"⟩
abbrev cX0_takeFrom : ByteArray := prog_2_method_2_code
def yX0_takeFrom : MethodName := ⟨RX0, "takeFrom", "(LOneDraught$Doors;)V"⟩
abbrev cX0_add : ByteArray := prog_2_method_3_code
def yX0_add : MethodName := ⟨RX0, "add", "(IIII)I"⟩
abbrev cX0_has : ByteArray := prog_2_method_4_code
def yX0_has : MethodName := ⟨RX0, "has", "(I)Z"⟩
abbrev cX0_isOpen : ByteArray := prog_2_method_5_code
def yX0_isOpen : MethodName := ⟨RX0, "isOpen", "(I)Z"⟩
abbrev cX0_swing : ByteArray := prog_2_method_6_code
def yX0_swing : MethodName := ⟨RX0, "swing", "(IZ)V"⟩
abbrev cX0_openMany : ByteArray := prog_2_method_7_code
def yX0_openMany : MethodName := ⟨RX0, "openMany", "()I"⟩
def RX1 : String := "OneDraught$Hall"
def TX1 : u_T := fun k => match k with
  | 0 => ("OneDraught$Hall", "doors", "LOneDraught$Doors;", true)
  | 1 => ("OneDraught$Hall", "laws", "LOneDraught$Laws;", true)
  | 2 => ("OneDraught$Hall", "air", "[I", true)
  | 3 => ("OneDraught$Hall", "fire", "[I", true)
  | 4 => ("OneDraught$Hall", "scent", "[I", true)
  | 5 => ("OneDraught$Hall", "litSet", "I", false)
  | 6 => ("OneDraught$Hall", "gone", "I", false)
  | 7 => ("OneDraught$Hall", "minute", "I", false)
  | 8 => ("OneDraught$Hall", "z", "I", false)
  | 9 => ("OneDraught$Hall", "flow", "[I", true)
  | 10 => ("OneDraught$Hall", "draught", "[I", true)
  | _ => ("OneDraught$Hall", "scentAhead", "[I", true)
def tyX1 : Nat → FieldType := fun k => match k with
  | 0 => .object "OneDraught$Doors"
  | 1 => .object "OneDraught$Laws"
  | 2 => .array .int
  | 3 => .array .int
  | 4 => .array .int
  | 5 => .int
  | 6 => .int
  | 7 => .int
  | 8 => .int
  | 9 => .array .int
  | 10 => .array .int
  | _ => .array .int
abbrev wsX10 : List Cond := u_ws RX1 TX1 12
theorem nmX1 : ∀ a, a < 12 → ∀ b, b < 12 → a ≠ b → (TX1 a).2.1 ≠ (TX1 b).2.1 := by decide +kernel
theorem tyX1_ok : ∀ k, k < 12 → parseFieldDescriptor (TX1 k).2.2.1 = some (tyX1 k) := by decide +kernel
abbrev cX1_init : ByteArray := prog_3_method_1_code
def yX1_init : MethodName := ⟨RX1, "<init>", "()V"⟩
abbrev cX1_takeFrom : ByteArray := prog_3_method_2_code
def yX1_takeFrom : MethodName := ⟨RX1, "takeFrom", "(LOneDraught$Hall;)V"⟩
abbrev cX1_takeAirFrom : ByteArray := prog_3_method_3_code
def yX1_takeAirFrom : MethodName := ⟨RX1, "takeAirFrom", "(LOneDraught$Hall;)V"⟩
abbrev cX1_isLit : ByteArray := prog_3_method_4_code
def yX1_isLit : MethodName := ⟨RX1, "isLit", "(I)Z"⟩
abbrev cX1_light : ByteArray := prog_3_method_5_code
def yX1_light : MethodName := ⟨RX1, "light", "(IZ)V"⟩
abbrev cX1_litMany : ByteArray := prog_3_method_6_code
def yX1_litMany : MethodName := ⟨RX1, "litMany", "()I"⟩
abbrev cX1_airOfAll : ByteArray := prog_3_method_7_code
def yX1_airOfAll : MethodName := ⟨RX1, "airOfAll", "()I"⟩
abbrev cX1_scentOfAll : ByteArray := prog_3_method_8_code
def yX1_scentOfAll : MethodName := ⟨RX1, "scentOfAll", "()I"⟩
abbrev cX1_minutesLeft : ByteArray := prog_3_method_9_code
def yX1_minutesLeft : MethodName := ⟨RX1, "minutesLeft", "()I"⟩
abbrev cX1_letsOf : ByteArray := prog_3_method_10_code
def yX1_letsOf : MethodName := ⟨RX1, "letsOf", "(I)I"⟩
abbrev cX1_flowOf : ByteArray := prog_3_method_11_code
def yX1_flowOf : MethodName := ⟨RX1, "flowOf", "(I)I"⟩
abbrev cX1_draughtOf : ByteArray := prog_3_method_12_code
def yX1_draughtOf : MethodName := ⟨RX1, "draughtOf", "(I)I"⟩
abbrev cX1_measureFlows : ByteArray := prog_3_method_13_code
def yX1_measureFlows : MethodName := ⟨RX1, "measureFlows", "()V"⟩
abbrev cX1_flowsAreNought : ByteArray := prog_3_method_14_code
def yX1_flowsAreNought : MethodName := ⟨RX1, "flowsAreNought", "()Z"⟩
abbrev cX1_carryScent : ByteArray := prog_3_method_15_code
def yX1_carryScent : MethodName := ⟨RX1, "carryScent", "()V"⟩
abbrev cX1_moveAir : ByteArray := prog_3_method_16_code
def yX1_moveAir : MethodName := ⟨RX1, "moveAir", "()V"⟩
abbrev cX1_snuffCandles : ByteArray := prog_3_method_17_code
def yX1_snuffCandles : MethodName := ⟨RX1, "snuffCandles", "()V"⟩
abbrev cX1_passMinute : ByteArray := prog_3_method_18_code
def yX1_passMinute : MethodName := ⟨RX1, "passMinute", "()V"⟩
abbrev cX1_draw : ByteArray := prog_3_method_19_code
def yX1_draw : MethodName := ⟨RX1, "draw", "()I"⟩
abbrev cX1_drawDoor : ByteArray := prog_3_method_20_code
def yX1_drawDoor : MethodName := ⟨RX1, "drawDoor", "()V"⟩
abbrev cX1_goRound : ByteArray := prog_3_method_21_code
def yX1_goRound : MethodName := ⟨RX1, "goRound", "(I)V"⟩
def RX2 : String := "OneDraught$Kinds"
def TX2 : u_T := fun k => match k with
  | _ => ("", "", "", false)
def tyX2 : Nat → FieldType := fun k => match k with
  | _ => .int
abbrev wsX20 : List Cond := u_ws RX2 TX2 0
theorem nmX2 : ∀ a, a < 0 → ∀ b, b < 0 → a ≠ b → (TX2 a).2.1 ≠ (TX2 b).2.1 := by decide +kernel
theorem tyX2_ok : ∀ k, k < 0 → parseFieldDescriptor (TX2 k).2.2.1 = some (tyX2 k) := by decide +kernel
abbrev cX2_isKind : ByteArray := prog_4_method_2_code
def yX2_isKind : MethodName := ⟨RX2, "isKind", "(I)Z"⟩
abbrev cX2_isOf : ByteArray := prog_4_method_3_code
def yX2_isOf : MethodName := ⟨RX2, "isOf", "(II)Z"⟩
abbrev cX2_letsOf : ByteArray := prog_4_method_4_code
def yX2_letsOf : MethodName := ⟨RX2, "letsOf", "(IIIZ)I"⟩
abbrev cX2_worthOf : ByteArray := prog_4_method_5_code
def yX2_worthOf : MethodName := ⟨RX2, "worthOf", "(II)I"⟩
def RX3 : String := "OneDraught$Law"
def TX3 : u_T := fun k => match k with
  | 0 => ("OneDraught$Law", "key", "I", true)
  | 1 => ("OneDraught$Law", "leaves", "I", true)
  | _ => ("OneDraught$Law", "code", "[I", true)
def tyX3 : Nat → FieldType := fun k => match k with
  | 0 => .int
  | 1 => .int
  | _ => .array .int
abbrev wsX30 : List Cond := u_ws RX3 TX3 3
theorem nmX3 : ∀ a, a < 3 → ∀ b, b < 3 → a ≠ b → (TX3 a).2.1 ≠ (TX3 b).2.1 := by decide +kernel
theorem tyX3_ok : ∀ k, k < 3 → parseFieldDescriptor (TX3 k).2.2.1 = some (tyX3 k) := by decide +kernel
abbrev cX3_init : ByteArray := prog_5_method_1_code
def yX3_init : MethodName := ⟨RX3, "<init>", "(II[I)V"⟩
abbrev cX3_valueWith : ByteArray := prog_5_method_2_code
def yX3_valueWith : MethodName := ⟨RX3, "valueWith", "(II[I)I"⟩
abbrev cX3_joined : ByteArray := prog_5_method_3_code
def yX3_joined : MethodName := ⟨RX3, "joined", "(III)I"⟩
def RX4 : String := "OneDraught$LawReader"
def TX4 : u_T := fun k => match k with
  | 0 => ("OneDraught$LawReader", "bytes", "[B", true)
  | 1 => ("OneDraught$LawReader", "length", "I", false)
  | 2 => ("OneDraught$LawReader", "start", "I", false)
  | 3 => ("OneDraught$LawReader", "end", "I", false)
  | 4 => ("OneDraught$LawReader", "sort", "I", false)
  | 5 => ("OneDraught$LawReader", "key", "I", false)
  | 6 => ("OneDraught$LawReader", "leaves", "I", false)
  | 7 => ("OneDraught$LawReader", "code", "[I", true)
  | 8 => ("OneDraught$LawReader", "codeLength", "I", false)
  | _ => ("OneDraught$LawReader", "fault", "I", false)
def tyX4 : Nat → FieldType := fun k => match k with
  | 0 => .array .byte
  | 1 => .int
  | 2 => .int
  | 3 => .int
  | 4 => .int
  | 5 => .int
  | 6 => .int
  | 7 => .array .int
  | 8 => .int
  | _ => .int
abbrev wsX40 : List Cond := u_ws RX4 TX4 10
theorem nmX4 : ∀ a, a < 10 → ∀ b, b < 10 → a ≠ b → (TX4 a).2.1 ≠ (TX4 b).2.1 := by decide +kernel
theorem tyX4_ok : ∀ k, k < 10 → parseFieldDescriptor (TX4 k).2.2.1 = some (tyX4 k) := by decide +kernel
abbrev cX4_init : ByteArray := prog_6_method_1_code
def yX4_init : MethodName := ⟨RX4, "<init>", "([B)V"⟩
abbrev cX4_faultOf : ByteArray := prog_6_method_2_code
def yX4_faultOf : MethodName := ⟨RX4, "faultOf", "(I)I"⟩
abbrev cX4_lawRead : ByteArray := prog_6_method_3_code
def yX4_lawRead : MethodName := ⟨RX4, "lawRead", "()LOneDraught$Law;"⟩
abbrev cX4_readKey : ByteArray := prog_6_method_4_code
def yX4_readKey : MethodName := ⟨RX4, "readKey", "()V"⟩
abbrev cX4_signsOf : ByteArray := prog_6_method_5_code
def yX4_signsOf : MethodName := ⟨RX4, "signsOf", "(I)Ljava/lang/String;"⟩
abbrev cX4_readLevel : ByteArray := prog_6_method_6_code
def yX4_readLevel : MethodName := ⟨RX4, "readLevel", "(III)V"⟩
abbrev cX4_readPiece : ByteArray := prog_6_method_7_code
def yX4_readPiece : MethodName := ⟨RX4, "readPiece", "(II)V"⟩
abbrev cX4_closeBracket : ByteArray := prog_6_method_8_code
def yX4_closeBracket : MethodName := ⟨RX4, "closeBracket", "()V"⟩
abbrev cX4_firstName : ByteArray := prog_6_method_9_code
def yX4_firstName : MethodName := ⟨RX4, "firstName", "()Ljava/lang/String;"⟩
abbrev cX4_secondName : ByteArray := prog_6_method_10_code
def yX4_secondName : MethodName := ⟨RX4, "secondName", "()Ljava/lang/String;"⟩
abbrev cX4_numberRead : ByteArray := prog_6_method_11_code
def yX4_numberRead : MethodName := ⟨RX4, "numberRead", "()I"⟩
abbrev cX4_putLeaf : ByteArray := prog_6_method_12_code
def yX4_putLeaf : MethodName := ⟨RX4, "putLeaf", "(I)V"⟩
abbrev cX4_put : ByteArray := prog_6_method_13_code
def yX4_put : MethodName := ⟨RX4, "put", "(I)V"⟩
abbrev cX4_isWord : ByteArray := prog_6_method_14_code
def yX4_isWord : MethodName := ⟨RX4, "isWord", "(Ljava/lang/String;)Z"⟩
abbrev cX4_isSignOf : ByteArray := prog_6_method_15_code
def yX4_isSignOf : MethodName := ⟨RX4, "isSignOf", "(Ljava/lang/String;)Z"⟩
abbrev cX4_step : ByteArray := prog_6_method_16_code
def yX4_step : MethodName := ⟨RX4, "step", "()V"⟩
abbrev cX4_sortAt : ByteArray := prog_6_method_17_code
def yX4_sortAt : MethodName := ⟨RX4, "sortAt", "(I)I"⟩
def RX5 : String := "OneDraught$Laws"
def TX5 : u_T := fun k => match k with
  | 0 => ("OneDraught$Laws", "many", "I", false)
  | 1 => ("OneDraught$Laws", "counting", "[I", true)
  | 2 => ("OneDraught$Laws", "laws", "[LOneDraught$Law;", true)
  | 3 => ("OneDraught$Laws", "lets", "[I", true)
  | _ => ("OneDraught$Laws", "stack", "[I", true)
def tyX5 : Nat → FieldType := fun k => match k with
  | 0 => .int
  | 1 => .array .int
  | 2 => .array (.object "OneDraught$Law")
  | 3 => .array .int
  | _ => .array .int
abbrev wsX50 : List Cond := u_ws RX5 TX5 5
theorem nmX5 : ∀ a, a < 5 → ∀ b, b < 5 → a ≠ b → (TX5 a).2.1 ≠ (TX5 b).2.1 := by decide +kernel
theorem tyX5_ok : ∀ k, k < 5 → parseFieldDescriptor (TX5 k).2.2.1 = some (tyX5 k) := by decide +kernel
abbrev cX5_init : ByteArray := prog_7_method_1_code
def yX5_init : MethodName := ⟨RX5, "<init>", "()V"⟩
abbrev cX5_takeFrom : ByteArray := prog_7_method_2_code
def yX5_takeFrom : MethodName := ⟨RX5, "takeFrom", "(LOneDraught$Laws;)V"⟩
abbrev cX5_add : ByteArray := prog_7_method_3_code
def yX5_add : MethodName := ⟨RX5, "add", "(LOneDraught$Law;)I"⟩
abbrev cX5_lawAt : ByteArray := prog_7_method_4_code
def yX5_lawAt : MethodName := ⟨RX5, "lawAt", "(I)LOneDraught$Law;"⟩
abbrev cX5_valueOf : ByteArray := prog_7_method_5_code
def yX5_valueOf : MethodName := ⟨RX5, "valueOf", "(IIII)I"⟩
abbrev cX5_letsOf : ByteArray := prog_7_method_6_code
def yX5_letsOf : MethodName := ⟨RX5, "letsOf", "(III)I"⟩
abbrev cX5_workOutLets : ByteArray := prog_7_method_7_code
def yX5_workOutLets : MethodName := ⟨RX5, "workOutLets", "()V"⟩
def RX6 : String := "OneDraught$Sheet"
def TX6 : u_T := fun k => match k with
  | 0 => ("OneDraught$Sheet", "sort", "I", false)
  | 1 => ("OneDraught$Sheet", "many", "I", false)
  | _ => ("OneDraught$Sheet", "places", "[I", true)
def tyX6 : Nat → FieldType := fun k => match k with
  | 0 => .int
  | 1 => .int
  | _ => .array .int
abbrev wsX60 : List Cond := u_ws RX6 TX6 3
theorem nmX6 : ∀ a, a < 3 → ∀ b, b < 3 → a ≠ b → (TX6 a).2.1 ≠ (TX6 b).2.1 := by decide +kernel
theorem tyX6_ok : ∀ k, k < 3 → parseFieldDescriptor (TX6 k).2.2.1 = some (tyX6 k) := by decide +kernel
abbrev cX6_init : ByteArray := prog_8_method_1_code
def yX6_init : MethodName := ⟨RX6, "<init>", "()V"⟩
abbrev cX6_isMissing : ByteArray := prog_8_method_2_code
def yX6_isMissing : MethodName := ⟨RX6, "isMissing", "()Z"⟩
abbrev cX6_become : ByteArray := prog_8_method_3_code
def yX6_become : MethodName := ⟨RX6, "become", "(II)V"⟩
abbrev cX6_takeFrom : ByteArray := prog_8_method_4_code
def yX6_takeFrom : MethodName := ⟨RX6, "takeFrom", "(LOneDraught$Sheet;)V"⟩
abbrev cX6_has : ByteArray := prog_8_method_5_code
def yX6_has : MethodName := ⟨RX6, "has", "(I)Z"⟩
abbrev cX6_hasNumber : ByteArray := prog_8_method_6_code
def yX6_hasNumber : MethodName := ⟨RX6, "hasNumber", "(I)Z"⟩
abbrev cX6_hasRange : ByteArray := prog_8_method_7_code
def yX6_hasRange : MethodName := ⟨RX6, "hasRange", "(II)Z"⟩
def RX7 : String := "OneDraught$Slot"
def TX7 : u_T := fun k => match k with
  | 0 => ("OneDraught$Slot", "thing", "I", false)
  | 1 => ("OneDraught$Slot", "kind", "I", false)
  | 2 => ("OneDraught$Slot", "wide", "I", false)
  | 3 => ("OneDraught$Slot", "number", "I", false)
  | _ => ("OneDraught$Slot", "row", "LOneDraught$Sheet;", true)
def tyX7 : Nat → FieldType := fun k => match k with
  | 0 => .int
  | 1 => .int
  | 2 => .int
  | 3 => .int
  | _ => .object "OneDraught$Sheet"
abbrev wsX70 : List Cond := u_ws RX7 TX7 5
theorem nmX7 : ∀ a, a < 5 → ∀ b, b < 5 → a ≠ b → (TX7 a).2.1 ≠ (TX7 b).2.1 := by decide +kernel
theorem tyX7_ok : ∀ k, k < 5 → parseFieldDescriptor (TX7 k).2.2.1 = some (tyX7 k) := by decide +kernel
abbrev cX7_init : ByteArray := prog_9_method_1_code
def yX7_init : MethodName := ⟨RX7, "<init>", "()V"⟩
def RX8 : String := "OneDraught$Thought"
def TX8 : u_T := fun k => match k with
  | _ => ("OneDraught$Thought", "then", "LOneDraught$Hall;", true)
def tyX8 : Nat → FieldType := fun k => match k with
  | _ => .object "OneDraught$Hall"
abbrev wsX80 : List Cond := u_ws RX8 TX8 1
theorem nmX8 : ∀ a, a < 1 → ∀ b, b < 1 → a ≠ b → (TX8 a).2.1 ≠ (TX8 b).2.1 := by decide +kernel
theorem tyX8_ok : ∀ k, k < 1 → parseFieldDescriptor (TX8 k).2.2.1 = some (tyX8 k) := by decide +kernel
abbrev cX8_init : ByteArray := prog_10_method_1_code
def yX8_init : MethodName := ⟨RX8, "<init>", "()V"⟩
abbrev cX8_behindMinutes : ByteArray := prog_10_method_2_code
def yX8_behindMinutes : MethodName := ⟨RX8, "behindMinutes", "(LOneDraught$Hall;I)LOneDraught$Hall;"⟩
abbrev cX8_minutesUntilStill : ByteArray := prog_10_method_3_code
def yX8_minutesUntilStill : MethodName := ⟨RX8, "minutesUntilStill", "(LOneDraught$Hall;)I"⟩
abbrev cX8_fewestToShut : ByteArray := prog_10_method_4_code
def yX8_fewestToShut : MethodName := ⟨RX8, "fewestToShut", "(LOneDraught$Hall;III)I"⟩
abbrev cX8_isCalm : ByteArray := prog_10_method_5_code
def yX8_isCalm : MethodName := ⟨RX8, "isCalm", "(III)Z"⟩
abbrev cX8_roomsThatSmell : ByteArray := prog_10_method_6_code
def yX8_roomsThatSmell : MethodName := ⟨RX8, "roomsThatSmell", "(LOneDraught$Hall;II)I"⟩
abbrev cX8_litWith : ByteArray := prog_10_method_7_code
def yX8_litWith : MethodName := ⟨RX8, "litWith", "(LOneDraught$Hall;IZI)I"⟩
abbrev cX8_allStayLit : ByteArray := prog_10_method_8_code
def yX8_allStayLit : MethodName := ⟨RX8, "allStayLit", "(LOneDraught$Hall;II)Z"⟩
abbrev cX8_likeliestDoor : ByteArray := prog_10_method_9_code
def yX8_likeliestDoor : MethodName := ⟨RX8, "likeliestDoor", "(LOneDraught$Hall;LOneDraught$Sheet;I)I"⟩
abbrev cX8_differenceWith : ByteArray := prog_10_method_10_code
def yX8_differenceWith : MethodName := ⟨RX8, "differenceWith", "(LOneDraught$Hall;LOneDraught$Sheet;II)I"⟩
abbrev cX8_rightOnes : ByteArray := prog_10_method_11_code
def yX8_rightOnes : MethodName := ⟨RX8, "rightOnes", "(LOneDraught$Hall;[III)I"⟩
def RX9 : String := "OneDraught"
def TX9 : u_T := fun k => match k with
  | 0 => ("OneDraught", "now", "LOneDraught$Hall;", true)
  | 1 => ("OneDraught", "image", "LOneDraught$Hall;", true)
  | 2 => ("OneDraught", "imageKept", "Z", false)
  | 3 => ("OneDraught", "thought", "LOneDraught$Thought;", true)
  | 4 => ("OneDraught", "tape", "[B", true)
  | 5 => ("OneDraught", "tapeLength", "I", false)
  | 6 => ("OneDraught", "reader", "LOneDraught$LawReader;", true)
  | 7 => ("OneDraught", "sheets", "[LOneDraught$Sheet;", true)
  | 8 => ("OneDraught", "slots", "[LOneDraught$Slot;", true)
  | 9 => ("OneDraught", "waiting", "[I", true)
  | _ => ("OneDraught", "waitingMany", "I", false)
def tyX9 : Nat → FieldType := fun k => match k with
  | 0 => .object "OneDraught$Hall"
  | 1 => .object "OneDraught$Hall"
  | 2 => .boolean
  | 3 => .object "OneDraught$Thought"
  | 4 => .array .byte
  | 5 => .int
  | 6 => .object "OneDraught$LawReader"
  | 7 => .array (.object "OneDraught$Sheet")
  | 8 => .array (.object "OneDraught$Slot")
  | 9 => .array .int
  | _ => .int
abbrev wsX90 : List Cond := u_ws RX9 TX9 11
theorem nmX9 : ∀ a, a < 11 → ∀ b, b < 11 → a ≠ b → (TX9 a).2.1 ≠ (TX9 b).2.1 := by decide +kernel
theorem tyX9_ok : ∀ k, k < 11 → parseFieldDescriptor (TX9 k).2.2.1 = some (tyX9 k) := by decide +kernel
abbrev cX9_init : ByteArray := prog_1_method_1_code
def yX9_init : MethodName := ⟨RX9, "<init>", "()V"⟩
abbrev cX9_door : ByteArray := prog_1_method_2_code
def yX9_door : MethodName := ⟨RX9, "door", "(IIII)I"⟩
abbrev cX9_told : ByteArray := prog_1_method_3_code
def yX9_told : MethodName := ⟨RX9, "told", "(II)I"⟩
abbrev cX9_as : ByteArray := prog_1_method_4_code
def yX9_as : MethodName := ⟨RX9, "as", "(II)I"⟩
abbrev cX9_turns : ByteArray := prog_1_method_5_code
def yX9_turns : MethodName := ⟨RX9, "turns", "(II)I"⟩
abbrev cX9_open : ByteArray := prog_1_method_6_code
def yX9_open : MethodName := ⟨RX9, "open", "(II)I"⟩
abbrev cX9_room : ByteArray := prog_1_method_7_code
def yX9_room : MethodName := ⟨RX9, "room", "(II)I"⟩
abbrev cX9_set : ByteArray := prog_1_method_8_code
def yX9_set : MethodName := ⟨RX9, "set", "(III)I"⟩
abbrev cX9_mostOf : ByteArray := prog_1_method_9_code
def yX9_mostOf : MethodName := ⟨RX9, "mostOf", "(I)I"⟩
abbrev cX9_wind : ByteArray := prog_1_method_10_code
def yX9_wind : MethodName := ⟨RX9, "wind", "(I)I"⟩
abbrev cX9_deal : ByteArray := prog_1_method_11_code
def yX9_deal : MethodName := ⟨RX9, "deal", "(I)I"⟩
abbrev cX9_seed : ByteArray := prog_1_method_12_code
def yX9_seed : MethodName := ⟨RX9, "seed", "(I)I"⟩
abbrev cX9_run : ByteArray := prog_1_method_13_code
def yX9_run : MethodName := ⟨RX9, "run", "(I)I"⟩
abbrev cX9_footman : ByteArray := prog_1_method_14_code
def yX9_footman : MethodName := ⟨RX9, "footman", "(I)I"⟩
abbrev cX9_hall : ByteArray := prog_1_method_15_code
def yX9_hall : MethodName := ⟨RX9, "hall", "(I)I"⟩
abbrev cX9_behind : ByteArray := prog_1_method_16_code
def yX9_behind : MethodName := ⟨RX9, "behind", "(III)I"⟩
abbrev cX9_still : ByteArray := prog_1_method_17_code
def yX9_still : MethodName := ⟨RX9, "still", "()I"⟩
abbrev cX9_birth : ByteArray := prog_1_method_18_code
def yX9_birth : MethodName := ⟨RX9, "birth", "(III)I"⟩
abbrev cX9_smells : ByteArray := prog_1_method_19_code
def yX9_smells : MethodName := ⟨RX9, "smells", "(II)I"⟩
abbrev cX9_snuffs : ByteArray := prog_1_method_20_code
def yX9_snuffs : MethodName := ⟨RX9, "snuffs", "(II)I"⟩
abbrev cX9_storm : ByteArray := prog_1_method_21_code
def yX9_storm : MethodName := ⟨RX9, "storm", "(I)I"⟩
abbrev cX9_opened : ByteArray := prog_1_method_22_code
def yX9_opened : MethodName := ⟨RX9, "opened", "(III)I"⟩
abbrev cX9_fine : ByteArray := prog_1_method_23_code
def yX9_fine : MethodName := ⟨RX9, "fine", "()I"⟩
abbrev cX9_feed : ByteArray := prog_1_method_24_code
def yX9_feed : MethodName := ⟨RX9, "feed", "(III)I"⟩
abbrev cX9_putBytes : ByteArray := prog_1_method_25_code
def yX9_putBytes : MethodName := ⟨RX9, "putBytes", "(I)V"⟩
abbrev cX9_trim : ByteArray := prog_1_method_26_code
def yX9_trim : MethodName := ⟨RX9, "trim", "(I)I"⟩
abbrev cX9_text : ByteArray := prog_1_method_27_code
def yX9_text : MethodName := ⟨RX9, "text", "()I"⟩
abbrev cX9_textTold : ByteArray := prog_1_method_28_code
def yX9_textTold : MethodName := ⟨RX9, "textTold", "(II)I"⟩
abbrev cX9_why : ByteArray := prog_1_method_29_code
def yX9_why : MethodName := ⟨RX9, "why", "(I)I"⟩
abbrev cX9_sheet : ByteArray := prog_1_method_30_code
def yX9_sheet : MethodName := ⟨RX9, "sheet", "(III)I"⟩
abbrev cX9_mark : ByteArray := prog_1_method_31_code
def yX9_mark : MethodName := ⟨RX9, "mark", "(III)I"⟩
abbrev cX9_pour : ByteArray := prog_1_method_32_code
def yX9_pour : MethodName := ⟨RX9, "pour", "(I)I"⟩
abbrev cX9_reads : ByteArray := prog_1_method_33_code
def yX9_reads : MethodName := ⟨RX9, "reads", "(I)I"⟩
abbrev cX9_copy : ByteArray := prog_1_method_34_code
def yX9_copy : MethodName := ⟨RX9, "copy", "(IIIII)I"⟩
abbrev cX9_lay : ByteArray := prog_1_method_35_code
def yX9_lay : MethodName := ⟨RX9, "lay", "(III)I"⟩
abbrev cX9_canLay : ByteArray := prog_1_method_36_code
def yX9_canLay : MethodName := ⟨RX9, "canLay", "(II)Z"⟩
abbrev cX9_ask : ByteArray := prog_1_method_37_code
def yX9_ask : MethodName := ⟨RX9, "ask", "(II)I"⟩
abbrev cX9_item : ByteArray := prog_1_method_38_code
def yX9_item : MethodName := ⟨RX9, "item", "(II)I"⟩
abbrev cX9_rest : ByteArray := prog_1_method_39_code
def yX9_rest : MethodName := ⟨RX9, "rest", "(II)I"⟩
abbrev cX9_tell : ByteArray := prog_1_method_40_code
def yX9_tell : MethodName := ⟨RX9, "tell", "(I)I"⟩
abbrev cX9_check : ByteArray := prog_1_method_41_code
def yX9_check : MethodName := ⟨RX9, "check", "(I)I"⟩
abbrev cX9_keep : ByteArray := prog_1_method_42_code
def yX9_keep : MethodName := ⟨RX9, "keep", "()I"⟩
abbrev cX9_back : ByteArray := prog_1_method_43_code
def yX9_back : MethodName := ⟨RX9, "back", "()I"⟩
abbrev cX9_count : ByteArray := prog_1_method_44_code
def yX9_count : MethodName := ⟨RX9, "count", "(I)I"⟩
abbrev cX9_isRoom : ByteArray := prog_1_method_45_code
def yX9_isRoom : MethodName := ⟨RX9, "isRoom", "(I)Z"⟩
abbrev cX9_isSheet : ByteArray := prog_1_method_46_code
def yX9_isSheet : MethodName := ⟨RX9, "isSheet", "(I)Z"⟩
abbrev cX9_isSlot : ByteArray := prog_1_method_47_code
def yX9_isSlot : MethodName := ⟨RX9, "isSlot", "(I)Z"⟩
abbrev cX9_isWithin : ByteArray := prog_1_method_48_code
def yX9_isWithin : MethodName := ⟨RX9, "isWithin", "(III)Z"⟩
abbrev cX9_heldWithin : ByteArray := prog_1_method_49_code
def yX9_heldWithin : MethodName := ⟨RX9, "heldWithin", "(III)I"⟩
def RX10 : String := "OneDraughtModel"
def TX10 : u_T := fun k => match k with
  | 0 => ("OneDraughtModel", "now", "[I", true)
  | 1 => ("OneDraughtModel", "image", "[I", true)
  | 2 => ("OneDraughtModel", "aside", "[I", true)
  | 3 => ("OneDraughtModel", "hasImage", "Z", false)
  | 4 => ("OneDraughtModel", "flows", "[I", true)
  | 5 => ("OneDraughtModel", "draughts", "[I", true)
  | 6 => ("OneDraughtModel", "scents", "[I", true)
  | 7 => ("OneDraughtModel", "airs", "[I", true)
  | 8 => ("OneDraughtModel", "before", "[I", true)
  | 9 => ("OneDraughtModel", "tape", "[I", true)
  | 10 => ("OneDraughtModel", "taped", "I", false)
  | 11 => ("OneDraughtModel", "next", "I", false)
  | 12 => ("OneDraughtModel", "from", "I", false)
  | 13 => ("OneDraughtModel", "token", "I", false)
  | 14 => ("OneDraughtModel", "value", "I", false)
  | 15 => ("OneDraughtModel", "ended", "I", false)
  | 16 => ("OneDraughtModel", "key", "I", false)
  | 17 => ("OneDraughtModel", "keys", "[C", true)
  | 18 => ("OneDraughtModel", "keyAt", "[I", true)
  | 19 => ("OneDraughtModel", "code", "[I", true)
  | 20 => ("OneDraughtModel", "codes", "I", false)
  | 21 => ("OneDraughtModel", "atoms", "I", false)
  | 22 => ("OneDraughtModel", "waits", "[I", true)
  | 23 => ("OneDraughtModel", "held", "I", false)
  | 24 => ("OneDraughtModel", "tested", "[Z", true)
  | 25 => ("OneDraughtModel", "stack", "[I", true)
  | 26 => ("OneDraughtModel", "facts", "[I", true)
  | 27 => ("OneDraughtModel", "sorts", "[I", true)
  | 28 => ("OneDraughtModel", "sizes", "[I", true)
  | 29 => ("OneDraughtModel", "cells", "[I", true)
  | 30 => ("OneDraughtModel", "holds", "[I", true)
  | 31 => ("OneDraughtModel", "holdsA", "[I", true)
  | 32 => ("OneDraughtModel", "holdsB", "[I", true)
  | 33 => ("OneDraughtModel", "heldCells", "[I", true)
  | 34 => ("OneDraughtModel", "moved", "[I", true)
  | 35 => ("OneDraughtModel", "tells", "[I", true)
  | _ => ("OneDraughtModel", "waiting", "I", false)
def tyX10 : Nat → FieldType := fun k => match k with
  | 0 => .array .int
  | 1 => .array .int
  | 2 => .array .int
  | 3 => .boolean
  | 4 => .array .int
  | 5 => .array .int
  | 6 => .array .int
  | 7 => .array .int
  | 8 => .array .int
  | 9 => .array .int
  | 10 => .int
  | 11 => .int
  | 12 => .int
  | 13 => .int
  | 14 => .int
  | 15 => .int
  | 16 => .int
  | 17 => .array .char
  | 18 => .array .int
  | 19 => .array .int
  | 20 => .int
  | 21 => .int
  | 22 => .array .int
  | 23 => .int
  | 24 => .array .boolean
  | 25 => .array .int
  | 26 => .array .int
  | 27 => .array .int
  | 28 => .array .int
  | 29 => .array .int
  | 30 => .array .int
  | 31 => .array .int
  | 32 => .array .int
  | 33 => .array .int
  | 34 => .array .int
  | 35 => .array .int
  | _ => .int
abbrev wsX100 : List Cond := u_ws RX10 TX10 37
theorem nmX10 : ∀ a, a < 37 → ∀ b, b < 37 → a ≠ b → (TX10 a).2.1 ≠ (TX10 b).2.1 := by decide +kernel
theorem tyX10_ok : ∀ k, k < 37 → parseFieldDescriptor (TX10 k).2.2.1 = some (tyX10 k) := by decide +kernel
abbrev cX10_init : ByteArray := prog_12_method_1_code
def yX10_init : MethodName := ⟨RX10, "<init>", "()V"⟩
abbrev cX10_in : ByteArray := prog_12_method_2_code
def yX10_in : MethodName := ⟨RX10, "in", "(III)Z"⟩
abbrev cX10_within : ByteArray := prog_12_method_3_code
def yX10_within : MethodName := ⟨RX10, "within", "(III)I"⟩
abbrev cX10_copyAll : ByteArray := prog_12_method_4_code
def yX10_copyAll : MethodName := ⟨RX10, "copyAll", "([I[I)V"⟩
abbrev cX10_isDoor : ByteArray := prog_12_method_5_code
def yX10_isDoor : MethodName := ⟨RX10, "isDoor", "(I)Z"⟩
abbrev cX10_isRoom : ByteArray := prog_12_method_6_code
def yX10_isRoom : MethodName := ⟨RX10, "isRoom", "(I)Z"⟩
abbrev cX10_of : ByteArray := prog_12_method_7_code
def yX10_of : MethodName := ⟨RX10, "of", "(II)I"⟩
abbrev cX10_at0 : ByteArray := prog_12_method_8_code
def yX10_at0 : MethodName := ⟨RX10, "at0", "(II)I"⟩
abbrev cX10_becomes : ByteArray := prog_12_method_9_code
def yX10_becomes : MethodName := ⟨RX10, "becomes", "(II)I"⟩
abbrev cX10_comes : ByteArray := prog_12_method_10_code
def yX10_comes : MethodName := ⟨RX10, "comes", "(IIIII)I"⟩
abbrev cX10_door : ByteArray := prog_12_method_11_code
def yX10_door : MethodName := ⟨RX10, "door", "(IIII)I"⟩
abbrev cX10_letsOf : ByteArray := prog_12_method_12_code
def yX10_letsOf : MethodName := ⟨RX10, "letsOf", "(I)I"⟩
abbrev cX10_airOf : ByteArray := prog_12_method_13_code
def yX10_airOf : MethodName := ⟨RX10, "airOf", "(I)I"⟩
abbrev cX10_flowOf : ByteArray := prog_12_method_14_code
def yX10_flowOf : MethodName := ⟨RX10, "flowOf", "(I)I"⟩
abbrev cX10_worthOf : ByteArray := prog_12_method_15_code
def yX10_worthOf : MethodName := ⟨RX10, "worthOf", "(I)I"⟩
abbrev cX10_told : ByteArray := prog_12_method_16_code
def yX10_told : MethodName := ⟨RX10, "told", "(II)I"⟩
abbrev cX10_isUnder : ByteArray := prog_12_method_17_code
def yX10_isUnder : MethodName := ⟨RX10, "isUnder", "(II)Z"⟩
abbrev cX10_as : ByteArray := prog_12_method_18_code
def yX10_as : MethodName := ⟨RX10, "as", "(II)I"⟩
abbrev cX10_turns : ByteArray := prog_12_method_19_code
def yX10_turns : MethodName := ⟨RX10, "turns", "(II)I"⟩
abbrev cX10_open : ByteArray := prog_12_method_20_code
def yX10_open : MethodName := ⟨RX10, "open", "(II)I"⟩
abbrev cX10_findFlows : ByteArray := prog_12_method_21_code
def yX10_findFlows : MethodName := ⟨RX10, "findFlows", "()V"⟩
abbrev cX10_room : ByteArray := prog_12_method_22_code
def yX10_room : MethodName := ⟨RX10, "room", "(II)I"⟩
abbrev cX10_set : ByteArray := prog_12_method_23_code
def yX10_set : MethodName := ⟨RX10, "set", "(III)I"⟩
abbrev cX10_wind : ByteArray := prog_12_method_24_code
def yX10_wind : MethodName := ⟨RX10, "wind", "(I)I"⟩
abbrev cX10_draw : ByteArray := prog_12_method_25_code
def yX10_draw : MethodName := ⟨RX10, "draw", "()I"⟩
abbrev cX10_deal : ByteArray := prog_12_method_26_code
def yX10_deal : MethodName := ⟨RX10, "deal", "(I)I"⟩
abbrev cX10_seed : ByteArray := prog_12_method_27_code
def yX10_seed : MethodName := ⟨RX10, "seed", "(I)I"⟩
abbrev cX10_carries : ByteArray := prog_12_method_28_code
def yX10_carries : MethodName := ⟨RX10, "carries", "()V"⟩
abbrev cX10_blows : ByteArray := prog_12_method_29_code
def yX10_blows : MethodName := ⟨RX10, "blows", "()V"⟩
abbrev cX10_gustOf : ByteArray := prog_12_method_30_code
def yX10_gustOf : MethodName := ⟨RX10, "gustOf", "(I)I"⟩
abbrev cX10_minute : ByteArray := prog_12_method_31_code
def yX10_minute : MethodName := ⟨RX10, "minute", "()I"⟩
abbrev cX10_goesOn : ByteArray := prog_12_method_32_code
def yX10_goesOn : MethodName := ⟨RX10, "goesOn", "(I)I"⟩
abbrev cX10_run : ByteArray := prog_12_method_33_code
def yX10_run : MethodName := ⟨RX10, "run", "(I)I"⟩
abbrev cX10_footman : ByteArray := prog_12_method_34_code
def yX10_footman : MethodName := ⟨RX10, "footman", "(I)I"⟩
abbrev cX10_sumOf : ByteArray := prog_12_method_35_code
def yX10_sumOf : MethodName := ⟨RX10, "sumOf", "(I)I"⟩
abbrev cX10_litSet : ByteArray := prog_12_method_36_code
def yX10_litSet : MethodName := ⟨RX10, "litSet", "()I"⟩
abbrev cX10_openSet : ByteArray := prog_12_method_37_code
def yX10_openSet : MethodName := ⟨RX10, "openSet", "()I"⟩
abbrev cX10_hall : ByteArray := prog_12_method_38_code
def yX10_hall : MethodName := ⟨RX10, "hall", "(I)I"⟩
abbrev cX10_thinks : ByteArray := prog_12_method_39_code
def yX10_thinks : MethodName := ⟨RX10, "thinks", "()V"⟩
abbrev cX10_putsBack : ByteArray := prog_12_method_40_code
def yX10_putsBack : MethodName := ⟨RX10, "putsBack", "()V"⟩
abbrev cX10_behind : ByteArray := prog_12_method_41_code
def yX10_behind : MethodName := ⟨RX10, "behind", "(III)I"⟩
abbrev cX10_isStill : ByteArray := prog_12_method_42_code
def yX10_isStill : MethodName := ⟨RX10, "isStill", "()Z"⟩
abbrev cX10_still : ByteArray := prog_12_method_43_code
def yX10_still : MethodName := ⟨RX10, "still", "()I"⟩
abbrev cX10_bitsOf : ByteArray := prog_12_method_44_code
def yX10_bitsOf : MethodName := ⟨RX10, "bitsOf", "(I)I"⟩
abbrev cX10_isCalm : ByteArray := prog_12_method_45_code
def yX10_isCalm : MethodName := ⟨RX10, "isCalm", "(IIII)Z"⟩
abbrev cX10_birth : ByteArray := prog_12_method_46_code
def yX10_birth : MethodName := ⟨RX10, "birth", "(III)I"⟩
abbrev cX10_smells : ByteArray := prog_12_method_47_code
def yX10_smells : MethodName := ⟨RX10, "smells", "(II)I"⟩
abbrev cX10_litBehind : ByteArray := prog_12_method_48_code
def yX10_litBehind : MethodName := ⟨RX10, "litBehind", "(III)I"⟩
abbrev cX10_snuffs : ByteArray := prog_12_method_49_code
def yX10_snuffs : MethodName := ⟨RX10, "snuffs", "(II)I"⟩
abbrev cX10_storm : ByteArray := prog_12_method_50_code
def yX10_storm : MethodName := ⟨RX10, "storm", "(I)I"⟩
abbrev cX10_offBy : ByteArray := prog_12_method_51_code
def yX10_offBy : MethodName := ⟨RX10, "offBy", "(III)J"⟩
abbrev cX10_opened : ByteArray := prog_12_method_52_code
def yX10_opened : MethodName := ⟨RX10, "opened", "(III)I"⟩
abbrev cX10_fine : ByteArray := prog_12_method_53_code
def yX10_fine : MethodName := ⟨RX10, "fine", "()I"⟩
abbrev cX10_feed : ByteArray := prog_12_method_54_code
def yX10_feed : MethodName := ⟨RX10, "feed", "(III)I"⟩
abbrev cX10_trim : ByteArray := prog_12_method_55_code
def yX10_trim : MethodName := ⟨RX10, "trim", "(I)I"⟩
abbrev cX10_isLetter : ByteArray := prog_12_method_56_code
def yX10_isLetter : MethodName := ⟨RX10, "isLetter", "(I)Z"⟩
abbrev cX10_isFigure : ByteArray := prog_12_method_57_code
def yX10_isFigure : MethodName := ⟨RX10, "isFigure", "(I)Z"⟩
abbrev cX10_go : ByteArray := prog_12_method_58_code
def yX10_go : MethodName := ⟨RX10, "go", "()V"⟩
abbrev cX10_takesKey : ByteArray := prog_12_method_59_code
def yX10_takesKey : MethodName := ⟨RX10, "takesKey", "()Z"⟩
abbrev cX10_nameOf : ByteArray := prog_12_method_60_code
def yX10_nameOf : MethodName := ⟨RX10, "nameOf", "(I)I"⟩
abbrev cX10_rank : ByteArray := prog_12_method_61_code
def yX10_rank : MethodName := ⟨RX10, "rank", "(I)I"⟩
abbrev cX10_settle : ByteArray := prog_12_method_62_code
def yX10_settle : MethodName := ⟨RX10, "settle", "(I)V"⟩
abbrev cX10_signHere : ByteArray := prog_12_method_63_code
def yX10_signHere : MethodName := ⟨RX10, "signHere", "()I"⟩
abbrev cX10_takesPart : ByteArray := prog_12_method_64_code
def yX10_takesPart : MethodName := ⟨RX10, "takesPart", "()Z"⟩
abbrev cX10_takesE : ByteArray := prog_12_method_65_code
def yX10_takesE : MethodName := ⟨RX10, "takesE", "()Z"⟩
abbrev cX10_notsOpen : ByteArray := prog_12_method_66_code
def yX10_notsOpen : MethodName := ⟨RX10, "notsOpen", "()I"⟩
abbrev cX10_text : ByteArray := prog_12_method_67_code
def yX10_text : MethodName := ⟨RX10, "text", "()I"⟩
abbrev cX10_textTold : ByteArray := prog_12_method_68_code
def yX10_textTold : MethodName := ⟨RX10, "textTold", "(II)I"⟩
abbrev cX10_counts : ByteArray := prog_12_method_69_code
def yX10_counts : MethodName := ⟨RX10, "counts", "(I)I"⟩
abbrev cX10_why : ByteArray := prog_12_method_70_code
def yX10_why : MethodName := ⟨RX10, "why", "(I)I"⟩
abbrev cX10_two : ByteArray := prog_12_method_71_code
def yX10_two : MethodName := ⟨RX10, "two", "(III)I"⟩
abbrev cX10_worksOut : ByteArray := prog_12_method_72_code
def yX10_worksOut : MethodName := ⟨RX10, "worksOut", "(I)I"⟩
abbrev cX10_isSheet : ByteArray := prog_12_method_73_code
def yX10_isSheet : MethodName := ⟨RX10, "isSheet", "(I)Z"⟩
abbrev cX10_isSlot : ByteArray := prog_12_method_74_code
def yX10_isSlot : MethodName := ⟨RX10, "isSlot", "(I)Z"⟩
abbrev cX10_sheet : ByteArray := prog_12_method_75_code
def yX10_sheet : MethodName := ⟨RX10, "sheet", "(III)I"⟩
abbrev cX10_mark : ByteArray := prog_12_method_76_code
def yX10_mark : MethodName := ⟨RX10, "mark", "(III)I"⟩
abbrev cX10_pour : ByteArray := prog_12_method_77_code
def yX10_pour : MethodName := ⟨RX10, "pour", "(I)I"⟩
abbrev cX10_reads : ByteArray := prog_12_method_78_code
def yX10_reads : MethodName := ⟨RX10, "reads", "(I)I"⟩
abbrev cX10_copy : ByteArray := prog_12_method_79_code
def yX10_copy : MethodName := ⟨RX10, "copy", "(IIIII)I"⟩
abbrev cX10_lay : ByteArray := prog_12_method_80_code
def yX10_lay : MethodName := ⟨RX10, "lay", "(III)I"⟩
abbrev cX10_ask : ByteArray := prog_12_method_81_code
def yX10_ask : MethodName := ⟨RX10, "ask", "(II)I"⟩
abbrev cX10_item : ByteArray := prog_12_method_82_code
def yX10_item : MethodName := ⟨RX10, "item", "(II)I"⟩
abbrev cX10_rest : ByteArray := prog_12_method_83_code
def yX10_rest : MethodName := ⟨RX10, "rest", "(II)I"⟩
abbrev cX10_tell : ByteArray := prog_12_method_84_code
def yX10_tell : MethodName := ⟨RX10, "tell", "(I)I"⟩
abbrev cX10_check : ByteArray := prog_12_method_85_code
def yX10_check : MethodName := ⟨RX10, "check", "(I)I"⟩
abbrev cX10_keep : ByteArray := prog_12_method_86_code
def yX10_keep : MethodName := ⟨RX10, "keep", "()I"⟩
abbrev cX10_back : ByteArray := prog_12_method_87_code
def yX10_back : MethodName := ⟨RX10, "back", "()I"⟩
abbrev cX10_count : ByteArray := prog_12_method_88_code
def yX10_count : MethodName := ⟨RX10, "count", "(I)I"⟩
def RJ11 : String := "java/lang/Character"
abbrev cJ11_isValidCodePoint_9a6ad : ByteArray := prog_13_method_11_code
def yJ11_isValidCodePoint_9a6ad : MethodName := ⟨RJ11, "isValidCodePoint", "(I)Z"⟩
abbrev cJ11_highSurrogate_5068e : ByteArray := prog_13_method_28_code
def yJ11_highSurrogate_5068e : MethodName := ⟨RJ11, "highSurrogate", "(I)C"⟩
abbrev cJ11_lowSurrogate_5068e : ByteArray := prog_13_method_29_code
def yJ11_lowSurrogate_5068e : MethodName := ⟨RJ11, "lowSurrogate", "(I)C"⟩
def RJ6 : String := "java/lang/Integer"
abbrev cJ6_bitCount_0f7a4 : ByteArray := prog_15_method_49_code
def yJ6_bitCount_0f7a4 : MethodName := ⟨RJ6, "bitCount", "(I)I"⟩
def RJ9 : String := "java/lang/Math"
abbrev cJ9_abs_0f7a4 : ByteArray := prog_16_method_59_code
def yJ9_abs_0f7a4 : MethodName := ⟨RJ9, "abs", "(I)I"⟩
abbrev cJ9_max_7cf53 : ByteArray := prog_16_method_65_code
def yJ9_max_7cf53 : MethodName := ⟨RJ9, "max", "(II)I"⟩
abbrev cJ9_min_7cf53 : ByteArray := prog_16_method_69_code
def yJ9_min_7cf53 : MethodName := ⟨RJ9, "min", "(II)I"⟩
abbrev cJ9_min_f86c9 : ByteArray := prog_16_method_70_code
def yJ9_min_f86c9 : MethodName := ⟨RJ9, "min", "(JJ)J"⟩
def RJ0 : String := "java/lang/String"
abbrev cJ0_length_8abf5 : ByteArray := prog_17_method_54_code
def yJ0_length_8abf5 : MethodName := ⟨RJ0, "length", "()I"⟩
abbrev cJ0_charAt_5068e : ByteArray := prog_17_method_56_code
def yJ0_charAt_5068e : MethodName := ⟨RJ0, "charAt", "(I)C"⟩
abbrev cJ0_indexOf_0f7a4 : ByteArray := prog_17_method_79_code
def yJ0_indexOf_0f7a4 : MethodName := ⟨RJ0, "indexOf", "(I)I"⟩
abbrev cJ0_indexOf_7cf53 : ByteArray := prog_17_method_80_code
def yJ0_indexOf_7cf53 : MethodName := ⟨RJ0, "indexOf", "(II)I"⟩
abbrev cJ0_coder_7d493 : ByteArray := prog_17_method_152_code
def yJ0_coder_7d493 : MethodName := ⟨RJ0, "coder", "()B"⟩
abbrev cJ0_isLatin1_aae02 : ByteArray := prog_17_method_154_code
def yJ0_isLatin1_aae02 : MethodName := ⟨RJ0, "isLatin1", "()Z"⟩
abbrev cJ0_checkIndex_df160 : ByteArray := prog_17_method_155_code
def yJ0_checkIndex_df160 : MethodName := ⟨RJ0, "checkIndex", "(II)V"⟩
abbrev cJ0_checkBoundsBeginEnd_23922 : ByteArray := prog_17_method_158_code
def yJ0_checkBoundsBeginEnd_23922 : MethodName := ⟨RJ0, "checkBoundsBeginEnd", "(III)V"⟩
def RJ1 : String := "java/lang/StringLatin1"
abbrev cJ1_charAt_3b067 : ByteArray := prog_18_method_2_code
def yJ1_charAt_3b067 : MethodName := ⟨RJ1, "charAt", "([BI)C"⟩
abbrev cJ1_canEncode_9a6ad : ByteArray := prog_18_method_4_code
def yJ1_canEncode_9a6ad : MethodName := ⟨RJ1, "canEncode", "(I)Z"⟩
abbrev cJ1_indexOf_4cfef : ByteArray := prog_18_method_22_code
def yJ1_indexOf_4cfef : MethodName := ⟨RJ1, "indexOf", "([BIII)I"⟩
abbrev cJ1_indexOfChar_4cfef : ByteArray := prog_18_method_23_code
def yJ1_indexOfChar_4cfef : MethodName := ⟨RJ1, "indexOfChar", "([BIII)I"⟩
def RJ2 : String := "java/lang/StringUTF16"
abbrev cJ2_getChar_3b067 : ByteArray := prog_19_method_5_code
def yJ2_getChar_3b067 : MethodName := ⟨RJ2, "getChar", "([BI)C"⟩
abbrev cJ2_length_9d52b : ByteArray := prog_19_method_6_code
def yJ2_length_9d52b : MethodName := ⟨RJ2, "length", "([B)I"⟩
abbrev cJ2_indexOf_4cfef : ByteArray := prog_19_method_40_code
def yJ2_indexOf_4cfef : MethodName := ⟨RJ2, "indexOf", "([BIII)I"⟩
abbrev cJ2_indexOfChar_4cfef : ByteArray := prog_19_method_47_code
def yJ2_indexOfChar_4cfef : MethodName := ⟨RJ2, "indexOfChar", "([BIII)I"⟩
abbrev cJ2_indexOfCharUnsafe_4cfef : ByteArray := prog_19_method_48_code
def yJ2_indexOfCharUnsafe_4cfef : MethodName := ⟨RJ2, "indexOfCharUnsafe", "([BIII)I"⟩
abbrev cJ2_indexOfSupplementary_4cfef : ByteArray := prog_19_method_49_code
def yJ2_indexOfSupplementary_4cfef : MethodName := ⟨RJ2, "indexOfSupplementary", "([BIII)I"⟩
abbrev cJ2_charAt_3b067 : ByteArray := prog_19_method_83_code
def yJ2_charAt_3b067 : MethodName := ⟨RJ2, "charAt", "([BI)C"⟩
abbrev cJ2_checkIndex_2214a : ByteArray := prog_19_method_91_code
def yJ2_checkIndex_2214a : MethodName := ⟨RJ2, "checkIndex", "(I[B)V"⟩
abbrev cJ2_checkBoundsBeginEnd_d044e : ByteArray := prog_19_method_93_code
def yJ2_checkBoundsBeginEnd_d044e : MethodName := ⟨RJ2, "checkBoundsBeginEnd", "(II[B)V"⟩
def RJ10 : String := "java/lang/System"
def RJ7 : String := "java/util/Arrays"
abbrev cJ7_fill_53178 : ByteArray := prog_21_method_103_code
def yJ7_fill_53178 : MethodName := ⟨RJ7, "fill", "([II)V"⟩
abbrev cJ7_copyOf_59c91 : ByteArray := prog_21_method_123_code
def yJ7_copyOf_59c91 : MethodName := ⟨RJ7, "copyOf", "([II)[I"⟩
def RJ3 : String := "jdk/internal/util/Preconditions"
abbrev cJ3_checkIndex_8e157 : ByteArray := prog_22_method_11_code
def yJ3_checkIndex_8e157 : MethodName := ⟨RJ3, "checkIndex", "(IILjava/util/function/BiFunction;)I"⟩
abbrev cJ3_checkFromToIndex_8c36e : ByteArray := prog_22_method_12_code
def yJ3_checkFromToIndex_8c36e : MethodName := ⟨RJ3, "checkFromToIndex", "(IIILjava/util/function/BiFunction;)I"⟩
abbrev vwCl : List vw_C := [(RX0, TX0, 6), (RX1, TX1, 12), (RX3, TX3, 3), (RX4, TX4, 10), (RX5, TX5, 5), (RX6, TX6, 3), (RX7, TX7, 5), (RX8, TX8, 1), (RX9, TX9, 11), (RX10, TX10, 37)]
def RL : String := "OneDraughtLaw"
abbrev cL_law : ByteArray := code
def yL_law : MethodName := ⟨RL, "law", "([I)Z"⟩
end
section
theorem dX0_init_0 : decode cX0_init 0 = .ok (.aload_n 0, 1) := by decide +kernel
theorem dX0_init_1 : decode cX0_init 1 = .ok (.invokespecial 1, 3) := by decide +kernel
theorem dX0_init_4 : decode cX0_init 4 = .ok (.aload_n 0, 1) := by decide +kernel
theorem dX0_init_5 : decode cX0_init 5 = .ok (.bipush 10, 2) := by decide +kernel
theorem dX0_init_7 : decode cX0_init 7 = .ok (.newarray .int, 2) := by decide +kernel
theorem dX0_init_9 : decode cX0_init 9 = .ok (.putfield 9, 3) := by decide +kernel
theorem dX0_init_12 : decode cX0_init 12 = .ok (.aload_n 0, 1) := by decide +kernel
theorem dX0_init_13 : decode cX0_init 13 = .ok (.bipush 10, 2) := by decide +kernel
theorem dX0_init_15 : decode cX0_init 15 = .ok (.newarray .int, 2) := by decide +kernel
theorem dX0_init_17 : decode cX0_init 17 = .ok (.putfield 13, 3) := by decide +kernel
theorem dX0_init_20 : decode cX0_init 20 = .ok (.aload_n 0, 1) := by decide +kernel
theorem dX0_init_21 : decode cX0_init 21 = .ok (.bipush 10, 2) := by decide +kernel
theorem dX0_init_23 : decode cX0_init 23 = .ok (.newarray .int, 2) := by decide +kernel
theorem dX0_init_25 : decode cX0_init 25 = .ok (.putfield 16, 3) := by decide +kernel
theorem dX0_init_28 : decode cX0_init 28 = .ok (.aload_n 0, 1) := by decide +kernel
theorem dX0_init_29 : decode cX0_init 29 = .ok (.bipush 10, 2) := by decide +kernel
theorem dX0_init_31 : decode cX0_init 31 = .ok (.newarray .int, 2) := by decide +kernel
theorem dX0_init_33 : decode cX0_init 33 = .ok (.putfield 19, 3) := by decide +kernel
theorem dX0_init_36 : decode cX0_init 36 = .ok (.return_, 1) := by decide +kernel
theorem dX0_takeFrom_0 : decode cX0_takeFrom 0 = .ok (.aload_n 0, 1) := by decide +kernel
theorem dX0_takeFrom_1 : decode cX0_takeFrom 1 = .ok (.aload_n 1, 1) := by decide +kernel
theorem dX0_takeFrom_2 : decode cX0_takeFrom 2 = .ok (.getfield 22, 3) := by decide +kernel
theorem dX0_takeFrom_5 : decode cX0_takeFrom 5 = .ok (.putfield 22, 3) := by decide +kernel
theorem dX0_takeFrom_8 : decode cX0_takeFrom 8 = .ok (.aload_n 0, 1) := by decide +kernel
theorem dX0_takeFrom_9 : decode cX0_takeFrom 9 = .ok (.aload_n 1, 1) := by decide +kernel
theorem dX0_takeFrom_10 : decode cX0_takeFrom 10 = .ok (.getfield 26, 3) := by decide +kernel
theorem dX0_takeFrom_13 : decode cX0_takeFrom 13 = .ok (.putfield 26, 3) := by decide +kernel
theorem dX0_takeFrom_16 : decode cX0_takeFrom 16 = .ok (.aload_n 1, 1) := by decide +kernel
theorem dX0_takeFrom_17 : decode cX0_takeFrom 17 = .ok (.getfield 9, 3) := by decide +kernel
theorem dX0_takeFrom_20 : decode cX0_takeFrom 20 = .ok (.iconst 0, 1) := by decide +kernel
theorem dX0_takeFrom_21 : decode cX0_takeFrom 21 = .ok (.aload_n 0, 1) := by decide +kernel
theorem dX0_takeFrom_22 : decode cX0_takeFrom 22 = .ok (.getfield 9, 3) := by decide +kernel
theorem dX0_takeFrom_25 : decode cX0_takeFrom 25 = .ok (.iconst 0, 1) := by decide +kernel
theorem dX0_takeFrom_26 : decode cX0_takeFrom 26 = .ok (.bipush 10, 2) := by decide +kernel
theorem dX0_takeFrom_28 : decode cX0_takeFrom 28 = .ok (.invokestatic 29, 3) := by decide +kernel
theorem dX0_takeFrom_31 : decode cX0_takeFrom 31 = .ok (.aload_n 1, 1) := by decide +kernel
theorem dX0_takeFrom_32 : decode cX0_takeFrom 32 = .ok (.getfield 13, 3) := by decide +kernel
theorem dX0_takeFrom_35 : decode cX0_takeFrom 35 = .ok (.iconst 0, 1) := by decide +kernel
theorem dX0_takeFrom_36 : decode cX0_takeFrom 36 = .ok (.aload_n 0, 1) := by decide +kernel
theorem dX0_takeFrom_37 : decode cX0_takeFrom 37 = .ok (.getfield 13, 3) := by decide +kernel
theorem dX0_takeFrom_40 : decode cX0_takeFrom 40 = .ok (.iconst 0, 1) := by decide +kernel
theorem dX0_takeFrom_41 : decode cX0_takeFrom 41 = .ok (.bipush 10, 2) := by decide +kernel
theorem dX0_takeFrom_43 : decode cX0_takeFrom 43 = .ok (.invokestatic 29, 3) := by decide +kernel
theorem dX0_takeFrom_46 : decode cX0_takeFrom 46 = .ok (.aload_n 1, 1) := by decide +kernel
theorem dX0_takeFrom_47 : decode cX0_takeFrom 47 = .ok (.getfield 16, 3) := by decide +kernel
theorem dX0_takeFrom_50 : decode cX0_takeFrom 50 = .ok (.iconst 0, 1) := by decide +kernel
theorem dX0_takeFrom_51 : decode cX0_takeFrom 51 = .ok (.aload_n 0, 1) := by decide +kernel
theorem dX0_takeFrom_52 : decode cX0_takeFrom 52 = .ok (.getfield 16, 3) := by decide +kernel
theorem dX0_takeFrom_55 : decode cX0_takeFrom 55 = .ok (.iconst 0, 1) := by decide +kernel
theorem dX0_takeFrom_56 : decode cX0_takeFrom 56 = .ok (.bipush 10, 2) := by decide +kernel
theorem dX0_takeFrom_58 : decode cX0_takeFrom 58 = .ok (.invokestatic 29, 3) := by decide +kernel
theorem dX0_takeFrom_61 : decode cX0_takeFrom 61 = .ok (.aload_n 1, 1) := by decide +kernel
theorem dX0_takeFrom_62 : decode cX0_takeFrom 62 = .ok (.getfield 19, 3) := by decide +kernel
theorem dX0_takeFrom_65 : decode cX0_takeFrom 65 = .ok (.iconst 0, 1) := by decide +kernel
theorem dX0_takeFrom_66 : decode cX0_takeFrom 66 = .ok (.aload_n 0, 1) := by decide +kernel
theorem dX0_takeFrom_67 : decode cX0_takeFrom 67 = .ok (.getfield 19, 3) := by decide +kernel
theorem dX0_takeFrom_70 : decode cX0_takeFrom 70 = .ok (.iconst 0, 1) := by decide +kernel
theorem dX0_takeFrom_71 : decode cX0_takeFrom 71 = .ok (.bipush 10, 2) := by decide +kernel
theorem dX0_takeFrom_73 : decode cX0_takeFrom 73 = .ok (.invokestatic 29, 3) := by decide +kernel
theorem dX0_takeFrom_76 : decode cX0_takeFrom 76 = .ok (.return_, 1) := by decide +kernel
theorem dX0_add_0 : decode cX0_add 0 = .ok (.aload_n 0, 1) := by decide +kernel
theorem dX0_add_1 : decode cX0_add 1 = .ok (.getfield 22, 3) := by decide +kernel
theorem dX0_add_4 : decode cX0_add 4 = .ok (.istore 5, 2) := by decide +kernel
theorem dX0_add_6 : decode cX0_add 6 = .ok (.aload_n 0, 1) := by decide +kernel
theorem dX0_add_7 : decode cX0_add 7 = .ok (.getfield 9, 3) := by decide +kernel
theorem dX0_add_10 : decode cX0_add 10 = .ok (.iload 5, 2) := by decide +kernel
theorem dX0_add_12 : decode cX0_add 12 = .ok (.iload_n 1, 1) := by decide +kernel
theorem dX0_add_13 : decode cX0_add 13 = .ok (.iastore, 1) := by decide +kernel
theorem dX0_add_14 : decode cX0_add 14 = .ok (.aload_n 0, 1) := by decide +kernel
theorem dX0_add_15 : decode cX0_add 15 = .ok (.getfield 13, 3) := by decide +kernel
theorem dX0_add_18 : decode cX0_add 18 = .ok (.iload 5, 2) := by decide +kernel
theorem dX0_add_20 : decode cX0_add 20 = .ok (.iload_n 2, 1) := by decide +kernel
theorem dX0_add_21 : decode cX0_add 21 = .ok (.iastore, 1) := by decide +kernel
theorem dX0_add_22 : decode cX0_add 22 = .ok (.aload_n 0, 1) := by decide +kernel
theorem dX0_add_23 : decode cX0_add 23 = .ok (.getfield 16, 3) := by decide +kernel
theorem dX0_add_26 : decode cX0_add 26 = .ok (.iload 5, 2) := by decide +kernel
theorem dX0_add_28 : decode cX0_add 28 = .ok (.iload_n 3, 1) := by decide +kernel
theorem dX0_add_29 : decode cX0_add 29 = .ok (.iastore, 1) := by decide +kernel
theorem dX0_add_30 : decode cX0_add 30 = .ok (.aload_n 0, 1) := by decide +kernel
theorem dX0_add_31 : decode cX0_add 31 = .ok (.getfield 19, 3) := by decide +kernel
theorem dX0_add_34 : decode cX0_add 34 = .ok (.iload 5, 2) := by decide +kernel
theorem dX0_add_36 : decode cX0_add 36 = .ok (.iload 4, 2) := by decide +kernel
theorem dX0_add_38 : decode cX0_add 38 = .ok (.iastore, 1) := by decide +kernel
theorem dX0_add_39 : decode cX0_add 39 = .ok (.aload_n 0, 1) := by decide +kernel
theorem dX0_add_40 : decode cX0_add 40 = .ok (.dup, 1) := by decide +kernel
theorem dX0_add_41 : decode cX0_add 41 = .ok (.getfield 22, 3) := by decide +kernel
theorem dX0_add_44 : decode cX0_add 44 = .ok (.iconst 1, 1) := by decide +kernel
theorem dX0_add_45 : decode cX0_add 45 = .ok (.iadd, 1) := by decide +kernel
theorem dX0_add_46 : decode cX0_add 46 = .ok (.putfield 22, 3) := by decide +kernel
theorem dX0_add_49 : decode cX0_add 49 = .ok (.iload 5, 2) := by decide +kernel
theorem dX0_add_51 : decode cX0_add 51 = .ok (.ireturn, 1) := by decide +kernel
theorem dX0_has_0 : decode cX0_has 0 = .ok (.iload_n 1, 1) := by decide +kernel
theorem dX0_has_1 : decode cX0_has 1 = .ok (.iconst 0, 1) := by decide +kernel
theorem dX0_has_2 : decode cX0_has 2 = .ok (.aload_n 0, 1) := by decide +kernel
theorem dX0_has_3 : decode cX0_has 3 = .ok (.getfield 22, 3) := by decide +kernel
theorem dX0_has_6 : decode cX0_has 6 = .ok (.iconst 1, 1) := by decide +kernel
theorem dX0_has_7 : decode cX0_has 7 = .ok (.isub, 1) := by decide +kernel
theorem dX0_has_8 : decode cX0_has 8 = .ok (.invokestatic 35, 3) := by decide +kernel
theorem dX0_has_11 : decode cX0_has 11 = .ok (.ireturn, 1) := by decide +kernel
theorem dX0_isOpen_0 : decode cX0_isOpen 0 = .ok (.aload_n 0, 1) := by decide +kernel
theorem dX0_isOpen_1 : decode cX0_isOpen 1 = .ok (.getfield 26, 3) := by decide +kernel
theorem dX0_isOpen_4 : decode cX0_isOpen 4 = .ok (.iload_n 1, 1) := by decide +kernel
theorem dX0_isOpen_5 : decode cX0_isOpen 5 = .ok (.ishr, 1) := by decide +kernel
theorem dX0_isOpen_6 : decode cX0_isOpen 6 = .ok (.iconst 1, 1) := by decide +kernel
theorem dX0_isOpen_7 : decode cX0_isOpen 7 = .ok (.iand, 1) := by decide +kernel
theorem dX0_isOpen_8 : decode cX0_isOpen 8 = .ok (.iconst 1, 1) := by decide +kernel
theorem dX0_isOpen_9 : decode cX0_isOpen 9 = .ok (.if_icmp .ne 7, 3) := by decide +kernel
theorem dX0_isOpen_12 : decode cX0_isOpen 12 = .ok (.iconst 1, 1) := by decide +kernel
theorem dX0_isOpen_13 : decode cX0_isOpen 13 = .ok (.goto 4, 3) := by decide +kernel
theorem dX0_isOpen_16 : decode cX0_isOpen 16 = .ok (.iconst 0, 1) := by decide +kernel
theorem dX0_isOpen_17 : decode cX0_isOpen 17 = .ok (.ireturn, 1) := by decide +kernel
theorem dX0_swing_0 : decode cX0_swing 0 = .ok (.aload_n 0, 1) := by decide +kernel
theorem dX0_swing_1 : decode cX0_swing 1 = .ok (.iload_n 2, 1) := by decide +kernel
theorem dX0_swing_2 : decode cX0_swing 2 = .ok (.ifCond .eq 14, 3) := by decide +kernel
theorem dX0_swing_5 : decode cX0_swing 5 = .ok (.aload_n 0, 1) := by decide +kernel
theorem dX0_swing_6 : decode cX0_swing 6 = .ok (.getfield 26, 3) := by decide +kernel
theorem dX0_swing_9 : decode cX0_swing 9 = .ok (.iconst 1, 1) := by decide +kernel
theorem dX0_swing_10 : decode cX0_swing 10 = .ok (.iload_n 1, 1) := by decide +kernel
theorem dX0_swing_11 : decode cX0_swing 11 = .ok (.ishl, 1) := by decide +kernel
theorem dX0_swing_12 : decode cX0_swing 12 = .ok (.ior, 1) := by decide +kernel
theorem dX0_swing_13 : decode cX0_swing 13 = .ok (.goto 13, 3) := by decide +kernel
theorem dX0_swing_16 : decode cX0_swing 16 = .ok (.aload_n 0, 1) := by decide +kernel
theorem dX0_swing_17 : decode cX0_swing 17 = .ok (.getfield 26, 3) := by decide +kernel
theorem dX0_swing_20 : decode cX0_swing 20 = .ok (.iconst 1, 1) := by decide +kernel
theorem dX0_swing_21 : decode cX0_swing 21 = .ok (.iload_n 1, 1) := by decide +kernel
theorem dX0_swing_22 : decode cX0_swing 22 = .ok (.ishl, 1) := by decide +kernel
theorem dX0_swing_23 : decode cX0_swing 23 = .ok (.iconst (-1), 1) := by decide +kernel
theorem dX0_swing_24 : decode cX0_swing 24 = .ok (.ixor, 1) := by decide +kernel
theorem dX0_swing_25 : decode cX0_swing 25 = .ok (.iand, 1) := by decide +kernel
theorem dX0_swing_26 : decode cX0_swing 26 = .ok (.putfield 26, 3) := by decide +kernel
theorem dX0_swing_29 : decode cX0_swing 29 = .ok (.return_, 1) := by decide +kernel
theorem dX0_openMany_0 : decode cX0_openMany 0 = .ok (.aload_n 0, 1) := by decide +kernel
theorem dX0_openMany_1 : decode cX0_openMany 1 = .ok (.getfield 26, 3) := by decide +kernel
theorem dX0_openMany_4 : decode cX0_openMany 4 = .ok (.invokestatic 41, 3) := by decide +kernel
theorem dX0_openMany_7 : decode cX0_openMany 7 = .ok (.ireturn, 1) := by decide +kernel
theorem dX1_init_0 : decode cX1_init 0 = .ok (.aload_n 0, 1) := by decide +kernel
theorem dX1_init_1 : decode cX1_init 1 = .ok (.invokespecial 3, 3) := by decide +kernel
theorem dX1_init_4 : decode cX1_init 4 = .ok (.aload_n 0, 1) := by decide +kernel
theorem dX1_init_5 : decode cX1_init 5 = .ok (.new 9, 3) := by decide +kernel
theorem dX1_init_8 : decode cX1_init 8 = .ok (.dup, 1) := by decide +kernel
theorem dX1_init_9 : decode cX1_init 9 = .ok (.invokespecial 11, 3) := by decide +kernel
theorem dX1_init_12 : decode cX1_init 12 = .ok (.putfield 12, 3) := by decide +kernel
theorem dX1_init_15 : decode cX1_init 15 = .ok (.aload_n 0, 1) := by decide +kernel
theorem dX1_init_16 : decode cX1_init 16 = .ok (.new 18, 3) := by decide +kernel
theorem dX1_init_19 : decode cX1_init 19 = .ok (.dup, 1) := by decide +kernel
theorem dX1_init_20 : decode cX1_init 20 = .ok (.invokespecial 20, 3) := by decide +kernel
theorem dX1_init_23 : decode cX1_init 23 = .ok (.putfield 21, 3) := by decide +kernel
theorem dX1_init_26 : decode cX1_init 26 = .ok (.aload_n 0, 1) := by decide +kernel
theorem dX1_init_27 : decode cX1_init 27 = .ok (.bipush 9, 2) := by decide +kernel
theorem dX1_init_29 : decode cX1_init 29 = .ok (.newarray .int, 2) := by decide +kernel
theorem dX1_init_31 : decode cX1_init 31 = .ok (.putfield 25, 3) := by decide +kernel
theorem dX1_init_34 : decode cX1_init 34 = .ok (.aload_n 0, 1) := by decide +kernel
theorem dX1_init_35 : decode cX1_init 35 = .ok (.bipush 8, 2) := by decide +kernel
theorem dX1_init_37 : decode cX1_init 37 = .ok (.newarray .int, 2) := by decide +kernel
theorem dX1_init_39 : decode cX1_init 39 = .ok (.putfield 29, 3) := by decide +kernel
theorem dX1_init_42 : decode cX1_init 42 = .ok (.aload_n 0, 1) := by decide +kernel
theorem dX1_init_43 : decode cX1_init 43 = .ok (.bipush 8, 2) := by decide +kernel
theorem dX1_init_45 : decode cX1_init 45 = .ok (.newarray .int, 2) := by decide +kernel
theorem dX1_init_47 : decode cX1_init 47 = .ok (.putfield 32, 3) := by decide +kernel
theorem dX1_init_50 : decode cX1_init 50 = .ok (.aload_n 0, 1) := by decide +kernel
theorem dX1_init_51 : decode cX1_init 51 = .ok (.iconst 1, 1) := by decide +kernel
theorem dX1_init_52 : decode cX1_init 52 = .ok (.putfield 35, 3) := by decide +kernel
theorem dX1_init_55 : decode cX1_init 55 = .ok (.aload_n 0, 1) := by decide +kernel
theorem dX1_init_56 : decode cX1_init 56 = .ok (.bipush 10, 2) := by decide +kernel
theorem dX1_init_58 : decode cX1_init 58 = .ok (.newarray .int, 2) := by decide +kernel
theorem dX1_init_60 : decode cX1_init 60 = .ok (.putfield 39, 3) := by decide +kernel
theorem dX1_init_63 : decode cX1_init 63 = .ok (.aload_n 0, 1) := by decide +kernel
theorem dX1_init_64 : decode cX1_init 64 = .ok (.bipush 9, 2) := by decide +kernel
theorem dX1_init_66 : decode cX1_init 66 = .ok (.newarray .int, 2) := by decide +kernel
theorem dX1_init_68 : decode cX1_init 68 = .ok (.putfield 42, 3) := by decide +kernel
theorem dX1_init_71 : decode cX1_init 71 = .ok (.aload_n 0, 1) := by decide +kernel
theorem dX1_init_72 : decode cX1_init 72 = .ok (.bipush 8, 2) := by decide +kernel
theorem dX1_init_74 : decode cX1_init 74 = .ok (.newarray .int, 2) := by decide +kernel
theorem dX1_init_76 : decode cX1_init 76 = .ok (.putfield 45, 3) := by decide +kernel
theorem dX1_init_79 : decode cX1_init 79 = .ok (.aload_n 0, 1) := by decide +kernel
theorem dX1_init_80 : decode cX1_init 80 = .ok (.getfield 25, 3) := by decide +kernel
theorem dX1_init_83 : decode cX1_init 83 = .ok (.sipush 1000, 3) := by decide +kernel
theorem dX1_init_86 : decode cX1_init 86 = .ok (.invokestatic 48, 3) := by decide +kernel
theorem dX1_init_89 : decode cX1_init 89 = .ok (.return_, 1) := by decide +kernel
theorem dX1_takeFrom_0 : decode cX1_takeFrom 0 = .ok (.aload_n 0, 1) := by decide +kernel
theorem dX1_takeFrom_1 : decode cX1_takeFrom 1 = .ok (.getfield 12, 3) := by decide +kernel
theorem dX1_takeFrom_4 : decode cX1_takeFrom 4 = .ok (.aload_n 1, 1) := by decide +kernel
theorem dX1_takeFrom_5 : decode cX1_takeFrom 5 = .ok (.getfield 12, 3) := by decide +kernel
theorem dX1_takeFrom_8 : decode cX1_takeFrom 8 = .ok (.invokevirtual 54, 3) := by decide +kernel
theorem dX1_takeFrom_11 : decode cX1_takeFrom 11 = .ok (.aload_n 0, 1) := by decide +kernel
theorem dX1_takeFrom_12 : decode cX1_takeFrom 12 = .ok (.getfield 21, 3) := by decide +kernel
theorem dX1_takeFrom_15 : decode cX1_takeFrom 15 = .ok (.aload_n 1, 1) := by decide +kernel
theorem dX1_takeFrom_16 : decode cX1_takeFrom 16 = .ok (.getfield 21, 3) := by decide +kernel
theorem dX1_takeFrom_19 : decode cX1_takeFrom 19 = .ok (.invokevirtual 58, 3) := by decide +kernel
theorem dX1_takeFrom_22 : decode cX1_takeFrom 22 = .ok (.aload_n 0, 1) := by decide +kernel
theorem dX1_takeFrom_23 : decode cX1_takeFrom 23 = .ok (.aload_n 1, 1) := by decide +kernel
theorem dX1_takeFrom_24 : decode cX1_takeFrom 24 = .ok (.invokevirtual 61, 3) := by decide +kernel
theorem dX1_takeFrom_27 : decode cX1_takeFrom 27 = .ok (.aload_n 1, 1) := by decide +kernel
theorem dX1_takeFrom_28 : decode cX1_takeFrom 28 = .ok (.getfield 29, 3) := by decide +kernel
theorem dX1_takeFrom_31 : decode cX1_takeFrom 31 = .ok (.iconst 0, 1) := by decide +kernel
theorem dX1_takeFrom_32 : decode cX1_takeFrom 32 = .ok (.aload_n 0, 1) := by decide +kernel
theorem dX1_takeFrom_33 : decode cX1_takeFrom 33 = .ok (.getfield 29, 3) := by decide +kernel
theorem dX1_takeFrom_36 : decode cX1_takeFrom 36 = .ok (.iconst 0, 1) := by decide +kernel
theorem dX1_takeFrom_37 : decode cX1_takeFrom 37 = .ok (.bipush 8, 2) := by decide +kernel
theorem dX1_takeFrom_39 : decode cX1_takeFrom 39 = .ok (.invokestatic 65, 3) := by decide +kernel
theorem dX1_takeFrom_42 : decode cX1_takeFrom 42 = .ok (.aload_n 1, 1) := by decide +kernel
theorem dX1_takeFrom_43 : decode cX1_takeFrom 43 = .ok (.getfield 32, 3) := by decide +kernel
theorem dX1_takeFrom_46 : decode cX1_takeFrom 46 = .ok (.iconst 0, 1) := by decide +kernel
theorem dX1_takeFrom_47 : decode cX1_takeFrom 47 = .ok (.aload_n 0, 1) := by decide +kernel
theorem dX1_takeFrom_48 : decode cX1_takeFrom 48 = .ok (.getfield 32, 3) := by decide +kernel
theorem dX1_takeFrom_51 : decode cX1_takeFrom 51 = .ok (.iconst 0, 1) := by decide +kernel
theorem dX1_takeFrom_52 : decode cX1_takeFrom 52 = .ok (.bipush 8, 2) := by decide +kernel
theorem dX1_takeFrom_54 : decode cX1_takeFrom 54 = .ok (.invokestatic 65, 3) := by decide +kernel
theorem dX1_takeFrom_57 : decode cX1_takeFrom 57 = .ok (.aload_n 0, 1) := by decide +kernel
theorem dX1_takeFrom_58 : decode cX1_takeFrom 58 = .ok (.aload_n 1, 1) := by decide +kernel
theorem dX1_takeFrom_59 : decode cX1_takeFrom 59 = .ok (.getfield 71, 3) := by decide +kernel
theorem dX1_takeFrom_62 : decode cX1_takeFrom 62 = .ok (.putfield 71, 3) := by decide +kernel
theorem dX1_takeFrom_65 : decode cX1_takeFrom 65 = .ok (.aload_n 0, 1) := by decide +kernel
theorem dX1_takeFrom_66 : decode cX1_takeFrom 66 = .ok (.aload_n 1, 1) := by decide +kernel
theorem dX1_takeFrom_67 : decode cX1_takeFrom 67 = .ok (.getfield 74, 3) := by decide +kernel
theorem dX1_takeFrom_70 : decode cX1_takeFrom 70 = .ok (.putfield 74, 3) := by decide +kernel
theorem dX1_takeFrom_73 : decode cX1_takeFrom 73 = .ok (.aload_n 0, 1) := by decide +kernel
theorem dX1_takeFrom_74 : decode cX1_takeFrom 74 = .ok (.aload_n 1, 1) := by decide +kernel
theorem dX1_takeFrom_75 : decode cX1_takeFrom 75 = .ok (.getfield 77, 3) := by decide +kernel
theorem dX1_takeFrom_78 : decode cX1_takeFrom 78 = .ok (.putfield 77, 3) := by decide +kernel
theorem dX1_takeFrom_81 : decode cX1_takeFrom 81 = .ok (.aload_n 0, 1) := by decide +kernel
theorem dX1_takeFrom_82 : decode cX1_takeFrom 82 = .ok (.aload_n 1, 1) := by decide +kernel
theorem dX1_takeFrom_83 : decode cX1_takeFrom 83 = .ok (.getfield 35, 3) := by decide +kernel
theorem dX1_takeFrom_86 : decode cX1_takeFrom 86 = .ok (.putfield 35, 3) := by decide +kernel
theorem dX1_takeFrom_89 : decode cX1_takeFrom 89 = .ok (.return_, 1) := by decide +kernel
theorem dX1_takeAirFrom_0 : decode cX1_takeAirFrom 0 = .ok (.aload_n 1, 1) := by decide +kernel
theorem dX1_takeAirFrom_1 : decode cX1_takeAirFrom 1 = .ok (.getfield 25, 3) := by decide +kernel
theorem dX1_takeAirFrom_4 : decode cX1_takeAirFrom 4 = .ok (.iconst 0, 1) := by decide +kernel
theorem dX1_takeAirFrom_5 : decode cX1_takeAirFrom 5 = .ok (.aload_n 0, 1) := by decide +kernel
theorem dX1_takeAirFrom_6 : decode cX1_takeAirFrom 6 = .ok (.getfield 25, 3) := by decide +kernel
theorem dX1_takeAirFrom_9 : decode cX1_takeAirFrom 9 = .ok (.iconst 0, 1) := by decide +kernel
theorem dX1_takeAirFrom_10 : decode cX1_takeAirFrom 10 = .ok (.bipush 9, 2) := by decide +kernel
theorem dX1_takeAirFrom_12 : decode cX1_takeAirFrom 12 = .ok (.invokestatic 65, 3) := by decide +kernel
theorem dX1_takeAirFrom_15 : decode cX1_takeAirFrom 15 = .ok (.return_, 1) := by decide +kernel
theorem dX1_isLit_0 : decode cX1_isLit 0 = .ok (.aload_n 0, 1) := by decide +kernel
theorem dX1_isLit_1 : decode cX1_isLit 1 = .ok (.getfield 71, 3) := by decide +kernel
theorem dX1_isLit_4 : decode cX1_isLit 4 = .ok (.iload_n 1, 1) := by decide +kernel
theorem dX1_isLit_5 : decode cX1_isLit 5 = .ok (.ishr, 1) := by decide +kernel
theorem dX1_isLit_6 : decode cX1_isLit 6 = .ok (.iconst 1, 1) := by decide +kernel
theorem dX1_isLit_7 : decode cX1_isLit 7 = .ok (.iand, 1) := by decide +kernel
theorem dX1_isLit_8 : decode cX1_isLit 8 = .ok (.iconst 1, 1) := by decide +kernel
theorem dX1_isLit_9 : decode cX1_isLit 9 = .ok (.if_icmp .ne 7, 3) := by decide +kernel
theorem dX1_isLit_12 : decode cX1_isLit 12 = .ok (.iconst 1, 1) := by decide +kernel
theorem dX1_isLit_13 : decode cX1_isLit 13 = .ok (.goto 4, 3) := by decide +kernel
theorem dX1_isLit_16 : decode cX1_isLit 16 = .ok (.iconst 0, 1) := by decide +kernel
theorem dX1_isLit_17 : decode cX1_isLit 17 = .ok (.ireturn, 1) := by decide +kernel
theorem dX1_light_0 : decode cX1_light 0 = .ok (.aload_n 0, 1) := by decide +kernel
theorem dX1_light_1 : decode cX1_light 1 = .ok (.iload_n 2, 1) := by decide +kernel
theorem dX1_light_2 : decode cX1_light 2 = .ok (.ifCond .eq 14, 3) := by decide +kernel
theorem dX1_light_5 : decode cX1_light 5 = .ok (.aload_n 0, 1) := by decide +kernel
theorem dX1_light_6 : decode cX1_light 6 = .ok (.getfield 71, 3) := by decide +kernel
theorem dX1_light_9 : decode cX1_light 9 = .ok (.iconst 1, 1) := by decide +kernel
theorem dX1_light_10 : decode cX1_light 10 = .ok (.iload_n 1, 1) := by decide +kernel
theorem dX1_light_11 : decode cX1_light 11 = .ok (.ishl, 1) := by decide +kernel
theorem dX1_light_12 : decode cX1_light 12 = .ok (.ior, 1) := by decide +kernel
theorem dX1_light_13 : decode cX1_light 13 = .ok (.goto 13, 3) := by decide +kernel
theorem dX1_light_16 : decode cX1_light 16 = .ok (.aload_n 0, 1) := by decide +kernel
theorem dX1_light_17 : decode cX1_light 17 = .ok (.getfield 71, 3) := by decide +kernel
theorem dX1_light_20 : decode cX1_light 20 = .ok (.iconst 1, 1) := by decide +kernel
theorem dX1_light_21 : decode cX1_light 21 = .ok (.iload_n 1, 1) := by decide +kernel
theorem dX1_light_22 : decode cX1_light 22 = .ok (.ishl, 1) := by decide +kernel
theorem dX1_light_23 : decode cX1_light 23 = .ok (.iconst (-1), 1) := by decide +kernel
theorem dX1_light_24 : decode cX1_light 24 = .ok (.ixor, 1) := by decide +kernel
theorem dX1_light_25 : decode cX1_light 25 = .ok (.iand, 1) := by decide +kernel
theorem dX1_light_26 : decode cX1_light 26 = .ok (.putfield 71, 3) := by decide +kernel
theorem dX1_light_29 : decode cX1_light 29 = .ok (.return_, 1) := by decide +kernel
theorem dX1_litMany_0 : decode cX1_litMany 0 = .ok (.aload_n 0, 1) := by decide +kernel
theorem dX1_litMany_1 : decode cX1_litMany 1 = .ok (.getfield 71, 3) := by decide +kernel
theorem dX1_litMany_4 : decode cX1_litMany 4 = .ok (.invokestatic 80, 3) := by decide +kernel
theorem dX1_litMany_7 : decode cX1_litMany 7 = .ok (.ireturn, 1) := by decide +kernel
theorem dX1_airOfAll_0 : decode cX1_airOfAll 0 = .ok (.iconst 0, 1) := by decide +kernel
theorem dX1_airOfAll_1 : decode cX1_airOfAll 1 = .ok (.istore_n 1, 1) := by decide +kernel
theorem dX1_airOfAll_2 : decode cX1_airOfAll 2 = .ok (.iconst 0, 1) := by decide +kernel
theorem dX1_airOfAll_3 : decode cX1_airOfAll 3 = .ok (.istore_n 2, 1) := by decide +kernel
theorem dX1_airOfAll_4 : decode cX1_airOfAll 4 = .ok (.iload_n 2, 1) := by decide +kernel
theorem dX1_airOfAll_5 : decode cX1_airOfAll 5 = .ok (.bipush 8, 2) := by decide +kernel
theorem dX1_airOfAll_7 : decode cX1_airOfAll 7 = .ok (.if_icmp .ge 18, 3) := by decide +kernel
theorem dX1_airOfAll_10 : decode cX1_airOfAll 10 = .ok (.iload_n 1, 1) := by decide +kernel
theorem dX1_airOfAll_11 : decode cX1_airOfAll 11 = .ok (.aload_n 0, 1) := by decide +kernel
theorem dX1_airOfAll_12 : decode cX1_airOfAll 12 = .ok (.getfield 25, 3) := by decide +kernel
theorem dX1_airOfAll_15 : decode cX1_airOfAll 15 = .ok (.iload_n 2, 1) := by decide +kernel
theorem dX1_airOfAll_16 : decode cX1_airOfAll 16 = .ok (.iaload, 1) := by decide +kernel
theorem dX1_airOfAll_17 : decode cX1_airOfAll 17 = .ok (.iadd, 1) := by decide +kernel
theorem dX1_airOfAll_18 : decode cX1_airOfAll 18 = .ok (.istore_n 1, 1) := by decide +kernel
theorem dX1_airOfAll_19 : decode cX1_airOfAll 19 = .ok (.iinc 2 1, 3) := by decide +kernel
theorem dX1_airOfAll_22 : decode cX1_airOfAll 22 = .ok (.goto (-18), 3) := by decide +kernel
theorem dX1_airOfAll_25 : decode cX1_airOfAll 25 = .ok (.iload_n 1, 1) := by decide +kernel
theorem dX1_airOfAll_26 : decode cX1_airOfAll 26 = .ok (.ireturn, 1) := by decide +kernel
theorem dX1_scentOfAll_0 : decode cX1_scentOfAll 0 = .ok (.iconst 0, 1) := by decide +kernel
theorem dX1_scentOfAll_1 : decode cX1_scentOfAll 1 = .ok (.istore_n 1, 1) := by decide +kernel
theorem dX1_scentOfAll_2 : decode cX1_scentOfAll 2 = .ok (.iconst 0, 1) := by decide +kernel
theorem dX1_scentOfAll_3 : decode cX1_scentOfAll 3 = .ok (.istore_n 2, 1) := by decide +kernel
theorem dX1_scentOfAll_4 : decode cX1_scentOfAll 4 = .ok (.iload_n 2, 1) := by decide +kernel
theorem dX1_scentOfAll_5 : decode cX1_scentOfAll 5 = .ok (.bipush 8, 2) := by decide +kernel
theorem dX1_scentOfAll_7 : decode cX1_scentOfAll 7 = .ok (.if_icmp .ge 18, 3) := by decide +kernel
theorem dX1_scentOfAll_10 : decode cX1_scentOfAll 10 = .ok (.iload_n 1, 1) := by decide +kernel
theorem dX1_scentOfAll_11 : decode cX1_scentOfAll 11 = .ok (.aload_n 0, 1) := by decide +kernel
theorem dX1_scentOfAll_12 : decode cX1_scentOfAll 12 = .ok (.getfield 32, 3) := by decide +kernel
theorem dX1_scentOfAll_15 : decode cX1_scentOfAll 15 = .ok (.iload_n 2, 1) := by decide +kernel
theorem dX1_scentOfAll_16 : decode cX1_scentOfAll 16 = .ok (.iaload, 1) := by decide +kernel
theorem dX1_scentOfAll_17 : decode cX1_scentOfAll 17 = .ok (.iadd, 1) := by decide +kernel
theorem dX1_scentOfAll_18 : decode cX1_scentOfAll 18 = .ok (.istore_n 1, 1) := by decide +kernel
theorem dX1_scentOfAll_19 : decode cX1_scentOfAll 19 = .ok (.iinc 2 1, 3) := by decide +kernel
theorem dX1_scentOfAll_22 : decode cX1_scentOfAll 22 = .ok (.goto (-18), 3) := by decide +kernel
theorem dX1_scentOfAll_25 : decode cX1_scentOfAll 25 = .ok (.iload_n 1, 1) := by decide +kernel
theorem dX1_scentOfAll_26 : decode cX1_scentOfAll 26 = .ok (.ireturn, 1) := by decide +kernel
theorem dX1_minutesLeft_0 : decode cX1_minutesLeft 0 = .ok (.iconst 0, 1) := by decide +kernel
theorem dX1_minutesLeft_1 : decode cX1_minutesLeft 1 = .ok (.sipush 9999, 3) := by decide +kernel
theorem dX1_minutesLeft_4 : decode cX1_minutesLeft 4 = .ok (.aload_n 0, 1) := by decide +kernel
theorem dX1_minutesLeft_5 : decode cX1_minutesLeft 5 = .ok (.getfield 77, 3) := by decide +kernel
theorem dX1_minutesLeft_8 : decode cX1_minutesLeft 8 = .ok (.isub, 1) := by decide +kernel
theorem dX1_minutesLeft_9 : decode cX1_minutesLeft 9 = .ok (.invokestatic 86, 3) := by decide +kernel
theorem dX1_minutesLeft_12 : decode cX1_minutesLeft 12 = .ok (.ireturn, 1) := by decide +kernel
theorem dX1_letsOf_0 : decode cX1_letsOf 0 = .ok (.aload_n 0, 1) := by decide +kernel
theorem dX1_letsOf_1 : decode cX1_letsOf 1 = .ok (.getfield 21, 3) := by decide +kernel
theorem dX1_letsOf_4 : decode cX1_letsOf 4 = .ok (.aload_n 0, 1) := by decide +kernel
theorem dX1_letsOf_5 : decode cX1_letsOf 5 = .ok (.getfield 12, 3) := by decide +kernel
theorem dX1_letsOf_8 : decode cX1_letsOf 8 = .ok (.getfield 92, 3) := by decide +kernel
theorem dX1_letsOf_11 : decode cX1_letsOf 11 = .ok (.iload_n 1, 1) := by decide +kernel
theorem dX1_letsOf_12 : decode cX1_letsOf 12 = .ok (.iaload, 1) := by decide +kernel
theorem dX1_letsOf_13 : decode cX1_letsOf 13 = .ok (.aload_n 0, 1) := by decide +kernel
theorem dX1_letsOf_14 : decode cX1_letsOf 14 = .ok (.getfield 12, 3) := by decide +kernel
theorem dX1_letsOf_17 : decode cX1_letsOf 17 = .ok (.getfield 95, 3) := by decide +kernel
theorem dX1_letsOf_20 : decode cX1_letsOf 20 = .ok (.iload_n 1, 1) := by decide +kernel
theorem dX1_letsOf_21 : decode cX1_letsOf 21 = .ok (.iaload, 1) := by decide +kernel
theorem dX1_letsOf_22 : decode cX1_letsOf 22 = .ok (.aload_n 0, 1) := by decide +kernel
theorem dX1_letsOf_23 : decode cX1_letsOf 23 = .ok (.getfield 12, 3) := by decide +kernel
theorem dX1_letsOf_26 : decode cX1_letsOf 26 = .ok (.getfield 98, 3) := by decide +kernel
theorem dX1_letsOf_29 : decode cX1_letsOf 29 = .ok (.iload_n 1, 1) := by decide +kernel
theorem dX1_letsOf_30 : decode cX1_letsOf 30 = .ok (.ishr, 1) := by decide +kernel
theorem dX1_letsOf_31 : decode cX1_letsOf 31 = .ok (.iconst 1, 1) := by decide +kernel
theorem dX1_letsOf_32 : decode cX1_letsOf 32 = .ok (.iand, 1) := by decide +kernel
theorem dX1_letsOf_33 : decode cX1_letsOf 33 = .ok (.invokevirtual 101, 3) := by decide +kernel
theorem dX1_letsOf_36 : decode cX1_letsOf 36 = .ok (.ireturn, 1) := by decide +kernel
theorem dX1_flowOf_0 : decode cX1_flowOf 0 = .ok (.aload_n 0, 1) := by decide +kernel
theorem dX1_flowOf_1 : decode cX1_flowOf 1 = .ok (.getfield 25, 3) := by decide +kernel
theorem dX1_flowOf_4 : decode cX1_flowOf 4 = .ok (.aload_n 0, 1) := by decide +kernel
theorem dX1_flowOf_5 : decode cX1_flowOf 5 = .ok (.getfield 12, 3) := by decide +kernel
theorem dX1_flowOf_8 : decode cX1_flowOf 8 = .ok (.getfield 105, 3) := by decide +kernel
theorem dX1_flowOf_11 : decode cX1_flowOf 11 = .ok (.iload_n 1, 1) := by decide +kernel
theorem dX1_flowOf_12 : decode cX1_flowOf 12 = .ok (.iaload, 1) := by decide +kernel
theorem dX1_flowOf_13 : decode cX1_flowOf 13 = .ok (.iaload, 1) := by decide +kernel
theorem dX1_flowOf_14 : decode cX1_flowOf 14 = .ok (.aload_n 0, 1) := by decide +kernel
theorem dX1_flowOf_15 : decode cX1_flowOf 15 = .ok (.getfield 25, 3) := by decide +kernel
theorem dX1_flowOf_18 : decode cX1_flowOf 18 = .ok (.aload_n 0, 1) := by decide +kernel
theorem dX1_flowOf_19 : decode cX1_flowOf 19 = .ok (.getfield 12, 3) := by decide +kernel
theorem dX1_flowOf_22 : decode cX1_flowOf 22 = .ok (.getfield 108, 3) := by decide +kernel
theorem dX1_flowOf_25 : decode cX1_flowOf 25 = .ok (.iload_n 1, 1) := by decide +kernel
theorem dX1_flowOf_26 : decode cX1_flowOf 26 = .ok (.iaload, 1) := by decide +kernel
theorem dX1_flowOf_27 : decode cX1_flowOf 27 = .ok (.iaload, 1) := by decide +kernel
theorem dX1_flowOf_28 : decode cX1_flowOf 28 = .ok (.isub, 1) := by decide +kernel
theorem dX1_flowOf_29 : decode cX1_flowOf 29 = .ok (.aload_n 0, 1) := by decide +kernel
theorem dX1_flowOf_30 : decode cX1_flowOf 30 = .ok (.iload_n 1, 1) := by decide +kernel
theorem dX1_flowOf_31 : decode cX1_flowOf 31 = .ok (.invokevirtual 111, 3) := by decide +kernel
theorem dX1_flowOf_34 : decode cX1_flowOf 34 = .ok (.imul, 1) := by decide +kernel
theorem dX1_flowOf_35 : decode cX1_flowOf 35 = .ok (.sipush 1000, 3) := by decide +kernel
theorem dX1_flowOf_38 : decode cX1_flowOf 38 = .ok (.idiv, 1) := by decide +kernel
theorem dX1_flowOf_39 : decode cX1_flowOf 39 = .ok (.ireturn, 1) := by decide +kernel
theorem dX1_draughtOf_0 : decode cX1_draughtOf 0 = .ok (.aload_n 0, 1) := by decide +kernel
theorem dX1_draughtOf_1 : decode cX1_draughtOf 1 = .ok (.invokevirtual 113, 3) := by decide +kernel
theorem dX1_draughtOf_4 : decode cX1_draughtOf 4 = .ok (.aload_n 0, 1) := by decide +kernel
theorem dX1_draughtOf_5 : decode cX1_draughtOf 5 = .ok (.getfield 42, 3) := by decide +kernel
theorem dX1_draughtOf_8 : decode cX1_draughtOf 8 = .ok (.iload_n 1, 1) := by decide +kernel
theorem dX1_draughtOf_9 : decode cX1_draughtOf 9 = .ok (.iaload, 1) := by decide +kernel
theorem dX1_draughtOf_10 : decode cX1_draughtOf 10 = .ok (.ireturn, 1) := by decide +kernel
theorem dX1_measureFlows_0 : decode cX1_measureFlows 0 = .ok (.aload_n 0, 1) := by decide +kernel
theorem dX1_measureFlows_1 : decode cX1_measureFlows 1 = .ok (.getfield 42, 3) := by decide +kernel
theorem dX1_measureFlows_4 : decode cX1_measureFlows 4 = .ok (.iconst 0, 1) := by decide +kernel
theorem dX1_measureFlows_5 : decode cX1_measureFlows 5 = .ok (.invokestatic 48, 3) := by decide +kernel
theorem dX1_measureFlows_8 : decode cX1_measureFlows 8 = .ok (.iconst 0, 1) := by decide +kernel
theorem dX1_measureFlows_9 : decode cX1_measureFlows 9 = .ok (.istore_n 1, 1) := by decide +kernel
theorem dX1_measureFlows_10 : decode cX1_measureFlows 10 = .ok (.iload_n 1, 1) := by decide +kernel
theorem dX1_measureFlows_11 : decode cX1_measureFlows 11 = .ok (.aload_n 0, 1) := by decide +kernel
theorem dX1_measureFlows_12 : decode cX1_measureFlows 12 = .ok (.getfield 12, 3) := by decide +kernel
theorem dX1_measureFlows_15 : decode cX1_measureFlows 15 = .ok (.getfield 116, 3) := by decide +kernel
theorem dX1_measureFlows_18 : decode cX1_measureFlows 18 = .ok (.if_icmp .ge 66, 3) := by decide +kernel
theorem dX1_measureFlows_21 : decode cX1_measureFlows 21 = .ok (.aload_n 0, 1) := by decide +kernel
theorem dX1_measureFlows_22 : decode cX1_measureFlows 22 = .ok (.getfield 39, 3) := by decide +kernel
theorem dX1_measureFlows_25 : decode cX1_measureFlows 25 = .ok (.iload_n 1, 1) := by decide +kernel
theorem dX1_measureFlows_26 : decode cX1_measureFlows 26 = .ok (.aload_n 0, 1) := by decide +kernel
theorem dX1_measureFlows_27 : decode cX1_measureFlows 27 = .ok (.iload_n 1, 1) := by decide +kernel
theorem dX1_measureFlows_28 : decode cX1_measureFlows 28 = .ok (.invokevirtual 119, 3) := by decide +kernel
theorem dX1_measureFlows_31 : decode cX1_measureFlows 31 = .ok (.iastore, 1) := by decide +kernel
theorem dX1_measureFlows_32 : decode cX1_measureFlows 32 = .ok (.aload_n 0, 1) := by decide +kernel
theorem dX1_measureFlows_33 : decode cX1_measureFlows 33 = .ok (.getfield 39, 3) := by decide +kernel
theorem dX1_measureFlows_36 : decode cX1_measureFlows 36 = .ok (.iload_n 1, 1) := by decide +kernel
theorem dX1_measureFlows_37 : decode cX1_measureFlows 37 = .ok (.iaload, 1) := by decide +kernel
theorem dX1_measureFlows_38 : decode cX1_measureFlows 38 = .ok (.invokestatic 122, 3) := by decide +kernel
theorem dX1_measureFlows_41 : decode cX1_measureFlows 41 = .ok (.istore_n 2, 1) := by decide +kernel
theorem dX1_measureFlows_42 : decode cX1_measureFlows 42 = .ok (.aload_n 0, 1) := by decide +kernel
theorem dX1_measureFlows_43 : decode cX1_measureFlows 43 = .ok (.getfield 42, 3) := by decide +kernel
theorem dX1_measureFlows_46 : decode cX1_measureFlows 46 = .ok (.aload_n 0, 1) := by decide +kernel
theorem dX1_measureFlows_47 : decode cX1_measureFlows 47 = .ok (.getfield 12, 3) := by decide +kernel
theorem dX1_measureFlows_50 : decode cX1_measureFlows 50 = .ok (.getfield 105, 3) := by decide +kernel
theorem dX1_measureFlows_53 : decode cX1_measureFlows 53 = .ok (.iload_n 1, 1) := by decide +kernel
theorem dX1_measureFlows_54 : decode cX1_measureFlows 54 = .ok (.iaload, 1) := by decide +kernel
theorem dX1_measureFlows_55 : decode cX1_measureFlows 55 = .ok (.dup2, 1) := by decide +kernel
theorem dX1_measureFlows_56 : decode cX1_measureFlows 56 = .ok (.iaload, 1) := by decide +kernel
theorem dX1_measureFlows_57 : decode cX1_measureFlows 57 = .ok (.iload_n 2, 1) := by decide +kernel
theorem dX1_measureFlows_58 : decode cX1_measureFlows 58 = .ok (.iadd, 1) := by decide +kernel
theorem dX1_measureFlows_59 : decode cX1_measureFlows 59 = .ok (.iastore, 1) := by decide +kernel
theorem dX1_measureFlows_60 : decode cX1_measureFlows 60 = .ok (.aload_n 0, 1) := by decide +kernel
theorem dX1_measureFlows_61 : decode cX1_measureFlows 61 = .ok (.getfield 42, 3) := by decide +kernel
theorem dX1_measureFlows_64 : decode cX1_measureFlows 64 = .ok (.aload_n 0, 1) := by decide +kernel
theorem dX1_measureFlows_65 : decode cX1_measureFlows 65 = .ok (.getfield 12, 3) := by decide +kernel
theorem dX1_measureFlows_68 : decode cX1_measureFlows 68 = .ok (.getfield 108, 3) := by decide +kernel
theorem dX1_measureFlows_71 : decode cX1_measureFlows 71 = .ok (.iload_n 1, 1) := by decide +kernel
theorem dX1_measureFlows_72 : decode cX1_measureFlows 72 = .ok (.iaload, 1) := by decide +kernel
theorem dX1_measureFlows_73 : decode cX1_measureFlows 73 = .ok (.dup2, 1) := by decide +kernel
theorem dX1_measureFlows_74 : decode cX1_measureFlows 74 = .ok (.iaload, 1) := by decide +kernel
theorem dX1_measureFlows_75 : decode cX1_measureFlows 75 = .ok (.iload_n 2, 1) := by decide +kernel
theorem dX1_measureFlows_76 : decode cX1_measureFlows 76 = .ok (.iadd, 1) := by decide +kernel
theorem dX1_measureFlows_77 : decode cX1_measureFlows 77 = .ok (.iastore, 1) := by decide +kernel
theorem dX1_measureFlows_78 : decode cX1_measureFlows 78 = .ok (.iinc 1 1, 3) := by decide +kernel
theorem dX1_measureFlows_81 : decode cX1_measureFlows 81 = .ok (.goto (-71), 3) := by decide +kernel
theorem dX1_measureFlows_84 : decode cX1_measureFlows 84 = .ok (.return_, 1) := by decide +kernel
theorem dX1_flowsAreNought_0 : decode cX1_flowsAreNought 0 = .ok (.iconst 0, 1) := by decide +kernel
theorem dX1_flowsAreNought_1 : decode cX1_flowsAreNought 1 = .ok (.istore_n 1, 1) := by decide +kernel
theorem dX1_flowsAreNought_2 : decode cX1_flowsAreNought 2 = .ok (.iload_n 1, 1) := by decide +kernel
theorem dX1_flowsAreNought_3 : decode cX1_flowsAreNought 3 = .ok (.aload_n 0, 1) := by decide +kernel
theorem dX1_flowsAreNought_4 : decode cX1_flowsAreNought 4 = .ok (.getfield 12, 3) := by decide +kernel
theorem dX1_flowsAreNought_7 : decode cX1_flowsAreNought 7 = .ok (.getfield 116, 3) := by decide +kernel
theorem dX1_flowsAreNought_10 : decode cX1_flowsAreNought 10 = .ok (.if_icmp .ge 20, 3) := by decide +kernel
theorem dX1_flowsAreNought_13 : decode cX1_flowsAreNought 13 = .ok (.aload_n 0, 1) := by decide +kernel
theorem dX1_flowsAreNought_14 : decode cX1_flowsAreNought 14 = .ok (.getfield 39, 3) := by decide +kernel
theorem dX1_flowsAreNought_17 : decode cX1_flowsAreNought 17 = .ok (.iload_n 1, 1) := by decide +kernel
theorem dX1_flowsAreNought_18 : decode cX1_flowsAreNought 18 = .ok (.iaload, 1) := by decide +kernel
theorem dX1_flowsAreNought_19 : decode cX1_flowsAreNought 19 = .ok (.ifCond .eq 5, 3) := by decide +kernel
theorem dX1_flowsAreNought_22 : decode cX1_flowsAreNought 22 = .ok (.iconst 0, 1) := by decide +kernel
theorem dX1_flowsAreNought_23 : decode cX1_flowsAreNought 23 = .ok (.ireturn, 1) := by decide +kernel
theorem dX1_flowsAreNought_24 : decode cX1_flowsAreNought 24 = .ok (.iinc 1 1, 3) := by decide +kernel
theorem dX1_flowsAreNought_27 : decode cX1_flowsAreNought 27 = .ok (.goto (-25), 3) := by decide +kernel
theorem dX1_flowsAreNought_30 : decode cX1_flowsAreNought 30 = .ok (.iconst 1, 1) := by decide +kernel
theorem dX1_flowsAreNought_31 : decode cX1_flowsAreNought 31 = .ok (.ireturn, 1) := by decide +kernel
theorem dX1_carryScent_0 : decode cX1_carryScent 0 = .ok (.aload_n 0, 1) := by decide +kernel
theorem dX1_carryScent_1 : decode cX1_carryScent 1 = .ok (.getfield 32, 3) := by decide +kernel
theorem dX1_carryScent_4 : decode cX1_carryScent 4 = .ok (.iconst 0, 1) := by decide +kernel
theorem dX1_carryScent_5 : decode cX1_carryScent 5 = .ok (.aload_n 0, 1) := by decide +kernel
theorem dX1_carryScent_6 : decode cX1_carryScent 6 = .ok (.getfield 45, 3) := by decide +kernel
theorem dX1_carryScent_9 : decode cX1_carryScent 9 = .ok (.iconst 0, 1) := by decide +kernel
theorem dX1_carryScent_10 : decode cX1_carryScent 10 = .ok (.bipush 8, 2) := by decide +kernel
theorem dX1_carryScent_12 : decode cX1_carryScent 12 = .ok (.invokestatic 65, 3) := by decide +kernel
theorem dX1_carryScent_15 : decode cX1_carryScent 15 = .ok (.iconst 0, 1) := by decide +kernel
theorem dX1_carryScent_16 : decode cX1_carryScent 16 = .ok (.istore_n 1, 1) := by decide +kernel
theorem dX1_carryScent_17 : decode cX1_carryScent 17 = .ok (.iload_n 1, 1) := by decide +kernel
theorem dX1_carryScent_18 : decode cX1_carryScent 18 = .ok (.aload_n 0, 1) := by decide +kernel
theorem dX1_carryScent_19 : decode cX1_carryScent 19 = .ok (.getfield 12, 3) := by decide +kernel
theorem dX1_carryScent_22 : decode cX1_carryScent 22 = .ok (.getfield 116, 3) := by decide +kernel
theorem dX1_carryScent_25 : decode cX1_carryScent 25 = .ok (.if_icmp .ge 169, 3) := by decide +kernel
theorem dX1_carryScent_28 : decode cX1_carryScent 28 = .ok (.aload_n 0, 1) := by decide +kernel
theorem dX1_carryScent_29 : decode cX1_carryScent 29 = .ok (.getfield 39, 3) := by decide +kernel
theorem dX1_carryScent_32 : decode cX1_carryScent 32 = .ok (.iload_n 1, 1) := by decide +kernel
theorem dX1_carryScent_33 : decode cX1_carryScent 33 = .ok (.iaload, 1) := by decide +kernel
theorem dX1_carryScent_34 : decode cX1_carryScent 34 = .ok (.ifCond .le 7, 3) := by decide +kernel
theorem dX1_carryScent_37 : decode cX1_carryScent 37 = .ok (.iconst 1, 1) := by decide +kernel
theorem dX1_carryScent_38 : decode cX1_carryScent 38 = .ok (.goto 4, 3) := by decide +kernel
theorem dX1_carryScent_41 : decode cX1_carryScent 41 = .ok (.iconst 0, 1) := by decide +kernel
theorem dX1_carryScent_42 : decode cX1_carryScent 42 = .ok (.istore_n 2, 1) := by decide +kernel
theorem dX1_carryScent_43 : decode cX1_carryScent 43 = .ok (.iload_n 2, 1) := by decide +kernel
theorem dX1_carryScent_44 : decode cX1_carryScent 44 = .ok (.ifCond .eq 15, 3) := by decide +kernel
theorem dX1_carryScent_47 : decode cX1_carryScent 47 = .ok (.aload_n 0, 1) := by decide +kernel
theorem dX1_carryScent_48 : decode cX1_carryScent 48 = .ok (.getfield 12, 3) := by decide +kernel
theorem dX1_carryScent_51 : decode cX1_carryScent 51 = .ok (.getfield 105, 3) := by decide +kernel
theorem dX1_carryScent_54 : decode cX1_carryScent 54 = .ok (.iload_n 1, 1) := by decide +kernel
theorem dX1_carryScent_55 : decode cX1_carryScent 55 = .ok (.iaload, 1) := by decide +kernel
theorem dX1_carryScent_56 : decode cX1_carryScent 56 = .ok (.goto 12, 3) := by decide +kernel
theorem dX1_carryScent_59 : decode cX1_carryScent 59 = .ok (.aload_n 0, 1) := by decide +kernel
theorem dX1_carryScent_60 : decode cX1_carryScent 60 = .ok (.getfield 12, 3) := by decide +kernel
theorem dX1_carryScent_63 : decode cX1_carryScent 63 = .ok (.getfield 108, 3) := by decide +kernel
theorem dX1_carryScent_66 : decode cX1_carryScent 66 = .ok (.iload_n 1, 1) := by decide +kernel
theorem dX1_carryScent_67 : decode cX1_carryScent 67 = .ok (.iaload, 1) := by decide +kernel
theorem dX1_carryScent_68 : decode cX1_carryScent 68 = .ok (.istore_n 3, 1) := by decide +kernel
theorem dX1_carryScent_69 : decode cX1_carryScent 69 = .ok (.iload_n 2, 1) := by decide +kernel
theorem dX1_carryScent_70 : decode cX1_carryScent 70 = .ok (.ifCond .eq 15, 3) := by decide +kernel
theorem dX1_carryScent_73 : decode cX1_carryScent 73 = .ok (.aload_n 0, 1) := by decide +kernel
theorem dX1_carryScent_74 : decode cX1_carryScent 74 = .ok (.getfield 12, 3) := by decide +kernel
theorem dX1_carryScent_77 : decode cX1_carryScent 77 = .ok (.getfield 108, 3) := by decide +kernel
theorem dX1_carryScent_80 : decode cX1_carryScent 80 = .ok (.iload_n 1, 1) := by decide +kernel
theorem dX1_carryScent_81 : decode cX1_carryScent 81 = .ok (.iaload, 1) := by decide +kernel
theorem dX1_carryScent_82 : decode cX1_carryScent 82 = .ok (.goto 12, 3) := by decide +kernel
theorem dX1_carryScent_85 : decode cX1_carryScent 85 = .ok (.aload_n 0, 1) := by decide +kernel
theorem dX1_carryScent_86 : decode cX1_carryScent 86 = .ok (.getfield 12, 3) := by decide +kernel
theorem dX1_carryScent_89 : decode cX1_carryScent 89 = .ok (.getfield 105, 3) := by decide +kernel
theorem dX1_carryScent_92 : decode cX1_carryScent 92 = .ok (.iload_n 1, 1) := by decide +kernel
theorem dX1_carryScent_93 : decode cX1_carryScent 93 = .ok (.iaload, 1) := by decide +kernel
theorem dX1_carryScent_94 : decode cX1_carryScent 94 = .ok (.istore 4, 2) := by decide +kernel
theorem dX1_carryScent_96 : decode cX1_carryScent 96 = .ok (.aload_n 0, 1) := by decide +kernel
theorem dX1_carryScent_97 : decode cX1_carryScent 97 = .ok (.getfield 39, 3) := by decide +kernel
theorem dX1_carryScent_100 : decode cX1_carryScent 100 = .ok (.iload_n 1, 1) := by decide +kernel
theorem dX1_carryScent_101 : decode cX1_carryScent 101 = .ok (.iaload, 1) := by decide +kernel
theorem dX1_carryScent_102 : decode cX1_carryScent 102 = .ok (.ifCond .eq 86, 3) := by decide +kernel
theorem dX1_carryScent_105 : decode cX1_carryScent 105 = .ok (.iload_n 3, 1) := by decide +kernel
theorem dX1_carryScent_106 : decode cX1_carryScent 106 = .ok (.bipush 8, 2) := by decide +kernel
theorem dX1_carryScent_108 : decode cX1_carryScent 108 = .ok (.if_icmp .eq 80, 3) := by decide +kernel
theorem dX1_carryScent_111 : decode cX1_carryScent 111 = .ok (.aload_n 0, 1) := by decide +kernel
theorem dX1_carryScent_112 : decode cX1_carryScent 112 = .ok (.getfield 45, 3) := by decide +kernel
theorem dX1_carryScent_115 : decode cX1_carryScent 115 = .ok (.iload_n 3, 1) := by decide +kernel
theorem dX1_carryScent_116 : decode cX1_carryScent 116 = .ok (.iaload, 1) := by decide +kernel
theorem dX1_carryScent_117 : decode cX1_carryScent 117 = .ok (.i2l, 1) := by decide +kernel
theorem dX1_carryScent_118 : decode cX1_carryScent 118 = .ok (.aload_n 0, 1) := by decide +kernel
theorem dX1_carryScent_119 : decode cX1_carryScent 119 = .ok (.getfield 39, 3) := by decide +kernel
theorem dX1_carryScent_122 : decode cX1_carryScent 122 = .ok (.iload_n 1, 1) := by decide +kernel
theorem dX1_carryScent_123 : decode cX1_carryScent 123 = .ok (.iaload, 1) := by decide +kernel
theorem dX1_carryScent_124 : decode cX1_carryScent 124 = .ok (.invokestatic 122, 3) := by decide +kernel
theorem dX1_carryScent_127 : decode cX1_carryScent 127 = .ok (.i2l, 1) := by decide +kernel
theorem dX1_carryScent_128 : decode cX1_carryScent 128 = .ok (.lmul, 1) := by decide +kernel
theorem dX1_carryScent_129 : decode cX1_carryScent 129 = .ok (.iconst 1, 1) := by decide +kernel
theorem dX1_carryScent_130 : decode cX1_carryScent 130 = .ok (.aload_n 0, 1) := by decide +kernel
theorem dX1_carryScent_131 : decode cX1_carryScent 131 = .ok (.getfield 25, 3) := by decide +kernel
theorem dX1_carryScent_134 : decode cX1_carryScent 134 = .ok (.iload_n 3, 1) := by decide +kernel
theorem dX1_carryScent_135 : decode cX1_carryScent 135 = .ok (.iaload, 1) := by decide +kernel
theorem dX1_carryScent_136 : decode cX1_carryScent 136 = .ok (.invokestatic 86, 3) := by decide +kernel
theorem dX1_carryScent_139 : decode cX1_carryScent 139 = .ok (.i2l, 1) := by decide +kernel
theorem dX1_carryScent_140 : decode cX1_carryScent 140 = .ok (.ldiv, 1) := by decide +kernel
theorem dX1_carryScent_141 : decode cX1_carryScent 141 = .ok (.lstore 5, 2) := by decide +kernel
theorem dX1_carryScent_143 : decode cX1_carryScent 143 = .ok (.lload 5, 2) := by decide +kernel
theorem dX1_carryScent_145 : decode cX1_carryScent 145 = .ok (.aload_n 0, 1) := by decide +kernel
theorem dX1_carryScent_146 : decode cX1_carryScent 146 = .ok (.getfield 32, 3) := by decide +kernel
theorem dX1_carryScent_149 : decode cX1_carryScent 149 = .ok (.iload_n 3, 1) := by decide +kernel
theorem dX1_carryScent_150 : decode cX1_carryScent 150 = .ok (.iaload, 1) := by decide +kernel
theorem dX1_carryScent_151 : decode cX1_carryScent 151 = .ok (.i2l, 1) := by decide +kernel
theorem dX1_carryScent_152 : decode cX1_carryScent 152 = .ok (.invokestatic 125, 3) := by decide +kernel
theorem dX1_carryScent_155 : decode cX1_carryScent 155 = .ok (.l2i, 1) := by decide +kernel
theorem dX1_carryScent_156 : decode cX1_carryScent 156 = .ok (.istore 7, 2) := by decide +kernel
theorem dX1_carryScent_158 : decode cX1_carryScent 158 = .ok (.aload_n 0, 1) := by decide +kernel
theorem dX1_carryScent_159 : decode cX1_carryScent 159 = .ok (.getfield 32, 3) := by decide +kernel
theorem dX1_carryScent_162 : decode cX1_carryScent 162 = .ok (.iload_n 3, 1) := by decide +kernel
theorem dX1_carryScent_163 : decode cX1_carryScent 163 = .ok (.dup2, 1) := by decide +kernel
theorem dX1_carryScent_164 : decode cX1_carryScent 164 = .ok (.iaload, 1) := by decide +kernel
theorem dX1_carryScent_165 : decode cX1_carryScent 165 = .ok (.iload 7, 2) := by decide +kernel
theorem dX1_carryScent_167 : decode cX1_carryScent 167 = .ok (.isub, 1) := by decide +kernel
theorem dX1_carryScent_168 : decode cX1_carryScent 168 = .ok (.iastore, 1) := by decide +kernel
theorem dX1_carryScent_169 : decode cX1_carryScent 169 = .ok (.iload 4, 2) := by decide +kernel
theorem dX1_carryScent_171 : decode cX1_carryScent 171 = .ok (.bipush 8, 2) := by decide +kernel
theorem dX1_carryScent_173 : decode cX1_carryScent 173 = .ok (.if_icmp .eq 15, 3) := by decide +kernel
theorem dX1_carryScent_176 : decode cX1_carryScent 176 = .ok (.aload_n 0, 1) := by decide +kernel
theorem dX1_carryScent_177 : decode cX1_carryScent 177 = .ok (.getfield 32, 3) := by decide +kernel
theorem dX1_carryScent_180 : decode cX1_carryScent 180 = .ok (.iload 4, 2) := by decide +kernel
theorem dX1_carryScent_182 : decode cX1_carryScent 182 = .ok (.dup2, 1) := by decide +kernel
theorem dX1_carryScent_183 : decode cX1_carryScent 183 = .ok (.iaload, 1) := by decide +kernel
theorem dX1_carryScent_184 : decode cX1_carryScent 184 = .ok (.iload 7, 2) := by decide +kernel
theorem dX1_carryScent_186 : decode cX1_carryScent 186 = .ok (.iadd, 1) := by decide +kernel
theorem dX1_carryScent_187 : decode cX1_carryScent 187 = .ok (.iastore, 1) := by decide +kernel
theorem dX1_carryScent_188 : decode cX1_carryScent 188 = .ok (.iinc 1 1, 3) := by decide +kernel
theorem dX1_carryScent_191 : decode cX1_carryScent 191 = .ok (.goto (-174), 3) := by decide +kernel
theorem dX1_carryScent_194 : decode cX1_carryScent 194 = .ok (.return_, 1) := by decide +kernel
theorem dX1_moveAir_0 : decode cX1_moveAir 0 = .ok (.iconst 0, 1) := by decide +kernel
theorem dX1_moveAir_1 : decode cX1_moveAir 1 = .ok (.istore_n 1, 1) := by decide +kernel
theorem dX1_moveAir_2 : decode cX1_moveAir 2 = .ok (.iload_n 1, 1) := by decide +kernel
theorem dX1_moveAir_3 : decode cX1_moveAir 3 = .ok (.aload_n 0, 1) := by decide +kernel
theorem dX1_moveAir_4 : decode cX1_moveAir 4 = .ok (.getfield 12, 3) := by decide +kernel
theorem dX1_moveAir_7 : decode cX1_moveAir 7 = .ok (.getfield 116, 3) := by decide +kernel
theorem dX1_moveAir_10 : decode cX1_moveAir 10 = .ok (.if_icmp .ge 87, 3) := by decide +kernel
theorem dX1_moveAir_13 : decode cX1_moveAir 13 = .ok (.aload_n 0, 1) := by decide +kernel
theorem dX1_moveAir_14 : decode cX1_moveAir 14 = .ok (.getfield 25, 3) := by decide +kernel
theorem dX1_moveAir_17 : decode cX1_moveAir 17 = .ok (.aload_n 0, 1) := by decide +kernel
theorem dX1_moveAir_18 : decode cX1_moveAir 18 = .ok (.getfield 12, 3) := by decide +kernel
theorem dX1_moveAir_21 : decode cX1_moveAir 21 = .ok (.getfield 105, 3) := by decide +kernel
theorem dX1_moveAir_24 : decode cX1_moveAir 24 = .ok (.iload_n 1, 1) := by decide +kernel
theorem dX1_moveAir_25 : decode cX1_moveAir 25 = .ok (.iaload, 1) := by decide +kernel
theorem dX1_moveAir_26 : decode cX1_moveAir 26 = .ok (.dup2, 1) := by decide +kernel
theorem dX1_moveAir_27 : decode cX1_moveAir 27 = .ok (.iaload, 1) := by decide +kernel
theorem dX1_moveAir_28 : decode cX1_moveAir 28 = .ok (.aload_n 0, 1) := by decide +kernel
theorem dX1_moveAir_29 : decode cX1_moveAir 29 = .ok (.getfield 39, 3) := by decide +kernel
theorem dX1_moveAir_32 : decode cX1_moveAir 32 = .ok (.iload_n 1, 1) := by decide +kernel
theorem dX1_moveAir_33 : decode cX1_moveAir 33 = .ok (.iaload, 1) := by decide +kernel
theorem dX1_moveAir_34 : decode cX1_moveAir 34 = .ok (.isub, 1) := by decide +kernel
theorem dX1_moveAir_35 : decode cX1_moveAir 35 = .ok (.iastore, 1) := by decide +kernel
theorem dX1_moveAir_36 : decode cX1_moveAir 36 = .ok (.aload_n 0, 1) := by decide +kernel
theorem dX1_moveAir_37 : decode cX1_moveAir 37 = .ok (.getfield 12, 3) := by decide +kernel
theorem dX1_moveAir_40 : decode cX1_moveAir 40 = .ok (.getfield 108, 3) := by decide +kernel
theorem dX1_moveAir_43 : decode cX1_moveAir 43 = .ok (.iload_n 1, 1) := by decide +kernel
theorem dX1_moveAir_44 : decode cX1_moveAir 44 = .ok (.iaload, 1) := by decide +kernel
theorem dX1_moveAir_45 : decode cX1_moveAir 45 = .ok (.bipush 8, 2) := by decide +kernel
theorem dX1_moveAir_47 : decode cX1_moveAir 47 = .ok (.if_icmp .ne 21, 3) := by decide +kernel
theorem dX1_moveAir_50 : decode cX1_moveAir 50 = .ok (.aload_n 0, 1) := by decide +kernel
theorem dX1_moveAir_51 : decode cX1_moveAir 51 = .ok (.dup, 1) := by decide +kernel
theorem dX1_moveAir_52 : decode cX1_moveAir 52 = .ok (.getfield 74, 3) := by decide +kernel
theorem dX1_moveAir_55 : decode cX1_moveAir 55 = .ok (.aload_n 0, 1) := by decide +kernel
theorem dX1_moveAir_56 : decode cX1_moveAir 56 = .ok (.getfield 39, 3) := by decide +kernel
theorem dX1_moveAir_59 : decode cX1_moveAir 59 = .ok (.iload_n 1, 1) := by decide +kernel
theorem dX1_moveAir_60 : decode cX1_moveAir 60 = .ok (.iaload, 1) := by decide +kernel
theorem dX1_moveAir_61 : decode cX1_moveAir 61 = .ok (.iadd, 1) := by decide +kernel
theorem dX1_moveAir_62 : decode cX1_moveAir 62 = .ok (.putfield 74, 3) := by decide +kernel
theorem dX1_moveAir_65 : decode cX1_moveAir 65 = .ok (.goto 26, 3) := by decide +kernel
theorem dX1_moveAir_68 : decode cX1_moveAir 68 = .ok (.aload_n 0, 1) := by decide +kernel
theorem dX1_moveAir_69 : decode cX1_moveAir 69 = .ok (.getfield 25, 3) := by decide +kernel
theorem dX1_moveAir_72 : decode cX1_moveAir 72 = .ok (.aload_n 0, 1) := by decide +kernel
theorem dX1_moveAir_73 : decode cX1_moveAir 73 = .ok (.getfield 12, 3) := by decide +kernel
theorem dX1_moveAir_76 : decode cX1_moveAir 76 = .ok (.getfield 108, 3) := by decide +kernel
theorem dX1_moveAir_79 : decode cX1_moveAir 79 = .ok (.iload_n 1, 1) := by decide +kernel
theorem dX1_moveAir_80 : decode cX1_moveAir 80 = .ok (.iaload, 1) := by decide +kernel
theorem dX1_moveAir_81 : decode cX1_moveAir 81 = .ok (.dup2, 1) := by decide +kernel
theorem dX1_moveAir_82 : decode cX1_moveAir 82 = .ok (.iaload, 1) := by decide +kernel
theorem dX1_moveAir_83 : decode cX1_moveAir 83 = .ok (.aload_n 0, 1) := by decide +kernel
theorem dX1_moveAir_84 : decode cX1_moveAir 84 = .ok (.getfield 39, 3) := by decide +kernel
theorem dX1_moveAir_87 : decode cX1_moveAir 87 = .ok (.iload_n 1, 1) := by decide +kernel
theorem dX1_moveAir_88 : decode cX1_moveAir 88 = .ok (.iaload, 1) := by decide +kernel
theorem dX1_moveAir_89 : decode cX1_moveAir 89 = .ok (.iadd, 1) := by decide +kernel
theorem dX1_moveAir_90 : decode cX1_moveAir 90 = .ok (.iastore, 1) := by decide +kernel
theorem dX1_moveAir_91 : decode cX1_moveAir 91 = .ok (.iinc 1 1, 3) := by decide +kernel
theorem dX1_moveAir_94 : decode cX1_moveAir 94 = .ok (.goto (-92), 3) := by decide +kernel
theorem dX1_moveAir_97 : decode cX1_moveAir 97 = .ok (.iconst 0, 1) := by decide +kernel
theorem dX1_moveAir_98 : decode cX1_moveAir 98 = .ok (.istore_n 1, 1) := by decide +kernel
theorem dX1_moveAir_99 : decode cX1_moveAir 99 = .ok (.iload_n 1, 1) := by decide +kernel
theorem dX1_moveAir_100 : decode cX1_moveAir 100 = .ok (.bipush 8, 2) := by decide +kernel
theorem dX1_moveAir_102 : decode cX1_moveAir 102 = .ok (.if_icmp .ge 32, 3) := by decide +kernel
theorem dX1_moveAir_105 : decode cX1_moveAir 105 = .ok (.aload_n 0, 1) := by decide +kernel
theorem dX1_moveAir_106 : decode cX1_moveAir 106 = .ok (.getfield 25, 3) := by decide +kernel
theorem dX1_moveAir_109 : decode cX1_moveAir 109 = .ok (.iload_n 1, 1) := by decide +kernel
theorem dX1_moveAir_110 : decode cX1_moveAir 110 = .ok (.iconst 0, 1) := by decide +kernel
theorem dX1_moveAir_111 : decode cX1_moveAir 111 = .ok (.aload_n 0, 1) := by decide +kernel
theorem dX1_moveAir_112 : decode cX1_moveAir 112 = .ok (.getfield 25, 3) := by decide +kernel
theorem dX1_moveAir_115 : decode cX1_moveAir 115 = .ok (.iload_n 1, 1) := by decide +kernel
theorem dX1_moveAir_116 : decode cX1_moveAir 116 = .ok (.iaload, 1) := by decide +kernel
theorem dX1_moveAir_117 : decode cX1_moveAir 117 = .ok (.aload_n 0, 1) := by decide +kernel
theorem dX1_moveAir_118 : decode cX1_moveAir 118 = .ok (.getfield 29, 3) := by decide +kernel
theorem dX1_moveAir_121 : decode cX1_moveAir 121 = .ok (.iload_n 1, 1) := by decide +kernel
theorem dX1_moveAir_122 : decode cX1_moveAir 122 = .ok (.iaload, 1) := by decide +kernel
theorem dX1_moveAir_123 : decode cX1_moveAir 123 = .ok (.isub, 1) := by decide +kernel
theorem dX1_moveAir_124 : decode cX1_moveAir 124 = .ok (.invokestatic 86, 3) := by decide +kernel
theorem dX1_moveAir_127 : decode cX1_moveAir 127 = .ok (.iastore, 1) := by decide +kernel
theorem dX1_moveAir_128 : decode cX1_moveAir 128 = .ok (.iinc 1 1, 3) := by decide +kernel
theorem dX1_moveAir_131 : decode cX1_moveAir 131 = .ok (.goto (-32), 3) := by decide +kernel
theorem dX1_moveAir_134 : decode cX1_moveAir 134 = .ok (.return_, 1) := by decide +kernel
theorem dX1_snuffCandles_0 : decode cX1_snuffCandles 0 = .ok (.iconst 0, 1) := by decide +kernel
theorem dX1_snuffCandles_1 : decode cX1_snuffCandles 1 = .ok (.istore_n 1, 1) := by decide +kernel
theorem dX1_snuffCandles_2 : decode cX1_snuffCandles 2 = .ok (.iload_n 1, 1) := by decide +kernel
theorem dX1_snuffCandles_3 : decode cX1_snuffCandles 3 = .ok (.bipush 8, 2) := by decide +kernel
theorem dX1_snuffCandles_5 : decode cX1_snuffCandles 5 = .ok (.if_icmp .ge 63, 3) := by decide +kernel
theorem dX1_snuffCandles_8 : decode cX1_snuffCandles 8 = .ok (.aload_n 0, 1) := by decide +kernel
theorem dX1_snuffCandles_9 : decode cX1_snuffCandles 9 = .ok (.iload_n 1, 1) := by decide +kernel
theorem dX1_snuffCandles_10 : decode cX1_snuffCandles 10 = .ok (.invokevirtual 129, 3) := by decide +kernel
theorem dX1_snuffCandles_13 : decode cX1_snuffCandles 13 = .ok (.ifCond .eq 49, 3) := by decide +kernel
theorem dX1_snuffCandles_16 : decode cX1_snuffCandles 16 = .ok (.aload_n 0, 1) := by decide +kernel
theorem dX1_snuffCandles_17 : decode cX1_snuffCandles 17 = .ok (.getfield 21, 3) := by decide +kernel
theorem dX1_snuffCandles_20 : decode cX1_snuffCandles 20 = .ok (.iconst 1, 1) := by decide +kernel
theorem dX1_snuffCandles_21 : decode cX1_snuffCandles 21 = .ok (.aload_n 0, 1) := by decide +kernel
theorem dX1_snuffCandles_22 : decode cX1_snuffCandles 22 = .ok (.getfield 29, 3) := by decide +kernel
theorem dX1_snuffCandles_25 : decode cX1_snuffCandles 25 = .ok (.iload_n 1, 1) := by decide +kernel
theorem dX1_snuffCandles_26 : decode cX1_snuffCandles 26 = .ok (.iaload, 1) := by decide +kernel
theorem dX1_snuffCandles_27 : decode cX1_snuffCandles 27 = .ok (.aload_n 0, 1) := by decide +kernel
theorem dX1_snuffCandles_28 : decode cX1_snuffCandles 28 = .ok (.getfield 32, 3) := by decide +kernel
theorem dX1_snuffCandles_31 : decode cX1_snuffCandles 31 = .ok (.iload_n 1, 1) := by decide +kernel
theorem dX1_snuffCandles_32 : decode cX1_snuffCandles 32 = .ok (.iaload, 1) := by decide +kernel
theorem dX1_snuffCandles_33 : decode cX1_snuffCandles 33 = .ok (.bipush 20, 2) := by decide +kernel
theorem dX1_snuffCandles_35 : decode cX1_snuffCandles 35 = .ok (.invokevirtual 133, 3) := by decide +kernel
theorem dX1_snuffCandles_38 : decode cX1_snuffCandles 38 = .ok (.istore_n 2, 1) := by decide +kernel
theorem dX1_snuffCandles_39 : decode cX1_snuffCandles 39 = .ok (.aload_n 0, 1) := by decide +kernel
theorem dX1_snuffCandles_40 : decode cX1_snuffCandles 40 = .ok (.getfield 42, 3) := by decide +kernel
theorem dX1_snuffCandles_43 : decode cX1_snuffCandles 43 = .ok (.iload_n 1, 1) := by decide +kernel
theorem dX1_snuffCandles_44 : decode cX1_snuffCandles 44 = .ok (.iaload, 1) := by decide +kernel
theorem dX1_snuffCandles_45 : decode cX1_snuffCandles 45 = .ok (.iload_n 2, 1) := by decide +kernel
theorem dX1_snuffCandles_46 : decode cX1_snuffCandles 46 = .ok (.iconst 0, 1) := by decide +kernel
theorem dX1_snuffCandles_47 : decode cX1_snuffCandles 47 = .ok (.sipush 999, 3) := by decide +kernel
theorem dX1_snuffCandles_50 : decode cX1_snuffCandles 50 = .ok (.invokestatic 137, 3) := by decide +kernel
theorem dX1_snuffCandles_53 : decode cX1_snuffCandles 53 = .ok (.if_icmp .le 9, 3) := by decide +kernel
theorem dX1_snuffCandles_56 : decode cX1_snuffCandles 56 = .ok (.aload_n 0, 1) := by decide +kernel
theorem dX1_snuffCandles_57 : decode cX1_snuffCandles 57 = .ok (.iload_n 1, 1) := by decide +kernel
theorem dX1_snuffCandles_58 : decode cX1_snuffCandles 58 = .ok (.iconst 0, 1) := by decide +kernel
theorem dX1_snuffCandles_59 : decode cX1_snuffCandles 59 = .ok (.invokevirtual 140, 3) := by decide +kernel
theorem dX1_snuffCandles_62 : decode cX1_snuffCandles 62 = .ok (.iinc 1 1, 3) := by decide +kernel
theorem dX1_snuffCandles_65 : decode cX1_snuffCandles 65 = .ok (.goto (-63), 3) := by decide +kernel
theorem dX1_snuffCandles_68 : decode cX1_snuffCandles 68 = .ok (.return_, 1) := by decide +kernel
theorem dX1_passMinute_0 : decode cX1_passMinute 0 = .ok (.aload_n 0, 1) := by decide +kernel
theorem dX1_passMinute_1 : decode cX1_passMinute 1 = .ok (.invokevirtual 113, 3) := by decide +kernel
theorem dX1_passMinute_4 : decode cX1_passMinute 4 = .ok (.aload_n 0, 1) := by decide +kernel
theorem dX1_passMinute_5 : decode cX1_passMinute 5 = .ok (.invokevirtual 144, 3) := by decide +kernel
theorem dX1_passMinute_8 : decode cX1_passMinute 8 = .ok (.aload_n 0, 1) := by decide +kernel
theorem dX1_passMinute_9 : decode cX1_passMinute 9 = .ok (.invokevirtual 147, 3) := by decide +kernel
theorem dX1_passMinute_12 : decode cX1_passMinute 12 = .ok (.aload_n 0, 1) := by decide +kernel
theorem dX1_passMinute_13 : decode cX1_passMinute 13 = .ok (.invokevirtual 150, 3) := by decide +kernel
theorem dX1_passMinute_16 : decode cX1_passMinute 16 = .ok (.aload_n 0, 1) := by decide +kernel
theorem dX1_passMinute_17 : decode cX1_passMinute 17 = .ok (.dup, 1) := by decide +kernel
theorem dX1_passMinute_18 : decode cX1_passMinute 18 = .ok (.getfield 77, 3) := by decide +kernel
theorem dX1_passMinute_21 : decode cX1_passMinute 21 = .ok (.iconst 1, 1) := by decide +kernel
theorem dX1_passMinute_22 : decode cX1_passMinute 22 = .ok (.iadd, 1) := by decide +kernel
theorem dX1_passMinute_23 : decode cX1_passMinute 23 = .ok (.putfield 77, 3) := by decide +kernel
theorem dX1_passMinute_26 : decode cX1_passMinute 26 = .ok (.return_, 1) := by decide +kernel
theorem dX1_draw_0 : decode cX1_draw 0 = .ok (.aload_n 0, 1) := by decide +kernel
theorem dX1_draw_1 : decode cX1_draw 1 = .ok (.aload_n 0, 1) := by decide +kernel
theorem dX1_draw_2 : decode cX1_draw 2 = .ok (.getfield 35, 3) := by decide +kernel
theorem dX1_draw_5 : decode cX1_draw 5 = .ok (.ldc 153, 2) := by decide +kernel
theorem dX1_draw_7 : decode cX1_draw 7 = .ok (.imul, 1) := by decide +kernel
theorem dX1_draw_8 : decode cX1_draw 8 = .ok (.sipush 12345, 3) := by decide +kernel
theorem dX1_draw_11 : decode cX1_draw 11 = .ok (.iadd, 1) := by decide +kernel
theorem dX1_draw_12 : decode cX1_draw 12 = .ok (.putfield 35, 3) := by decide +kernel
theorem dX1_draw_15 : decode cX1_draw 15 = .ok (.aload_n 0, 1) := by decide +kernel
theorem dX1_draw_16 : decode cX1_draw 16 = .ok (.getfield 35, 3) := by decide +kernel
theorem dX1_draw_19 : decode cX1_draw 19 = .ok (.bipush 8, 2) := by decide +kernel
theorem dX1_draw_21 : decode cX1_draw 21 = .ok (.iushr, 1) := by decide +kernel
theorem dX1_draw_22 : decode cX1_draw 22 = .ok (.ireturn, 1) := by decide +kernel
theorem dX1_drawDoor_0 : decode cX1_drawDoor 0 = .ok (.aload_n 0, 1) := by decide +kernel
theorem dX1_drawDoor_1 : decode cX1_drawDoor 1 = .ok (.invokevirtual 154, 3) := by decide +kernel
theorem dX1_drawDoor_4 : decode cX1_drawDoor 4 = .ok (.bipush 6, 2) := by decide +kernel
theorem dX1_drawDoor_6 : decode cX1_drawDoor 6 = .ok (.irem, 1) := by decide +kernel
theorem dX1_drawDoor_7 : decode cX1_drawDoor 7 = .ok (.istore_n 1, 1) := by decide +kernel
theorem dX1_drawDoor_8 : decode cX1_drawDoor 8 = .ok (.aload_n 0, 1) := by decide +kernel
theorem dX1_drawDoor_9 : decode cX1_drawDoor 9 = .ok (.invokevirtual 154, 3) := by decide +kernel
theorem dX1_drawDoor_12 : decode cX1_drawDoor 12 = .ok (.bipush 8, 2) := by decide +kernel
theorem dX1_drawDoor_14 : decode cX1_drawDoor 14 = .ok (.irem, 1) := by decide +kernel
theorem dX1_drawDoor_15 : decode cX1_drawDoor 15 = .ok (.istore_n 2, 1) := by decide +kernel
theorem dX1_drawDoor_16 : decode cX1_drawDoor 16 = .ok (.iload_n 2, 1) := by decide +kernel
theorem dX1_drawDoor_17 : decode cX1_drawDoor 17 = .ok (.iconst 1, 1) := by decide +kernel
theorem dX1_drawDoor_18 : decode cX1_drawDoor 18 = .ok (.iadd, 1) := by decide +kernel
theorem dX1_drawDoor_19 : decode cX1_drawDoor 19 = .ok (.aload_n 0, 1) := by decide +kernel
theorem dX1_drawDoor_20 : decode cX1_drawDoor 20 = .ok (.invokevirtual 154, 3) := by decide +kernel
theorem dX1_drawDoor_23 : decode cX1_drawDoor 23 = .ok (.bipush 8, 2) := by decide +kernel
theorem dX1_drawDoor_25 : decode cX1_drawDoor 25 = .ok (.irem, 1) := by decide +kernel
theorem dX1_drawDoor_26 : decode cX1_drawDoor 26 = .ok (.iadd, 1) := by decide +kernel
theorem dX1_drawDoor_27 : decode cX1_drawDoor 27 = .ok (.bipush 9, 2) := by decide +kernel
theorem dX1_drawDoor_29 : decode cX1_drawDoor 29 = .ok (.irem, 1) := by decide +kernel
theorem dX1_drawDoor_30 : decode cX1_drawDoor 30 = .ok (.istore_n 3, 1) := by decide +kernel
theorem dX1_drawDoor_31 : decode cX1_drawDoor 31 = .ok (.iconst 1, 1) := by decide +kernel
theorem dX1_drawDoor_32 : decode cX1_drawDoor 32 = .ok (.aload_n 0, 1) := by decide +kernel
theorem dX1_drawDoor_33 : decode cX1_drawDoor 33 = .ok (.invokevirtual 154, 3) := by decide +kernel
theorem dX1_drawDoor_36 : decode cX1_drawDoor 36 = .ok (.bipush 9, 2) := by decide +kernel
theorem dX1_drawDoor_38 : decode cX1_drawDoor 38 = .ok (.irem, 1) := by decide +kernel
theorem dX1_drawDoor_39 : decode cX1_drawDoor 39 = .ok (.iadd, 1) := by decide +kernel
theorem dX1_drawDoor_40 : decode cX1_drawDoor 40 = .ok (.istore 4, 2) := by decide +kernel
theorem dX1_drawDoor_42 : decode cX1_drawDoor 42 = .ok (.aload_n 0, 1) := by decide +kernel
theorem dX1_drawDoor_43 : decode cX1_drawDoor 43 = .ok (.getfield 12, 3) := by decide +kernel
theorem dX1_drawDoor_46 : decode cX1_drawDoor 46 = .ok (.aload_n 0, 1) := by decide +kernel
theorem dX1_drawDoor_47 : decode cX1_drawDoor 47 = .ok (.getfield 12, 3) := by decide +kernel
theorem dX1_drawDoor_50 : decode cX1_drawDoor 50 = .ok (.iload_n 1, 1) := by decide +kernel
theorem dX1_drawDoor_51 : decode cX1_drawDoor 51 = .ok (.iload_n 2, 1) := by decide +kernel
theorem dX1_drawDoor_52 : decode cX1_drawDoor 52 = .ok (.iload_n 3, 1) := by decide +kernel
theorem dX1_drawDoor_53 : decode cX1_drawDoor 53 = .ok (.iload 4, 2) := by decide +kernel
theorem dX1_drawDoor_55 : decode cX1_drawDoor 55 = .ok (.invokevirtual 160, 3) := by decide +kernel
theorem dX1_drawDoor_58 : decode cX1_drawDoor 58 = .ok (.iconst 1, 1) := by decide +kernel
theorem dX1_drawDoor_59 : decode cX1_drawDoor 59 = .ok (.invokevirtual 163, 3) := by decide +kernel
theorem dX1_drawDoor_62 : decode cX1_drawDoor 62 = .ok (.return_, 1) := by decide +kernel
theorem dX1_goRound_0 : decode cX1_goRound 0 = .ok (.iconst 0, 1) := by decide +kernel
theorem dX1_goRound_1 : decode cX1_goRound 1 = .ok (.istore_n 2, 1) := by decide +kernel
theorem dX1_goRound_2 : decode cX1_goRound 2 = .ok (.iload_n 2, 1) := by decide +kernel
theorem dX1_goRound_3 : decode cX1_goRound 3 = .ok (.aload_n 0, 1) := by decide +kernel
theorem dX1_goRound_4 : decode cX1_goRound 4 = .ok (.getfield 12, 3) := by decide +kernel
theorem dX1_goRound_7 : decode cX1_goRound 7 = .ok (.getfield 116, 3) := by decide +kernel
theorem dX1_goRound_10 : decode cX1_goRound 10 = .ok (.if_icmp .ge 29, 3) := by decide +kernel
theorem dX1_goRound_13 : decode cX1_goRound 13 = .ok (.aload_n 0, 1) := by decide +kernel
theorem dX1_goRound_14 : decode cX1_goRound 14 = .ok (.invokevirtual 154, 3) := by decide +kernel
theorem dX1_goRound_17 : decode cX1_goRound 17 = .ok (.bipush 100, 2) := by decide +kernel
theorem dX1_goRound_19 : decode cX1_goRound 19 = .ok (.irem, 1) := by decide +kernel
theorem dX1_goRound_20 : decode cX1_goRound 20 = .ok (.iload_n 1, 1) := by decide +kernel
theorem dX1_goRound_21 : decode cX1_goRound 21 = .ok (.if_icmp .ge 12, 3) := by decide +kernel
theorem dX1_goRound_24 : decode cX1_goRound 24 = .ok (.aload_n 0, 1) := by decide +kernel
theorem dX1_goRound_25 : decode cX1_goRound 25 = .ok (.getfield 12, 3) := by decide +kernel
theorem dX1_goRound_28 : decode cX1_goRound 28 = .ok (.iload_n 2, 1) := by decide +kernel
theorem dX1_goRound_29 : decode cX1_goRound 29 = .ok (.iconst 0, 1) := by decide +kernel
theorem dX1_goRound_30 : decode cX1_goRound 30 = .ok (.invokevirtual 163, 3) := by decide +kernel
theorem dX1_goRound_33 : decode cX1_goRound 33 = .ok (.iinc 2 1, 3) := by decide +kernel
theorem dX1_goRound_36 : decode cX1_goRound 36 = .ok (.goto (-34), 3) := by decide +kernel
theorem dX1_goRound_39 : decode cX1_goRound 39 = .ok (.return_, 1) := by decide +kernel
theorem dX2_isKind_0 : decode cX2_isKind 0 = .ok (.iload_n 0, 1) := by decide +kernel
theorem dX2_isKind_1 : decode cX2_isKind 1 = .ok (.iconst 0, 1) := by decide +kernel
theorem dX2_isKind_2 : decode cX2_isKind 2 = .ok (.iconst 5, 1) := by decide +kernel
theorem dX2_isKind_3 : decode cX2_isKind 3 = .ok (.invokestatic 9, 3) := by decide +kernel
theorem dX2_isKind_6 : decode cX2_isKind 6 = .ok (.ireturn, 1) := by decide +kernel
theorem dX2_isOf_0 : decode cX2_isOf 0 = .ok (.iload_n 0, 1) := by decide +kernel
theorem dX2_isOf_1 : decode cX2_isOf 1 = .ok (.istore_n 2, 1) := by decide +kernel
theorem dX2_isOf_2 : decode cX2_isOf 2 = .ok (.iconst 0, 1) := by decide +kernel
theorem dX2_isOf_3 : decode cX2_isOf 3 = .ok (.istore_n 3, 1) := by decide +kernel
theorem dX2_isOf_4 : decode cX2_isOf 4 = .ok (.iload_n 3, 1) := by decide +kernel
theorem dX2_isOf_5 : decode cX2_isOf 5 = .ok (.bipush 6, 2) := by decide +kernel
theorem dX2_isOf_7 : decode cX2_isOf 7 = .ok (.if_icmp .ge 27, 3) := by decide +kernel
theorem dX2_isOf_10 : decode cX2_isOf 10 = .ok (.iload_n 2, 1) := by decide +kernel
theorem dX2_isOf_11 : decode cX2_isOf 11 = .ok (.iconst (-1), 1) := by decide +kernel
theorem dX2_isOf_12 : decode cX2_isOf 12 = .ok (.if_icmp .eq 22, 3) := by decide +kernel
theorem dX2_isOf_15 : decode cX2_isOf 15 = .ok (.iload_n 2, 1) := by decide +kernel
theorem dX2_isOf_16 : decode cX2_isOf 16 = .ok (.iload_n 1, 1) := by decide +kernel
theorem dX2_isOf_17 : decode cX2_isOf 17 = .ok (.if_icmp .ne 5, 3) := by decide +kernel
theorem dX2_isOf_20 : decode cX2_isOf 20 = .ok (.iconst 1, 1) := by decide +kernel
theorem dX2_isOf_21 : decode cX2_isOf 21 = .ok (.ireturn, 1) := by decide +kernel
theorem dX2_isOf_22 : decode cX2_isOf 22 = .ok (.getstatic 15, 3) := by decide +kernel
theorem dX2_isOf_25 : decode cX2_isOf 25 = .ok (.iload_n 2, 1) := by decide +kernel
theorem dX2_isOf_26 : decode cX2_isOf 26 = .ok (.iaload, 1) := by decide +kernel
theorem dX2_isOf_27 : decode cX2_isOf 27 = .ok (.istore_n 2, 1) := by decide +kernel
theorem dX2_isOf_28 : decode cX2_isOf 28 = .ok (.iinc 3 1, 3) := by decide +kernel
theorem dX2_isOf_31 : decode cX2_isOf 31 = .ok (.goto (-27), 3) := by decide +kernel
theorem dX2_isOf_34 : decode cX2_isOf 34 = .ok (.iconst 0, 1) := by decide +kernel
theorem dX2_isOf_35 : decode cX2_isOf 35 = .ok (.ireturn, 1) := by decide +kernel
theorem dX2_letsOf_0 : decode cX2_letsOf 0 = .ok (.iload_n 1, 1) := by decide +kernel
theorem dX2_letsOf_1 : decode cX2_letsOf 1 = .ok (.iconst 2, 1) := by decide +kernel
theorem dX2_letsOf_2 : decode cX2_letsOf 2 = .ok (.idiv, 1) := by decide +kernel
theorem dX2_letsOf_3 : decode cX2_letsOf 3 = .ok (.istore 4, 2) := by decide +kernel
theorem dX2_letsOf_5 : decode cX2_letsOf 5 = .ok (.iload_n 1, 1) := by decide +kernel
theorem dX2_letsOf_6 : decode cX2_letsOf 6 = .ok (.iconst 3, 1) := by decide +kernel
theorem dX2_letsOf_7 : decode cX2_letsOf 7 = .ok (.iadd, 1) := by decide +kernel
theorem dX2_letsOf_8 : decode cX2_letsOf 8 = .ok (.istore 5, 2) := by decide +kernel
theorem dX2_letsOf_10 : decode cX2_letsOf 10 = .ok (.iload_n 0, 1) := by decide +kernel
theorem dX2_letsOf_11 : decode cX2_letsOf 11 = .ok (.tableswitch 60 1 5 #[33, 47, 36, 50, 58], 33) := by decide +kernel
theorem dX2_letsOf_44 : decode cX2_letsOf 44 = .ok (.iload 4, 2) := by decide +kernel
theorem dX2_letsOf_46 : decode cX2_letsOf 46 = .ok (.ireturn, 1) := by decide +kernel
theorem dX2_letsOf_47 : decode cX2_letsOf 47 = .ok (.iload_n 3, 1) := by decide +kernel
theorem dX2_letsOf_48 : decode cX2_letsOf 48 = .ok (.ifCond .eq 8, 3) := by decide +kernel
theorem dX2_letsOf_51 : decode cX2_letsOf 51 = .ok (.iload 4, 2) := by decide +kernel
theorem dX2_letsOf_53 : decode cX2_letsOf 53 = .ok (.goto 4, 3) := by decide +kernel
theorem dX2_letsOf_56 : decode cX2_letsOf 56 = .ok (.iconst 0, 1) := by decide +kernel
theorem dX2_letsOf_57 : decode cX2_letsOf 57 = .ok (.ireturn, 1) := by decide +kernel
theorem dX2_letsOf_58 : decode cX2_letsOf 58 = .ok (.iload 5, 2) := by decide +kernel
theorem dX2_letsOf_60 : decode cX2_letsOf 60 = .ok (.ireturn, 1) := by decide +kernel
theorem dX2_letsOf_61 : decode cX2_letsOf 61 = .ok (.bipush 10, 2) := by decide +kernel
theorem dX2_letsOf_63 : decode cX2_letsOf 63 = .ok (.iload 5, 2) := by decide +kernel
theorem dX2_letsOf_65 : decode cX2_letsOf 65 = .ok (.invokestatic 19, 3) := by decide +kernel
theorem dX2_letsOf_68 : decode cX2_letsOf 68 = .ok (.ireturn, 1) := by decide +kernel
theorem dX2_letsOf_69 : decode cX2_letsOf 69 = .ok (.iload_n 2, 1) := by decide +kernel
theorem dX2_letsOf_70 : decode cX2_letsOf 70 = .ok (.ireturn, 1) := by decide +kernel
theorem dX2_letsOf_71 : decode cX2_letsOf 71 = .ok (.iload_n 1, 1) := by decide +kernel
theorem dX2_letsOf_72 : decode cX2_letsOf 72 = .ok (.ireturn, 1) := by decide +kernel
theorem dX2_worthOf_0 : decode cX2_worthOf 0 = .ok (.iload_n 1, 1) := by decide +kernel
theorem dX2_worthOf_1 : decode cX2_worthOf 1 = .ok (.bipush 20, 2) := by decide +kernel
theorem dX2_worthOf_3 : decode cX2_worthOf 3 = .ok (.iadd, 1) := by decide +kernel
theorem dX2_worthOf_4 : decode cX2_worthOf 4 = .ok (.istore_n 2, 1) := by decide +kernel
theorem dX2_worthOf_5 : decode cX2_worthOf 5 = .ok (.bipush 30, 2) := by decide +kernel
theorem dX2_worthOf_7 : decode cX2_worthOf 7 = .ok (.iload_n 1, 1) := by decide +kernel
theorem dX2_worthOf_8 : decode cX2_worthOf 8 = .ok (.isub, 1) := by decide +kernel
theorem dX2_worthOf_9 : decode cX2_worthOf 9 = .ok (.istore_n 3, 1) := by decide +kernel
theorem dX2_worthOf_10 : decode cX2_worthOf 10 = .ok (.iload_n 0, 1) := by decide +kernel
theorem dX2_worthOf_11 : decode cX2_worthOf 11 = .ok (.tableswitch 47 1 5 #[33, 39, 35, 41, 45], 33) := by decide +kernel
theorem dX2_worthOf_44 : decode cX2_worthOf 44 = .ok (.iload_n 2, 1) := by decide +kernel
theorem dX2_worthOf_45 : decode cX2_worthOf 45 = .ok (.ireturn, 1) := by decide +kernel
theorem dX2_worthOf_46 : decode cX2_worthOf 46 = .ok (.iconst 2, 1) := by decide +kernel
theorem dX2_worthOf_47 : decode cX2_worthOf 47 = .ok (.iload_n 2, 1) := by decide +kernel
theorem dX2_worthOf_48 : decode cX2_worthOf 48 = .ok (.imul, 1) := by decide +kernel
theorem dX2_worthOf_49 : decode cX2_worthOf 49 = .ok (.ireturn, 1) := by decide +kernel
theorem dX2_worthOf_50 : decode cX2_worthOf 50 = .ok (.iload_n 3, 1) := by decide +kernel
theorem dX2_worthOf_51 : decode cX2_worthOf 51 = .ok (.ireturn, 1) := by decide +kernel
theorem dX2_worthOf_52 : decode cX2_worthOf 52 = .ok (.iload_n 3, 1) := by decide +kernel
theorem dX2_worthOf_53 : decode cX2_worthOf 53 = .ok (.iconst 5, 1) := by decide +kernel
theorem dX2_worthOf_54 : decode cX2_worthOf 54 = .ok (.isub, 1) := by decide +kernel
theorem dX2_worthOf_55 : decode cX2_worthOf 55 = .ok (.ireturn, 1) := by decide +kernel
theorem dX2_worthOf_56 : decode cX2_worthOf 56 = .ok (.iconst 2, 1) := by decide +kernel
theorem dX2_worthOf_57 : decode cX2_worthOf 57 = .ok (.ireturn, 1) := by decide +kernel
theorem dX2_worthOf_58 : decode cX2_worthOf 58 = .ok (.iload_n 1, 1) := by decide +kernel
theorem dX2_worthOf_59 : decode cX2_worthOf 59 = .ok (.ireturn, 1) := by decide +kernel
theorem dX3_init_0 : decode cX3_init 0 = .ok (.aload_n 0, 1) := by decide +kernel
theorem dX3_init_1 : decode cX3_init 1 = .ok (.invokespecial 1, 3) := by decide +kernel
theorem dX3_init_4 : decode cX3_init 4 = .ok (.aload_n 0, 1) := by decide +kernel
theorem dX3_init_5 : decode cX3_init 5 = .ok (.iload_n 1, 1) := by decide +kernel
theorem dX3_init_6 : decode cX3_init 6 = .ok (.putfield 7, 3) := by decide +kernel
theorem dX3_init_9 : decode cX3_init 9 = .ok (.aload_n 0, 1) := by decide +kernel
theorem dX3_init_10 : decode cX3_init 10 = .ok (.iload_n 2, 1) := by decide +kernel
theorem dX3_init_11 : decode cX3_init 11 = .ok (.putfield 13, 3) := by decide +kernel
theorem dX3_init_14 : decode cX3_init 14 = .ok (.aload_n 0, 1) := by decide +kernel
theorem dX3_init_15 : decode cX3_init 15 = .ok (.aload_n 3, 1) := by decide +kernel
theorem dX3_init_16 : decode cX3_init 16 = .ok (.putfield 16, 3) := by decide +kernel
theorem dX3_init_19 : decode cX3_init 19 = .ok (.return_, 1) := by decide +kernel
theorem dX3_valueWith_0 : decode cX3_valueWith 0 = .ok (.iconst 0, 1) := by decide +kernel
theorem dX3_valueWith_1 : decode cX3_valueWith 1 = .ok (.istore 4, 2) := by decide +kernel
theorem dX3_valueWith_3 : decode cX3_valueWith 3 = .ok (.iconst 0, 1) := by decide +kernel
theorem dX3_valueWith_4 : decode cX3_valueWith 4 = .ok (.istore 5, 2) := by decide +kernel
theorem dX3_valueWith_6 : decode cX3_valueWith 6 = .ok (.iload 5, 2) := by decide +kernel
theorem dX3_valueWith_8 : decode cX3_valueWith 8 = .ok (.aload_n 0, 1) := by decide +kernel
theorem dX3_valueWith_9 : decode cX3_valueWith 9 = .ok (.getfield 16, 3) := by decide +kernel
theorem dX3_valueWith_12 : decode cX3_valueWith 12 = .ok (.arraylength, 1) := by decide +kernel
theorem dX3_valueWith_13 : decode cX3_valueWith 13 = .ok (.if_icmp .ge 113, 3) := by decide +kernel
theorem dX3_valueWith_16 : decode cX3_valueWith 16 = .ok (.aload_n 0, 1) := by decide +kernel
theorem dX3_valueWith_17 : decode cX3_valueWith 17 = .ok (.getfield 16, 3) := by decide +kernel
theorem dX3_valueWith_20 : decode cX3_valueWith 20 = .ok (.iload 5, 2) := by decide +kernel
theorem dX3_valueWith_22 : decode cX3_valueWith 22 = .ok (.iaload, 1) := by decide +kernel
theorem dX3_valueWith_23 : decode cX3_valueWith 23 = .ok (.istore 6, 2) := by decide +kernel
theorem dX3_valueWith_25 : decode cX3_valueWith 25 = .ok (.iload 6, 2) := by decide +kernel
theorem dX3_valueWith_27 : decode cX3_valueWith 27 = .ok (.bipush (-2), 2) := by decide +kernel
theorem dX3_valueWith_29 : decode cX3_valueWith 29 = .ok (.if_icmp .lt 36, 3) := by decide +kernel
theorem dX3_valueWith_32 : decode cX3_valueWith 32 = .ok (.aload_n 3, 1) := by decide +kernel
theorem dX3_valueWith_33 : decode cX3_valueWith 33 = .ok (.iload 4, 2) := by decide +kernel
theorem dX3_valueWith_35 : decode cX3_valueWith 35 = .ok (.iload 6, 2) := by decide +kernel
theorem dX3_valueWith_37 : decode cX3_valueWith 37 = .ok (.iconst (-1), 1) := by decide +kernel
theorem dX3_valueWith_38 : decode cX3_valueWith 38 = .ok (.if_icmp .ne 7, 3) := by decide +kernel
theorem dX3_valueWith_41 : decode cX3_valueWith 41 = .ok (.iload_n 1, 1) := by decide +kernel
theorem dX3_valueWith_42 : decode cX3_valueWith 42 = .ok (.goto 16, 3) := by decide +kernel
theorem dX3_valueWith_45 : decode cX3_valueWith 45 = .ok (.iload 6, 2) := by decide +kernel
theorem dX3_valueWith_47 : decode cX3_valueWith 47 = .ok (.bipush (-2), 2) := by decide +kernel
theorem dX3_valueWith_49 : decode cX3_valueWith 49 = .ok (.if_icmp .ne 7, 3) := by decide +kernel
theorem dX3_valueWith_52 : decode cX3_valueWith 52 = .ok (.iload_n 2, 1) := by decide +kernel
theorem dX3_valueWith_53 : decode cX3_valueWith 53 = .ok (.goto 5, 3) := by decide +kernel
theorem dX3_valueWith_56 : decode cX3_valueWith 56 = .ok (.iload 6, 2) := by decide +kernel
theorem dX3_valueWith_58 : decode cX3_valueWith 58 = .ok (.iastore, 1) := by decide +kernel
theorem dX3_valueWith_59 : decode cX3_valueWith 59 = .ok (.iinc 4 1, 3) := by decide +kernel
theorem dX3_valueWith_62 : decode cX3_valueWith 62 = .ok (.goto 58, 3) := by decide +kernel
theorem dX3_valueWith_65 : decode cX3_valueWith 65 = .ok (.iload 6, 2) := by decide +kernel
theorem dX3_valueWith_67 : decode cX3_valueWith 67 = .ok (.bipush (-33), 2) := by decide +kernel
theorem dX3_valueWith_69 : decode cX3_valueWith 69 = .ok (.if_icmp .ne 26, 3) := by decide +kernel
theorem dX3_valueWith_72 : decode cX3_valueWith 72 = .ok (.aload_n 3, 1) := by decide +kernel
theorem dX3_valueWith_73 : decode cX3_valueWith 73 = .ok (.iload 4, 2) := by decide +kernel
theorem dX3_valueWith_75 : decode cX3_valueWith 75 = .ok (.iconst 1, 1) := by decide +kernel
theorem dX3_valueWith_76 : decode cX3_valueWith 76 = .ok (.isub, 1) := by decide +kernel
theorem dX3_valueWith_77 : decode cX3_valueWith 77 = .ok (.aload_n 3, 1) := by decide +kernel
theorem dX3_valueWith_78 : decode cX3_valueWith 78 = .ok (.iload 4, 2) := by decide +kernel
theorem dX3_valueWith_80 : decode cX3_valueWith 80 = .ok (.iconst 1, 1) := by decide +kernel
theorem dX3_valueWith_81 : decode cX3_valueWith 81 = .ok (.isub, 1) := by decide +kernel
theorem dX3_valueWith_82 : decode cX3_valueWith 82 = .ok (.iaload, 1) := by decide +kernel
theorem dX3_valueWith_83 : decode cX3_valueWith 83 = .ok (.ifCond .ne 7, 3) := by decide +kernel
theorem dX3_valueWith_86 : decode cX3_valueWith 86 = .ok (.iconst 1, 1) := by decide +kernel
theorem dX3_valueWith_87 : decode cX3_valueWith 87 = .ok (.goto 4, 3) := by decide +kernel
theorem dX3_valueWith_90 : decode cX3_valueWith 90 = .ok (.iconst 0, 1) := by decide +kernel
theorem dX3_valueWith_91 : decode cX3_valueWith 91 = .ok (.iastore, 1) := by decide +kernel
theorem dX3_valueWith_92 : decode cX3_valueWith 92 = .ok (.goto 28, 3) := by decide +kernel
theorem dX3_valueWith_95 : decode cX3_valueWith 95 = .ok (.iinc 4 (-1), 3) := by decide +kernel
theorem dX3_valueWith_98 : decode cX3_valueWith 98 = .ok (.aload_n 3, 1) := by decide +kernel
theorem dX3_valueWith_99 : decode cX3_valueWith 99 = .ok (.iload 4, 2) := by decide +kernel
theorem dX3_valueWith_101 : decode cX3_valueWith 101 = .ok (.iconst 1, 1) := by decide +kernel
theorem dX3_valueWith_102 : decode cX3_valueWith 102 = .ok (.isub, 1) := by decide +kernel
theorem dX3_valueWith_103 : decode cX3_valueWith 103 = .ok (.iload 6, 2) := by decide +kernel
theorem dX3_valueWith_105 : decode cX3_valueWith 105 = .ok (.ineg, 1) := by decide +kernel
theorem dX3_valueWith_106 : decode cX3_valueWith 106 = .ok (.aload_n 3, 1) := by decide +kernel
theorem dX3_valueWith_107 : decode cX3_valueWith 107 = .ok (.iload 4, 2) := by decide +kernel
theorem dX3_valueWith_109 : decode cX3_valueWith 109 = .ok (.iconst 1, 1) := by decide +kernel
theorem dX3_valueWith_110 : decode cX3_valueWith 110 = .ok (.isub, 1) := by decide +kernel
theorem dX3_valueWith_111 : decode cX3_valueWith 111 = .ok (.iaload, 1) := by decide +kernel
theorem dX3_valueWith_112 : decode cX3_valueWith 112 = .ok (.aload_n 3, 1) := by decide +kernel
theorem dX3_valueWith_113 : decode cX3_valueWith 113 = .ok (.iload 4, 2) := by decide +kernel
theorem dX3_valueWith_115 : decode cX3_valueWith 115 = .ok (.iaload, 1) := by decide +kernel
theorem dX3_valueWith_116 : decode cX3_valueWith 116 = .ok (.invokestatic 20, 3) := by decide +kernel
theorem dX3_valueWith_119 : decode cX3_valueWith 119 = .ok (.iastore, 1) := by decide +kernel
theorem dX3_valueWith_120 : decode cX3_valueWith 120 = .ok (.iinc 5 1, 3) := by decide +kernel
theorem dX3_valueWith_123 : decode cX3_valueWith 123 = .ok (.goto (-117), 3) := by decide +kernel
theorem dX3_valueWith_126 : decode cX3_valueWith 126 = .ok (.aload_n 3, 1) := by decide +kernel
theorem dX3_valueWith_127 : decode cX3_valueWith 127 = .ok (.iconst 0, 1) := by decide +kernel
theorem dX3_valueWith_128 : decode cX3_valueWith 128 = .ok (.iaload, 1) := by decide +kernel
theorem dX3_valueWith_129 : decode cX3_valueWith 129 = .ok (.ireturn, 1) := by decide +kernel
theorem dX3_joined_0 : decode cX3_joined 0 = .ok (.iload_n 0, 1) := by decide +kernel
theorem dX3_joined_1 : decode cX3_joined 1 = .ok (.tableswitch 186 38 62 #[172, 186, 186, 186, 123, 115, 186, 119, 186, 127, 186, 186, 186, 186, 186, 186, 186, 186, 186, 186, 186, 186, 139, 150, 161], 115) := by decide +kernel
theorem dX3_joined_116 : decode cX3_joined 116 = .ok (.iload_n 1, 1) := by decide +kernel
theorem dX3_joined_117 : decode cX3_joined 117 = .ok (.iload_n 2, 1) := by decide +kernel
theorem dX3_joined_118 : decode cX3_joined 118 = .ok (.iadd, 1) := by decide +kernel
theorem dX3_joined_119 : decode cX3_joined 119 = .ok (.ireturn, 1) := by decide +kernel
theorem dX3_joined_120 : decode cX3_joined 120 = .ok (.iload_n 1, 1) := by decide +kernel
theorem dX3_joined_121 : decode cX3_joined 121 = .ok (.iload_n 2, 1) := by decide +kernel
theorem dX3_joined_122 : decode cX3_joined 122 = .ok (.isub, 1) := by decide +kernel
theorem dX3_joined_123 : decode cX3_joined 123 = .ok (.ireturn, 1) := by decide +kernel
theorem dX3_joined_124 : decode cX3_joined 124 = .ok (.iload_n 1, 1) := by decide +kernel
theorem dX3_joined_125 : decode cX3_joined 125 = .ok (.iload_n 2, 1) := by decide +kernel
theorem dX3_joined_126 : decode cX3_joined 126 = .ok (.imul, 1) := by decide +kernel
theorem dX3_joined_127 : decode cX3_joined 127 = .ok (.ireturn, 1) := by decide +kernel
theorem dX3_joined_128 : decode cX3_joined 128 = .ok (.iload_n 2, 1) := by decide +kernel
theorem dX3_joined_129 : decode cX3_joined 129 = .ok (.ifCond .ne 7, 3) := by decide +kernel
theorem dX3_joined_132 : decode cX3_joined 132 = .ok (.iconst 0, 1) := by decide +kernel
theorem dX3_joined_133 : decode cX3_joined 133 = .ok (.goto 6, 3) := by decide +kernel
theorem dX3_joined_136 : decode cX3_joined 136 = .ok (.iload_n 1, 1) := by decide +kernel
theorem dX3_joined_137 : decode cX3_joined 137 = .ok (.iload_n 2, 1) := by decide +kernel
theorem dX3_joined_138 : decode cX3_joined 138 = .ok (.idiv, 1) := by decide +kernel
theorem dX3_joined_139 : decode cX3_joined 139 = .ok (.ireturn, 1) := by decide +kernel
theorem dX3_joined_140 : decode cX3_joined 140 = .ok (.iload_n 1, 1) := by decide +kernel
theorem dX3_joined_141 : decode cX3_joined 141 = .ok (.iload_n 2, 1) := by decide +kernel
theorem dX3_joined_142 : decode cX3_joined 142 = .ok (.if_icmp .ge 7, 3) := by decide +kernel
theorem dX3_joined_145 : decode cX3_joined 145 = .ok (.iconst 1, 1) := by decide +kernel
theorem dX3_joined_146 : decode cX3_joined 146 = .ok (.goto 4, 3) := by decide +kernel
theorem dX3_joined_149 : decode cX3_joined 149 = .ok (.iconst 0, 1) := by decide +kernel
theorem dX3_joined_150 : decode cX3_joined 150 = .ok (.ireturn, 1) := by decide +kernel
theorem dX3_joined_151 : decode cX3_joined 151 = .ok (.iload_n 1, 1) := by decide +kernel
theorem dX3_joined_152 : decode cX3_joined 152 = .ok (.iload_n 2, 1) := by decide +kernel
theorem dX3_joined_153 : decode cX3_joined 153 = .ok (.if_icmp .ne 7, 3) := by decide +kernel
theorem dX3_joined_156 : decode cX3_joined 156 = .ok (.iconst 1, 1) := by decide +kernel
theorem dX3_joined_157 : decode cX3_joined 157 = .ok (.goto 4, 3) := by decide +kernel
theorem dX3_joined_160 : decode cX3_joined 160 = .ok (.iconst 0, 1) := by decide +kernel
theorem dX3_joined_161 : decode cX3_joined 161 = .ok (.ireturn, 1) := by decide +kernel
theorem dX3_joined_162 : decode cX3_joined 162 = .ok (.iload_n 1, 1) := by decide +kernel
theorem dX3_joined_163 : decode cX3_joined 163 = .ok (.iload_n 2, 1) := by decide +kernel
theorem dX3_joined_164 : decode cX3_joined 164 = .ok (.if_icmp .le 7, 3) := by decide +kernel
theorem dX3_joined_167 : decode cX3_joined 167 = .ok (.iconst 1, 1) := by decide +kernel
theorem dX3_joined_168 : decode cX3_joined 168 = .ok (.goto 4, 3) := by decide +kernel
theorem dX3_joined_171 : decode cX3_joined 171 = .ok (.iconst 0, 1) := by decide +kernel
theorem dX3_joined_172 : decode cX3_joined 172 = .ok (.ireturn, 1) := by decide +kernel
theorem dX3_joined_173 : decode cX3_joined 173 = .ok (.iload_n 1, 1) := by decide +kernel
theorem dX3_joined_174 : decode cX3_joined 174 = .ok (.ifCond .eq 11, 3) := by decide +kernel
theorem dX3_joined_177 : decode cX3_joined 177 = .ok (.iload_n 2, 1) := by decide +kernel
theorem dX3_joined_178 : decode cX3_joined 178 = .ok (.ifCond .eq 7, 3) := by decide +kernel
theorem dX3_joined_181 : decode cX3_joined 181 = .ok (.iconst 1, 1) := by decide +kernel
theorem dX3_joined_182 : decode cX3_joined 182 = .ok (.goto 4, 3) := by decide +kernel
theorem dX3_joined_185 : decode cX3_joined 185 = .ok (.iconst 0, 1) := by decide +kernel
theorem dX3_joined_186 : decode cX3_joined 186 = .ok (.ireturn, 1) := by decide +kernel
theorem dX3_joined_187 : decode cX3_joined 187 = .ok (.iload_n 1, 1) := by decide +kernel
theorem dX3_joined_188 : decode cX3_joined 188 = .ok (.ifCond .ne 7, 3) := by decide +kernel
theorem dX3_joined_191 : decode cX3_joined 191 = .ok (.iload_n 2, 1) := by decide +kernel
theorem dX3_joined_192 : decode cX3_joined 192 = .ok (.ifCond .eq 7, 3) := by decide +kernel
theorem dX3_joined_195 : decode cX3_joined 195 = .ok (.iconst 1, 1) := by decide +kernel
theorem dX3_joined_196 : decode cX3_joined 196 = .ok (.goto 4, 3) := by decide +kernel
theorem dX3_joined_199 : decode cX3_joined 199 = .ok (.iconst 0, 1) := by decide +kernel
theorem dX3_joined_200 : decode cX3_joined 200 = .ok (.ireturn, 1) := by decide +kernel
theorem dX5_init_0 : decode cX5_init 0 = .ok (.aload_n 0, 1) := by decide +kernel
theorem dX5_init_1 : decode cX5_init 1 = .ok (.invokespecial 9, 3) := by decide +kernel
theorem dX5_init_4 : decode cX5_init 4 = .ok (.aload_n 0, 1) := by decide +kernel
theorem dX5_init_5 : decode cX5_init 5 = .ok (.iconst 3, 1) := by decide +kernel
theorem dX5_init_6 : decode cX5_init 6 = .ok (.newarray .int, 2) := by decide +kernel
theorem dX5_init_8 : decode cX5_init 8 = .ok (.dup, 1) := by decide +kernel
theorem dX5_init_9 : decode cX5_init 9 = .ok (.iconst 0, 1) := by decide +kernel
theorem dX5_init_10 : decode cX5_init 10 = .ok (.ldc 15, 2) := by decide +kernel
theorem dX5_init_12 : decode cX5_init 12 = .ok (.iastore, 1) := by decide +kernel
theorem dX5_init_13 : decode cX5_init 13 = .ok (.dup, 1) := by decide +kernel
theorem dX5_init_14 : decode cX5_init 14 = .ok (.iconst 1, 1) := by decide +kernel
theorem dX5_init_15 : decode cX5_init 15 = .ok (.ldc 15, 2) := by decide +kernel
theorem dX5_init_17 : decode cX5_init 17 = .ok (.iastore, 1) := by decide +kernel
theorem dX5_init_18 : decode cX5_init 18 = .ok (.dup, 1) := by decide +kernel
theorem dX5_init_19 : decode cX5_init 19 = .ok (.iconst 2, 1) := by decide +kernel
theorem dX5_init_20 : decode cX5_init 20 = .ok (.ldc 15, 2) := by decide +kernel
theorem dX5_init_22 : decode cX5_init 22 = .ok (.iastore, 1) := by decide +kernel
theorem dX5_init_23 : decode cX5_init 23 = .ok (.putfield 16, 3) := by decide +kernel
theorem dX5_init_26 : decode cX5_init 26 = .ok (.aload_n 0, 1) := by decide +kernel
theorem dX5_init_27 : decode cX5_init 27 = .ok (.bipush 14, 2) := by decide +kernel
theorem dX5_init_29 : decode cX5_init 29 = .ok (.anewarray 20, 3) := by decide +kernel
theorem dX5_init_32 : decode cX5_init 32 = .ok (.putfield 22, 3) := by decide +kernel
theorem dX5_init_35 : decode cX5_init 35 = .ok (.aload_n 0, 1) := by decide +kernel
theorem dX5_init_36 : decode cX5_init 36 = .ok (.bipush 120, 2) := by decide +kernel
theorem dX5_init_38 : decode cX5_init 38 = .ok (.newarray .int, 2) := by decide +kernel
theorem dX5_init_40 : decode cX5_init 40 = .ok (.putfield 26, 3) := by decide +kernel
theorem dX5_init_43 : decode cX5_init 43 = .ok (.aload_n 0, 1) := by decide +kernel
theorem dX5_init_44 : decode cX5_init 44 = .ok (.bipush 96, 2) := by decide +kernel
theorem dX5_init_46 : decode cX5_init 46 = .ok (.newarray .int, 2) := by decide +kernel
theorem dX5_init_48 : decode cX5_init 48 = .ok (.putfield 29, 3) := by decide +kernel
theorem dX5_init_51 : decode cX5_init 51 = .ok (.aload_n 0, 1) := by decide +kernel
theorem dX5_init_52 : decode cX5_init 52 = .ok (.invokevirtual 32, 3) := by decide +kernel
theorem dX5_init_55 : decode cX5_init 55 = .ok (.return_, 1) := by decide +kernel
theorem dX5_takeFrom_0 : decode cX5_takeFrom 0 = .ok (.aload_n 0, 1) := by decide +kernel
theorem dX5_takeFrom_1 : decode cX5_takeFrom 1 = .ok (.aload_n 1, 1) := by decide +kernel
theorem dX5_takeFrom_2 : decode cX5_takeFrom 2 = .ok (.getfield 35, 3) := by decide +kernel
theorem dX5_takeFrom_5 : decode cX5_takeFrom 5 = .ok (.putfield 35, 3) := by decide +kernel
theorem dX5_takeFrom_8 : decode cX5_takeFrom 8 = .ok (.iconst 0, 1) := by decide +kernel
theorem dX5_takeFrom_9 : decode cX5_takeFrom 9 = .ok (.istore_n 2, 1) := by decide +kernel
theorem dX5_takeFrom_10 : decode cX5_takeFrom 10 = .ok (.iload_n 2, 1) := by decide +kernel
theorem dX5_takeFrom_11 : decode cX5_takeFrom 11 = .ok (.bipush 14, 2) := by decide +kernel
theorem dX5_takeFrom_13 : decode cX5_takeFrom 13 = .ok (.if_icmp .ge 21, 3) := by decide +kernel
theorem dX5_takeFrom_16 : decode cX5_takeFrom 16 = .ok (.aload_n 0, 1) := by decide +kernel
theorem dX5_takeFrom_17 : decode cX5_takeFrom 17 = .ok (.getfield 22, 3) := by decide +kernel
theorem dX5_takeFrom_20 : decode cX5_takeFrom 20 = .ok (.iload_n 2, 1) := by decide +kernel
theorem dX5_takeFrom_21 : decode cX5_takeFrom 21 = .ok (.aload_n 1, 1) := by decide +kernel
theorem dX5_takeFrom_22 : decode cX5_takeFrom 22 = .ok (.getfield 22, 3) := by decide +kernel
theorem dX5_takeFrom_25 : decode cX5_takeFrom 25 = .ok (.iload_n 2, 1) := by decide +kernel
theorem dX5_takeFrom_26 : decode cX5_takeFrom 26 = .ok (.aaload, 1) := by decide +kernel
theorem dX5_takeFrom_27 : decode cX5_takeFrom 27 = .ok (.aastore, 1) := by decide +kernel
theorem dX5_takeFrom_28 : decode cX5_takeFrom 28 = .ok (.iinc 2 1, 3) := by decide +kernel
theorem dX5_takeFrom_31 : decode cX5_takeFrom 31 = .ok (.goto (-21), 3) := by decide +kernel
theorem dX5_takeFrom_34 : decode cX5_takeFrom 34 = .ok (.aload_n 1, 1) := by decide +kernel
theorem dX5_takeFrom_35 : decode cX5_takeFrom 35 = .ok (.getfield 16, 3) := by decide +kernel
theorem dX5_takeFrom_38 : decode cX5_takeFrom 38 = .ok (.iconst 0, 1) := by decide +kernel
theorem dX5_takeFrom_39 : decode cX5_takeFrom 39 = .ok (.aload_n 0, 1) := by decide +kernel
theorem dX5_takeFrom_40 : decode cX5_takeFrom 40 = .ok (.getfield 16, 3) := by decide +kernel
theorem dX5_takeFrom_43 : decode cX5_takeFrom 43 = .ok (.iconst 0, 1) := by decide +kernel
theorem dX5_takeFrom_44 : decode cX5_takeFrom 44 = .ok (.iconst 3, 1) := by decide +kernel
theorem dX5_takeFrom_45 : decode cX5_takeFrom 45 = .ok (.invokestatic 39, 3) := by decide +kernel
theorem dX5_takeFrom_48 : decode cX5_takeFrom 48 = .ok (.aload_n 1, 1) := by decide +kernel
theorem dX5_takeFrom_49 : decode cX5_takeFrom 49 = .ok (.getfield 26, 3) := by decide +kernel
theorem dX5_takeFrom_52 : decode cX5_takeFrom 52 = .ok (.iconst 0, 1) := by decide +kernel
theorem dX5_takeFrom_53 : decode cX5_takeFrom 53 = .ok (.aload_n 0, 1) := by decide +kernel
theorem dX5_takeFrom_54 : decode cX5_takeFrom 54 = .ok (.getfield 26, 3) := by decide +kernel
theorem dX5_takeFrom_57 : decode cX5_takeFrom 57 = .ok (.iconst 0, 1) := by decide +kernel
theorem dX5_takeFrom_58 : decode cX5_takeFrom 58 = .ok (.bipush 120, 2) := by decide +kernel
theorem dX5_takeFrom_60 : decode cX5_takeFrom 60 = .ok (.invokestatic 39, 3) := by decide +kernel
theorem dX5_takeFrom_63 : decode cX5_takeFrom 63 = .ok (.return_, 1) := by decide +kernel
theorem dX5_add_0 : decode cX5_add 0 = .ok (.aload_n 0, 1) := by decide +kernel
theorem dX5_add_1 : decode cX5_add 1 = .ok (.getfield 35, 3) := by decide +kernel
theorem dX5_add_4 : decode cX5_add 4 = .ok (.istore_n 2, 1) := by decide +kernel
theorem dX5_add_5 : decode cX5_add 5 = .ok (.aload_n 0, 1) := by decide +kernel
theorem dX5_add_6 : decode cX5_add 6 = .ok (.getfield 22, 3) := by decide +kernel
theorem dX5_add_9 : decode cX5_add 9 = .ok (.iload_n 2, 1) := by decide +kernel
theorem dX5_add_10 : decode cX5_add 10 = .ok (.aload_n 1, 1) := by decide +kernel
theorem dX5_add_11 : decode cX5_add 11 = .ok (.aastore, 1) := by decide +kernel
theorem dX5_add_12 : decode cX5_add 12 = .ok (.aload_n 0, 1) := by decide +kernel
theorem dX5_add_13 : decode cX5_add 13 = .ok (.getfield 16, 3) := by decide +kernel
theorem dX5_add_16 : decode cX5_add 16 = .ok (.aload_n 1, 1) := by decide +kernel
theorem dX5_add_17 : decode cX5_add 17 = .ok (.getfield 45, 3) := by decide +kernel
theorem dX5_add_20 : decode cX5_add 20 = .ok (.iload_n 2, 1) := by decide +kernel
theorem dX5_add_21 : decode cX5_add 21 = .ok (.iastore, 1) := by decide +kernel
theorem dX5_add_22 : decode cX5_add 22 = .ok (.aload_n 0, 1) := by decide +kernel
theorem dX5_add_23 : decode cX5_add 23 = .ok (.dup, 1) := by decide +kernel
theorem dX5_add_24 : decode cX5_add 24 = .ok (.getfield 35, 3) := by decide +kernel
theorem dX5_add_27 : decode cX5_add 27 = .ok (.iconst 1, 1) := by decide +kernel
theorem dX5_add_28 : decode cX5_add 28 = .ok (.iadd, 1) := by decide +kernel
theorem dX5_add_29 : decode cX5_add 29 = .ok (.putfield 35, 3) := by decide +kernel
theorem dX5_add_32 : decode cX5_add 32 = .ok (.aload_n 1, 1) := by decide +kernel
theorem dX5_add_33 : decode cX5_add 33 = .ok (.getfield 45, 3) := by decide +kernel
theorem dX5_add_36 : decode cX5_add 36 = .ok (.ifCond .ne 7, 3) := by decide +kernel
theorem dX5_add_39 : decode cX5_add 39 = .ok (.aload_n 0, 1) := by decide +kernel
theorem dX5_add_40 : decode cX5_add 40 = .ok (.invokevirtual 32, 3) := by decide +kernel
theorem dX5_add_43 : decode cX5_add 43 = .ok (.iload_n 2, 1) := by decide +kernel
theorem dX5_add_44 : decode cX5_add 44 = .ok (.ireturn, 1) := by decide +kernel
theorem dX5_lawAt_0 : decode cX5_lawAt 0 = .ok (.iload_n 1, 1) := by decide +kernel
theorem dX5_lawAt_1 : decode cX5_lawAt 1 = .ok (.iconst 0, 1) := by decide +kernel
theorem dX5_lawAt_2 : decode cX5_lawAt 2 = .ok (.aload_n 0, 1) := by decide +kernel
theorem dX5_lawAt_3 : decode cX5_lawAt 3 = .ok (.getfield 35, 3) := by decide +kernel
theorem dX5_lawAt_6 : decode cX5_lawAt 6 = .ok (.iconst 1, 1) := by decide +kernel
theorem dX5_lawAt_7 : decode cX5_lawAt 7 = .ok (.isub, 1) := by decide +kernel
theorem dX5_lawAt_8 : decode cX5_lawAt 8 = .ok (.invokestatic 48, 3) := by decide +kernel
theorem dX5_lawAt_11 : decode cX5_lawAt 11 = .ok (.ifCond .eq 12, 3) := by decide +kernel
theorem dX5_lawAt_14 : decode cX5_lawAt 14 = .ok (.aload_n 0, 1) := by decide +kernel
theorem dX5_lawAt_15 : decode cX5_lawAt 15 = .ok (.getfield 22, 3) := by decide +kernel
theorem dX5_lawAt_18 : decode cX5_lawAt 18 = .ok (.iload_n 1, 1) := by decide +kernel
theorem dX5_lawAt_19 : decode cX5_lawAt 19 = .ok (.aaload, 1) := by decide +kernel
theorem dX5_lawAt_20 : decode cX5_lawAt 20 = .ok (.goto 4, 3) := by decide +kernel
theorem dX5_lawAt_23 : decode cX5_lawAt 23 = .ok (.aconst_null, 1) := by decide +kernel
theorem dX5_lawAt_24 : decode cX5_lawAt 24 = .ok (.areturn, 1) := by decide +kernel
theorem dX5_valueOf_0 : decode cX5_valueOf 0 = .ok (.aload_n 0, 1) := by decide +kernel
theorem dX5_valueOf_1 : decode cX5_valueOf 1 = .ok (.aload_n 0, 1) := by decide +kernel
theorem dX5_valueOf_2 : decode cX5_valueOf 2 = .ok (.getfield 16, 3) := by decide +kernel
theorem dX5_valueOf_5 : decode cX5_valueOf 5 = .ok (.iload_n 1, 1) := by decide +kernel
theorem dX5_valueOf_6 : decode cX5_valueOf 6 = .ok (.iaload, 1) := by decide +kernel
theorem dX5_valueOf_7 : decode cX5_valueOf 7 = .ok (.invokevirtual 52, 3) := by decide +kernel
theorem dX5_valueOf_10 : decode cX5_valueOf 10 = .ok (.astore 5, 2) := by decide +kernel
theorem dX5_valueOf_12 : decode cX5_valueOf 12 = .ok (.aload 5, 2) := by decide +kernel
theorem dX5_valueOf_14 : decode cX5_valueOf 14 = .ok (.ifnonnull 8, 3) := by decide +kernel
theorem dX5_valueOf_17 : decode cX5_valueOf 17 = .ok (.iload 4, 2) := by decide +kernel
theorem dX5_valueOf_19 : decode cX5_valueOf 19 = .ok (.goto 14, 3) := by decide +kernel
theorem dX5_valueOf_22 : decode cX5_valueOf 22 = .ok (.aload 5, 2) := by decide +kernel
theorem dX5_valueOf_24 : decode cX5_valueOf 24 = .ok (.iload_n 2, 1) := by decide +kernel
theorem dX5_valueOf_25 : decode cX5_valueOf 25 = .ok (.iload_n 3, 1) := by decide +kernel
theorem dX5_valueOf_26 : decode cX5_valueOf 26 = .ok (.aload_n 0, 1) := by decide +kernel
theorem dX5_valueOf_27 : decode cX5_valueOf 27 = .ok (.getfield 29, 3) := by decide +kernel
theorem dX5_valueOf_30 : decode cX5_valueOf 30 = .ok (.invokevirtual 56, 3) := by decide +kernel
theorem dX5_valueOf_33 : decode cX5_valueOf 33 = .ok (.ireturn, 1) := by decide +kernel
theorem dX5_letsOf_0 : decode cX5_letsOf 0 = .ok (.aload_n 0, 1) := by decide +kernel
theorem dX5_letsOf_1 : decode cX5_letsOf 1 = .ok (.getfield 26, 3) := by decide +kernel
theorem dX5_letsOf_4 : decode cX5_letsOf 4 = .ok (.iload_n 1, 1) := by decide +kernel
theorem dX5_letsOf_5 : decode cX5_letsOf 5 = .ok (.bipush 10, 2) := by decide +kernel
theorem dX5_letsOf_7 : decode cX5_letsOf 7 = .ok (.imul, 1) := by decide +kernel
theorem dX5_letsOf_8 : decode cX5_letsOf 8 = .ok (.iload_n 2, 1) := by decide +kernel
theorem dX5_letsOf_9 : decode cX5_letsOf 9 = .ok (.iadd, 1) := by decide +kernel
theorem dX5_letsOf_10 : decode cX5_letsOf 10 = .ok (.iconst 2, 1) := by decide +kernel
theorem dX5_letsOf_11 : decode cX5_letsOf 11 = .ok (.imul, 1) := by decide +kernel
theorem dX5_letsOf_12 : decode cX5_letsOf 12 = .ok (.iload_n 3, 1) := by decide +kernel
theorem dX5_letsOf_13 : decode cX5_letsOf 13 = .ok (.iadd, 1) := by decide +kernel
theorem dX5_letsOf_14 : decode cX5_letsOf 14 = .ok (.iaload, 1) := by decide +kernel
theorem dX5_letsOf_15 : decode cX5_letsOf 15 = .ok (.ireturn, 1) := by decide +kernel
theorem dX5_workOutLets_0 : decode cX5_workOutLets 0 = .ok (.iconst 1, 1) := by decide +kernel
theorem dX5_workOutLets_1 : decode cX5_workOutLets 1 = .ok (.istore_n 1, 1) := by decide +kernel
theorem dX5_workOutLets_2 : decode cX5_workOutLets 2 = .ok (.iload_n 1, 1) := by decide +kernel
theorem dX5_workOutLets_3 : decode cX5_workOutLets 3 = .ok (.bipush 10, 2) := by decide +kernel
theorem dX5_workOutLets_5 : decode cX5_workOutLets 5 = .ok (.if_icmp .ge 91, 3) := by decide +kernel
theorem dX5_workOutLets_8 : decode cX5_workOutLets 8 = .ok (.iconst 0, 1) := by decide +kernel
theorem dX5_workOutLets_9 : decode cX5_workOutLets 9 = .ok (.istore_n 2, 1) := by decide +kernel
theorem dX5_workOutLets_10 : decode cX5_workOutLets 10 = .ok (.iload_n 2, 1) := by decide +kernel
theorem dX5_workOutLets_11 : decode cX5_workOutLets 11 = .ok (.iconst 1, 1) := by decide +kernel
theorem dX5_workOutLets_12 : decode cX5_workOutLets 12 = .ok (.if_icmp .gt 78, 3) := by decide +kernel
theorem dX5_workOutLets_15 : decode cX5_workOutLets 15 = .ok (.aload_n 0, 1) := by decide +kernel
theorem dX5_workOutLets_16 : decode cX5_workOutLets 16 = .ok (.iconst 0, 1) := by decide +kernel
theorem dX5_workOutLets_17 : decode cX5_workOutLets 17 = .ok (.iload_n 1, 1) := by decide +kernel
theorem dX5_workOutLets_18 : decode cX5_workOutLets 18 = .ok (.iload_n 2, 1) := by decide +kernel
theorem dX5_workOutLets_19 : decode cX5_workOutLets 19 = .ok (.bipush 6, 2) := by decide +kernel
theorem dX5_workOutLets_21 : decode cX5_workOutLets 21 = .ok (.iload_n 1, 1) := by decide +kernel
theorem dX5_workOutLets_22 : decode cX5_workOutLets 22 = .ok (.imul, 1) := by decide +kernel
theorem dX5_workOutLets_23 : decode cX5_workOutLets 23 = .ok (.iload_n 2, 1) := by decide +kernel
theorem dX5_workOutLets_24 : decode cX5_workOutLets 24 = .ok (.imul, 1) := by decide +kernel
theorem dX5_workOutLets_25 : decode cX5_workOutLets 25 = .ok (.invokevirtual 60, 3) := by decide +kernel
theorem dX5_workOutLets_28 : decode cX5_workOutLets 28 = .ok (.iconst 0, 1) := by decide +kernel
theorem dX5_workOutLets_29 : decode cX5_workOutLets 29 = .ok (.bipush 60, 2) := by decide +kernel
theorem dX5_workOutLets_31 : decode cX5_workOutLets 31 = .ok (.invokestatic 64, 3) := by decide +kernel
theorem dX5_workOutLets_34 : decode cX5_workOutLets 34 = .ok (.istore_n 3, 1) := by decide +kernel
theorem dX5_workOutLets_35 : decode cX5_workOutLets 35 = .ok (.iconst 0, 1) := by decide +kernel
theorem dX5_workOutLets_36 : decode cX5_workOutLets 36 = .ok (.istore 4, 2) := by decide +kernel
theorem dX5_workOutLets_38 : decode cX5_workOutLets 38 = .ok (.iload 4, 2) := by decide +kernel
theorem dX5_workOutLets_40 : decode cX5_workOutLets 40 = .ok (.bipush 6, 2) := by decide +kernel
theorem dX5_workOutLets_42 : decode cX5_workOutLets 42 = .ok (.if_icmp .ge 42, 3) := by decide +kernel
theorem dX5_workOutLets_45 : decode cX5_workOutLets 45 = .ok (.aload_n 0, 1) := by decide +kernel
theorem dX5_workOutLets_46 : decode cX5_workOutLets 46 = .ok (.getfield 26, 3) := by decide +kernel
theorem dX5_workOutLets_49 : decode cX5_workOutLets 49 = .ok (.iload 4, 2) := by decide +kernel
theorem dX5_workOutLets_51 : decode cX5_workOutLets 51 = .ok (.bipush 10, 2) := by decide +kernel
theorem dX5_workOutLets_53 : decode cX5_workOutLets 53 = .ok (.imul, 1) := by decide +kernel
theorem dX5_workOutLets_54 : decode cX5_workOutLets 54 = .ok (.iload_n 1, 1) := by decide +kernel
theorem dX5_workOutLets_55 : decode cX5_workOutLets 55 = .ok (.iadd, 1) := by decide +kernel
theorem dX5_workOutLets_56 : decode cX5_workOutLets 56 = .ok (.iconst 2, 1) := by decide +kernel
theorem dX5_workOutLets_57 : decode cX5_workOutLets 57 = .ok (.imul, 1) := by decide +kernel
theorem dX5_workOutLets_58 : decode cX5_workOutLets 58 = .ok (.iload_n 2, 1) := by decide +kernel
theorem dX5_workOutLets_59 : decode cX5_workOutLets 59 = .ok (.iadd, 1) := by decide +kernel
theorem dX5_workOutLets_60 : decode cX5_workOutLets 60 = .ok (.iload 4, 2) := by decide +kernel
theorem dX5_workOutLets_62 : decode cX5_workOutLets 62 = .ok (.iload_n 3, 1) := by decide +kernel
theorem dX5_workOutLets_63 : decode cX5_workOutLets 63 = .ok (.iload_n 1, 1) := by decide +kernel
theorem dX5_workOutLets_64 : decode cX5_workOutLets 64 = .ok (.iload_n 2, 1) := by decide +kernel
theorem dX5_workOutLets_65 : decode cX5_workOutLets 65 = .ok (.iconst 1, 1) := by decide +kernel
theorem dX5_workOutLets_66 : decode cX5_workOutLets 66 = .ok (.if_icmp .ne 7, 3) := by decide +kernel
theorem dX5_workOutLets_69 : decode cX5_workOutLets 69 = .ok (.iconst 1, 1) := by decide +kernel
theorem dX5_workOutLets_70 : decode cX5_workOutLets 70 = .ok (.goto 4, 3) := by decide +kernel
theorem dX5_workOutLets_73 : decode cX5_workOutLets 73 = .ok (.iconst 0, 1) := by decide +kernel
theorem dX5_workOutLets_74 : decode cX5_workOutLets 74 = .ok (.invokestatic 68, 3) := by decide +kernel
theorem dX5_workOutLets_77 : decode cX5_workOutLets 77 = .ok (.iastore, 1) := by decide +kernel
theorem dX5_workOutLets_78 : decode cX5_workOutLets 78 = .ok (.iinc 4 1, 3) := by decide +kernel
theorem dX5_workOutLets_81 : decode cX5_workOutLets 81 = .ok (.goto (-43), 3) := by decide +kernel
theorem dX5_workOutLets_84 : decode cX5_workOutLets 84 = .ok (.iinc 2 1, 3) := by decide +kernel
theorem dX5_workOutLets_87 : decode cX5_workOutLets 87 = .ok (.goto (-77), 3) := by decide +kernel
theorem dX5_workOutLets_90 : decode cX5_workOutLets 90 = .ok (.iinc 1 1, 3) := by decide +kernel
theorem dX5_workOutLets_93 : decode cX5_workOutLets 93 = .ok (.goto (-91), 3) := by decide +kernel
theorem dX5_workOutLets_96 : decode cX5_workOutLets 96 = .ok (.return_, 1) := by decide +kernel
theorem dX6_init_0 : decode cX6_init 0 = .ok (.aload_n 0, 1) := by decide +kernel
theorem dX6_init_1 : decode cX6_init 1 = .ok (.invokespecial 3, 3) := by decide +kernel
theorem dX6_init_4 : decode cX6_init 4 = .ok (.aload_n 0, 1) := by decide +kernel
theorem dX6_init_5 : decode cX6_init 5 = .ok (.iconst (-1), 1) := by decide +kernel
theorem dX6_init_6 : decode cX6_init 6 = .ok (.putfield 11, 3) := by decide +kernel
theorem dX6_init_9 : decode cX6_init 9 = .ok (.aload_n 0, 1) := by decide +kernel
theorem dX6_init_10 : decode cX6_init 10 = .ok (.bipush 24, 2) := by decide +kernel
theorem dX6_init_12 : decode cX6_init 12 = .ok (.newarray .int, 2) := by decide +kernel
theorem dX6_init_14 : decode cX6_init 14 = .ok (.putfield 15, 3) := by decide +kernel
theorem dX6_init_17 : decode cX6_init 17 = .ok (.return_, 1) := by decide +kernel
theorem dX6_isMissing_0 : decode cX6_isMissing 0 = .ok (.aload_n 0, 1) := by decide +kernel
theorem dX6_isMissing_1 : decode cX6_isMissing 1 = .ok (.getfield 11, 3) := by decide +kernel
theorem dX6_isMissing_4 : decode cX6_isMissing 4 = .ok (.iconst (-1), 1) := by decide +kernel
theorem dX6_isMissing_5 : decode cX6_isMissing 5 = .ok (.if_icmp .ne 7, 3) := by decide +kernel
theorem dX6_isMissing_8 : decode cX6_isMissing 8 = .ok (.iconst 1, 1) := by decide +kernel
theorem dX6_isMissing_9 : decode cX6_isMissing 9 = .ok (.goto 4, 3) := by decide +kernel
theorem dX6_isMissing_12 : decode cX6_isMissing 12 = .ok (.iconst 0, 1) := by decide +kernel
theorem dX6_isMissing_13 : decode cX6_isMissing 13 = .ok (.ireturn, 1) := by decide +kernel
theorem dX6_become_0 : decode cX6_become 0 = .ok (.aload_n 0, 1) := by decide +kernel
theorem dX6_become_1 : decode cX6_become 1 = .ok (.iload_n 1, 1) := by decide +kernel
theorem dX6_become_2 : decode cX6_become 2 = .ok (.putfield 11, 3) := by decide +kernel
theorem dX6_become_5 : decode cX6_become 5 = .ok (.aload_n 0, 1) := by decide +kernel
theorem dX6_become_6 : decode cX6_become 6 = .ok (.iload_n 2, 1) := by decide +kernel
theorem dX6_become_7 : decode cX6_become 7 = .ok (.putfield 19, 3) := by decide +kernel
theorem dX6_become_10 : decode cX6_become 10 = .ok (.aload_n 0, 1) := by decide +kernel
theorem dX6_become_11 : decode cX6_become 11 = .ok (.getfield 15, 3) := by decide +kernel
theorem dX6_become_14 : decode cX6_become 14 = .ok (.iconst 0, 1) := by decide +kernel
theorem dX6_become_15 : decode cX6_become 15 = .ok (.invokestatic 22, 3) := by decide +kernel
theorem dX6_become_18 : decode cX6_become 18 = .ok (.return_, 1) := by decide +kernel
theorem dX6_takeFrom_0 : decode cX6_takeFrom 0 = .ok (.aload_n 0, 1) := by decide +kernel
theorem dX6_takeFrom_1 : decode cX6_takeFrom 1 = .ok (.aload_n 1, 1) := by decide +kernel
theorem dX6_takeFrom_2 : decode cX6_takeFrom 2 = .ok (.getfield 11, 3) := by decide +kernel
theorem dX6_takeFrom_5 : decode cX6_takeFrom 5 = .ok (.putfield 11, 3) := by decide +kernel
theorem dX6_takeFrom_8 : decode cX6_takeFrom 8 = .ok (.aload_n 0, 1) := by decide +kernel
theorem dX6_takeFrom_9 : decode cX6_takeFrom 9 = .ok (.aload_n 1, 1) := by decide +kernel
theorem dX6_takeFrom_10 : decode cX6_takeFrom 10 = .ok (.getfield 19, 3) := by decide +kernel
theorem dX6_takeFrom_13 : decode cX6_takeFrom 13 = .ok (.putfield 19, 3) := by decide +kernel
theorem dX6_takeFrom_16 : decode cX6_takeFrom 16 = .ok (.aload_n 1, 1) := by decide +kernel
theorem dX6_takeFrom_17 : decode cX6_takeFrom 17 = .ok (.getfield 15, 3) := by decide +kernel
theorem dX6_takeFrom_20 : decode cX6_takeFrom 20 = .ok (.iconst 0, 1) := by decide +kernel
theorem dX6_takeFrom_21 : decode cX6_takeFrom 21 = .ok (.aload_n 0, 1) := by decide +kernel
theorem dX6_takeFrom_22 : decode cX6_takeFrom 22 = .ok (.getfield 15, 3) := by decide +kernel
theorem dX6_takeFrom_25 : decode cX6_takeFrom 25 = .ok (.iconst 0, 1) := by decide +kernel
theorem dX6_takeFrom_26 : decode cX6_takeFrom 26 = .ok (.bipush 24, 2) := by decide +kernel
theorem dX6_takeFrom_28 : decode cX6_takeFrom 28 = .ok (.invokestatic 28, 3) := by decide +kernel
theorem dX6_takeFrom_31 : decode cX6_takeFrom 31 = .ok (.return_, 1) := by decide +kernel
theorem dX6_has_0 : decode cX6_has 0 = .ok (.iload_n 1, 1) := by decide +kernel
theorem dX6_has_1 : decode cX6_has 1 = .ok (.iconst 0, 1) := by decide +kernel
theorem dX6_has_2 : decode cX6_has 2 = .ok (.aload_n 0, 1) := by decide +kernel
theorem dX6_has_3 : decode cX6_has 3 = .ok (.getfield 19, 3) := by decide +kernel
theorem dX6_has_6 : decode cX6_has 6 = .ok (.iconst 1, 1) := by decide +kernel
theorem dX6_has_7 : decode cX6_has 7 = .ok (.isub, 1) := by decide +kernel
theorem dX6_has_8 : decode cX6_has 8 = .ok (.invokestatic 34, 3) := by decide +kernel
theorem dX6_has_11 : decode cX6_has 11 = .ok (.ireturn, 1) := by decide +kernel
theorem dX6_hasNumber_0 : decode cX6_hasNumber 0 = .ok (.aload_n 0, 1) := by decide +kernel
theorem dX6_hasNumber_1 : decode cX6_hasNumber 1 = .ok (.iload_n 1, 1) := by decide +kernel
theorem dX6_hasNumber_2 : decode cX6_hasNumber 2 = .ok (.invokevirtual 38, 3) := by decide +kernel
theorem dX6_hasNumber_5 : decode cX6_hasNumber 5 = .ok (.ifCond .eq 18, 3) := by decide +kernel
theorem dX6_hasNumber_8 : decode cX6_hasNumber 8 = .ok (.aload_n 0, 1) := by decide +kernel
theorem dX6_hasNumber_9 : decode cX6_hasNumber 9 = .ok (.getfield 15, 3) := by decide +kernel
theorem dX6_hasNumber_12 : decode cX6_hasNumber 12 = .ok (.iload_n 1, 1) := by decide +kernel
theorem dX6_hasNumber_13 : decode cX6_hasNumber 13 = .ok (.iaload, 1) := by decide +kernel
theorem dX6_hasNumber_14 : decode cX6_hasNumber 14 = .ok (.ldc 42, 2) := by decide +kernel
theorem dX6_hasNumber_16 : decode cX6_hasNumber 16 = .ok (.if_icmp .eq 7, 3) := by decide +kernel
theorem dX6_hasNumber_19 : decode cX6_hasNumber 19 = .ok (.iconst 1, 1) := by decide +kernel
theorem dX6_hasNumber_20 : decode cX6_hasNumber 20 = .ok (.goto 4, 3) := by decide +kernel
theorem dX6_hasNumber_23 : decode cX6_hasNumber 23 = .ok (.iconst 0, 1) := by decide +kernel
theorem dX6_hasNumber_24 : decode cX6_hasNumber 24 = .ok (.ireturn, 1) := by decide +kernel
theorem dX6_hasRange_0 : decode cX6_hasRange 0 = .ok (.iload_n 1, 1) := by decide +kernel
theorem dX6_hasRange_1 : decode cX6_hasRange 1 = .ok (.ifCond .lt 29, 3) := by decide +kernel
theorem dX6_hasRange_4 : decode cX6_hasRange 4 = .ok (.iload_n 2, 1) := by decide +kernel
theorem dX6_hasRange_5 : decode cX6_hasRange 5 = .ok (.ifCond .lt 25, 3) := by decide +kernel
theorem dX6_hasRange_8 : decode cX6_hasRange 8 = .ok (.iload_n 1, 1) := by decide +kernel
theorem dX6_hasRange_9 : decode cX6_hasRange 9 = .ok (.aload_n 0, 1) := by decide +kernel
theorem dX6_hasRange_10 : decode cX6_hasRange 10 = .ok (.getfield 19, 3) := by decide +kernel
theorem dX6_hasRange_13 : decode cX6_hasRange 13 = .ok (.if_icmp .gt 17, 3) := by decide +kernel
theorem dX6_hasRange_16 : decode cX6_hasRange 16 = .ok (.iload_n 2, 1) := by decide +kernel
theorem dX6_hasRange_17 : decode cX6_hasRange 17 = .ok (.aload_n 0, 1) := by decide +kernel
theorem dX6_hasRange_18 : decode cX6_hasRange 18 = .ok (.getfield 19, 3) := by decide +kernel
theorem dX6_hasRange_21 : decode cX6_hasRange 21 = .ok (.iload_n 1, 1) := by decide +kernel
theorem dX6_hasRange_22 : decode cX6_hasRange 22 = .ok (.isub, 1) := by decide +kernel
theorem dX6_hasRange_23 : decode cX6_hasRange 23 = .ok (.if_icmp .gt 7, 3) := by decide +kernel
theorem dX6_hasRange_26 : decode cX6_hasRange 26 = .ok (.iconst 1, 1) := by decide +kernel
theorem dX6_hasRange_27 : decode cX6_hasRange 27 = .ok (.goto 4, 3) := by decide +kernel
theorem dX6_hasRange_30 : decode cX6_hasRange 30 = .ok (.iconst 0, 1) := by decide +kernel
theorem dX6_hasRange_31 : decode cX6_hasRange 31 = .ok (.ireturn, 1) := by decide +kernel
theorem dX7_init_0 : decode cX7_init 0 = .ok (.aload_n 0, 1) := by decide +kernel
theorem dX7_init_1 : decode cX7_init 1 = .ok (.invokespecial 1, 3) := by decide +kernel
theorem dX7_init_4 : decode cX7_init 4 = .ok (.aload_n 0, 1) := by decide +kernel
theorem dX7_init_5 : decode cX7_init 5 = .ok (.iconst 0, 1) := by decide +kernel
theorem dX7_init_6 : decode cX7_init 6 = .ok (.putfield 9, 3) := by decide +kernel
theorem dX7_init_9 : decode cX7_init 9 = .ok (.aload_n 0, 1) := by decide +kernel
theorem dX7_init_10 : decode cX7_init 10 = .ok (.new 13, 3) := by decide +kernel
theorem dX7_init_13 : decode cX7_init 13 = .ok (.dup, 1) := by decide +kernel
theorem dX7_init_14 : decode cX7_init 14 = .ok (.invokespecial 15, 3) := by decide +kernel
theorem dX7_init_17 : decode cX7_init 17 = .ok (.putfield 16, 3) := by decide +kernel
theorem dX7_init_20 : decode cX7_init 20 = .ok (.return_, 1) := by decide +kernel
theorem dX8_init_0 : decode cX8_init 0 = .ok (.aload_n 0, 1) := by decide +kernel
theorem dX8_init_1 : decode cX8_init 1 = .ok (.invokespecial 3, 3) := by decide +kernel
theorem dX8_init_4 : decode cX8_init 4 = .ok (.aload_n 0, 1) := by decide +kernel
theorem dX8_init_5 : decode cX8_init 5 = .ok (.new 9, 3) := by decide +kernel
theorem dX8_init_8 : decode cX8_init 8 = .ok (.dup, 1) := by decide +kernel
theorem dX8_init_9 : decode cX8_init 9 = .ok (.invokespecial 11, 3) := by decide +kernel
theorem dX8_init_12 : decode cX8_init 12 = .ok (.putfield 12, 3) := by decide +kernel
theorem dX8_init_15 : decode cX8_init 15 = .ok (.return_, 1) := by decide +kernel
theorem dX8_behindMinutes_0 : decode cX8_behindMinutes 0 = .ok (.aload_n 0, 1) := by decide +kernel
theorem dX8_behindMinutes_1 : decode cX8_behindMinutes 1 = .ok (.getfield 12, 3) := by decide +kernel
theorem dX8_behindMinutes_4 : decode cX8_behindMinutes 4 = .ok (.aload_n 1, 1) := by decide +kernel
theorem dX8_behindMinutes_5 : decode cX8_behindMinutes 5 = .ok (.invokevirtual 18, 3) := by decide +kernel
theorem dX8_behindMinutes_8 : decode cX8_behindMinutes 8 = .ok (.iconst 0, 1) := by decide +kernel
theorem dX8_behindMinutes_9 : decode cX8_behindMinutes 9 = .ok (.istore_n 3, 1) := by decide +kernel
theorem dX8_behindMinutes_10 : decode cX8_behindMinutes 10 = .ok (.iload_n 3, 1) := by decide +kernel
theorem dX8_behindMinutes_11 : decode cX8_behindMinutes 11 = .ok (.iload_n 2, 1) := by decide +kernel
theorem dX8_behindMinutes_12 : decode cX8_behindMinutes 12 = .ok (.if_icmp .ge 16, 3) := by decide +kernel
theorem dX8_behindMinutes_15 : decode cX8_behindMinutes 15 = .ok (.aload_n 0, 1) := by decide +kernel
theorem dX8_behindMinutes_16 : decode cX8_behindMinutes 16 = .ok (.getfield 12, 3) := by decide +kernel
theorem dX8_behindMinutes_19 : decode cX8_behindMinutes 19 = .ok (.invokevirtual 22, 3) := by decide +kernel
theorem dX8_behindMinutes_22 : decode cX8_behindMinutes 22 = .ok (.iinc 3 1, 3) := by decide +kernel
theorem dX8_behindMinutes_25 : decode cX8_behindMinutes 25 = .ok (.goto (-15), 3) := by decide +kernel
theorem dX8_behindMinutes_28 : decode cX8_behindMinutes 28 = .ok (.aload_n 0, 1) := by decide +kernel
theorem dX8_behindMinutes_29 : decode cX8_behindMinutes 29 = .ok (.getfield 12, 3) := by decide +kernel
theorem dX8_behindMinutes_32 : decode cX8_behindMinutes 32 = .ok (.areturn, 1) := by decide +kernel
theorem dX8_minutesUntilStill_0 : decode cX8_minutesUntilStill 0 = .ok (.aload_n 0, 1) := by decide +kernel
theorem dX8_minutesUntilStill_1 : decode cX8_minutesUntilStill 1 = .ok (.getfield 12, 3) := by decide +kernel
theorem dX8_minutesUntilStill_4 : decode cX8_minutesUntilStill 4 = .ok (.aload_n 1, 1) := by decide +kernel
theorem dX8_minutesUntilStill_5 : decode cX8_minutesUntilStill 5 = .ok (.invokevirtual 18, 3) := by decide +kernel
theorem dX8_minutesUntilStill_8 : decode cX8_minutesUntilStill 8 = .ok (.iconst 0, 1) := by decide +kernel
theorem dX8_minutesUntilStill_9 : decode cX8_minutesUntilStill 9 = .ok (.istore_n 2, 1) := by decide +kernel
theorem dX8_minutesUntilStill_10 : decode cX8_minutesUntilStill 10 = .ok (.iload_n 2, 1) := by decide +kernel
theorem dX8_minutesUntilStill_11 : decode cX8_minutesUntilStill 11 = .ok (.sipush 200, 3) := by decide +kernel
theorem dX8_minutesUntilStill_14 : decode cX8_minutesUntilStill 14 = .ok (.if_icmp .gt 35, 3) := by decide +kernel
theorem dX8_minutesUntilStill_17 : decode cX8_minutesUntilStill 17 = .ok (.aload_n 0, 1) := by decide +kernel
theorem dX8_minutesUntilStill_18 : decode cX8_minutesUntilStill 18 = .ok (.getfield 12, 3) := by decide +kernel
theorem dX8_minutesUntilStill_21 : decode cX8_minutesUntilStill 21 = .ok (.invokevirtual 25, 3) := by decide +kernel
theorem dX8_minutesUntilStill_24 : decode cX8_minutesUntilStill 24 = .ok (.aload_n 0, 1) := by decide +kernel
theorem dX8_minutesUntilStill_25 : decode cX8_minutesUntilStill 25 = .ok (.getfield 12, 3) := by decide +kernel
theorem dX8_minutesUntilStill_28 : decode cX8_minutesUntilStill 28 = .ok (.invokevirtual 28, 3) := by decide +kernel
theorem dX8_minutesUntilStill_31 : decode cX8_minutesUntilStill 31 = .ok (.ifCond .eq 5, 3) := by decide +kernel
theorem dX8_minutesUntilStill_34 : decode cX8_minutesUntilStill 34 = .ok (.iload_n 2, 1) := by decide +kernel
theorem dX8_minutesUntilStill_35 : decode cX8_minutesUntilStill 35 = .ok (.ireturn, 1) := by decide +kernel
theorem dX8_minutesUntilStill_36 : decode cX8_minutesUntilStill 36 = .ok (.aload_n 0, 1) := by decide +kernel
theorem dX8_minutesUntilStill_37 : decode cX8_minutesUntilStill 37 = .ok (.getfield 12, 3) := by decide +kernel
theorem dX8_minutesUntilStill_40 : decode cX8_minutesUntilStill 40 = .ok (.invokevirtual 32, 3) := by decide +kernel
theorem dX8_minutesUntilStill_43 : decode cX8_minutesUntilStill 43 = .ok (.iinc 2 1, 3) := by decide +kernel
theorem dX8_minutesUntilStill_46 : decode cX8_minutesUntilStill 46 = .ok (.goto (-36), 3) := by decide +kernel
theorem dX8_minutesUntilStill_49 : decode cX8_minutesUntilStill 49 = .ok (.ldc 35, 2) := by decide +kernel
theorem dX8_minutesUntilStill_51 : decode cX8_minutesUntilStill 51 = .ok (.ireturn, 1) := by decide +kernel
theorem dX8_fewestToShut_0 : decode cX8_fewestToShut 0 = .ok (.aload_n 0, 1) := by decide +kernel
theorem dX8_fewestToShut_1 : decode cX8_fewestToShut 1 = .ok (.getfield 12, 3) := by decide +kernel
theorem dX8_fewestToShut_4 : decode cX8_fewestToShut 4 = .ok (.aload_n 1, 1) := by decide +kernel
theorem dX8_fewestToShut_5 : decode cX8_fewestToShut 5 = .ok (.invokevirtual 18, 3) := by decide +kernel
theorem dX8_fewestToShut_8 : decode cX8_fewestToShut 8 = .ok (.aload_n 1, 1) := by decide +kernel
theorem dX8_fewestToShut_9 : decode cX8_fewestToShut 9 = .ok (.getfield 36, 3) := by decide +kernel
theorem dX8_fewestToShut_12 : decode cX8_fewestToShut 12 = .ok (.getfield 40, 3) := by decide +kernel
theorem dX8_fewestToShut_15 : decode cX8_fewestToShut 15 = .ok (.istore 5, 2) := by decide +kernel
theorem dX8_fewestToShut_17 : decode cX8_fewestToShut 17 = .ok (.ldc 35, 2) := by decide +kernel
theorem dX8_fewestToShut_19 : decode cX8_fewestToShut 19 = .ok (.istore 6, 2) := by decide +kernel
theorem dX8_fewestToShut_21 : decode cX8_fewestToShut 21 = .ok (.bipush 11, 2) := by decide +kernel
theorem dX8_fewestToShut_23 : decode cX8_fewestToShut 23 = .ok (.istore 7, 2) := by decide +kernel
theorem dX8_fewestToShut_25 : decode cX8_fewestToShut 25 = .ok (.iconst 0, 1) := by decide +kernel
theorem dX8_fewestToShut_26 : decode cX8_fewestToShut 26 = .ok (.istore 8, 2) := by decide +kernel
theorem dX8_fewestToShut_28 : decode cX8_fewestToShut 28 = .ok (.iload 8, 2) := by decide +kernel
theorem dX8_fewestToShut_30 : decode cX8_fewestToShut 30 = .ok (.iload 5, 2) := by decide +kernel
theorem dX8_fewestToShut_32 : decode cX8_fewestToShut 32 = .ok (.if_icmp .gt 76, 3) := by decide +kernel
theorem dX8_fewestToShut_35 : decode cX8_fewestToShut 35 = .ok (.iload 8, 2) := by decide +kernel
theorem dX8_fewestToShut_37 : decode cX8_fewestToShut 37 = .ok (.iload 5, 2) := by decide +kernel
theorem dX8_fewestToShut_39 : decode cX8_fewestToShut 39 = .ok (.iconst (-1), 1) := by decide +kernel
theorem dX8_fewestToShut_40 : decode cX8_fewestToShut 40 = .ok (.ixor, 1) := by decide +kernel
theorem dX8_fewestToShut_41 : decode cX8_fewestToShut 41 = .ok (.iand, 1) := by decide +kernel
theorem dX8_fewestToShut_42 : decode cX8_fewestToShut 42 = .ok (.ifCond .ne 60, 3) := by decide +kernel
theorem dX8_fewestToShut_45 : decode cX8_fewestToShut 45 = .ok (.iload 8, 2) := by decide +kernel
theorem dX8_fewestToShut_47 : decode cX8_fewestToShut 47 = .ok (.invokestatic 46, 3) := by decide +kernel
theorem dX8_fewestToShut_50 : decode cX8_fewestToShut 50 = .ok (.iload 7, 2) := by decide +kernel
theorem dX8_fewestToShut_52 : decode cX8_fewestToShut 52 = .ok (.if_icmp .ge 50, 3) := by decide +kernel
theorem dX8_fewestToShut_55 : decode cX8_fewestToShut 55 = .ok (.aload_n 0, 1) := by decide +kernel
theorem dX8_fewestToShut_56 : decode cX8_fewestToShut 56 = .ok (.getfield 12, 3) := by decide +kernel
theorem dX8_fewestToShut_59 : decode cX8_fewestToShut 59 = .ok (.aload_n 1, 1) := by decide +kernel
theorem dX8_fewestToShut_60 : decode cX8_fewestToShut 60 = .ok (.invokevirtual 52, 3) := by decide +kernel
theorem dX8_fewestToShut_63 : decode cX8_fewestToShut 63 = .ok (.aload_n 0, 1) := by decide +kernel
theorem dX8_fewestToShut_64 : decode cX8_fewestToShut 64 = .ok (.getfield 12, 3) := by decide +kernel
theorem dX8_fewestToShut_67 : decode cX8_fewestToShut 67 = .ok (.getfield 36, 3) := by decide +kernel
theorem dX8_fewestToShut_70 : decode cX8_fewestToShut 70 = .ok (.iload 5, 2) := by decide +kernel
theorem dX8_fewestToShut_72 : decode cX8_fewestToShut 72 = .ok (.iload 8, 2) := by decide +kernel
theorem dX8_fewestToShut_74 : decode cX8_fewestToShut 74 = .ok (.iconst (-1), 1) := by decide +kernel
theorem dX8_fewestToShut_75 : decode cX8_fewestToShut 75 = .ok (.ixor, 1) := by decide +kernel
theorem dX8_fewestToShut_76 : decode cX8_fewestToShut 76 = .ok (.iand, 1) := by decide +kernel
theorem dX8_fewestToShut_77 : decode cX8_fewestToShut 77 = .ok (.putfield 40, 3) := by decide +kernel
theorem dX8_fewestToShut_80 : decode cX8_fewestToShut 80 = .ok (.aload_n 0, 1) := by decide +kernel
theorem dX8_fewestToShut_81 : decode cX8_fewestToShut 81 = .ok (.iload_n 2, 1) := by decide +kernel
theorem dX8_fewestToShut_82 : decode cX8_fewestToShut 82 = .ok (.iload_n 3, 1) := by decide +kernel
theorem dX8_fewestToShut_83 : decode cX8_fewestToShut 83 = .ok (.iload 4, 2) := by decide +kernel
theorem dX8_fewestToShut_85 : decode cX8_fewestToShut 85 = .ok (.invokevirtual 55, 3) := by decide +kernel
theorem dX8_fewestToShut_88 : decode cX8_fewestToShut 88 = .ok (.ifCond .eq 14, 3) := by decide +kernel
theorem dX8_fewestToShut_91 : decode cX8_fewestToShut 91 = .ok (.iload 8, 2) := by decide +kernel
theorem dX8_fewestToShut_93 : decode cX8_fewestToShut 93 = .ok (.istore 6, 2) := by decide +kernel
theorem dX8_fewestToShut_95 : decode cX8_fewestToShut 95 = .ok (.iload 8, 2) := by decide +kernel
theorem dX8_fewestToShut_97 : decode cX8_fewestToShut 97 = .ok (.invokestatic 46, 3) := by decide +kernel
theorem dX8_fewestToShut_100 : decode cX8_fewestToShut 100 = .ok (.istore 7, 2) := by decide +kernel
theorem dX8_fewestToShut_102 : decode cX8_fewestToShut 102 = .ok (.iinc 8 1, 3) := by decide +kernel
theorem dX8_fewestToShut_105 : decode cX8_fewestToShut 105 = .ok (.goto (-77), 3) := by decide +kernel
theorem dX8_fewestToShut_108 : decode cX8_fewestToShut 108 = .ok (.iload 6, 2) := by decide +kernel
theorem dX8_fewestToShut_110 : decode cX8_fewestToShut 110 = .ok (.ireturn, 1) := by decide +kernel
theorem dX8_isCalm_0 : decode cX8_isCalm 0 = .ok (.iconst 0, 1) := by decide +kernel
theorem dX8_isCalm_1 : decode cX8_isCalm 1 = .ok (.istore 4, 2) := by decide +kernel
theorem dX8_isCalm_3 : decode cX8_isCalm 3 = .ok (.iload 4, 2) := by decide +kernel
theorem dX8_isCalm_5 : decode cX8_isCalm 5 = .ok (.iload_n 3, 1) := by decide +kernel
theorem dX8_isCalm_6 : decode cX8_isCalm 6 = .ok (.if_icmp .gt 38, 3) := by decide +kernel
theorem dX8_isCalm_9 : decode cX8_isCalm 9 = .ok (.aload_n 0, 1) := by decide +kernel
theorem dX8_isCalm_10 : decode cX8_isCalm 10 = .ok (.getfield 12, 3) := by decide +kernel
theorem dX8_isCalm_13 : decode cX8_isCalm 13 = .ok (.invokevirtual 25, 3) := by decide +kernel
theorem dX8_isCalm_16 : decode cX8_isCalm 16 = .ok (.aload_n 0, 1) := by decide +kernel
theorem dX8_isCalm_17 : decode cX8_isCalm 17 = .ok (.getfield 12, 3) := by decide +kernel
theorem dX8_isCalm_20 : decode cX8_isCalm 20 = .ok (.getfield 59, 3) := by decide +kernel
theorem dX8_isCalm_23 : decode cX8_isCalm 23 = .ok (.iload_n 1, 1) := by decide +kernel
theorem dX8_isCalm_24 : decode cX8_isCalm 24 = .ok (.iaload, 1) := by decide +kernel
theorem dX8_isCalm_25 : decode cX8_isCalm 25 = .ok (.iload_n 2, 1) := by decide +kernel
theorem dX8_isCalm_26 : decode cX8_isCalm 26 = .ok (.if_icmp .le 5, 3) := by decide +kernel
theorem dX8_isCalm_29 : decode cX8_isCalm 29 = .ok (.iconst 0, 1) := by decide +kernel
theorem dX8_isCalm_30 : decode cX8_isCalm 30 = .ok (.ireturn, 1) := by decide +kernel
theorem dX8_isCalm_31 : decode cX8_isCalm 31 = .ok (.aload_n 0, 1) := by decide +kernel
theorem dX8_isCalm_32 : decode cX8_isCalm 32 = .ok (.getfield 12, 3) := by decide +kernel
theorem dX8_isCalm_35 : decode cX8_isCalm 35 = .ok (.invokevirtual 32, 3) := by decide +kernel
theorem dX8_isCalm_38 : decode cX8_isCalm 38 = .ok (.iinc 4 1, 3) := by decide +kernel
theorem dX8_isCalm_41 : decode cX8_isCalm 41 = .ok (.goto (-38), 3) := by decide +kernel
theorem dX8_isCalm_44 : decode cX8_isCalm 44 = .ok (.iconst 1, 1) := by decide +kernel
theorem dX8_isCalm_45 : decode cX8_isCalm 45 = .ok (.ireturn, 1) := by decide +kernel
theorem dX8_roomsThatSmell_0 : decode cX8_roomsThatSmell 0 = .ok (.aload_n 0, 1) := by decide +kernel
theorem dX8_roomsThatSmell_1 : decode cX8_roomsThatSmell 1 = .ok (.getfield 12, 3) := by decide +kernel
theorem dX8_roomsThatSmell_4 : decode cX8_roomsThatSmell 4 = .ok (.aload_n 1, 1) := by decide +kernel
theorem dX8_roomsThatSmell_5 : decode cX8_roomsThatSmell 5 = .ok (.invokevirtual 18, 3) := by decide +kernel
theorem dX8_roomsThatSmell_8 : decode cX8_roomsThatSmell 8 = .ok (.aload_n 0, 1) := by decide +kernel
theorem dX8_roomsThatSmell_9 : decode cX8_roomsThatSmell 9 = .ok (.getfield 12, 3) := by decide +kernel
theorem dX8_roomsThatSmell_12 : decode cX8_roomsThatSmell 12 = .ok (.getfield 63, 3) := by decide +kernel
theorem dX8_roomsThatSmell_15 : decode cX8_roomsThatSmell 15 = .ok (.iconst 0, 1) := by decide +kernel
theorem dX8_roomsThatSmell_16 : decode cX8_roomsThatSmell 16 = .ok (.invokestatic 66, 3) := by decide +kernel
theorem dX8_roomsThatSmell_19 : decode cX8_roomsThatSmell 19 = .ok (.aload_n 0, 1) := by decide +kernel
theorem dX8_roomsThatSmell_20 : decode cX8_roomsThatSmell 20 = .ok (.getfield 12, 3) := by decide +kernel
theorem dX8_roomsThatSmell_23 : decode cX8_roomsThatSmell 23 = .ok (.getfield 63, 3) := by decide +kernel
theorem dX8_roomsThatSmell_26 : decode cX8_roomsThatSmell 26 = .ok (.iload_n 2, 1) := by decide +kernel
theorem dX8_roomsThatSmell_27 : decode cX8_roomsThatSmell 27 = .ok (.sipush 9999, 3) := by decide +kernel
theorem dX8_roomsThatSmell_30 : decode cX8_roomsThatSmell 30 = .ok (.iastore, 1) := by decide +kernel
theorem dX8_roomsThatSmell_31 : decode cX8_roomsThatSmell 31 = .ok (.iconst 0, 1) := by decide +kernel
theorem dX8_roomsThatSmell_32 : decode cX8_roomsThatSmell 32 = .ok (.istore 4, 2) := by decide +kernel
theorem dX8_roomsThatSmell_34 : decode cX8_roomsThatSmell 34 = .ok (.iload 4, 2) := by decide +kernel
theorem dX8_roomsThatSmell_36 : decode cX8_roomsThatSmell 36 = .ok (.iload_n 3, 1) := by decide +kernel
theorem dX8_roomsThatSmell_37 : decode cX8_roomsThatSmell 37 = .ok (.if_icmp .ge 30, 3) := by decide +kernel
theorem dX8_roomsThatSmell_40 : decode cX8_roomsThatSmell 40 = .ok (.aload_n 0, 1) := by decide +kernel
theorem dX8_roomsThatSmell_41 : decode cX8_roomsThatSmell 41 = .ok (.getfield 12, 3) := by decide +kernel
theorem dX8_roomsThatSmell_44 : decode cX8_roomsThatSmell 44 = .ok (.invokevirtual 25, 3) := by decide +kernel
theorem dX8_roomsThatSmell_47 : decode cX8_roomsThatSmell 47 = .ok (.aload_n 0, 1) := by decide +kernel
theorem dX8_roomsThatSmell_48 : decode cX8_roomsThatSmell 48 = .ok (.getfield 12, 3) := by decide +kernel
theorem dX8_roomsThatSmell_51 : decode cX8_roomsThatSmell 51 = .ok (.invokevirtual 72, 3) := by decide +kernel
theorem dX8_roomsThatSmell_54 : decode cX8_roomsThatSmell 54 = .ok (.aload_n 0, 1) := by decide +kernel
theorem dX8_roomsThatSmell_55 : decode cX8_roomsThatSmell 55 = .ok (.getfield 12, 3) := by decide +kernel
theorem dX8_roomsThatSmell_58 : decode cX8_roomsThatSmell 58 = .ok (.invokevirtual 32, 3) := by decide +kernel
theorem dX8_roomsThatSmell_61 : decode cX8_roomsThatSmell 61 = .ok (.iinc 4 1, 3) := by decide +kernel
theorem dX8_roomsThatSmell_64 : decode cX8_roomsThatSmell 64 = .ok (.goto (-30), 3) := by decide +kernel
theorem dX8_roomsThatSmell_67 : decode cX8_roomsThatSmell 67 = .ok (.iconst 0, 1) := by decide +kernel
theorem dX8_roomsThatSmell_68 : decode cX8_roomsThatSmell 68 = .ok (.istore 4, 2) := by decide +kernel
theorem dX8_roomsThatSmell_70 : decode cX8_roomsThatSmell 70 = .ok (.iconst 0, 1) := by decide +kernel
theorem dX8_roomsThatSmell_71 : decode cX8_roomsThatSmell 71 = .ok (.istore 5, 2) := by decide +kernel
theorem dX8_roomsThatSmell_73 : decode cX8_roomsThatSmell 73 = .ok (.iload 5, 2) := by decide +kernel
theorem dX8_roomsThatSmell_75 : decode cX8_roomsThatSmell 75 = .ok (.bipush 8, 2) := by decide +kernel
theorem dX8_roomsThatSmell_77 : decode cX8_roomsThatSmell 77 = .ok (.if_icmp .ge 31, 3) := by decide +kernel
theorem dX8_roomsThatSmell_80 : decode cX8_roomsThatSmell 80 = .ok (.aload_n 0, 1) := by decide +kernel
theorem dX8_roomsThatSmell_81 : decode cX8_roomsThatSmell 81 = .ok (.getfield 12, 3) := by decide +kernel
theorem dX8_roomsThatSmell_84 : decode cX8_roomsThatSmell 84 = .ok (.getfield 63, 3) := by decide +kernel
theorem dX8_roomsThatSmell_87 : decode cX8_roomsThatSmell 87 = .ok (.iload 5, 2) := by decide +kernel
theorem dX8_roomsThatSmell_89 : decode cX8_roomsThatSmell 89 = .ok (.iaload, 1) := by decide +kernel
theorem dX8_roomsThatSmell_90 : decode cX8_roomsThatSmell 90 = .ok (.ifCond .le 12, 3) := by decide +kernel
theorem dX8_roomsThatSmell_93 : decode cX8_roomsThatSmell 93 = .ok (.iload 4, 2) := by decide +kernel
theorem dX8_roomsThatSmell_95 : decode cX8_roomsThatSmell 95 = .ok (.iconst 1, 1) := by decide +kernel
theorem dX8_roomsThatSmell_96 : decode cX8_roomsThatSmell 96 = .ok (.iload 5, 2) := by decide +kernel
theorem dX8_roomsThatSmell_98 : decode cX8_roomsThatSmell 98 = .ok (.ishl, 1) := by decide +kernel
theorem dX8_roomsThatSmell_99 : decode cX8_roomsThatSmell 99 = .ok (.ior, 1) := by decide +kernel
theorem dX8_roomsThatSmell_100 : decode cX8_roomsThatSmell 100 = .ok (.istore 4, 2) := by decide +kernel
theorem dX8_roomsThatSmell_102 : decode cX8_roomsThatSmell 102 = .ok (.iinc 5 1, 3) := by decide +kernel
theorem dX8_roomsThatSmell_105 : decode cX8_roomsThatSmell 105 = .ok (.goto (-32), 3) := by decide +kernel
theorem dX8_roomsThatSmell_108 : decode cX8_roomsThatSmell 108 = .ok (.iload 4, 2) := by decide +kernel
theorem dX8_roomsThatSmell_110 : decode cX8_roomsThatSmell 110 = .ok (.ireturn, 1) := by decide +kernel
theorem dX8_litWith_0 : decode cX8_litWith 0 = .ok (.aload_n 0, 1) := by decide +kernel
theorem dX8_litWith_1 : decode cX8_litWith 1 = .ok (.getfield 12, 3) := by decide +kernel
theorem dX8_litWith_4 : decode cX8_litWith 4 = .ok (.aload_n 1, 1) := by decide +kernel
theorem dX8_litWith_5 : decode cX8_litWith 5 = .ok (.invokevirtual 18, 3) := by decide +kernel
theorem dX8_litWith_8 : decode cX8_litWith 8 = .ok (.aload_n 0, 1) := by decide +kernel
theorem dX8_litWith_9 : decode cX8_litWith 9 = .ok (.getfield 12, 3) := by decide +kernel
theorem dX8_litWith_12 : decode cX8_litWith 12 = .ok (.getfield 36, 3) := by decide +kernel
theorem dX8_litWith_15 : decode cX8_litWith 15 = .ok (.iload_n 2, 1) := by decide +kernel
theorem dX8_litWith_16 : decode cX8_litWith 16 = .ok (.iload_n 3, 1) := by decide +kernel
theorem dX8_litWith_17 : decode cX8_litWith 17 = .ok (.invokevirtual 75, 3) := by decide +kernel
theorem dX8_litWith_20 : decode cX8_litWith 20 = .ok (.iconst 0, 1) := by decide +kernel
theorem dX8_litWith_21 : decode cX8_litWith 21 = .ok (.istore 5, 2) := by decide +kernel
theorem dX8_litWith_23 : decode cX8_litWith 23 = .ok (.iload 5, 2) := by decide +kernel
theorem dX8_litWith_25 : decode cX8_litWith 25 = .ok (.iload 4, 2) := by decide +kernel
theorem dX8_litWith_27 : decode cX8_litWith 27 = .ok (.if_icmp .ge 16, 3) := by decide +kernel
theorem dX8_litWith_30 : decode cX8_litWith 30 = .ok (.aload_n 0, 1) := by decide +kernel
theorem dX8_litWith_31 : decode cX8_litWith 31 = .ok (.getfield 12, 3) := by decide +kernel
theorem dX8_litWith_34 : decode cX8_litWith 34 = .ok (.invokevirtual 22, 3) := by decide +kernel
theorem dX8_litWith_37 : decode cX8_litWith 37 = .ok (.iinc 5 1, 3) := by decide +kernel
theorem dX8_litWith_40 : decode cX8_litWith 40 = .ok (.goto (-17), 3) := by decide +kernel
theorem dX8_litWith_43 : decode cX8_litWith 43 = .ok (.aload_n 0, 1) := by decide +kernel
theorem dX8_litWith_44 : decode cX8_litWith 44 = .ok (.getfield 12, 3) := by decide +kernel
theorem dX8_litWith_47 : decode cX8_litWith 47 = .ok (.invokevirtual 79, 3) := by decide +kernel
theorem dX8_litWith_50 : decode cX8_litWith 50 = .ok (.ireturn, 1) := by decide +kernel
theorem dX8_allStayLit_0 : decode cX8_allStayLit 0 = .ok (.aload_n 0, 1) := by decide +kernel
theorem dX8_allStayLit_1 : decode cX8_allStayLit 1 = .ok (.getfield 12, 3) := by decide +kernel
theorem dX8_allStayLit_4 : decode cX8_allStayLit 4 = .ok (.aload_n 1, 1) := by decide +kernel
theorem dX8_allStayLit_5 : decode cX8_allStayLit 5 = .ok (.invokevirtual 18, 3) := by decide +kernel
theorem dX8_allStayLit_8 : decode cX8_allStayLit 8 = .ok (.aload_n 0, 1) := by decide +kernel
theorem dX8_allStayLit_9 : decode cX8_allStayLit 9 = .ok (.getfield 12, 3) := by decide +kernel
theorem dX8_allStayLit_12 : decode cX8_allStayLit 12 = .ok (.getfield 83, 3) := by decide +kernel
theorem dX8_allStayLit_15 : decode cX8_allStayLit 15 = .ok (.bipush 8, 2) := by decide +kernel
theorem dX8_allStayLit_17 : decode cX8_allStayLit 17 = .ok (.iload_n 2, 1) := by decide +kernel
theorem dX8_allStayLit_18 : decode cX8_allStayLit 18 = .ok (.iastore, 1) := by decide +kernel
theorem dX8_allStayLit_19 : decode cX8_allStayLit 19 = .ok (.iconst 0, 1) := by decide +kernel
theorem dX8_allStayLit_20 : decode cX8_allStayLit 20 = .ok (.istore 4, 2) := by decide +kernel
theorem dX8_allStayLit_22 : decode cX8_allStayLit 22 = .ok (.iload 4, 2) := by decide +kernel
theorem dX8_allStayLit_24 : decode cX8_allStayLit 24 = .ok (.iload_n 3, 1) := by decide +kernel
theorem dX8_allStayLit_25 : decode cX8_allStayLit 25 = .ok (.if_icmp .ge 30, 3) := by decide +kernel
theorem dX8_allStayLit_28 : decode cX8_allStayLit 28 = .ok (.aload_n 0, 1) := by decide +kernel
theorem dX8_allStayLit_29 : decode cX8_allStayLit 29 = .ok (.getfield 12, 3) := by decide +kernel
theorem dX8_allStayLit_32 : decode cX8_allStayLit 32 = .ok (.getfield 86, 3) := by decide +kernel
theorem dX8_allStayLit_35 : decode cX8_allStayLit 35 = .ok (.aload_n 1, 1) := by decide +kernel
theorem dX8_allStayLit_36 : decode cX8_allStayLit 36 = .ok (.getfield 86, 3) := by decide +kernel
theorem dX8_allStayLit_39 : decode cX8_allStayLit 39 = .ok (.if_icmp .ne 16, 3) := by decide +kernel
theorem dX8_allStayLit_42 : decode cX8_allStayLit 42 = .ok (.aload_n 0, 1) := by decide +kernel
theorem dX8_allStayLit_43 : decode cX8_allStayLit 43 = .ok (.getfield 12, 3) := by decide +kernel
theorem dX8_allStayLit_46 : decode cX8_allStayLit 46 = .ok (.invokevirtual 22, 3) := by decide +kernel
theorem dX8_allStayLit_49 : decode cX8_allStayLit 49 = .ok (.iinc 4 1, 3) := by decide +kernel
theorem dX8_allStayLit_52 : decode cX8_allStayLit 52 = .ok (.goto (-30), 3) := by decide +kernel
theorem dX8_allStayLit_55 : decode cX8_allStayLit 55 = .ok (.aload_n 0, 1) := by decide +kernel
theorem dX8_allStayLit_56 : decode cX8_allStayLit 56 = .ok (.getfield 12, 3) := by decide +kernel
theorem dX8_allStayLit_59 : decode cX8_allStayLit 59 = .ok (.getfield 86, 3) := by decide +kernel
theorem dX8_allStayLit_62 : decode cX8_allStayLit 62 = .ok (.aload_n 1, 1) := by decide +kernel
theorem dX8_allStayLit_63 : decode cX8_allStayLit 63 = .ok (.getfield 86, 3) := by decide +kernel
theorem dX8_allStayLit_66 : decode cX8_allStayLit 66 = .ok (.if_icmp .ne 7, 3) := by decide +kernel
theorem dX8_allStayLit_69 : decode cX8_allStayLit 69 = .ok (.iconst 1, 1) := by decide +kernel
theorem dX8_allStayLit_70 : decode cX8_allStayLit 70 = .ok (.goto 4, 3) := by decide +kernel
theorem dX8_allStayLit_73 : decode cX8_allStayLit 73 = .ok (.iconst 0, 1) := by decide +kernel
theorem dX8_allStayLit_74 : decode cX8_allStayLit 74 = .ok (.ireturn, 1) := by decide +kernel
theorem dX8_likeliestDoor_0 : decode cX8_likeliestDoor 0 = .ok (.ldc 35, 2) := by decide +kernel
theorem dX8_likeliestDoor_2 : decode cX8_likeliestDoor 2 = .ok (.istore 4, 2) := by decide +kernel
theorem dX8_likeliestDoor_4 : decode cX8_likeliestDoor 4 = .ok (.ldc 89, 2) := by decide +kernel
theorem dX8_likeliestDoor_6 : decode cX8_likeliestDoor 6 = .ok (.istore 5, 2) := by decide +kernel
theorem dX8_likeliestDoor_8 : decode cX8_likeliestDoor 8 = .ok (.iconst 0, 1) := by decide +kernel
theorem dX8_likeliestDoor_9 : decode cX8_likeliestDoor 9 = .ok (.istore 6, 2) := by decide +kernel
theorem dX8_likeliestDoor_11 : decode cX8_likeliestDoor 11 = .ok (.iload 6, 2) := by decide +kernel
theorem dX8_likeliestDoor_13 : decode cX8_likeliestDoor 13 = .ok (.aload_n 1, 1) := by decide +kernel
theorem dX8_likeliestDoor_14 : decode cX8_likeliestDoor 14 = .ok (.getfield 36, 3) := by decide +kernel
theorem dX8_likeliestDoor_17 : decode cX8_likeliestDoor 17 = .ok (.getfield 90, 3) := by decide +kernel
theorem dX8_likeliestDoor_20 : decode cX8_likeliestDoor 20 = .ok (.if_icmp .ge 35, 3) := by decide +kernel
theorem dX8_likeliestDoor_23 : decode cX8_likeliestDoor 23 = .ok (.aload_n 0, 1) := by decide +kernel
theorem dX8_likeliestDoor_24 : decode cX8_likeliestDoor 24 = .ok (.aload_n 1, 1) := by decide +kernel
theorem dX8_likeliestDoor_25 : decode cX8_likeliestDoor 25 = .ok (.aload_n 2, 1) := by decide +kernel
theorem dX8_likeliestDoor_26 : decode cX8_likeliestDoor 26 = .ok (.iload 6, 2) := by decide +kernel
theorem dX8_likeliestDoor_28 : decode cX8_likeliestDoor 28 = .ok (.iload_n 3, 1) := by decide +kernel
theorem dX8_likeliestDoor_29 : decode cX8_likeliestDoor 29 = .ok (.invokevirtual 93, 3) := by decide +kernel
theorem dX8_likeliestDoor_32 : decode cX8_likeliestDoor 32 = .ok (.istore 7, 2) := by decide +kernel
theorem dX8_likeliestDoor_34 : decode cX8_likeliestDoor 34 = .ok (.iload 7, 2) := by decide +kernel
theorem dX8_likeliestDoor_36 : decode cX8_likeliestDoor 36 = .ok (.iload 5, 2) := by decide +kernel
theorem dX8_likeliestDoor_38 : decode cX8_likeliestDoor 38 = .ok (.if_icmp .ge 11, 3) := by decide +kernel
theorem dX8_likeliestDoor_41 : decode cX8_likeliestDoor 41 = .ok (.iload 6, 2) := by decide +kernel
theorem dX8_likeliestDoor_43 : decode cX8_likeliestDoor 43 = .ok (.istore 4, 2) := by decide +kernel
theorem dX8_likeliestDoor_45 : decode cX8_likeliestDoor 45 = .ok (.iload 7, 2) := by decide +kernel
theorem dX8_likeliestDoor_47 : decode cX8_likeliestDoor 47 = .ok (.istore 5, 2) := by decide +kernel
theorem dX8_likeliestDoor_49 : decode cX8_likeliestDoor 49 = .ok (.iinc 6 1, 3) := by decide +kernel
theorem dX8_likeliestDoor_52 : decode cX8_likeliestDoor 52 = .ok (.goto (-41), 3) := by decide +kernel
theorem dX8_likeliestDoor_55 : decode cX8_likeliestDoor 55 = .ok (.iload 4, 2) := by decide +kernel
theorem dX8_likeliestDoor_57 : decode cX8_likeliestDoor 57 = .ok (.ireturn, 1) := by decide +kernel
theorem dX8_differenceWith_0 : decode cX8_differenceWith 0 = .ok (.aload_n 0, 1) := by decide +kernel
theorem dX8_differenceWith_1 : decode cX8_differenceWith 1 = .ok (.getfield 12, 3) := by decide +kernel
theorem dX8_differenceWith_4 : decode cX8_differenceWith 4 = .ok (.aload_n 1, 1) := by decide +kernel
theorem dX8_differenceWith_5 : decode cX8_differenceWith 5 = .ok (.invokevirtual 18, 3) := by decide +kernel
theorem dX8_differenceWith_8 : decode cX8_differenceWith 8 = .ok (.aload_n 0, 1) := by decide +kernel
theorem dX8_differenceWith_9 : decode cX8_differenceWith 9 = .ok (.getfield 12, 3) := by decide +kernel
theorem dX8_differenceWith_12 : decode cX8_differenceWith 12 = .ok (.getfield 36, 3) := by decide +kernel
theorem dX8_differenceWith_15 : decode cX8_differenceWith 15 = .ok (.iload_n 3, 1) := by decide +kernel
theorem dX8_differenceWith_16 : decode cX8_differenceWith 16 = .ok (.aload_n 1, 1) := by decide +kernel
theorem dX8_differenceWith_17 : decode cX8_differenceWith 17 = .ok (.getfield 36, 3) := by decide +kernel
theorem dX8_differenceWith_20 : decode cX8_differenceWith 20 = .ok (.iload_n 3, 1) := by decide +kernel
theorem dX8_differenceWith_21 : decode cX8_differenceWith 21 = .ok (.invokevirtual 97, 3) := by decide +kernel
theorem dX8_differenceWith_24 : decode cX8_differenceWith 24 = .ok (.ifCond .ne 7, 3) := by decide +kernel
theorem dX8_differenceWith_27 : decode cX8_differenceWith 27 = .ok (.iconst 1, 1) := by decide +kernel
theorem dX8_differenceWith_28 : decode cX8_differenceWith 28 = .ok (.goto 4, 3) := by decide +kernel
theorem dX8_differenceWith_31 : decode cX8_differenceWith 31 = .ok (.iconst 0, 1) := by decide +kernel
theorem dX8_differenceWith_32 : decode cX8_differenceWith 32 = .ok (.invokevirtual 75, 3) := by decide +kernel
theorem dX8_differenceWith_35 : decode cX8_differenceWith 35 = .ok (.iconst 0, 1) := by decide +kernel
theorem dX8_differenceWith_36 : decode cX8_differenceWith 36 = .ok (.istore 5, 2) := by decide +kernel
theorem dX8_differenceWith_38 : decode cX8_differenceWith 38 = .ok (.iload 5, 2) := by decide +kernel
theorem dX8_differenceWith_40 : decode cX8_differenceWith 40 = .ok (.iload 4, 2) := by decide +kernel
theorem dX8_differenceWith_42 : decode cX8_differenceWith 42 = .ok (.if_icmp .ge 23, 3) := by decide +kernel
theorem dX8_differenceWith_45 : decode cX8_differenceWith 45 = .ok (.aload_n 0, 1) := by decide +kernel
theorem dX8_differenceWith_46 : decode cX8_differenceWith 46 = .ok (.getfield 12, 3) := by decide +kernel
theorem dX8_differenceWith_49 : decode cX8_differenceWith 49 = .ok (.invokevirtual 25, 3) := by decide +kernel
theorem dX8_differenceWith_52 : decode cX8_differenceWith 52 = .ok (.aload_n 0, 1) := by decide +kernel
theorem dX8_differenceWith_53 : decode cX8_differenceWith 53 = .ok (.getfield 12, 3) := by decide +kernel
theorem dX8_differenceWith_56 : decode cX8_differenceWith 56 = .ok (.invokevirtual 32, 3) := by decide +kernel
theorem dX8_differenceWith_59 : decode cX8_differenceWith 59 = .ok (.iinc 5 1, 3) := by decide +kernel
theorem dX8_differenceWith_62 : decode cX8_differenceWith 62 = .ok (.goto (-24), 3) := by decide +kernel
theorem dX8_differenceWith_65 : decode cX8_differenceWith 65 = .ok (.iconst 0, 1) := by decide +kernel
theorem dX8_differenceWith_66 : decode cX8_differenceWith 66 = .ok (.istore 5, 2) := by decide +kernel
theorem dX8_differenceWith_68 : decode cX8_differenceWith 68 = .ok (.iconst 0, 1) := by decide +kernel
theorem dX8_differenceWith_69 : decode cX8_differenceWith 69 = .ok (.istore 6, 2) := by decide +kernel
theorem dX8_differenceWith_71 : decode cX8_differenceWith 71 = .ok (.iload 6, 2) := by decide +kernel
theorem dX8_differenceWith_73 : decode cX8_differenceWith 73 = .ok (.bipush 8, 2) := by decide +kernel
theorem dX8_differenceWith_75 : decode cX8_differenceWith 75 = .ok (.if_icmp .ge 44, 3) := by decide +kernel
theorem dX8_differenceWith_78 : decode cX8_differenceWith 78 = .ok (.aload_n 2, 1) := by decide +kernel
theorem dX8_differenceWith_79 : decode cX8_differenceWith 79 = .ok (.iload 6, 2) := by decide +kernel
theorem dX8_differenceWith_81 : decode cX8_differenceWith 81 = .ok (.invokevirtual 101, 3) := by decide +kernel
theorem dX8_differenceWith_84 : decode cX8_differenceWith 84 = .ok (.ifCond .eq 29, 3) := by decide +kernel
theorem dX8_differenceWith_87 : decode cX8_differenceWith 87 = .ok (.iload 5, 2) := by decide +kernel
theorem dX8_differenceWith_89 : decode cX8_differenceWith 89 = .ok (.aload_n 0, 1) := by decide +kernel
theorem dX8_differenceWith_90 : decode cX8_differenceWith 90 = .ok (.getfield 12, 3) := by decide +kernel
theorem dX8_differenceWith_93 : decode cX8_differenceWith 93 = .ok (.getfield 83, 3) := by decide +kernel
theorem dX8_differenceWith_96 : decode cX8_differenceWith 96 = .ok (.iload 6, 2) := by decide +kernel
theorem dX8_differenceWith_98 : decode cX8_differenceWith 98 = .ok (.iaload, 1) := by decide +kernel
theorem dX8_differenceWith_99 : decode cX8_differenceWith 99 = .ok (.aload_n 2, 1) := by decide +kernel
theorem dX8_differenceWith_100 : decode cX8_differenceWith 100 = .ok (.getfield 106, 3) := by decide +kernel
theorem dX8_differenceWith_103 : decode cX8_differenceWith 103 = .ok (.iload 6, 2) := by decide +kernel
theorem dX8_differenceWith_105 : decode cX8_differenceWith 105 = .ok (.iaload, 1) := by decide +kernel
theorem dX8_differenceWith_106 : decode cX8_differenceWith 106 = .ok (.isub, 1) := by decide +kernel
theorem dX8_differenceWith_107 : decode cX8_differenceWith 107 = .ok (.invokestatic 109, 3) := by decide +kernel
theorem dX8_differenceWith_110 : decode cX8_differenceWith 110 = .ok (.iadd, 1) := by decide +kernel
theorem dX8_differenceWith_111 : decode cX8_differenceWith 111 = .ok (.istore 5, 2) := by decide +kernel
theorem dX8_differenceWith_113 : decode cX8_differenceWith 113 = .ok (.iinc 6 1, 3) := by decide +kernel
theorem dX8_differenceWith_116 : decode cX8_differenceWith 116 = .ok (.goto (-45), 3) := by decide +kernel
theorem dX8_differenceWith_119 : decode cX8_differenceWith 119 = .ok (.iload 5, 2) := by decide +kernel
theorem dX8_differenceWith_121 : decode cX8_differenceWith 121 = .ok (.ireturn, 1) := by decide +kernel
theorem dX8_rightOnes_0 : decode cX8_rightOnes 0 = .ok (.aload_n 0, 1) := by decide +kernel
theorem dX8_rightOnes_1 : decode cX8_rightOnes 1 = .ok (.getfield 12, 3) := by decide +kernel
theorem dX8_rightOnes_4 : decode cX8_rightOnes 4 = .ok (.aload_n 1, 1) := by decide +kernel
theorem dX8_rightOnes_5 : decode cX8_rightOnes 5 = .ok (.invokevirtual 18, 3) := by decide +kernel
theorem dX8_rightOnes_8 : decode cX8_rightOnes 8 = .ok (.iload 4, 2) := by decide +kernel
theorem dX8_rightOnes_10 : decode cX8_rightOnes 10 = .ok (.aload_n 1, 1) := by decide +kernel
theorem dX8_rightOnes_11 : decode cX8_rightOnes 11 = .ok (.invokevirtual 114, 3) := by decide +kernel
theorem dX8_rightOnes_14 : decode cX8_rightOnes 14 = .ok (.invokestatic 117, 3) := by decide +kernel
theorem dX8_rightOnes_17 : decode cX8_rightOnes 17 = .ok (.istore 5, 2) := by decide +kernel
theorem dX8_rightOnes_19 : decode cX8_rightOnes 19 = .ok (.iconst 0, 1) := by decide +kernel
theorem dX8_rightOnes_20 : decode cX8_rightOnes 20 = .ok (.istore 6, 2) := by decide +kernel
theorem dX8_rightOnes_22 : decode cX8_rightOnes 22 = .ok (.iconst 0, 1) := by decide +kernel
theorem dX8_rightOnes_23 : decode cX8_rightOnes 23 = .ok (.istore 7, 2) := by decide +kernel
theorem dX8_rightOnes_25 : decode cX8_rightOnes 25 = .ok (.iload 7, 2) := by decide +kernel
theorem dX8_rightOnes_27 : decode cX8_rightOnes 27 = .ok (.iload 5, 2) := by decide +kernel
theorem dX8_rightOnes_29 : decode cX8_rightOnes 29 = .ok (.if_icmp .ge 68, 3) := by decide +kernel
theorem dX8_rightOnes_32 : decode cX8_rightOnes 32 = .ok (.aload_n 0, 1) := by decide +kernel
theorem dX8_rightOnes_33 : decode cX8_rightOnes 33 = .ok (.getfield 12, 3) := by decide +kernel
theorem dX8_rightOnes_36 : decode cX8_rightOnes 36 = .ok (.invokevirtual 22, 3) := by decide +kernel
theorem dX8_rightOnes_39 : decode cX8_rightOnes 39 = .ok (.iload 6, 2) := by decide +kernel
theorem dX8_rightOnes_41 : decode cX8_rightOnes 41 = .ok (.iload_n 3, 1) := by decide +kernel
theorem dX8_rightOnes_42 : decode cX8_rightOnes 42 = .ok (.if_icmp .ge 17, 3) := by decide +kernel
theorem dX8_rightOnes_45 : decode cX8_rightOnes 45 = .ok (.aload_n 2, 1) := by decide +kernel
theorem dX8_rightOnes_46 : decode cX8_rightOnes 46 = .ok (.iload 6, 2) := by decide +kernel
theorem dX8_rightOnes_48 : decode cX8_rightOnes 48 = .ok (.iaload, 1) := by decide +kernel
theorem dX8_rightOnes_49 : decode cX8_rightOnes 49 = .ok (.aload_n 0, 1) := by decide +kernel
theorem dX8_rightOnes_50 : decode cX8_rightOnes 50 = .ok (.getfield 12, 3) := by decide +kernel
theorem dX8_rightOnes_53 : decode cX8_rightOnes 53 = .ok (.invokevirtual 121, 3) := by decide +kernel
theorem dX8_rightOnes_56 : decode cX8_rightOnes 56 = .ok (.if_icmp .eq 6, 3) := by decide +kernel
theorem dX8_rightOnes_59 : decode cX8_rightOnes 59 = .ok (.iload 6, 2) := by decide +kernel
theorem dX8_rightOnes_61 : decode cX8_rightOnes 61 = .ok (.ireturn, 1) := by decide +kernel
theorem dX8_rightOnes_62 : decode cX8_rightOnes 62 = .ok (.iinc 6 1, 3) := by decide +kernel
theorem dX8_rightOnes_65 : decode cX8_rightOnes 65 = .ok (.iload 6, 2) := by decide +kernel
theorem dX8_rightOnes_67 : decode cX8_rightOnes 67 = .ok (.iload_n 3, 1) := by decide +kernel
theorem dX8_rightOnes_68 : decode cX8_rightOnes 68 = .ok (.if_icmp .ge 17, 3) := by decide +kernel
theorem dX8_rightOnes_71 : decode cX8_rightOnes 71 = .ok (.aload_n 2, 1) := by decide +kernel
theorem dX8_rightOnes_72 : decode cX8_rightOnes 72 = .ok (.iload 6, 2) := by decide +kernel
theorem dX8_rightOnes_74 : decode cX8_rightOnes 74 = .ok (.iaload, 1) := by decide +kernel
theorem dX8_rightOnes_75 : decode cX8_rightOnes 75 = .ok (.aload_n 0, 1) := by decide +kernel
theorem dX8_rightOnes_76 : decode cX8_rightOnes 76 = .ok (.getfield 12, 3) := by decide +kernel
theorem dX8_rightOnes_79 : decode cX8_rightOnes 79 = .ok (.getfield 86, 3) := by decide +kernel
theorem dX8_rightOnes_82 : decode cX8_rightOnes 82 = .ok (.if_icmp .eq 6, 3) := by decide +kernel
theorem dX8_rightOnes_85 : decode cX8_rightOnes 85 = .ok (.iload 6, 2) := by decide +kernel
theorem dX8_rightOnes_87 : decode cX8_rightOnes 87 = .ok (.ireturn, 1) := by decide +kernel
theorem dX8_rightOnes_88 : decode cX8_rightOnes 88 = .ok (.iinc 6 1, 3) := by decide +kernel
theorem dX8_rightOnes_91 : decode cX8_rightOnes 91 = .ok (.iinc 7 1, 3) := by decide +kernel
theorem dX8_rightOnes_94 : decode cX8_rightOnes 94 = .ok (.goto (-69), 3) := by decide +kernel
theorem dX8_rightOnes_97 : decode cX8_rightOnes 97 = .ok (.iload 6, 2) := by decide +kernel
theorem dX8_rightOnes_99 : decode cX8_rightOnes 99 = .ok (.ireturn, 1) := by decide +kernel
end
section
theorem dX4_init_0 : decode cX4_init 0 = .ok (.aload_n 0, 1) := by decide +kernel
theorem dX4_init_1 : decode cX4_init 1 = .ok (.invokespecial 3, 3) := by decide +kernel
theorem dX4_init_4 : decode cX4_init 4 = .ok (.aload_n 0, 1) := by decide +kernel
theorem dX4_init_5 : decode cX4_init 5 = .ok (.bipush 96, 2) := by decide +kernel
theorem dX4_init_7 : decode cX4_init 7 = .ok (.newarray .int, 2) := by decide +kernel
theorem dX4_init_9 : decode cX4_init 9 = .ok (.putfield 9, 3) := by decide +kernel
theorem dX4_init_12 : decode cX4_init 12 = .ok (.aload_n 0, 1) := by decide +kernel
theorem dX4_init_13 : decode cX4_init 13 = .ok (.aload_n 1, 1) := by decide +kernel
theorem dX4_init_14 : decode cX4_init 14 = .ok (.putfield 15, 3) := by decide +kernel
theorem dX4_init_17 : decode cX4_init 17 = .ok (.return_, 1) := by decide +kernel
theorem dX4_faultOf_0 : decode cX4_faultOf 0 = .ok (.aload_n 0, 1) := by decide +kernel
theorem dX4_faultOf_1 : decode cX4_faultOf 1 = .ok (.iload_n 1, 1) := by decide +kernel
theorem dX4_faultOf_2 : decode cX4_faultOf 2 = .ok (.putfield 19, 3) := by decide +kernel
theorem dX4_faultOf_5 : decode cX4_faultOf 5 = .ok (.aload_n 0, 1) := by decide +kernel
theorem dX4_faultOf_6 : decode cX4_faultOf 6 = .ok (.iconst 0, 1) := by decide +kernel
theorem dX4_faultOf_7 : decode cX4_faultOf 7 = .ok (.putfield 23, 3) := by decide +kernel
theorem dX4_faultOf_10 : decode cX4_faultOf 10 = .ok (.aload_n 0, 1) := by decide +kernel
theorem dX4_faultOf_11 : decode cX4_faultOf 11 = .ok (.iconst 0, 1) := by decide +kernel
theorem dX4_faultOf_12 : decode cX4_faultOf 12 = .ok (.putfield 26, 3) := by decide +kernel
theorem dX4_faultOf_15 : decode cX4_faultOf 15 = .ok (.aload_n 0, 1) := by decide +kernel
theorem dX4_faultOf_16 : decode cX4_faultOf 16 = .ok (.iconst 0, 1) := by decide +kernel
theorem dX4_faultOf_17 : decode cX4_faultOf 17 = .ok (.putfield 29, 3) := by decide +kernel
theorem dX4_faultOf_20 : decode cX4_faultOf 20 = .ok (.aload_n 0, 1) := by decide +kernel
theorem dX4_faultOf_21 : decode cX4_faultOf 21 = .ok (.iconst 0, 1) := by decide +kernel
theorem dX4_faultOf_22 : decode cX4_faultOf 22 = .ok (.putfield 32, 3) := by decide +kernel
theorem dX4_faultOf_25 : decode cX4_faultOf 25 = .ok (.aload_n 0, 1) := by decide +kernel
theorem dX4_faultOf_26 : decode cX4_faultOf 26 = .ok (.ldc 35, 2) := by decide +kernel
theorem dX4_faultOf_28 : decode cX4_faultOf 28 = .ok (.putfield 36, 3) := by decide +kernel
theorem dX4_faultOf_31 : decode cX4_faultOf 31 = .ok (.aload_n 0, 1) := by decide +kernel
theorem dX4_faultOf_32 : decode cX4_faultOf 32 = .ok (.invokevirtual 39, 3) := by decide +kernel
theorem dX4_faultOf_35 : decode cX4_faultOf 35 = .ok (.aload_n 0, 1) := by decide +kernel
theorem dX4_faultOf_36 : decode cX4_faultOf 36 = .ok (.invokevirtual 42, 3) := by decide +kernel
theorem dX4_faultOf_39 : decode cX4_faultOf 39 = .ok (.aload_n 0, 1) := by decide +kernel
theorem dX4_faultOf_40 : decode cX4_faultOf 40 = .ok (.getfield 36, 3) := by decide +kernel
theorem dX4_faultOf_43 : decode cX4_faultOf 43 = .ok (.ldc 35, 2) := by decide +kernel
theorem dX4_faultOf_45 : decode cX4_faultOf 45 = .ok (.if_icmp .ne 10, 3) := by decide +kernel
theorem dX4_faultOf_48 : decode cX4_faultOf 48 = .ok (.aload_n 0, 1) := by decide +kernel
theorem dX4_faultOf_49 : decode cX4_faultOf 49 = .ok (.iconst 0, 1) := by decide +kernel
theorem dX4_faultOf_50 : decode cX4_faultOf 50 = .ok (.iconst 0, 1) := by decide +kernel
theorem dX4_faultOf_51 : decode cX4_faultOf 51 = .ok (.iconst 0, 1) := by decide +kernel
theorem dX4_faultOf_52 : decode cX4_faultOf 52 = .ok (.invokevirtual 45, 3) := by decide +kernel
theorem dX4_faultOf_55 : decode cX4_faultOf 55 = .ok (.aload_n 0, 1) := by decide +kernel
theorem dX4_faultOf_56 : decode cX4_faultOf 56 = .ok (.getfield 36, 3) := by decide +kernel
theorem dX4_faultOf_59 : decode cX4_faultOf 59 = .ok (.ldc 35, 2) := by decide +kernel
theorem dX4_faultOf_61 : decode cX4_faultOf 61 = .ok (.if_icmp .ne 18, 3) := by decide +kernel
theorem dX4_faultOf_64 : decode cX4_faultOf 64 = .ok (.aload_n 0, 1) := by decide +kernel
theorem dX4_faultOf_65 : decode cX4_faultOf 65 = .ok (.getfield 26, 3) := by decide +kernel
theorem dX4_faultOf_68 : decode cX4_faultOf 68 = .ok (.ifCond .eq 11, 3) := by decide +kernel
theorem dX4_faultOf_71 : decode cX4_faultOf 71 = .ok (.aload_n 0, 1) := by decide +kernel
theorem dX4_faultOf_72 : decode cX4_faultOf 72 = .ok (.aload_n 0, 1) := by decide +kernel
theorem dX4_faultOf_73 : decode cX4_faultOf 73 = .ok (.getfield 49, 3) := by decide +kernel
theorem dX4_faultOf_76 : decode cX4_faultOf 76 = .ok (.putfield 36, 3) := by decide +kernel
theorem dX4_faultOf_79 : decode cX4_faultOf 79 = .ok (.aload_n 0, 1) := by decide +kernel
theorem dX4_faultOf_80 : decode cX4_faultOf 80 = .ok (.getfield 36, 3) := by decide +kernel
theorem dX4_faultOf_83 : decode cX4_faultOf 83 = .ok (.ireturn, 1) := by decide +kernel
theorem dX4_lawRead_0 : decode cX4_lawRead 0 = .ok (.new 52, 3) := by decide +kernel
theorem dX4_lawRead_3 : decode cX4_lawRead 3 = .ok (.dup, 1) := by decide +kernel
theorem dX4_lawRead_4 : decode cX4_lawRead 4 = .ok (.aload_n 0, 1) := by decide +kernel
theorem dX4_lawRead_5 : decode cX4_lawRead 5 = .ok (.getfield 54, 3) := by decide +kernel
theorem dX4_lawRead_8 : decode cX4_lawRead 8 = .ok (.aload_n 0, 1) := by decide +kernel
theorem dX4_lawRead_9 : decode cX4_lawRead 9 = .ok (.getfield 29, 3) := by decide +kernel
theorem dX4_lawRead_12 : decode cX4_lawRead 12 = .ok (.aload_n 0, 1) := by decide +kernel
theorem dX4_lawRead_13 : decode cX4_lawRead 13 = .ok (.getfield 9, 3) := by decide +kernel
theorem dX4_lawRead_16 : decode cX4_lawRead 16 = .ok (.aload_n 0, 1) := by decide +kernel
theorem dX4_lawRead_17 : decode cX4_lawRead 17 = .ok (.getfield 32, 3) := by decide +kernel
theorem dX4_lawRead_20 : decode cX4_lawRead 20 = .ok (.invokestatic 57, 3) := by decide +kernel
theorem dX4_lawRead_23 : decode cX4_lawRead 23 = .ok (.invokespecial 63, 3) := by decide +kernel
theorem dX4_lawRead_26 : decode cX4_lawRead 26 = .ok (.areturn, 1) := by decide +kernel
theorem dX4_readKey_0 : decode cX4_readKey 0 = .ok (.aload_n 0, 1) := by decide +kernel
theorem dX4_readKey_1 : decode cX4_readKey 1 = .ok (.ldc 66, 2) := by decide +kernel
theorem dX4_readKey_3 : decode cX4_readKey 3 = .ok (.invokevirtual 68, 3) := by decide +kernel
theorem dX4_readKey_6 : decode cX4_readKey 6 = .ok (.ifCond .eq 11, 3) := by decide +kernel
theorem dX4_readKey_9 : decode cX4_readKey 9 = .ok (.aload_n 0, 1) := by decide +kernel
theorem dX4_readKey_10 : decode cX4_readKey 10 = .ok (.iconst 0, 1) := by decide +kernel
theorem dX4_readKey_11 : decode cX4_readKey 11 = .ok (.putfield 54, 3) := by decide +kernel
theorem dX4_readKey_14 : decode cX4_readKey 14 = .ok (.goto 46, 3) := by decide +kernel
theorem dX4_readKey_17 : decode cX4_readKey 17 = .ok (.aload_n 0, 1) := by decide +kernel
theorem dX4_readKey_18 : decode cX4_readKey 18 = .ok (.ldc 74, 2) := by decide +kernel
theorem dX4_readKey_20 : decode cX4_readKey 20 = .ok (.invokevirtual 68, 3) := by decide +kernel
theorem dX4_readKey_23 : decode cX4_readKey 23 = .ok (.ifCond .eq 11, 3) := by decide +kernel
theorem dX4_readKey_26 : decode cX4_readKey 26 = .ok (.aload_n 0, 1) := by decide +kernel
theorem dX4_readKey_27 : decode cX4_readKey 27 = .ok (.iconst 1, 1) := by decide +kernel
theorem dX4_readKey_28 : decode cX4_readKey 28 = .ok (.putfield 54, 3) := by decide +kernel
theorem dX4_readKey_31 : decode cX4_readKey 31 = .ok (.goto 29, 3) := by decide +kernel
theorem dX4_readKey_34 : decode cX4_readKey 34 = .ok (.aload_n 0, 1) := by decide +kernel
theorem dX4_readKey_35 : decode cX4_readKey 35 = .ok (.ldc 76, 2) := by decide +kernel
theorem dX4_readKey_37 : decode cX4_readKey 37 = .ok (.invokevirtual 68, 3) := by decide +kernel
theorem dX4_readKey_40 : decode cX4_readKey 40 = .ok (.ifCond .eq 11, 3) := by decide +kernel
theorem dX4_readKey_43 : decode cX4_readKey 43 = .ok (.aload_n 0, 1) := by decide +kernel
theorem dX4_readKey_44 : decode cX4_readKey 44 = .ok (.iconst 2, 1) := by decide +kernel
theorem dX4_readKey_45 : decode cX4_readKey 45 = .ok (.putfield 54, 3) := by decide +kernel
theorem dX4_readKey_48 : decode cX4_readKey 48 = .ok (.goto 12, 3) := by decide +kernel
theorem dX4_readKey_51 : decode cX4_readKey 51 = .ok (.aload_n 0, 1) := by decide +kernel
theorem dX4_readKey_52 : decode cX4_readKey 52 = .ok (.aload_n 0, 1) := by decide +kernel
theorem dX4_readKey_53 : decode cX4_readKey 53 = .ok (.getfield 49, 3) := by decide +kernel
theorem dX4_readKey_56 : decode cX4_readKey 56 = .ok (.putfield 36, 3) := by decide +kernel
theorem dX4_readKey_59 : decode cX4_readKey 59 = .ok (.return_, 1) := by decide +kernel
theorem dX4_readKey_60 : decode cX4_readKey 60 = .ok (.aload_n 0, 1) := by decide +kernel
theorem dX4_readKey_61 : decode cX4_readKey 61 = .ok (.invokevirtual 39, 3) := by decide +kernel
theorem dX4_readKey_64 : decode cX4_readKey 64 = .ok (.return_, 1) := by decide +kernel
theorem dX4_signsOf_0 : decode cX4_signsOf 0 = .ok (.iload_n 0, 1) := by decide +kernel
theorem dX4_signsOf_1 : decode cX4_signsOf 1 = .ok (.tableswitch 43 0 3 #[31, 34, 37, 40], 31) := by decide +kernel
theorem dX4_signsOf_32 : decode cX4_signsOf 32 = .ok (.ldc 78, 2) := by decide +kernel
theorem dX4_signsOf_34 : decode cX4_signsOf 34 = .ok (.areturn, 1) := by decide +kernel
theorem dX4_signsOf_35 : decode cX4_signsOf 35 = .ok (.ldc 80, 2) := by decide +kernel
theorem dX4_signsOf_37 : decode cX4_signsOf 37 = .ok (.areturn, 1) := by decide +kernel
theorem dX4_signsOf_38 : decode cX4_signsOf 38 = .ok (.ldc 82, 2) := by decide +kernel
theorem dX4_signsOf_40 : decode cX4_signsOf 40 = .ok (.areturn, 1) := by decide +kernel
theorem dX4_signsOf_41 : decode cX4_signsOf 41 = .ok (.ldc 84, 2) := by decide +kernel
theorem dX4_signsOf_43 : decode cX4_signsOf 43 = .ok (.areturn, 1) := by decide +kernel
theorem dX4_signsOf_44 : decode cX4_signsOf 44 = .ok (.ldc 86, 2) := by decide +kernel
theorem dX4_signsOf_46 : decode cX4_signsOf 46 = .ok (.areturn, 1) := by decide +kernel
theorem dX4_readLevel_0 : decode cX4_readLevel 0 = .ok (.iload_n 1, 1) := by decide +kernel
theorem dX4_readLevel_1 : decode cX4_readLevel 1 = .ok (.iconst 4, 1) := by decide +kernel
theorem dX4_readLevel_2 : decode cX4_readLevel 2 = .ok (.if_icmp .le 10, 3) := by decide +kernel
theorem dX4_readLevel_5 : decode cX4_readLevel 5 = .ok (.aload_n 0, 1) := by decide +kernel
theorem dX4_readLevel_6 : decode cX4_readLevel 6 = .ok (.iload_n 2, 1) := by decide +kernel
theorem dX4_readLevel_7 : decode cX4_readLevel 7 = .ok (.iload_n 3, 1) := by decide +kernel
theorem dX4_readLevel_8 : decode cX4_readLevel 8 = .ok (.invokevirtual 88, 3) := by decide +kernel
theorem dX4_readLevel_11 : decode cX4_readLevel 11 = .ok (.return_, 1) := by decide +kernel
theorem dX4_readLevel_12 : decode cX4_readLevel 12 = .ok (.aload_n 0, 1) := by decide +kernel
theorem dX4_readLevel_13 : decode cX4_readLevel 13 = .ok (.iload_n 1, 1) := by decide +kernel
theorem dX4_readLevel_14 : decode cX4_readLevel 14 = .ok (.iconst 1, 1) := by decide +kernel
theorem dX4_readLevel_15 : decode cX4_readLevel 15 = .ok (.iadd, 1) := by decide +kernel
theorem dX4_readLevel_16 : decode cX4_readLevel 16 = .ok (.iload_n 2, 1) := by decide +kernel
theorem dX4_readLevel_17 : decode cX4_readLevel 17 = .ok (.iload_n 3, 1) := by decide +kernel
theorem dX4_readLevel_18 : decode cX4_readLevel 18 = .ok (.invokevirtual 45, 3) := by decide +kernel
theorem dX4_readLevel_21 : decode cX4_readLevel 21 = .ok (.iload_n 1, 1) := by decide +kernel
theorem dX4_readLevel_22 : decode cX4_readLevel 22 = .ok (.iconst 2, 1) := by decide +kernel
theorem dX4_readLevel_23 : decode cX4_readLevel 23 = .ok (.if_icmp .ne 7, 3) := by decide +kernel
theorem dX4_readLevel_26 : decode cX4_readLevel 26 = .ok (.iconst 1, 1) := by decide +kernel
theorem dX4_readLevel_27 : decode cX4_readLevel 27 = .ok (.goto 5, 3) := by decide +kernel
theorem dX4_readLevel_30 : decode cX4_readLevel 30 = .ok (.bipush 96, 2) := by decide +kernel
theorem dX4_readLevel_32 : decode cX4_readLevel 32 = .ok (.istore 4, 2) := by decide +kernel
theorem dX4_readLevel_34 : decode cX4_readLevel 34 = .ok (.iconst 0, 1) := by decide +kernel
theorem dX4_readLevel_35 : decode cX4_readLevel 35 = .ok (.istore 5, 2) := by decide +kernel
theorem dX4_readLevel_37 : decode cX4_readLevel 37 = .ok (.iload 5, 2) := by decide +kernel
theorem dX4_readLevel_39 : decode cX4_readLevel 39 = .ok (.iload 4, 2) := by decide +kernel
theorem dX4_readLevel_41 : decode cX4_readLevel 41 = .ok (.if_icmp .ge 60, 3) := by decide +kernel
theorem dX4_readLevel_44 : decode cX4_readLevel 44 = .ok (.aload_n 0, 1) := by decide +kernel
theorem dX4_readLevel_45 : decode cX4_readLevel 45 = .ok (.getfield 36, 3) := by decide +kernel
theorem dX4_readLevel_48 : decode cX4_readLevel 48 = .ok (.ldc 35, 2) := by decide +kernel
theorem dX4_readLevel_50 : decode cX4_readLevel 50 = .ok (.if_icmp .ne 51, 3) := by decide +kernel
theorem dX4_readLevel_53 : decode cX4_readLevel 53 = .ok (.aload_n 0, 1) := by decide +kernel
theorem dX4_readLevel_54 : decode cX4_readLevel 54 = .ok (.iload_n 1, 1) := by decide +kernel
theorem dX4_readLevel_55 : decode cX4_readLevel 55 = .ok (.invokestatic 92, 3) := by decide +kernel
theorem dX4_readLevel_58 : decode cX4_readLevel 58 = .ok (.invokevirtual 96, 3) := by decide +kernel
theorem dX4_readLevel_61 : decode cX4_readLevel 61 = .ok (.ifCond .eq 40, 3) := by decide +kernel
theorem dX4_readLevel_64 : decode cX4_readLevel 64 = .ok (.aload_n 0, 1) := by decide +kernel
theorem dX4_readLevel_65 : decode cX4_readLevel 65 = .ok (.getfield 15, 3) := by decide +kernel
theorem dX4_readLevel_68 : decode cX4_readLevel 68 = .ok (.aload_n 0, 1) := by decide +kernel
theorem dX4_readLevel_69 : decode cX4_readLevel 69 = .ok (.getfield 49, 3) := by decide +kernel
theorem dX4_readLevel_72 : decode cX4_readLevel 72 = .ok (.baload, 1) := by decide +kernel
theorem dX4_readLevel_73 : decode cX4_readLevel 73 = .ok (.istore 6, 2) := by decide +kernel
theorem dX4_readLevel_75 : decode cX4_readLevel 75 = .ok (.aload_n 0, 1) := by decide +kernel
theorem dX4_readLevel_76 : decode cX4_readLevel 76 = .ok (.invokevirtual 39, 3) := by decide +kernel
theorem dX4_readLevel_79 : decode cX4_readLevel 79 = .ok (.aload_n 0, 1) := by decide +kernel
theorem dX4_readLevel_80 : decode cX4_readLevel 80 = .ok (.iload_n 1, 1) := by decide +kernel
theorem dX4_readLevel_81 : decode cX4_readLevel 81 = .ok (.iconst 1, 1) := by decide +kernel
theorem dX4_readLevel_82 : decode cX4_readLevel 82 = .ok (.iadd, 1) := by decide +kernel
theorem dX4_readLevel_83 : decode cX4_readLevel 83 = .ok (.iload_n 2, 1) := by decide +kernel
theorem dX4_readLevel_84 : decode cX4_readLevel 84 = .ok (.iload_n 3, 1) := by decide +kernel
theorem dX4_readLevel_85 : decode cX4_readLevel 85 = .ok (.invokevirtual 45, 3) := by decide +kernel
theorem dX4_readLevel_88 : decode cX4_readLevel 88 = .ok (.aload_n 0, 1) := by decide +kernel
theorem dX4_readLevel_89 : decode cX4_readLevel 89 = .ok (.iload 6, 2) := by decide +kernel
theorem dX4_readLevel_91 : decode cX4_readLevel 91 = .ok (.ineg, 1) := by decide +kernel
theorem dX4_readLevel_92 : decode cX4_readLevel 92 = .ok (.invokevirtual 99, 3) := by decide +kernel
theorem dX4_readLevel_95 : decode cX4_readLevel 95 = .ok (.iinc 5 1, 3) := by decide +kernel
theorem dX4_readLevel_98 : decode cX4_readLevel 98 = .ok (.goto (-61), 3) := by decide +kernel
theorem dX4_readLevel_101 : decode cX4_readLevel 101 = .ok (.return_, 1) := by decide +kernel
theorem dX4_readPiece_0 : decode cX4_readPiece 0 = .ok (.aload_n 0, 1) := by decide +kernel
theorem dX4_readPiece_1 : decode cX4_readPiece 1 = .ok (.getfield 26, 3) := by decide +kernel
theorem dX4_readPiece_4 : decode cX4_readPiece 4 = .ok (.iconst 2, 1) := by decide +kernel
theorem dX4_readPiece_5 : decode cX4_readPiece 5 = .ok (.if_icmp .ne 27, 3) := by decide +kernel
theorem dX4_readPiece_8 : decode cX4_readPiece 8 = .ok (.aload_n 0, 1) := by decide +kernel
theorem dX4_readPiece_9 : decode cX4_readPiece 9 = .ok (.getfield 23, 3) := by decide +kernel
theorem dX4_readPiece_12 : decode cX4_readPiece 12 = .ok (.aload_n 0, 1) := by decide +kernel
theorem dX4_readPiece_13 : decode cX4_readPiece 13 = .ok (.getfield 49, 3) := by decide +kernel
theorem dX4_readPiece_16 : decode cX4_readPiece 16 = .ok (.isub, 1) := by decide +kernel
theorem dX4_readPiece_17 : decode cX4_readPiece 17 = .ok (.iconst 4, 1) := by decide +kernel
theorem dX4_readPiece_18 : decode cX4_readPiece 18 = .ok (.if_icmp .gt 14, 3) := by decide +kernel
theorem dX4_readPiece_21 : decode cX4_readPiece 21 = .ok (.aload_n 0, 1) := by decide +kernel
theorem dX4_readPiece_22 : decode cX4_readPiece 22 = .ok (.aload_n 0, 1) := by decide +kernel
theorem dX4_readPiece_23 : decode cX4_readPiece 23 = .ok (.invokevirtual 103, 3) := by decide +kernel
theorem dX4_readPiece_26 : decode cX4_readPiece 26 = .ok (.invokevirtual 107, 3) := by decide +kernel
theorem dX4_readPiece_29 : decode cX4_readPiece 29 = .ok (.goto 121, 3) := by decide +kernel
theorem dX4_readPiece_32 : decode cX4_readPiece 32 = .ok (.aload_n 0, 1) := by decide +kernel
theorem dX4_readPiece_33 : decode cX4_readPiece 33 = .ok (.aload_n 0, 1) := by decide +kernel
theorem dX4_readPiece_34 : decode cX4_readPiece 34 = .ok (.invokevirtual 110, 3) := by decide +kernel
theorem dX4_readPiece_37 : decode cX4_readPiece 37 = .ok (.invokevirtual 68, 3) := by decide +kernel
theorem dX4_readPiece_40 : decode cX4_readPiece 40 = .ok (.ifCond .eq 11, 3) := by decide +kernel
theorem dX4_readPiece_43 : decode cX4_readPiece 43 = .ok (.aload_n 0, 1) := by decide +kernel
theorem dX4_readPiece_44 : decode cX4_readPiece 44 = .ok (.iconst (-1), 1) := by decide +kernel
theorem dX4_readPiece_45 : decode cX4_readPiece 45 = .ok (.invokevirtual 107, 3) := by decide +kernel
theorem dX4_readPiece_48 : decode cX4_readPiece 48 = .ok (.goto 102, 3) := by decide +kernel
theorem dX4_readPiece_51 : decode cX4_readPiece 51 = .ok (.aload_n 0, 1) := by decide +kernel
theorem dX4_readPiece_52 : decode cX4_readPiece 52 = .ok (.aload_n 0, 1) := by decide +kernel
theorem dX4_readPiece_53 : decode cX4_readPiece 53 = .ok (.invokevirtual 114, 3) := by decide +kernel
theorem dX4_readPiece_56 : decode cX4_readPiece 56 = .ok (.invokevirtual 68, 3) := by decide +kernel
theorem dX4_readPiece_59 : decode cX4_readPiece 59 = .ok (.ifCond .eq 12, 3) := by decide +kernel
theorem dX4_readPiece_62 : decode cX4_readPiece 62 = .ok (.aload_n 0, 1) := by decide +kernel
theorem dX4_readPiece_63 : decode cX4_readPiece 63 = .ok (.bipush (-2), 2) := by decide +kernel
theorem dX4_readPiece_65 : decode cX4_readPiece 65 = .ok (.invokevirtual 107, 3) := by decide +kernel
theorem dX4_readPiece_68 : decode cX4_readPiece 68 = .ok (.goto 82, 3) := by decide +kernel
theorem dX4_readPiece_71 : decode cX4_readPiece 71 = .ok (.aload_n 0, 1) := by decide +kernel
theorem dX4_readPiece_72 : decode cX4_readPiece 72 = .ok (.ldc 117, 2) := by decide +kernel
theorem dX4_readPiece_74 : decode cX4_readPiece 74 = .ok (.invokevirtual 96, 3) := by decide +kernel
theorem dX4_readPiece_77 : decode cX4_readPiece 77 = .ok (.ifCond .eq 30, 3) := by decide +kernel
theorem dX4_readPiece_80 : decode cX4_readPiece 80 = .ok (.iload_n 2, 1) := by decide +kernel
theorem dX4_readPiece_81 : decode cX4_readPiece 81 = .ok (.bipush 8, 2) := by decide +kernel
theorem dX4_readPiece_83 : decode cX4_readPiece 83 = .ok (.if_icmp .ge 24, 3) := by decide +kernel
theorem dX4_readPiece_86 : decode cX4_readPiece 86 = .ok (.aload_n 0, 1) := by decide +kernel
theorem dX4_readPiece_87 : decode cX4_readPiece 87 = .ok (.invokevirtual 39, 3) := by decide +kernel
theorem dX4_readPiece_90 : decode cX4_readPiece 90 = .ok (.aload_n 0, 1) := by decide +kernel
theorem dX4_readPiece_91 : decode cX4_readPiece 91 = .ok (.iload_n 1, 1) := by decide +kernel
theorem dX4_readPiece_92 : decode cX4_readPiece 92 = .ok (.iload_n 2, 1) := by decide +kernel
theorem dX4_readPiece_93 : decode cX4_readPiece 93 = .ok (.iconst 1, 1) := by decide +kernel
theorem dX4_readPiece_94 : decode cX4_readPiece 94 = .ok (.iadd, 1) := by decide +kernel
theorem dX4_readPiece_95 : decode cX4_readPiece 95 = .ok (.invokevirtual 88, 3) := by decide +kernel
theorem dX4_readPiece_98 : decode cX4_readPiece 98 = .ok (.aload_n 0, 1) := by decide +kernel
theorem dX4_readPiece_99 : decode cX4_readPiece 99 = .ok (.bipush (-33), 2) := by decide +kernel
theorem dX4_readPiece_101 : decode cX4_readPiece 101 = .ok (.invokevirtual 99, 3) := by decide +kernel
theorem dX4_readPiece_104 : decode cX4_readPiece 104 = .ok (.goto 46, 3) := by decide +kernel
theorem dX4_readPiece_107 : decode cX4_readPiece 107 = .ok (.aload_n 0, 1) := by decide +kernel
theorem dX4_readPiece_108 : decode cX4_readPiece 108 = .ok (.ldc 119, 2) := by decide +kernel
theorem dX4_readPiece_110 : decode cX4_readPiece 110 = .ok (.invokevirtual 96, 3) := by decide +kernel
theorem dX4_readPiece_113 : decode cX4_readPiece 113 = .ok (.ifCond .eq 29, 3) := by decide +kernel
theorem dX4_readPiece_116 : decode cX4_readPiece 116 = .ok (.iload_n 1, 1) := by decide +kernel
theorem dX4_readPiece_117 : decode cX4_readPiece 117 = .ok (.bipush 8, 2) := by decide +kernel
theorem dX4_readPiece_119 : decode cX4_readPiece 119 = .ok (.if_icmp .ge 23, 3) := by decide +kernel
theorem dX4_readPiece_122 : decode cX4_readPiece 122 = .ok (.aload_n 0, 1) := by decide +kernel
theorem dX4_readPiece_123 : decode cX4_readPiece 123 = .ok (.invokevirtual 39, 3) := by decide +kernel
theorem dX4_readPiece_126 : decode cX4_readPiece 126 = .ok (.aload_n 0, 1) := by decide +kernel
theorem dX4_readPiece_127 : decode cX4_readPiece 127 = .ok (.iconst 0, 1) := by decide +kernel
theorem dX4_readPiece_128 : decode cX4_readPiece 128 = .ok (.iload_n 1, 1) := by decide +kernel
theorem dX4_readPiece_129 : decode cX4_readPiece 129 = .ok (.iconst 1, 1) := by decide +kernel
theorem dX4_readPiece_130 : decode cX4_readPiece 130 = .ok (.iadd, 1) := by decide +kernel
theorem dX4_readPiece_131 : decode cX4_readPiece 131 = .ok (.iload_n 2, 1) := by decide +kernel
theorem dX4_readPiece_132 : decode cX4_readPiece 132 = .ok (.invokevirtual 45, 3) := by decide +kernel
theorem dX4_readPiece_135 : decode cX4_readPiece 135 = .ok (.aload_n 0, 1) := by decide +kernel
theorem dX4_readPiece_136 : decode cX4_readPiece 136 = .ok (.invokevirtual 121, 3) := by decide +kernel
theorem dX4_readPiece_139 : decode cX4_readPiece 139 = .ok (.goto 11, 3) := by decide +kernel
theorem dX4_readPiece_142 : decode cX4_readPiece 142 = .ok (.aload_n 0, 1) := by decide +kernel
theorem dX4_readPiece_143 : decode cX4_readPiece 143 = .ok (.aload_n 0, 1) := by decide +kernel
theorem dX4_readPiece_144 : decode cX4_readPiece 144 = .ok (.getfield 49, 3) := by decide +kernel
theorem dX4_readPiece_147 : decode cX4_readPiece 147 = .ok (.putfield 36, 3) := by decide +kernel
theorem dX4_readPiece_150 : decode cX4_readPiece 150 = .ok (.return_, 1) := by decide +kernel
theorem dX4_closeBracket_0 : decode cX4_closeBracket 0 = .ok (.aload_n 0, 1) := by decide +kernel
theorem dX4_closeBracket_1 : decode cX4_closeBracket 1 = .ok (.getfield 36, 3) := by decide +kernel
theorem dX4_closeBracket_4 : decode cX4_closeBracket 4 = .ok (.ldc 35, 2) := by decide +kernel
theorem dX4_closeBracket_6 : decode cX4_closeBracket 6 = .ok (.if_icmp .eq 4, 3) := by decide +kernel
theorem dX4_closeBracket_9 : decode cX4_closeBracket 9 = .ok (.return_, 1) := by decide +kernel
theorem dX4_closeBracket_10 : decode cX4_closeBracket 10 = .ok (.aload_n 0, 1) := by decide +kernel
theorem dX4_closeBracket_11 : decode cX4_closeBracket 11 = .ok (.ldc 124, 2) := by decide +kernel
theorem dX4_closeBracket_13 : decode cX4_closeBracket 13 = .ok (.invokevirtual 96, 3) := by decide +kernel
theorem dX4_closeBracket_16 : decode cX4_closeBracket 16 = .ok (.ifCond .eq 10, 3) := by decide +kernel
theorem dX4_closeBracket_19 : decode cX4_closeBracket 19 = .ok (.aload_n 0, 1) := by decide +kernel
theorem dX4_closeBracket_20 : decode cX4_closeBracket 20 = .ok (.invokevirtual 39, 3) := by decide +kernel
theorem dX4_closeBracket_23 : decode cX4_closeBracket 23 = .ok (.goto 11, 3) := by decide +kernel
theorem dX4_closeBracket_26 : decode cX4_closeBracket 26 = .ok (.aload_n 0, 1) := by decide +kernel
theorem dX4_closeBracket_27 : decode cX4_closeBracket 27 = .ok (.aload_n 0, 1) := by decide +kernel
theorem dX4_closeBracket_28 : decode cX4_closeBracket 28 = .ok (.getfield 49, 3) := by decide +kernel
theorem dX4_closeBracket_31 : decode cX4_closeBracket 31 = .ok (.putfield 36, 3) := by decide +kernel
theorem dX4_closeBracket_34 : decode cX4_closeBracket 34 = .ok (.return_, 1) := by decide +kernel
theorem dX4_firstName_0 : decode cX4_firstName 0 = .ok (.aload_n 0, 1) := by decide +kernel
theorem dX4_firstName_1 : decode cX4_firstName 1 = .ok (.getfield 54, 3) := by decide +kernel
theorem dX4_firstName_4 : decode cX4_firstName 4 = .ok (.ifCond .ne 8, 3) := by decide +kernel
theorem dX4_firstName_7 : decode cX4_firstName 7 = .ok (.ldc 126, 2) := by decide +kernel
theorem dX4_firstName_9 : decode cX4_firstName 9 = .ok (.goto 18, 3) := by decide +kernel
theorem dX4_firstName_12 : decode cX4_firstName 12 = .ok (.aload_n 0, 1) := by decide +kernel
theorem dX4_firstName_13 : decode cX4_firstName 13 = .ok (.getfield 54, 3) := by decide +kernel
theorem dX4_firstName_16 : decode cX4_firstName 16 = .ok (.iconst 1, 1) := by decide +kernel
theorem dX4_firstName_17 : decode cX4_firstName 17 = .ok (.if_icmp .ne 8, 3) := by decide +kernel
theorem dX4_firstName_20 : decode cX4_firstName 20 = .ok (.ldc 128, 2) := by decide +kernel
theorem dX4_firstName_22 : decode cX4_firstName 22 = .ok (.goto 5, 3) := by decide +kernel
theorem dX4_firstName_25 : decode cX4_firstName 25 = .ok (.ldc 130, 2) := by decide +kernel
theorem dX4_firstName_27 : decode cX4_firstName 27 = .ok (.areturn, 1) := by decide +kernel
theorem dX4_secondName_0 : decode cX4_secondName 0 = .ok (.aload_n 0, 1) := by decide +kernel
theorem dX4_secondName_1 : decode cX4_secondName 1 = .ok (.getfield 54, 3) := by decide +kernel
theorem dX4_secondName_4 : decode cX4_secondName 4 = .ok (.ifCond .ne 8, 3) := by decide +kernel
theorem dX4_secondName_7 : decode cX4_secondName 7 = .ok (.ldc 132, 2) := by decide +kernel
theorem dX4_secondName_9 : decode cX4_secondName 9 = .ok (.goto 18, 3) := by decide +kernel
theorem dX4_secondName_12 : decode cX4_secondName 12 = .ok (.aload_n 0, 1) := by decide +kernel
theorem dX4_secondName_13 : decode cX4_secondName 13 = .ok (.getfield 54, 3) := by decide +kernel
theorem dX4_secondName_16 : decode cX4_secondName 16 = .ok (.iconst 1, 1) := by decide +kernel
theorem dX4_secondName_17 : decode cX4_secondName 17 = .ok (.if_icmp .ne 8, 3) := by decide +kernel
theorem dX4_secondName_20 : decode cX4_secondName 20 = .ok (.ldc 134, 2) := by decide +kernel
theorem dX4_secondName_22 : decode cX4_secondName 22 = .ok (.goto 5, 3) := by decide +kernel
theorem dX4_secondName_25 : decode cX4_secondName 25 = .ok (.ldc 136, 2) := by decide +kernel
theorem dX4_secondName_27 : decode cX4_secondName 27 = .ok (.areturn, 1) := by decide +kernel
theorem dX4_numberRead_0 : decode cX4_numberRead 0 = .ok (.iconst 0, 1) := by decide +kernel
theorem dX4_numberRead_1 : decode cX4_numberRead 1 = .ok (.istore_n 1, 1) := by decide +kernel
theorem dX4_numberRead_2 : decode cX4_numberRead 2 = .ok (.aload_n 0, 1) := by decide +kernel
theorem dX4_numberRead_3 : decode cX4_numberRead 3 = .ok (.getfield 49, 3) := by decide +kernel
theorem dX4_numberRead_6 : decode cX4_numberRead 6 = .ok (.istore_n 2, 1) := by decide +kernel
theorem dX4_numberRead_7 : decode cX4_numberRead 7 = .ok (.iload_n 2, 1) := by decide +kernel
theorem dX4_numberRead_8 : decode cX4_numberRead 8 = .ok (.aload_n 0, 1) := by decide +kernel
theorem dX4_numberRead_9 : decode cX4_numberRead 9 = .ok (.getfield 23, 3) := by decide +kernel
theorem dX4_numberRead_12 : decode cX4_numberRead 12 = .ok (.if_icmp .ge 24, 3) := by decide +kernel
theorem dX4_numberRead_15 : decode cX4_numberRead 15 = .ok (.iload_n 1, 1) := by decide +kernel
theorem dX4_numberRead_16 : decode cX4_numberRead 16 = .ok (.bipush 10, 2) := by decide +kernel
theorem dX4_numberRead_18 : decode cX4_numberRead 18 = .ok (.imul, 1) := by decide +kernel
theorem dX4_numberRead_19 : decode cX4_numberRead 19 = .ok (.aload_n 0, 1) := by decide +kernel
theorem dX4_numberRead_20 : decode cX4_numberRead 20 = .ok (.getfield 15, 3) := by decide +kernel
theorem dX4_numberRead_23 : decode cX4_numberRead 23 = .ok (.iload_n 2, 1) := by decide +kernel
theorem dX4_numberRead_24 : decode cX4_numberRead 24 = .ok (.baload, 1) := by decide +kernel
theorem dX4_numberRead_25 : decode cX4_numberRead 25 = .ok (.iadd, 1) := by decide +kernel
theorem dX4_numberRead_26 : decode cX4_numberRead 26 = .ok (.bipush 48, 2) := by decide +kernel
theorem dX4_numberRead_28 : decode cX4_numberRead 28 = .ok (.isub, 1) := by decide +kernel
theorem dX4_numberRead_29 : decode cX4_numberRead 29 = .ok (.istore_n 1, 1) := by decide +kernel
theorem dX4_numberRead_30 : decode cX4_numberRead 30 = .ok (.iinc 2 1, 3) := by decide +kernel
theorem dX4_numberRead_33 : decode cX4_numberRead 33 = .ok (.goto (-26), 3) := by decide +kernel
theorem dX4_numberRead_36 : decode cX4_numberRead 36 = .ok (.iload_n 1, 1) := by decide +kernel
theorem dX4_numberRead_37 : decode cX4_numberRead 37 = .ok (.ireturn, 1) := by decide +kernel
theorem dX4_putLeaf_0 : decode cX4_putLeaf 0 = .ok (.aload_n 0, 1) := by decide +kernel
theorem dX4_putLeaf_1 : decode cX4_putLeaf 1 = .ok (.iload_n 1, 1) := by decide +kernel
theorem dX4_putLeaf_2 : decode cX4_putLeaf 2 = .ok (.invokevirtual 99, 3) := by decide +kernel
theorem dX4_putLeaf_5 : decode cX4_putLeaf 5 = .ok (.aload_n 0, 1) := by decide +kernel
theorem dX4_putLeaf_6 : decode cX4_putLeaf 6 = .ok (.dup, 1) := by decide +kernel
theorem dX4_putLeaf_7 : decode cX4_putLeaf 7 = .ok (.getfield 29, 3) := by decide +kernel
theorem dX4_putLeaf_10 : decode cX4_putLeaf 10 = .ok (.iconst 1, 1) := by decide +kernel
theorem dX4_putLeaf_11 : decode cX4_putLeaf 11 = .ok (.iadd, 1) := by decide +kernel
theorem dX4_putLeaf_12 : decode cX4_putLeaf 12 = .ok (.putfield 29, 3) := by decide +kernel
theorem dX4_putLeaf_15 : decode cX4_putLeaf 15 = .ok (.aload_n 0, 1) := by decide +kernel
theorem dX4_putLeaf_16 : decode cX4_putLeaf 16 = .ok (.invokevirtual 39, 3) := by decide +kernel
theorem dX4_putLeaf_19 : decode cX4_putLeaf 19 = .ok (.return_, 1) := by decide +kernel
theorem dX4_put_0 : decode cX4_put 0 = .ok (.aload_n 0, 1) := by decide +kernel
theorem dX4_put_1 : decode cX4_put 1 = .ok (.getfield 32, 3) := by decide +kernel
theorem dX4_put_4 : decode cX4_put 4 = .ok (.aload_n 0, 1) := by decide +kernel
theorem dX4_put_5 : decode cX4_put 5 = .ok (.getfield 9, 3) := by decide +kernel
theorem dX4_put_8 : decode cX4_put 8 = .ok (.arraylength, 1) := by decide +kernel
theorem dX4_put_9 : decode cX4_put 9 = .ok (.if_icmp .ge 23, 3) := by decide +kernel
theorem dX4_put_12 : decode cX4_put 12 = .ok (.aload_n 0, 1) := by decide +kernel
theorem dX4_put_13 : decode cX4_put 13 = .ok (.getfield 9, 3) := by decide +kernel
theorem dX4_put_16 : decode cX4_put 16 = .ok (.aload_n 0, 1) := by decide +kernel
theorem dX4_put_17 : decode cX4_put 17 = .ok (.getfield 32, 3) := by decide +kernel
theorem dX4_put_20 : decode cX4_put 20 = .ok (.iload_n 1, 1) := by decide +kernel
theorem dX4_put_21 : decode cX4_put 21 = .ok (.iastore, 1) := by decide +kernel
theorem dX4_put_22 : decode cX4_put 22 = .ok (.aload_n 0, 1) := by decide +kernel
theorem dX4_put_23 : decode cX4_put 23 = .ok (.dup, 1) := by decide +kernel
theorem dX4_put_24 : decode cX4_put 24 = .ok (.getfield 32, 3) := by decide +kernel
theorem dX4_put_27 : decode cX4_put 27 = .ok (.iconst 1, 1) := by decide +kernel
theorem dX4_put_28 : decode cX4_put 28 = .ok (.iadd, 1) := by decide +kernel
theorem dX4_put_29 : decode cX4_put 29 = .ok (.putfield 32, 3) := by decide +kernel
theorem dX4_put_32 : decode cX4_put 32 = .ok (.return_, 1) := by decide +kernel
theorem dX4_isWord_0 : decode cX4_isWord 0 = .ok (.aload_n 0, 1) := by decide +kernel
theorem dX4_isWord_1 : decode cX4_isWord 1 = .ok (.getfield 26, 3) := by decide +kernel
theorem dX4_isWord_4 : decode cX4_isWord 4 = .ok (.iconst 1, 1) := by decide +kernel
theorem dX4_isWord_5 : decode cX4_isWord 5 = .ok (.if_icmp .ne 19, 3) := by decide +kernel
theorem dX4_isWord_8 : decode cX4_isWord 8 = .ok (.aload_n 0, 1) := by decide +kernel
theorem dX4_isWord_9 : decode cX4_isWord 9 = .ok (.getfield 23, 3) := by decide +kernel
theorem dX4_isWord_12 : decode cX4_isWord 12 = .ok (.aload_n 0, 1) := by decide +kernel
theorem dX4_isWord_13 : decode cX4_isWord 13 = .ok (.getfield 49, 3) := by decide +kernel
theorem dX4_isWord_16 : decode cX4_isWord 16 = .ok (.isub, 1) := by decide +kernel
theorem dX4_isWord_17 : decode cX4_isWord 17 = .ok (.aload_n 1, 1) := by decide +kernel
theorem dX4_isWord_18 : decode cX4_isWord 18 = .ok (.invokevirtual 138, 3) := by decide +kernel
theorem dX4_isWord_21 : decode cX4_isWord 21 = .ok (.if_icmp .eq 5, 3) := by decide +kernel
theorem dX4_isWord_24 : decode cX4_isWord 24 = .ok (.iconst 0, 1) := by decide +kernel
theorem dX4_isWord_25 : decode cX4_isWord 25 = .ok (.ireturn, 1) := by decide +kernel
theorem dX4_isWord_26 : decode cX4_isWord 26 = .ok (.iconst 0, 1) := by decide +kernel
theorem dX4_isWord_27 : decode cX4_isWord 27 = .ok (.istore_n 2, 1) := by decide +kernel
theorem dX4_isWord_28 : decode cX4_isWord 28 = .ok (.iload_n 2, 1) := by decide +kernel
theorem dX4_isWord_29 : decode cX4_isWord 29 = .ok (.aload_n 1, 1) := by decide +kernel
theorem dX4_isWord_30 : decode cX4_isWord 30 = .ok (.invokevirtual 138, 3) := by decide +kernel
theorem dX4_isWord_33 : decode cX4_isWord 33 = .ok (.if_icmp .ge 30, 3) := by decide +kernel
theorem dX4_isWord_36 : decode cX4_isWord 36 = .ok (.aload_n 0, 1) := by decide +kernel
theorem dX4_isWord_37 : decode cX4_isWord 37 = .ok (.getfield 15, 3) := by decide +kernel
theorem dX4_isWord_40 : decode cX4_isWord 40 = .ok (.aload_n 0, 1) := by decide +kernel
theorem dX4_isWord_41 : decode cX4_isWord 41 = .ok (.getfield 49, 3) := by decide +kernel
theorem dX4_isWord_44 : decode cX4_isWord 44 = .ok (.iload_n 2, 1) := by decide +kernel
theorem dX4_isWord_45 : decode cX4_isWord 45 = .ok (.iadd, 1) := by decide +kernel
theorem dX4_isWord_46 : decode cX4_isWord 46 = .ok (.baload, 1) := by decide +kernel
theorem dX4_isWord_47 : decode cX4_isWord 47 = .ok (.aload_n 1, 1) := by decide +kernel
theorem dX4_isWord_48 : decode cX4_isWord 48 = .ok (.iload_n 2, 1) := by decide +kernel
theorem dX4_isWord_49 : decode cX4_isWord 49 = .ok (.invokevirtual 142, 3) := by decide +kernel
theorem dX4_isWord_52 : decode cX4_isWord 52 = .ok (.if_icmp .eq 5, 3) := by decide +kernel
theorem dX4_isWord_55 : decode cX4_isWord 55 = .ok (.iconst 0, 1) := by decide +kernel
theorem dX4_isWord_56 : decode cX4_isWord 56 = .ok (.ireturn, 1) := by decide +kernel
theorem dX4_isWord_57 : decode cX4_isWord 57 = .ok (.iinc 2 1, 3) := by decide +kernel
theorem dX4_isWord_60 : decode cX4_isWord 60 = .ok (.goto (-32), 3) := by decide +kernel
theorem dX4_isWord_63 : decode cX4_isWord 63 = .ok (.iconst 1, 1) := by decide +kernel
theorem dX4_isWord_64 : decode cX4_isWord 64 = .ok (.ireturn, 1) := by decide +kernel
theorem dX4_isSignOf_0 : decode cX4_isSignOf 0 = .ok (.aload_n 0, 1) := by decide +kernel
theorem dX4_isSignOf_1 : decode cX4_isSignOf 1 = .ok (.getfield 26, 3) := by decide +kernel
theorem dX4_isSignOf_4 : decode cX4_isSignOf 4 = .ok (.iconst 3, 1) := by decide +kernel
theorem dX4_isSignOf_5 : decode cX4_isSignOf 5 = .ok (.if_icmp .ne 28, 3) := by decide +kernel
theorem dX4_isSignOf_8 : decode cX4_isSignOf 8 = .ok (.aload_n 1, 1) := by decide +kernel
theorem dX4_isSignOf_9 : decode cX4_isSignOf 9 = .ok (.aload_n 0, 1) := by decide +kernel
theorem dX4_isSignOf_10 : decode cX4_isSignOf 10 = .ok (.getfield 15, 3) := by decide +kernel
theorem dX4_isSignOf_13 : decode cX4_isSignOf 13 = .ok (.aload_n 0, 1) := by decide +kernel
theorem dX4_isSignOf_14 : decode cX4_isSignOf 14 = .ok (.getfield 49, 3) := by decide +kernel
theorem dX4_isSignOf_17 : decode cX4_isSignOf 17 = .ok (.baload, 1) := by decide +kernel
theorem dX4_isSignOf_18 : decode cX4_isSignOf 18 = .ok (.sipush 255, 3) := by decide +kernel
theorem dX4_isSignOf_21 : decode cX4_isSignOf 21 = .ok (.iand, 1) := by decide +kernel
theorem dX4_isSignOf_22 : decode cX4_isSignOf 22 = .ok (.i2c, 1) := by decide +kernel
theorem dX4_isSignOf_23 : decode cX4_isSignOf 23 = .ok (.invokevirtual 146, 3) := by decide +kernel
theorem dX4_isSignOf_26 : decode cX4_isSignOf 26 = .ok (.ifCond .lt 7, 3) := by decide +kernel
theorem dX4_isSignOf_29 : decode cX4_isSignOf 29 = .ok (.iconst 1, 1) := by decide +kernel
theorem dX4_isSignOf_30 : decode cX4_isSignOf 30 = .ok (.goto 4, 3) := by decide +kernel
theorem dX4_isSignOf_33 : decode cX4_isSignOf 33 = .ok (.iconst 0, 1) := by decide +kernel
theorem dX4_isSignOf_34 : decode cX4_isSignOf 34 = .ok (.ireturn, 1) := by decide +kernel
theorem dX4_step_0 : decode cX4_step 0 = .ok (.aload_n 0, 1) := by decide +kernel
theorem dX4_step_1 : decode cX4_step 1 = .ok (.getfield 26, 3) := by decide +kernel
theorem dX4_step_4 : decode cX4_step 4 = .ok (.iconst 1, 1) := by decide +kernel
theorem dX4_step_5 : decode cX4_step 5 = .ok (.if_icmp .eq 11, 3) := by decide +kernel
theorem dX4_step_8 : decode cX4_step 8 = .ok (.aload_n 0, 1) := by decide +kernel
theorem dX4_step_9 : decode cX4_step 9 = .ok (.getfield 26, 3) := by decide +kernel
theorem dX4_step_12 : decode cX4_step 12 = .ok (.iconst 2, 1) := by decide +kernel
theorem dX4_step_13 : decode cX4_step 13 = .ok (.if_icmp .ne 7, 3) := by decide +kernel
theorem dX4_step_16 : decode cX4_step 16 = .ok (.iconst 1, 1) := by decide +kernel
theorem dX4_step_17 : decode cX4_step 17 = .ok (.goto 4, 3) := by decide +kernel
theorem dX4_step_20 : decode cX4_step 20 = .ok (.iconst 0, 1) := by decide +kernel
theorem dX4_step_21 : decode cX4_step 21 = .ok (.istore_n 1, 1) := by decide +kernel
theorem dX4_step_22 : decode cX4_step 22 = .ok (.aload_n 0, 1) := by decide +kernel
theorem dX4_step_23 : decode cX4_step 23 = .ok (.getfield 23, 3) := by decide +kernel
theorem dX4_step_26 : decode cX4_step 26 = .ok (.istore_n 2, 1) := by decide +kernel
theorem dX4_step_27 : decode cX4_step 27 = .ok (.aload_n 0, 1) := by decide +kernel
theorem dX4_step_28 : decode cX4_step 28 = .ok (.aload_n 0, 1) := by decide +kernel
theorem dX4_step_29 : decode cX4_step 29 = .ok (.getfield 23, 3) := by decide +kernel
theorem dX4_step_32 : decode cX4_step 32 = .ok (.putfield 49, 3) := by decide +kernel
theorem dX4_step_35 : decode cX4_step 35 = .ok (.aload_n 0, 1) := by decide +kernel
theorem dX4_step_36 : decode cX4_step 36 = .ok (.getfield 49, 3) := by decide +kernel
theorem dX4_step_39 : decode cX4_step 39 = .ok (.aload_n 0, 1) := by decide +kernel
theorem dX4_step_40 : decode cX4_step 40 = .ok (.getfield 19, 3) := by decide +kernel
theorem dX4_step_43 : decode cX4_step 43 = .ok (.if_icmp .ge 30, 3) := by decide +kernel
theorem dX4_step_46 : decode cX4_step 46 = .ok (.aload_n 0, 1) := by decide +kernel
theorem dX4_step_47 : decode cX4_step 47 = .ok (.getfield 15, 3) := by decide +kernel
theorem dX4_step_50 : decode cX4_step 50 = .ok (.aload_n 0, 1) := by decide +kernel
theorem dX4_step_51 : decode cX4_step 51 = .ok (.getfield 49, 3) := by decide +kernel
theorem dX4_step_54 : decode cX4_step 54 = .ok (.baload, 1) := by decide +kernel
theorem dX4_step_55 : decode cX4_step 55 = .ok (.bipush 32, 2) := by decide +kernel
theorem dX4_step_57 : decode cX4_step 57 = .ok (.if_icmp .ne 16, 3) := by decide +kernel
theorem dX4_step_60 : decode cX4_step 60 = .ok (.aload_n 0, 1) := by decide +kernel
theorem dX4_step_61 : decode cX4_step 61 = .ok (.dup, 1) := by decide +kernel
theorem dX4_step_62 : decode cX4_step 62 = .ok (.getfield 49, 3) := by decide +kernel
theorem dX4_step_65 : decode cX4_step 65 = .ok (.iconst 1, 1) := by decide +kernel
theorem dX4_step_66 : decode cX4_step 66 = .ok (.iadd, 1) := by decide +kernel
theorem dX4_step_67 : decode cX4_step 67 = .ok (.putfield 49, 3) := by decide +kernel
theorem dX4_step_70 : decode cX4_step 70 = .ok (.goto (-35), 3) := by decide +kernel
theorem dX4_step_73 : decode cX4_step 73 = .ok (.aload_n 0, 1) := by decide +kernel
theorem dX4_step_74 : decode cX4_step 74 = .ok (.aload_n 0, 1) := by decide +kernel
theorem dX4_step_75 : decode cX4_step 75 = .ok (.aload_n 0, 1) := by decide +kernel
theorem dX4_step_76 : decode cX4_step 76 = .ok (.getfield 49, 3) := by decide +kernel
theorem dX4_step_79 : decode cX4_step 79 = .ok (.invokevirtual 150, 3) := by decide +kernel
theorem dX4_step_82 : decode cX4_step 82 = .ok (.putfield 26, 3) := by decide +kernel
theorem dX4_step_85 : decode cX4_step 85 = .ok (.aload_n 0, 1) := by decide +kernel
theorem dX4_step_86 : decode cX4_step 86 = .ok (.aload_n 0, 1) := by decide +kernel
theorem dX4_step_87 : decode cX4_step 87 = .ok (.getfield 49, 3) := by decide +kernel
theorem dX4_step_90 : decode cX4_step 90 = .ok (.putfield 23, 3) := by decide +kernel
theorem dX4_step_93 : decode cX4_step 93 = .ok (.aload_n 0, 1) := by decide +kernel
theorem dX4_step_94 : decode cX4_step 94 = .ok (.getfield 26, 3) := by decide +kernel
theorem dX4_step_97 : decode cX4_step 97 = .ok (.iconst 3, 1) := by decide +kernel
theorem dX4_step_98 : decode cX4_step 98 = .ok (.if_icmp .ne 16, 3) := by decide +kernel
theorem dX4_step_101 : decode cX4_step 101 = .ok (.aload_n 0, 1) := by decide +kernel
theorem dX4_step_102 : decode cX4_step 102 = .ok (.dup, 1) := by decide +kernel
theorem dX4_step_103 : decode cX4_step 103 = .ok (.getfield 23, 3) := by decide +kernel
theorem dX4_step_106 : decode cX4_step 106 = .ok (.iconst 1, 1) := by decide +kernel
theorem dX4_step_107 : decode cX4_step 107 = .ok (.iadd, 1) := by decide +kernel
theorem dX4_step_108 : decode cX4_step 108 = .ok (.putfield 23, 3) := by decide +kernel
theorem dX4_step_111 : decode cX4_step 111 = .ok (.goto 66, 3) := by decide +kernel
theorem dX4_step_114 : decode cX4_step 114 = .ok (.aload_n 0, 1) := by decide +kernel
theorem dX4_step_115 : decode cX4_step 115 = .ok (.getfield 26, 3) := by decide +kernel
theorem dX4_step_118 : decode cX4_step 118 = .ok (.ifCond .eq 59, 3) := by decide +kernel
theorem dX4_step_121 : decode cX4_step 121 = .ok (.aload_n 0, 1) := by decide +kernel
theorem dX4_step_122 : decode cX4_step 122 = .ok (.getfield 23, 3) := by decide +kernel
theorem dX4_step_125 : decode cX4_step 125 = .ok (.aload_n 0, 1) := by decide +kernel
theorem dX4_step_126 : decode cX4_step 126 = .ok (.getfield 19, 3) := by decide +kernel
theorem dX4_step_129 : decode cX4_step 129 = .ok (.if_icmp .ge 31, 3) := by decide +kernel
theorem dX4_step_132 : decode cX4_step 132 = .ok (.aload_n 0, 1) := by decide +kernel
theorem dX4_step_133 : decode cX4_step 133 = .ok (.aload_n 0, 1) := by decide +kernel
theorem dX4_step_134 : decode cX4_step 134 = .ok (.getfield 23, 3) := by decide +kernel
theorem dX4_step_137 : decode cX4_step 137 = .ok (.invokevirtual 150, 3) := by decide +kernel
theorem dX4_step_140 : decode cX4_step 140 = .ok (.aload_n 0, 1) := by decide +kernel
theorem dX4_step_141 : decode cX4_step 141 = .ok (.getfield 26, 3) := by decide +kernel
theorem dX4_step_144 : decode cX4_step 144 = .ok (.if_icmp .ne 16, 3) := by decide +kernel
theorem dX4_step_147 : decode cX4_step 147 = .ok (.aload_n 0, 1) := by decide +kernel
theorem dX4_step_148 : decode cX4_step 148 = .ok (.dup, 1) := by decide +kernel
theorem dX4_step_149 : decode cX4_step 149 = .ok (.getfield 23, 3) := by decide +kernel
theorem dX4_step_152 : decode cX4_step 152 = .ok (.iconst 1, 1) := by decide +kernel
theorem dX4_step_153 : decode cX4_step 153 = .ok (.iadd, 1) := by decide +kernel
theorem dX4_step_154 : decode cX4_step 154 = .ok (.putfield 23, 3) := by decide +kernel
theorem dX4_step_157 : decode cX4_step 157 = .ok (.goto (-36), 3) := by decide +kernel
theorem dX4_step_160 : decode cX4_step 160 = .ok (.iload_n 1, 1) := by decide +kernel
theorem dX4_step_161 : decode cX4_step 161 = .ok (.ifCond .eq 16, 3) := by decide +kernel
theorem dX4_step_164 : decode cX4_step 164 = .ok (.aload_n 0, 1) := by decide +kernel
theorem dX4_step_165 : decode cX4_step 165 = .ok (.getfield 49, 3) := by decide +kernel
theorem dX4_step_168 : decode cX4_step 168 = .ok (.iload_n 2, 1) := by decide +kernel
theorem dX4_step_169 : decode cX4_step 169 = .ok (.if_icmp .ne 8, 3) := by decide +kernel
theorem dX4_step_172 : decode cX4_step 172 = .ok (.aload_n 0, 1) := by decide +kernel
theorem dX4_step_173 : decode cX4_step 173 = .ok (.iconst 4, 1) := by decide +kernel
theorem dX4_step_174 : decode cX4_step 174 = .ok (.putfield 26, 3) := by decide +kernel
theorem dX4_step_177 : decode cX4_step 177 = .ok (.return_, 1) := by decide +kernel
theorem dX4_sortAt_0 : decode cX4_sortAt 0 = .ok (.iload_n 1, 1) := by decide +kernel
theorem dX4_sortAt_1 : decode cX4_sortAt 1 = .ok (.aload_n 0, 1) := by decide +kernel
theorem dX4_sortAt_2 : decode cX4_sortAt 2 = .ok (.getfield 19, 3) := by decide +kernel
theorem dX4_sortAt_5 : decode cX4_sortAt 5 = .ok (.if_icmp .lt 5, 3) := by decide +kernel
theorem dX4_sortAt_8 : decode cX4_sortAt 8 = .ok (.iconst 0, 1) := by decide +kernel
theorem dX4_sortAt_9 : decode cX4_sortAt 9 = .ok (.ireturn, 1) := by decide +kernel
theorem dX4_sortAt_10 : decode cX4_sortAt 10 = .ok (.aload_n 0, 1) := by decide +kernel
theorem dX4_sortAt_11 : decode cX4_sortAt 11 = .ok (.getfield 15, 3) := by decide +kernel
theorem dX4_sortAt_14 : decode cX4_sortAt 14 = .ok (.iload_n 1, 1) := by decide +kernel
theorem dX4_sortAt_15 : decode cX4_sortAt 15 = .ok (.baload, 1) := by decide +kernel
theorem dX4_sortAt_16 : decode cX4_sortAt 16 = .ok (.istore_n 2, 1) := by decide +kernel
theorem dX4_sortAt_17 : decode cX4_sortAt 17 = .ok (.iload_n 2, 1) := by decide +kernel
theorem dX4_sortAt_18 : decode cX4_sortAt 18 = .ok (.bipush 97, 2) := by decide +kernel
theorem dX4_sortAt_20 : decode cX4_sortAt 20 = .ok (.if_icmp .lt 11, 3) := by decide +kernel
theorem dX4_sortAt_23 : decode cX4_sortAt 23 = .ok (.iload_n 2, 1) := by decide +kernel
theorem dX4_sortAt_24 : decode cX4_sortAt 24 = .ok (.bipush 122, 2) := by decide +kernel
theorem dX4_sortAt_26 : decode cX4_sortAt 26 = .ok (.if_icmp .gt 5, 3) := by decide +kernel
theorem dX4_sortAt_29 : decode cX4_sortAt 29 = .ok (.iconst 1, 1) := by decide +kernel
theorem dX4_sortAt_30 : decode cX4_sortAt 30 = .ok (.ireturn, 1) := by decide +kernel
theorem dX4_sortAt_31 : decode cX4_sortAt 31 = .ok (.iload_n 2, 1) := by decide +kernel
theorem dX4_sortAt_32 : decode cX4_sortAt 32 = .ok (.bipush 48, 2) := by decide +kernel
theorem dX4_sortAt_34 : decode cX4_sortAt 34 = .ok (.if_icmp .lt 13, 3) := by decide +kernel
theorem dX4_sortAt_37 : decode cX4_sortAt 37 = .ok (.iload_n 2, 1) := by decide +kernel
theorem dX4_sortAt_38 : decode cX4_sortAt 38 = .ok (.bipush 57, 2) := by decide +kernel
theorem dX4_sortAt_40 : decode cX4_sortAt 40 = .ok (.if_icmp .gt 7, 3) := by decide +kernel
theorem dX4_sortAt_43 : decode cX4_sortAt 43 = .ok (.iconst 2, 1) := by decide +kernel
theorem dX4_sortAt_44 : decode cX4_sortAt 44 = .ok (.goto 4, 3) := by decide +kernel
theorem dX4_sortAt_47 : decode cX4_sortAt 47 = .ok (.iconst 3, 1) := by decide +kernel
theorem dX4_sortAt_48 : decode cX4_sortAt 48 = .ok (.ireturn, 1) := by decide +kernel
theorem dX9_init_0 : decode cX9_init 0 = .ok (.aload_n 0, 1) := by decide +kernel
theorem dX9_init_1 : decode cX9_init 1 = .ok (.invokespecial 1, 3) := by decide +kernel
theorem dX9_init_4 : decode cX9_init 4 = .ok (.aload_n 0, 1) := by decide +kernel
theorem dX9_init_5 : decode cX9_init 5 = .ok (.new 7, 3) := by decide +kernel
theorem dX9_init_8 : decode cX9_init 8 = .ok (.dup, 1) := by decide +kernel
theorem dX9_init_9 : decode cX9_init 9 = .ok (.invokespecial 9, 3) := by decide +kernel
theorem dX9_init_12 : decode cX9_init 12 = .ok (.putfield 10, 3) := by decide +kernel
theorem dX9_init_15 : decode cX9_init 15 = .ok (.aload_n 0, 1) := by decide +kernel
theorem dX9_init_16 : decode cX9_init 16 = .ok (.new 7, 3) := by decide +kernel
theorem dX9_init_19 : decode cX9_init 19 = .ok (.dup, 1) := by decide +kernel
theorem dX9_init_20 : decode cX9_init 20 = .ok (.invokespecial 9, 3) := by decide +kernel
theorem dX9_init_23 : decode cX9_init 23 = .ok (.putfield 16, 3) := by decide +kernel
theorem dX9_init_26 : decode cX9_init 26 = .ok (.aload_n 0, 1) := by decide +kernel
theorem dX9_init_27 : decode cX9_init 27 = .ok (.new 19, 3) := by decide +kernel
theorem dX9_init_30 : decode cX9_init 30 = .ok (.dup, 1) := by decide +kernel
theorem dX9_init_31 : decode cX9_init 31 = .ok (.invokespecial 21, 3) := by decide +kernel
theorem dX9_init_34 : decode cX9_init 34 = .ok (.putfield 22, 3) := by decide +kernel
theorem dX9_init_37 : decode cX9_init 37 = .ok (.aload_n 0, 1) := by decide +kernel
theorem dX9_init_38 : decode cX9_init 38 = .ok (.bipush 96, 2) := by decide +kernel
theorem dX9_init_40 : decode cX9_init 40 = .ok (.newarray .byte, 2) := by decide +kernel
theorem dX9_init_42 : decode cX9_init 42 = .ok (.putfield 26, 3) := by decide +kernel
theorem dX9_init_45 : decode cX9_init 45 = .ok (.aload_n 0, 1) := by decide +kernel
theorem dX9_init_46 : decode cX9_init 46 = .ok (.new 30, 3) := by decide +kernel
theorem dX9_init_49 : decode cX9_init 49 = .ok (.dup, 1) := by decide +kernel
theorem dX9_init_50 : decode cX9_init 50 = .ok (.aload_n 0, 1) := by decide +kernel
theorem dX9_init_51 : decode cX9_init 51 = .ok (.getfield 26, 3) := by decide +kernel
theorem dX9_init_54 : decode cX9_init 54 = .ok (.invokespecial 32, 3) := by decide +kernel
theorem dX9_init_57 : decode cX9_init 57 = .ok (.putfield 35, 3) := by decide +kernel
theorem dX9_init_60 : decode cX9_init 60 = .ok (.aload_n 0, 1) := by decide +kernel
theorem dX9_init_61 : decode cX9_init 61 = .ok (.iconst 4, 1) := by decide +kernel
theorem dX9_init_62 : decode cX9_init 62 = .ok (.anewarray 39, 3) := by decide +kernel
theorem dX9_init_65 : decode cX9_init 65 = .ok (.putfield 41, 3) := by decide +kernel
theorem dX9_init_68 : decode cX9_init 68 = .ok (.aload_n 0, 1) := by decide +kernel
theorem dX9_init_69 : decode cX9_init 69 = .ok (.iconst 5, 1) := by decide +kernel
theorem dX9_init_70 : decode cX9_init 70 = .ok (.anewarray 45, 3) := by decide +kernel
theorem dX9_init_73 : decode cX9_init 73 = .ok (.putfield 47, 3) := by decide +kernel
theorem dX9_init_76 : decode cX9_init 76 = .ok (.aload_n 0, 1) := by decide +kernel
theorem dX9_init_77 : decode cX9_init 77 = .ok (.bipush 60, 2) := by decide +kernel
theorem dX9_init_79 : decode cX9_init 79 = .ok (.newarray .int, 2) := by decide +kernel
theorem dX9_init_81 : decode cX9_init 81 = .ok (.putfield 51, 3) := by decide +kernel
theorem dX9_init_84 : decode cX9_init 84 = .ok (.iconst 0, 1) := by decide +kernel
theorem dX9_init_85 : decode cX9_init 85 = .ok (.istore_n 1, 1) := by decide +kernel
theorem dX9_init_86 : decode cX9_init 86 = .ok (.iload_n 1, 1) := by decide +kernel
theorem dX9_init_87 : decode cX9_init 87 = .ok (.iconst 4, 1) := by decide +kernel
theorem dX9_init_88 : decode cX9_init 88 = .ok (.if_icmp .ge 22, 3) := by decide +kernel
theorem dX9_init_91 : decode cX9_init 91 = .ok (.aload_n 0, 1) := by decide +kernel
theorem dX9_init_92 : decode cX9_init 92 = .ok (.getfield 41, 3) := by decide +kernel
theorem dX9_init_95 : decode cX9_init 95 = .ok (.iload_n 1, 1) := by decide +kernel
theorem dX9_init_96 : decode cX9_init 96 = .ok (.new 39, 3) := by decide +kernel
theorem dX9_init_99 : decode cX9_init 99 = .ok (.dup, 1) := by decide +kernel
theorem dX9_init_100 : decode cX9_init 100 = .ok (.invokespecial 55, 3) := by decide +kernel
theorem dX9_init_103 : decode cX9_init 103 = .ok (.aastore, 1) := by decide +kernel
theorem dX9_init_104 : decode cX9_init 104 = .ok (.iinc 1 1, 3) := by decide +kernel
theorem dX9_init_107 : decode cX9_init 107 = .ok (.goto (-21), 3) := by decide +kernel
theorem dX9_init_110 : decode cX9_init 110 = .ok (.iconst 0, 1) := by decide +kernel
theorem dX9_init_111 : decode cX9_init 111 = .ok (.istore_n 1, 1) := by decide +kernel
theorem dX9_init_112 : decode cX9_init 112 = .ok (.iload_n 1, 1) := by decide +kernel
theorem dX9_init_113 : decode cX9_init 113 = .ok (.iconst 5, 1) := by decide +kernel
theorem dX9_init_114 : decode cX9_init 114 = .ok (.if_icmp .ge 22, 3) := by decide +kernel
theorem dX9_init_117 : decode cX9_init 117 = .ok (.aload_n 0, 1) := by decide +kernel
theorem dX9_init_118 : decode cX9_init 118 = .ok (.getfield 47, 3) := by decide +kernel
theorem dX9_init_121 : decode cX9_init 121 = .ok (.iload_n 1, 1) := by decide +kernel
theorem dX9_init_122 : decode cX9_init 122 = .ok (.new 45, 3) := by decide +kernel
theorem dX9_init_125 : decode cX9_init 125 = .ok (.dup, 1) := by decide +kernel
theorem dX9_init_126 : decode cX9_init 126 = .ok (.invokespecial 56, 3) := by decide +kernel
theorem dX9_init_129 : decode cX9_init 129 = .ok (.aastore, 1) := by decide +kernel
theorem dX9_init_130 : decode cX9_init 130 = .ok (.iinc 1 1, 3) := by decide +kernel
theorem dX9_init_133 : decode cX9_init 133 = .ok (.goto (-21), 3) := by decide +kernel
theorem dX9_init_136 : decode cX9_init 136 = .ok (.return_, 1) := by decide +kernel
theorem dX9_door_0 : decode cX9_door 0 = .ok (.iload_n 1, 1) := by decide +kernel
theorem dX9_door_1 : decode cX9_door 1 = .ok (.invokestatic 57, 3) := by decide +kernel
theorem dX9_door_4 : decode cX9_door 4 = .ok (.ifCond .eq 36, 3) := by decide +kernel
theorem dX9_door_7 : decode cX9_door 7 = .ok (.iload_n 2, 1) := by decide +kernel
theorem dX9_door_8 : decode cX9_door 8 = .ok (.invokestatic 63, 3) := by decide +kernel
theorem dX9_door_11 : decode cX9_door 11 = .ok (.ifCond .eq 29, 3) := by decide +kernel
theorem dX9_door_14 : decode cX9_door 14 = .ok (.iload_n 3, 1) := by decide +kernel
theorem dX9_door_15 : decode cX9_door 15 = .ok (.iconst 0, 1) := by decide +kernel
theorem dX9_door_16 : decode cX9_door 16 = .ok (.bipush 8, 2) := by decide +kernel
theorem dX9_door_18 : decode cX9_door 18 = .ok (.invokestatic 66, 3) := by decide +kernel
theorem dX9_door_21 : decode cX9_door 21 = .ok (.ifCond .eq 19, 3) := by decide +kernel
theorem dX9_door_24 : decode cX9_door 24 = .ok (.iload_n 3, 1) := by decide +kernel
theorem dX9_door_25 : decode cX9_door 25 = .ok (.iload_n 2, 1) := by decide +kernel
theorem dX9_door_26 : decode cX9_door 26 = .ok (.if_icmp .eq 14, 3) := by decide +kernel
theorem dX9_door_29 : decode cX9_door 29 = .ok (.iload 4, 2) := by decide +kernel
theorem dX9_door_31 : decode cX9_door 31 = .ok (.iconst 1, 1) := by decide +kernel
theorem dX9_door_32 : decode cX9_door 32 = .ok (.bipush 9, 2) := by decide +kernel
theorem dX9_door_34 : decode cX9_door 34 = .ok (.invokestatic 66, 3) := by decide +kernel
theorem dX9_door_37 : decode cX9_door 37 = .ok (.ifCond .ne 6, 3) := by decide +kernel
theorem dX9_door_40 : decode cX9_door 40 = .ok (.ldc 72, 2) := by decide +kernel
theorem dX9_door_42 : decode cX9_door 42 = .ok (.ireturn, 1) := by decide +kernel
theorem dX9_door_43 : decode cX9_door 43 = .ok (.aload_n 0, 1) := by decide +kernel
theorem dX9_door_44 : decode cX9_door 44 = .ok (.getfield 10, 3) := by decide +kernel
theorem dX9_door_47 : decode cX9_door 47 = .ok (.getfield 73, 3) := by decide +kernel
theorem dX9_door_50 : decode cX9_door 50 = .ok (.getfield 77, 3) := by decide +kernel
theorem dX9_door_53 : decode cX9_door 53 = .ok (.bipush 10, 2) := by decide +kernel
theorem dX9_door_55 : decode cX9_door 55 = .ok (.if_icmp .lt 6, 3) := by decide +kernel
theorem dX9_door_58 : decode cX9_door 58 = .ok (.ldc 81, 2) := by decide +kernel
theorem dX9_door_60 : decode cX9_door 60 = .ok (.ireturn, 1) := by decide +kernel
theorem dX9_door_61 : decode cX9_door 61 = .ok (.aload_n 0, 1) := by decide +kernel
theorem dX9_door_62 : decode cX9_door 62 = .ok (.getfield 10, 3) := by decide +kernel
theorem dX9_door_65 : decode cX9_door 65 = .ok (.getfield 73, 3) := by decide +kernel
theorem dX9_door_68 : decode cX9_door 68 = .ok (.iload_n 1, 1) := by decide +kernel
theorem dX9_door_69 : decode cX9_door 69 = .ok (.iload_n 2, 1) := by decide +kernel
theorem dX9_door_70 : decode cX9_door 70 = .ok (.iload_n 3, 1) := by decide +kernel
theorem dX9_door_71 : decode cX9_door 71 = .ok (.iload 4, 2) := by decide +kernel
theorem dX9_door_73 : decode cX9_door 73 = .ok (.invokevirtual 82, 3) := by decide +kernel
theorem dX9_door_76 : decode cX9_door 76 = .ok (.ireturn, 1) := by decide +kernel
theorem dX9_told_0 : decode cX9_told 0 = .ok (.aload_n 0, 1) := by decide +kernel
theorem dX9_told_1 : decode cX9_told 1 = .ok (.getfield 10, 3) := by decide +kernel
theorem dX9_told_4 : decode cX9_told 4 = .ok (.getfield 73, 3) := by decide +kernel
theorem dX9_told_7 : decode cX9_told 7 = .ok (.iload_n 1, 1) := by decide +kernel
theorem dX9_told_8 : decode cX9_told 8 = .ok (.invokevirtual 86, 3) := by decide +kernel
theorem dX9_told_11 : decode cX9_told 11 = .ok (.ifCond .ne 6, 3) := by decide +kernel
theorem dX9_told_14 : decode cX9_told 14 = .ok (.ldc 72, 2) := by decide +kernel
theorem dX9_told_16 : decode cX9_told 16 = .ok (.ireturn, 1) := by decide +kernel
theorem dX9_told_17 : decode cX9_told 17 = .ok (.aload_n 0, 1) := by decide +kernel
theorem dX9_told_18 : decode cX9_told 18 = .ok (.getfield 10, 3) := by decide +kernel
theorem dX9_told_21 : decode cX9_told 21 = .ok (.getfield 73, 3) := by decide +kernel
theorem dX9_told_24 : decode cX9_told 24 = .ok (.astore_n 3, 1) := by decide +kernel
theorem dX9_told_25 : decode cX9_told 25 = .ok (.iload_n 2, 1) := by decide +kernel
theorem dX9_told_26 : decode cX9_told 26 = .ok (.tableswitch 122 0 7 #[46, 53, 60, 67, 74, 88, 97, 106], 46) := by decide +kernel
theorem dX9_told_72 : decode cX9_told 72 = .ok (.aload_n 3, 1) := by decide +kernel
theorem dX9_told_73 : decode cX9_told 73 = .ok (.getfield 89, 3) := by decide +kernel
theorem dX9_told_76 : decode cX9_told 76 = .ok (.iload_n 1, 1) := by decide +kernel
theorem dX9_told_77 : decode cX9_told 77 = .ok (.iaload, 1) := by decide +kernel
theorem dX9_told_78 : decode cX9_told 78 = .ok (.ireturn, 1) := by decide +kernel
theorem dX9_told_79 : decode cX9_told 79 = .ok (.aload_n 3, 1) := by decide +kernel
theorem dX9_told_80 : decode cX9_told 80 = .ok (.getfield 92, 3) := by decide +kernel
theorem dX9_told_83 : decode cX9_told 83 = .ok (.iload_n 1, 1) := by decide +kernel
theorem dX9_told_84 : decode cX9_told 84 = .ok (.iaload, 1) := by decide +kernel
theorem dX9_told_85 : decode cX9_told 85 = .ok (.ireturn, 1) := by decide +kernel
theorem dX9_told_86 : decode cX9_told 86 = .ok (.aload_n 3, 1) := by decide +kernel
theorem dX9_told_87 : decode cX9_told 87 = .ok (.getfield 95, 3) := by decide +kernel
theorem dX9_told_90 : decode cX9_told 90 = .ok (.iload_n 1, 1) := by decide +kernel
theorem dX9_told_91 : decode cX9_told 91 = .ok (.iaload, 1) := by decide +kernel
theorem dX9_told_92 : decode cX9_told 92 = .ok (.ireturn, 1) := by decide +kernel
theorem dX9_told_93 : decode cX9_told 93 = .ok (.aload_n 3, 1) := by decide +kernel
theorem dX9_told_94 : decode cX9_told 94 = .ok (.getfield 98, 3) := by decide +kernel
theorem dX9_told_97 : decode cX9_told 97 = .ok (.iload_n 1, 1) := by decide +kernel
theorem dX9_told_98 : decode cX9_told 98 = .ok (.iaload, 1) := by decide +kernel
theorem dX9_told_99 : decode cX9_told 99 = .ok (.ireturn, 1) := by decide +kernel
theorem dX9_told_100 : decode cX9_told 100 = .ok (.aload_n 3, 1) := by decide +kernel
theorem dX9_told_101 : decode cX9_told 101 = .ok (.iload_n 1, 1) := by decide +kernel
theorem dX9_told_102 : decode cX9_told 102 = .ok (.invokevirtual 101, 3) := by decide +kernel
theorem dX9_told_105 : decode cX9_told 105 = .ok (.ifCond .eq 7, 3) := by decide +kernel
theorem dX9_told_108 : decode cX9_told 108 = .ok (.iconst 1, 1) := by decide +kernel
theorem dX9_told_109 : decode cX9_told 109 = .ok (.goto 4, 3) := by decide +kernel
theorem dX9_told_112 : decode cX9_told 112 = .ok (.iconst 0, 1) := by decide +kernel
theorem dX9_told_113 : decode cX9_told 113 = .ok (.ireturn, 1) := by decide +kernel
theorem dX9_told_114 : decode cX9_told 114 = .ok (.aload_n 0, 1) := by decide +kernel
theorem dX9_told_115 : decode cX9_told 115 = .ok (.getfield 10, 3) := by decide +kernel
theorem dX9_told_118 : decode cX9_told 118 = .ok (.iload_n 1, 1) := by decide +kernel
theorem dX9_told_119 : decode cX9_told 119 = .ok (.invokevirtual 104, 3) := by decide +kernel
theorem dX9_told_122 : decode cX9_told 122 = .ok (.ireturn, 1) := by decide +kernel
theorem dX9_told_123 : decode cX9_told 123 = .ok (.aload_n 0, 1) := by decide +kernel
theorem dX9_told_124 : decode cX9_told 124 = .ok (.getfield 10, 3) := by decide +kernel
theorem dX9_told_127 : decode cX9_told 127 = .ok (.iload_n 1, 1) := by decide +kernel
theorem dX9_told_128 : decode cX9_told 128 = .ok (.invokevirtual 108, 3) := by decide +kernel
theorem dX9_told_131 : decode cX9_told 131 = .ok (.ireturn, 1) := by decide +kernel
theorem dX9_told_132 : decode cX9_told 132 = .ok (.aload_n 3, 1) := by decide +kernel
theorem dX9_told_133 : decode cX9_told 133 = .ok (.getfield 89, 3) := by decide +kernel
theorem dX9_told_136 : decode cX9_told 136 = .ok (.iload_n 1, 1) := by decide +kernel
theorem dX9_told_137 : decode cX9_told 137 = .ok (.iaload, 1) := by decide +kernel
theorem dX9_told_138 : decode cX9_told 138 = .ok (.aload_n 3, 1) := by decide +kernel
theorem dX9_told_139 : decode cX9_told 139 = .ok (.getfield 98, 3) := by decide +kernel
theorem dX9_told_142 : decode cX9_told 142 = .ok (.iload_n 1, 1) := by decide +kernel
theorem dX9_told_143 : decode cX9_told 143 = .ok (.iaload, 1) := by decide +kernel
theorem dX9_told_144 : decode cX9_told 144 = .ok (.invokestatic 111, 3) := by decide +kernel
theorem dX9_told_147 : decode cX9_told 147 = .ok (.ireturn, 1) := by decide +kernel
theorem dX9_told_148 : decode cX9_told 148 = .ok (.ldc 72, 2) := by decide +kernel
theorem dX9_told_150 : decode cX9_told 150 = .ok (.ireturn, 1) := by decide +kernel
theorem dX9_as_0 : decode cX9_as 0 = .ok (.aload_n 0, 1) := by decide +kernel
theorem dX9_as_1 : decode cX9_as 1 = .ok (.getfield 10, 3) := by decide +kernel
theorem dX9_as_4 : decode cX9_as 4 = .ok (.getfield 73, 3) := by decide +kernel
theorem dX9_as_7 : decode cX9_as 7 = .ok (.iload_n 1, 1) := by decide +kernel
theorem dX9_as_8 : decode cX9_as 8 = .ok (.invokevirtual 86, 3) := by decide +kernel
theorem dX9_as_11 : decode cX9_as 11 = .ok (.ifCond .eq 10, 3) := by decide +kernel
theorem dX9_as_14 : decode cX9_as 14 = .ok (.iload_n 2, 1) := by decide +kernel
theorem dX9_as_15 : decode cX9_as 15 = .ok (.invokestatic 57, 3) := by decide +kernel
theorem dX9_as_18 : decode cX9_as 18 = .ok (.ifCond .ne 6, 3) := by decide +kernel
theorem dX9_as_21 : decode cX9_as 21 = .ok (.ldc 72, 2) := by decide +kernel
theorem dX9_as_23 : decode cX9_as 23 = .ok (.ireturn, 1) := by decide +kernel
theorem dX9_as_24 : decode cX9_as 24 = .ok (.aload_n 0, 1) := by decide +kernel
theorem dX9_as_25 : decode cX9_as 25 = .ok (.getfield 10, 3) := by decide +kernel
theorem dX9_as_28 : decode cX9_as 28 = .ok (.getfield 73, 3) := by decide +kernel
theorem dX9_as_31 : decode cX9_as 31 = .ok (.getfield 89, 3) := by decide +kernel
theorem dX9_as_34 : decode cX9_as 34 = .ok (.iload_n 1, 1) := by decide +kernel
theorem dX9_as_35 : decode cX9_as 35 = .ok (.iaload, 1) := by decide +kernel
theorem dX9_as_36 : decode cX9_as 36 = .ok (.iload_n 2, 1) := by decide +kernel
theorem dX9_as_37 : decode cX9_as 37 = .ok (.invokestatic 115, 3) := by decide +kernel
theorem dX9_as_40 : decode cX9_as 40 = .ok (.ifCond .eq 18, 3) := by decide +kernel
theorem dX9_as_43 : decode cX9_as 43 = .ok (.aload_n 0, 1) := by decide +kernel
theorem dX9_as_44 : decode cX9_as 44 = .ok (.getfield 10, 3) := by decide +kernel
theorem dX9_as_47 : decode cX9_as 47 = .ok (.getfield 73, 3) := by decide +kernel
theorem dX9_as_50 : decode cX9_as 50 = .ok (.getfield 98, 3) := by decide +kernel
theorem dX9_as_53 : decode cX9_as 53 = .ok (.iload_n 1, 1) := by decide +kernel
theorem dX9_as_54 : decode cX9_as 54 = .ok (.iaload, 1) := by decide +kernel
theorem dX9_as_55 : decode cX9_as 55 = .ok (.goto 5, 3) := by decide +kernel
theorem dX9_as_58 : decode cX9_as 58 = .ok (.ldc 119, 2) := by decide +kernel
theorem dX9_as_60 : decode cX9_as 60 = .ok (.ireturn, 1) := by decide +kernel
theorem dX9_turns_0 : decode cX9_turns 0 = .ok (.aload_n 0, 1) := by decide +kernel
theorem dX9_turns_1 : decode cX9_turns 1 = .ok (.getfield 10, 3) := by decide +kernel
theorem dX9_turns_4 : decode cX9_turns 4 = .ok (.getfield 73, 3) := by decide +kernel
theorem dX9_turns_7 : decode cX9_turns 7 = .ok (.iload_n 1, 1) := by decide +kernel
theorem dX9_turns_8 : decode cX9_turns 8 = .ok (.invokevirtual 86, 3) := by decide +kernel
theorem dX9_turns_11 : decode cX9_turns 11 = .ok (.ifCond .eq 10, 3) := by decide +kernel
theorem dX9_turns_14 : decode cX9_turns 14 = .ok (.iload_n 2, 1) := by decide +kernel
theorem dX9_turns_15 : decode cX9_turns 15 = .ok (.invokestatic 57, 3) := by decide +kernel
theorem dX9_turns_18 : decode cX9_turns 18 = .ok (.ifCond .ne 6, 3) := by decide +kernel
theorem dX9_turns_21 : decode cX9_turns 21 = .ok (.ldc 72, 2) := by decide +kernel
theorem dX9_turns_23 : decode cX9_turns 23 = .ok (.ireturn, 1) := by decide +kernel
theorem dX9_turns_24 : decode cX9_turns 24 = .ok (.aload_n 0, 1) := by decide +kernel
theorem dX9_turns_25 : decode cX9_turns 25 = .ok (.getfield 10, 3) := by decide +kernel
theorem dX9_turns_28 : decode cX9_turns 28 = .ok (.getfield 73, 3) := by decide +kernel
theorem dX9_turns_31 : decode cX9_turns 31 = .ok (.getfield 89, 3) := by decide +kernel
theorem dX9_turns_34 : decode cX9_turns 34 = .ok (.iload_n 1, 1) := by decide +kernel
theorem dX9_turns_35 : decode cX9_turns 35 = .ok (.iaload, 1) := by decide +kernel
theorem dX9_turns_36 : decode cX9_turns 36 = .ok (.istore_n 3, 1) := by decide +kernel
theorem dX9_turns_37 : decode cX9_turns 37 = .ok (.aload_n 0, 1) := by decide +kernel
theorem dX9_turns_38 : decode cX9_turns 38 = .ok (.getfield 10, 3) := by decide +kernel
theorem dX9_turns_41 : decode cX9_turns 41 = .ok (.getfield 73, 3) := by decide +kernel
theorem dX9_turns_44 : decode cX9_turns 44 = .ok (.getfield 89, 3) := by decide +kernel
theorem dX9_turns_47 : decode cX9_turns 47 = .ok (.iload_n 1, 1) := by decide +kernel
theorem dX9_turns_48 : decode cX9_turns 48 = .ok (.iload_n 2, 1) := by decide +kernel
theorem dX9_turns_49 : decode cX9_turns 49 = .ok (.iastore, 1) := by decide +kernel
theorem dX9_turns_50 : decode cX9_turns 50 = .ok (.iload_n 3, 1) := by decide +kernel
theorem dX9_turns_51 : decode cX9_turns 51 = .ok (.ireturn, 1) := by decide +kernel
theorem dX9_open_0 : decode cX9_open 0 = .ok (.aload_n 0, 1) := by decide +kernel
theorem dX9_open_1 : decode cX9_open 1 = .ok (.getfield 10, 3) := by decide +kernel
theorem dX9_open_4 : decode cX9_open 4 = .ok (.getfield 73, 3) := by decide +kernel
theorem dX9_open_7 : decode cX9_open 7 = .ok (.iload_n 1, 1) := by decide +kernel
theorem dX9_open_8 : decode cX9_open 8 = .ok (.invokevirtual 86, 3) := by decide +kernel
theorem dX9_open_11 : decode cX9_open 11 = .ok (.ifCond .eq 12, 3) := by decide +kernel
theorem dX9_open_14 : decode cX9_open 14 = .ok (.iload_n 2, 1) := by decide +kernel
theorem dX9_open_15 : decode cX9_open 15 = .ok (.iconst 0, 1) := by decide +kernel
theorem dX9_open_16 : decode cX9_open 16 = .ok (.iconst 1, 1) := by decide +kernel
theorem dX9_open_17 : decode cX9_open 17 = .ok (.invokestatic 66, 3) := by decide +kernel
theorem dX9_open_20 : decode cX9_open 20 = .ok (.ifCond .ne 6, 3) := by decide +kernel
theorem dX9_open_23 : decode cX9_open 23 = .ok (.ldc 72, 2) := by decide +kernel
theorem dX9_open_25 : decode cX9_open 25 = .ok (.ireturn, 1) := by decide +kernel
theorem dX9_open_26 : decode cX9_open 26 = .ok (.aload_n 0, 1) := by decide +kernel
theorem dX9_open_27 : decode cX9_open 27 = .ok (.getfield 10, 3) := by decide +kernel
theorem dX9_open_30 : decode cX9_open 30 = .ok (.getfield 73, 3) := by decide +kernel
theorem dX9_open_33 : decode cX9_open 33 = .ok (.iload_n 1, 1) := by decide +kernel
theorem dX9_open_34 : decode cX9_open 34 = .ok (.invokevirtual 101, 3) := by decide +kernel
theorem dX9_open_37 : decode cX9_open 37 = .ok (.ifCond .eq 7, 3) := by decide +kernel
theorem dX9_open_40 : decode cX9_open 40 = .ok (.iconst 1, 1) := by decide +kernel
theorem dX9_open_41 : decode cX9_open 41 = .ok (.goto 4, 3) := by decide +kernel
theorem dX9_open_44 : decode cX9_open 44 = .ok (.iconst 0, 1) := by decide +kernel
theorem dX9_open_45 : decode cX9_open 45 = .ok (.istore_n 3, 1) := by decide +kernel
theorem dX9_open_46 : decode cX9_open 46 = .ok (.aload_n 0, 1) := by decide +kernel
theorem dX9_open_47 : decode cX9_open 47 = .ok (.getfield 10, 3) := by decide +kernel
theorem dX9_open_50 : decode cX9_open 50 = .ok (.getfield 73, 3) := by decide +kernel
theorem dX9_open_53 : decode cX9_open 53 = .ok (.iload_n 1, 1) := by decide +kernel
theorem dX9_open_54 : decode cX9_open 54 = .ok (.iload_n 2, 1) := by decide +kernel
theorem dX9_open_55 : decode cX9_open 55 = .ok (.iconst 1, 1) := by decide +kernel
theorem dX9_open_56 : decode cX9_open 56 = .ok (.if_icmp .ne 7, 3) := by decide +kernel
theorem dX9_open_59 : decode cX9_open 59 = .ok (.iconst 1, 1) := by decide +kernel
theorem dX9_open_60 : decode cX9_open 60 = .ok (.goto 4, 3) := by decide +kernel
theorem dX9_open_63 : decode cX9_open 63 = .ok (.iconst 0, 1) := by decide +kernel
theorem dX9_open_64 : decode cX9_open 64 = .ok (.invokevirtual 120, 3) := by decide +kernel
theorem dX9_open_67 : decode cX9_open 67 = .ok (.iload_n 3, 1) := by decide +kernel
theorem dX9_open_68 : decode cX9_open 68 = .ok (.ireturn, 1) := by decide +kernel
theorem dX9_room_0 : decode cX9_room 0 = .ok (.iload_n 1, 1) := by decide +kernel
theorem dX9_room_1 : decode cX9_room 1 = .ok (.invokestatic 63, 3) := by decide +kernel
theorem dX9_room_4 : decode cX9_room 4 = .ok (.ifCond .ne 6, 3) := by decide +kernel
theorem dX9_room_7 : decode cX9_room 7 = .ok (.ldc 72, 2) := by decide +kernel
theorem dX9_room_9 : decode cX9_room 9 = .ok (.ireturn, 1) := by decide +kernel
theorem dX9_room_10 : decode cX9_room 10 = .ok (.iload_n 2, 1) := by decide +kernel
theorem dX9_room_11 : decode cX9_room 11 = .ok (.tableswitch 89 0 4 #[33, 43, 53, 63, 80], 33) := by decide +kernel
theorem dX9_room_44 : decode cX9_room 44 = .ok (.aload_n 0, 1) := by decide +kernel
theorem dX9_room_45 : decode cX9_room 45 = .ok (.getfield 10, 3) := by decide +kernel
theorem dX9_room_48 : decode cX9_room 48 = .ok (.getfield 124, 3) := by decide +kernel
theorem dX9_room_51 : decode cX9_room 51 = .ok (.iload_n 1, 1) := by decide +kernel
theorem dX9_room_52 : decode cX9_room 52 = .ok (.iaload, 1) := by decide +kernel
theorem dX9_room_53 : decode cX9_room 53 = .ok (.ireturn, 1) := by decide +kernel
theorem dX9_room_54 : decode cX9_room 54 = .ok (.aload_n 0, 1) := by decide +kernel
theorem dX9_room_55 : decode cX9_room 55 = .ok (.getfield 10, 3) := by decide +kernel
theorem dX9_room_58 : decode cX9_room 58 = .ok (.getfield 127, 3) := by decide +kernel
theorem dX9_room_61 : decode cX9_room 61 = .ok (.iload_n 1, 1) := by decide +kernel
theorem dX9_room_62 : decode cX9_room 62 = .ok (.iaload, 1) := by decide +kernel
theorem dX9_room_63 : decode cX9_room 63 = .ok (.ireturn, 1) := by decide +kernel
theorem dX9_room_64 : decode cX9_room 64 = .ok (.aload_n 0, 1) := by decide +kernel
theorem dX9_room_65 : decode cX9_room 65 = .ok (.getfield 10, 3) := by decide +kernel
theorem dX9_room_68 : decode cX9_room 68 = .ok (.getfield 130, 3) := by decide +kernel
theorem dX9_room_71 : decode cX9_room 71 = .ok (.iload_n 1, 1) := by decide +kernel
theorem dX9_room_72 : decode cX9_room 72 = .ok (.iaload, 1) := by decide +kernel
theorem dX9_room_73 : decode cX9_room 73 = .ok (.ireturn, 1) := by decide +kernel
theorem dX9_room_74 : decode cX9_room 74 = .ok (.aload_n 0, 1) := by decide +kernel
theorem dX9_room_75 : decode cX9_room 75 = .ok (.getfield 10, 3) := by decide +kernel
theorem dX9_room_78 : decode cX9_room 78 = .ok (.iload_n 1, 1) := by decide +kernel
theorem dX9_room_79 : decode cX9_room 79 = .ok (.invokevirtual 133, 3) := by decide +kernel
theorem dX9_room_82 : decode cX9_room 82 = .ok (.ifCond .eq 7, 3) := by decide +kernel
theorem dX9_room_85 : decode cX9_room 85 = .ok (.iconst 1, 1) := by decide +kernel
theorem dX9_room_86 : decode cX9_room 86 = .ok (.goto 4, 3) := by decide +kernel
theorem dX9_room_89 : decode cX9_room 89 = .ok (.iconst 0, 1) := by decide +kernel
theorem dX9_room_90 : decode cX9_room 90 = .ok (.ireturn, 1) := by decide +kernel
theorem dX9_room_91 : decode cX9_room 91 = .ok (.aload_n 0, 1) := by decide +kernel
theorem dX9_room_92 : decode cX9_room 92 = .ok (.getfield 10, 3) := by decide +kernel
theorem dX9_room_95 : decode cX9_room 95 = .ok (.iload_n 1, 1) := by decide +kernel
theorem dX9_room_96 : decode cX9_room 96 = .ok (.invokevirtual 136, 3) := by decide +kernel
theorem dX9_room_99 : decode cX9_room 99 = .ok (.ireturn, 1) := by decide +kernel
theorem dX9_room_100 : decode cX9_room 100 = .ok (.ldc 72, 2) := by decide +kernel
theorem dX9_room_102 : decode cX9_room 102 = .ok (.ireturn, 1) := by decide +kernel
theorem dX9_set_0 : decode cX9_set 0 = .ok (.iload_n 1, 1) := by decide +kernel
theorem dX9_set_1 : decode cX9_set 1 = .ok (.invokestatic 63, 3) := by decide +kernel
theorem dX9_set_4 : decode cX9_set 4 = .ok (.ifCond .eq 24, 3) := by decide +kernel
theorem dX9_set_7 : decode cX9_set 7 = .ok (.iload_n 2, 1) := by decide +kernel
theorem dX9_set_8 : decode cX9_set 8 = .ok (.iconst 0, 1) := by decide +kernel
theorem dX9_set_9 : decode cX9_set 9 = .ok (.iconst 3, 1) := by decide +kernel
theorem dX9_set_10 : decode cX9_set 10 = .ok (.invokestatic 66, 3) := by decide +kernel
theorem dX9_set_13 : decode cX9_set 13 = .ok (.ifCond .eq 15, 3) := by decide +kernel
theorem dX9_set_16 : decode cX9_set 16 = .ok (.iload_n 3, 1) := by decide +kernel
theorem dX9_set_17 : decode cX9_set 17 = .ok (.iconst 0, 1) := by decide +kernel
theorem dX9_set_18 : decode cX9_set 18 = .ok (.iload_n 2, 1) := by decide +kernel
theorem dX9_set_19 : decode cX9_set 19 = .ok (.invokestatic 139, 3) := by decide +kernel
theorem dX9_set_22 : decode cX9_set 22 = .ok (.invokestatic 66, 3) := by decide +kernel
theorem dX9_set_25 : decode cX9_set 25 = .ok (.ifCond .ne 6, 3) := by decide +kernel
theorem dX9_set_28 : decode cX9_set 28 = .ok (.ldc 72, 2) := by decide +kernel
theorem dX9_set_30 : decode cX9_set 30 = .ok (.ireturn, 1) := by decide +kernel
theorem dX9_set_31 : decode cX9_set 31 = .ok (.iload_n 2, 1) := by decide +kernel
theorem dX9_set_32 : decode cX9_set 32 = .ok (.tableswitch 100 0 2 #[28, 52, 76], 28) := by decide +kernel
theorem dX9_set_60 : decode cX9_set 60 = .ok (.aload_n 0, 1) := by decide +kernel
theorem dX9_set_61 : decode cX9_set 61 = .ok (.getfield 10, 3) := by decide +kernel
theorem dX9_set_64 : decode cX9_set 64 = .ok (.getfield 124, 3) := by decide +kernel
theorem dX9_set_67 : decode cX9_set 67 = .ok (.iload_n 1, 1) := by decide +kernel
theorem dX9_set_68 : decode cX9_set 68 = .ok (.iaload, 1) := by decide +kernel
theorem dX9_set_69 : decode cX9_set 69 = .ok (.istore 4, 2) := by decide +kernel
theorem dX9_set_71 : decode cX9_set 71 = .ok (.aload_n 0, 1) := by decide +kernel
theorem dX9_set_72 : decode cX9_set 72 = .ok (.getfield 10, 3) := by decide +kernel
theorem dX9_set_75 : decode cX9_set 75 = .ok (.getfield 124, 3) := by decide +kernel
theorem dX9_set_78 : decode cX9_set 78 = .ok (.iload_n 1, 1) := by decide +kernel
theorem dX9_set_79 : decode cX9_set 79 = .ok (.iload_n 3, 1) := by decide +kernel
theorem dX9_set_80 : decode cX9_set 80 = .ok (.iastore, 1) := by decide +kernel
theorem dX9_set_81 : decode cX9_set 81 = .ok (.iload 4, 2) := by decide +kernel
theorem dX9_set_83 : decode cX9_set 83 = .ok (.ireturn, 1) := by decide +kernel
theorem dX9_set_84 : decode cX9_set 84 = .ok (.aload_n 0, 1) := by decide +kernel
theorem dX9_set_85 : decode cX9_set 85 = .ok (.getfield 10, 3) := by decide +kernel
theorem dX9_set_88 : decode cX9_set 88 = .ok (.getfield 127, 3) := by decide +kernel
theorem dX9_set_91 : decode cX9_set 91 = .ok (.iload_n 1, 1) := by decide +kernel
theorem dX9_set_92 : decode cX9_set 92 = .ok (.iaload, 1) := by decide +kernel
theorem dX9_set_93 : decode cX9_set 93 = .ok (.istore 4, 2) := by decide +kernel
theorem dX9_set_95 : decode cX9_set 95 = .ok (.aload_n 0, 1) := by decide +kernel
theorem dX9_set_96 : decode cX9_set 96 = .ok (.getfield 10, 3) := by decide +kernel
theorem dX9_set_99 : decode cX9_set 99 = .ok (.getfield 127, 3) := by decide +kernel
theorem dX9_set_102 : decode cX9_set 102 = .ok (.iload_n 1, 1) := by decide +kernel
theorem dX9_set_103 : decode cX9_set 103 = .ok (.iload_n 3, 1) := by decide +kernel
theorem dX9_set_104 : decode cX9_set 104 = .ok (.iastore, 1) := by decide +kernel
theorem dX9_set_105 : decode cX9_set 105 = .ok (.iload 4, 2) := by decide +kernel
theorem dX9_set_107 : decode cX9_set 107 = .ok (.ireturn, 1) := by decide +kernel
theorem dX9_set_108 : decode cX9_set 108 = .ok (.aload_n 0, 1) := by decide +kernel
theorem dX9_set_109 : decode cX9_set 109 = .ok (.getfield 10, 3) := by decide +kernel
theorem dX9_set_112 : decode cX9_set 112 = .ok (.getfield 130, 3) := by decide +kernel
theorem dX9_set_115 : decode cX9_set 115 = .ok (.iload_n 1, 1) := by decide +kernel
theorem dX9_set_116 : decode cX9_set 116 = .ok (.iaload, 1) := by decide +kernel
theorem dX9_set_117 : decode cX9_set 117 = .ok (.istore 4, 2) := by decide +kernel
theorem dX9_set_119 : decode cX9_set 119 = .ok (.aload_n 0, 1) := by decide +kernel
theorem dX9_set_120 : decode cX9_set 120 = .ok (.getfield 10, 3) := by decide +kernel
theorem dX9_set_123 : decode cX9_set 123 = .ok (.getfield 130, 3) := by decide +kernel
theorem dX9_set_126 : decode cX9_set 126 = .ok (.iload_n 1, 1) := by decide +kernel
theorem dX9_set_127 : decode cX9_set 127 = .ok (.iload_n 3, 1) := by decide +kernel
theorem dX9_set_128 : decode cX9_set 128 = .ok (.iastore, 1) := by decide +kernel
theorem dX9_set_129 : decode cX9_set 129 = .ok (.iload 4, 2) := by decide +kernel
theorem dX9_set_131 : decode cX9_set 131 = .ok (.ireturn, 1) := by decide +kernel
theorem dX9_set_132 : decode cX9_set 132 = .ok (.aload_n 0, 1) := by decide +kernel
theorem dX9_set_133 : decode cX9_set 133 = .ok (.getfield 10, 3) := by decide +kernel
theorem dX9_set_136 : decode cX9_set 136 = .ok (.iload_n 1, 1) := by decide +kernel
theorem dX9_set_137 : decode cX9_set 137 = .ok (.invokevirtual 133, 3) := by decide +kernel
theorem dX9_set_140 : decode cX9_set 140 = .ok (.ifCond .eq 7, 3) := by decide +kernel
theorem dX9_set_143 : decode cX9_set 143 = .ok (.iconst 1, 1) := by decide +kernel
theorem dX9_set_144 : decode cX9_set 144 = .ok (.goto 4, 3) := by decide +kernel
theorem dX9_set_147 : decode cX9_set 147 = .ok (.iconst 0, 1) := by decide +kernel
theorem dX9_set_148 : decode cX9_set 148 = .ok (.istore 4, 2) := by decide +kernel
theorem dX9_set_150 : decode cX9_set 150 = .ok (.aload_n 0, 1) := by decide +kernel
theorem dX9_set_151 : decode cX9_set 151 = .ok (.getfield 10, 3) := by decide +kernel
theorem dX9_set_154 : decode cX9_set 154 = .ok (.iload_n 1, 1) := by decide +kernel
theorem dX9_set_155 : decode cX9_set 155 = .ok (.iload_n 3, 1) := by decide +kernel
theorem dX9_set_156 : decode cX9_set 156 = .ok (.iconst 1, 1) := by decide +kernel
theorem dX9_set_157 : decode cX9_set 157 = .ok (.if_icmp .ne 7, 3) := by decide +kernel
theorem dX9_set_160 : decode cX9_set 160 = .ok (.iconst 1, 1) := by decide +kernel
theorem dX9_set_161 : decode cX9_set 161 = .ok (.goto 4, 3) := by decide +kernel
theorem dX9_set_164 : decode cX9_set 164 = .ok (.iconst 0, 1) := by decide +kernel
theorem dX9_set_165 : decode cX9_set 165 = .ok (.invokevirtual 142, 3) := by decide +kernel
theorem dX9_set_168 : decode cX9_set 168 = .ok (.iload 4, 2) := by decide +kernel
theorem dX9_set_170 : decode cX9_set 170 = .ok (.ireturn, 1) := by decide +kernel
theorem dX9_mostOf_0 : decode cX9_mostOf 0 = .ok (.iload_n 0, 1) := by decide +kernel
theorem dX9_mostOf_1 : decode cX9_mostOf 1 = .ok (.tableswitch 38 0 2 #[27, 31, 34], 27) := by decide +kernel
theorem dX9_mostOf_28 : decode cX9_mostOf 28 = .ok (.sipush 9999, 3) := by decide +kernel
theorem dX9_mostOf_31 : decode cX9_mostOf 31 = .ok (.ireturn, 1) := by decide +kernel
theorem dX9_mostOf_32 : decode cX9_mostOf 32 = .ok (.bipush 9, 2) := by decide +kernel
theorem dX9_mostOf_34 : decode cX9_mostOf 34 = .ok (.ireturn, 1) := by decide +kernel
theorem dX9_mostOf_35 : decode cX9_mostOf 35 = .ok (.sipush 9999, 3) := by decide +kernel
theorem dX9_mostOf_38 : decode cX9_mostOf 38 = .ok (.ireturn, 1) := by decide +kernel
theorem dX9_mostOf_39 : decode cX9_mostOf 39 = .ok (.iconst 1, 1) := by decide +kernel
theorem dX9_mostOf_40 : decode cX9_mostOf 40 = .ok (.ireturn, 1) := by decide +kernel
theorem dX9_wind_0 : decode cX9_wind 0 = .ok (.iload_n 1, 1) := by decide +kernel
theorem dX9_wind_1 : decode cX9_wind 1 = .ok (.iconst 0, 1) := by decide +kernel
theorem dX9_wind_2 : decode cX9_wind 2 = .ok (.sipush 9999, 3) := by decide +kernel
theorem dX9_wind_5 : decode cX9_wind 5 = .ok (.invokestatic 66, 3) := by decide +kernel
theorem dX9_wind_8 : decode cX9_wind 8 = .ok (.ifCond .ne 6, 3) := by decide +kernel
theorem dX9_wind_11 : decode cX9_wind 11 = .ok (.ldc 72, 2) := by decide +kernel
theorem dX9_wind_13 : decode cX9_wind 13 = .ok (.ireturn, 1) := by decide +kernel
theorem dX9_wind_14 : decode cX9_wind 14 = .ok (.aload_n 0, 1) := by decide +kernel
theorem dX9_wind_15 : decode cX9_wind 15 = .ok (.getfield 10, 3) := by decide +kernel
theorem dX9_wind_18 : decode cX9_wind 18 = .ok (.getfield 124, 3) := by decide +kernel
theorem dX9_wind_21 : decode cX9_wind 21 = .ok (.bipush 8, 2) := by decide +kernel
theorem dX9_wind_23 : decode cX9_wind 23 = .ok (.iaload, 1) := by decide +kernel
theorem dX9_wind_24 : decode cX9_wind 24 = .ok (.istore_n 2, 1) := by decide +kernel
theorem dX9_wind_25 : decode cX9_wind 25 = .ok (.aload_n 0, 1) := by decide +kernel
theorem dX9_wind_26 : decode cX9_wind 26 = .ok (.getfield 10, 3) := by decide +kernel
theorem dX9_wind_29 : decode cX9_wind 29 = .ok (.getfield 124, 3) := by decide +kernel
theorem dX9_wind_32 : decode cX9_wind 32 = .ok (.bipush 8, 2) := by decide +kernel
theorem dX9_wind_34 : decode cX9_wind 34 = .ok (.iload_n 1, 1) := by decide +kernel
theorem dX9_wind_35 : decode cX9_wind 35 = .ok (.iastore, 1) := by decide +kernel
theorem dX9_wind_36 : decode cX9_wind 36 = .ok (.iload_n 2, 1) := by decide +kernel
theorem dX9_wind_37 : decode cX9_wind 37 = .ok (.ireturn, 1) := by decide +kernel
theorem dX9_deal_0 : decode cX9_deal 0 = .ok (.iload_n 1, 1) := by decide +kernel
theorem dX9_deal_1 : decode cX9_deal 1 = .ok (.iconst 1, 1) := by decide +kernel
theorem dX9_deal_2 : decode cX9_deal 2 = .ok (.bipush 10, 2) := by decide +kernel
theorem dX9_deal_4 : decode cX9_deal 4 = .ok (.invokestatic 66, 3) := by decide +kernel
theorem dX9_deal_7 : decode cX9_deal 7 = .ok (.ifCond .ne 6, 3) := by decide +kernel
theorem dX9_deal_10 : decode cX9_deal 10 = .ok (.ldc 72, 2) := by decide +kernel
theorem dX9_deal_12 : decode cX9_deal 12 = .ok (.ireturn, 1) := by decide +kernel
theorem dX9_deal_13 : decode cX9_deal 13 = .ok (.iload_n 1, 1) := by decide +kernel
theorem dX9_deal_14 : decode cX9_deal 14 = .ok (.bipush 10, 2) := by decide +kernel
theorem dX9_deal_16 : decode cX9_deal 16 = .ok (.aload_n 0, 1) := by decide +kernel
theorem dX9_deal_17 : decode cX9_deal 17 = .ok (.getfield 10, 3) := by decide +kernel
theorem dX9_deal_20 : decode cX9_deal 20 = .ok (.getfield 73, 3) := by decide +kernel
theorem dX9_deal_23 : decode cX9_deal 23 = .ok (.getfield 77, 3) := by decide +kernel
theorem dX9_deal_26 : decode cX9_deal 26 = .ok (.isub, 1) := by decide +kernel
theorem dX9_deal_27 : decode cX9_deal 27 = .ok (.invokestatic 145, 3) := by decide +kernel
theorem dX9_deal_30 : decode cX9_deal 30 = .ok (.istore_n 2, 1) := by decide +kernel
theorem dX9_deal_31 : decode cX9_deal 31 = .ok (.iconst 0, 1) := by decide +kernel
theorem dX9_deal_32 : decode cX9_deal 32 = .ok (.istore_n 3, 1) := by decide +kernel
theorem dX9_deal_33 : decode cX9_deal 33 = .ok (.iload_n 3, 1) := by decide +kernel
theorem dX9_deal_34 : decode cX9_deal 34 = .ok (.iload_n 2, 1) := by decide +kernel
theorem dX9_deal_35 : decode cX9_deal 35 = .ok (.if_icmp .ge 16, 3) := by decide +kernel
theorem dX9_deal_38 : decode cX9_deal 38 = .ok (.aload_n 0, 1) := by decide +kernel
theorem dX9_deal_39 : decode cX9_deal 39 = .ok (.getfield 10, 3) := by decide +kernel
theorem dX9_deal_42 : decode cX9_deal 42 = .ok (.invokevirtual 150, 3) := by decide +kernel
theorem dX9_deal_45 : decode cX9_deal 45 = .ok (.iinc 3 1, 3) := by decide +kernel
theorem dX9_deal_48 : decode cX9_deal 48 = .ok (.goto (-15), 3) := by decide +kernel
theorem dX9_deal_51 : decode cX9_deal 51 = .ok (.iload_n 2, 1) := by decide +kernel
theorem dX9_deal_52 : decode cX9_deal 52 = .ok (.ireturn, 1) := by decide +kernel
theorem dX9_seed_0 : decode cX9_seed 0 = .ok (.aload_n 0, 1) := by decide +kernel
theorem dX9_seed_1 : decode cX9_seed 1 = .ok (.getfield 10, 3) := by decide +kernel
theorem dX9_seed_4 : decode cX9_seed 4 = .ok (.getfield 153, 3) := by decide +kernel
theorem dX9_seed_7 : decode cX9_seed 7 = .ok (.istore_n 2, 1) := by decide +kernel
theorem dX9_seed_8 : decode cX9_seed 8 = .ok (.aload_n 0, 1) := by decide +kernel
theorem dX9_seed_9 : decode cX9_seed 9 = .ok (.getfield 10, 3) := by decide +kernel
theorem dX9_seed_12 : decode cX9_seed 12 = .ok (.iload_n 1, 1) := by decide +kernel
theorem dX9_seed_13 : decode cX9_seed 13 = .ok (.putfield 153, 3) := by decide +kernel
theorem dX9_seed_16 : decode cX9_seed 16 = .ok (.iload_n 2, 1) := by decide +kernel
theorem dX9_seed_17 : decode cX9_seed 17 = .ok (.ireturn, 1) := by decide +kernel
theorem dX9_run_0 : decode cX9_run 0 = .ok (.iload_n 1, 1) := by decide +kernel
theorem dX9_run_1 : decode cX9_run 1 = .ok (.iconst 1, 1) := by decide +kernel
theorem dX9_run_2 : decode cX9_run 2 = .ok (.bipush 100, 2) := by decide +kernel
theorem dX9_run_4 : decode cX9_run 4 = .ok (.invokestatic 66, 3) := by decide +kernel
theorem dX9_run_7 : decode cX9_run 7 = .ok (.ifCond .ne 6, 3) := by decide +kernel
theorem dX9_run_10 : decode cX9_run 10 = .ok (.ldc 72, 2) := by decide +kernel
theorem dX9_run_12 : decode cX9_run 12 = .ok (.ireturn, 1) := by decide +kernel
theorem dX9_run_13 : decode cX9_run 13 = .ok (.aload_n 0, 1) := by decide +kernel
theorem dX9_run_14 : decode cX9_run 14 = .ok (.getfield 10, 3) := by decide +kernel
theorem dX9_run_17 : decode cX9_run 17 = .ok (.invokevirtual 156, 3) := by decide +kernel
theorem dX9_run_20 : decode cX9_run 20 = .ok (.istore_n 2, 1) := by decide +kernel
theorem dX9_run_21 : decode cX9_run 21 = .ok (.iload_n 1, 1) := by decide +kernel
theorem dX9_run_22 : decode cX9_run 22 = .ok (.aload_n 0, 1) := by decide +kernel
theorem dX9_run_23 : decode cX9_run 23 = .ok (.getfield 10, 3) := by decide +kernel
theorem dX9_run_26 : decode cX9_run 26 = .ok (.invokevirtual 160, 3) := by decide +kernel
theorem dX9_run_29 : decode cX9_run 29 = .ok (.invokestatic 145, 3) := by decide +kernel
theorem dX9_run_32 : decode cX9_run 32 = .ok (.istore_n 3, 1) := by decide +kernel
theorem dX9_run_33 : decode cX9_run 33 = .ok (.iconst 0, 1) := by decide +kernel
theorem dX9_run_34 : decode cX9_run 34 = .ok (.istore 4, 2) := by decide +kernel
theorem dX9_run_36 : decode cX9_run 36 = .ok (.iload 4, 2) := by decide +kernel
theorem dX9_run_38 : decode cX9_run 38 = .ok (.iload_n 3, 1) := by decide +kernel
theorem dX9_run_39 : decode cX9_run 39 = .ok (.if_icmp .ge 16, 3) := by decide +kernel
theorem dX9_run_42 : decode cX9_run 42 = .ok (.aload_n 0, 1) := by decide +kernel
theorem dX9_run_43 : decode cX9_run 43 = .ok (.getfield 10, 3) := by decide +kernel
theorem dX9_run_46 : decode cX9_run 46 = .ok (.invokevirtual 163, 3) := by decide +kernel
theorem dX9_run_49 : decode cX9_run 49 = .ok (.iinc 4 1, 3) := by decide +kernel
theorem dX9_run_52 : decode cX9_run 52 = .ok (.goto (-16), 3) := by decide +kernel
theorem dX9_run_55 : decode cX9_run 55 = .ok (.iload_n 2, 1) := by decide +kernel
theorem dX9_run_56 : decode cX9_run 56 = .ok (.aload_n 0, 1) := by decide +kernel
theorem dX9_run_57 : decode cX9_run 57 = .ok (.getfield 10, 3) := by decide +kernel
theorem dX9_run_60 : decode cX9_run 60 = .ok (.invokevirtual 156, 3) := by decide +kernel
theorem dX9_run_63 : decode cX9_run 63 = .ok (.isub, 1) := by decide +kernel
theorem dX9_run_64 : decode cX9_run 64 = .ok (.ireturn, 1) := by decide +kernel
theorem dX9_footman_0 : decode cX9_footman 0 = .ok (.iload_n 1, 1) := by decide +kernel
theorem dX9_footman_1 : decode cX9_footman 1 = .ok (.iconst 0, 1) := by decide +kernel
theorem dX9_footman_2 : decode cX9_footman 2 = .ok (.bipush 100, 2) := by decide +kernel
theorem dX9_footman_4 : decode cX9_footman 4 = .ok (.invokestatic 66, 3) := by decide +kernel
theorem dX9_footman_7 : decode cX9_footman 7 = .ok (.ifCond .ne 6, 3) := by decide +kernel
theorem dX9_footman_10 : decode cX9_footman 10 = .ok (.ldc 72, 2) := by decide +kernel
theorem dX9_footman_12 : decode cX9_footman 12 = .ok (.ireturn, 1) := by decide +kernel
theorem dX9_footman_13 : decode cX9_footman 13 = .ok (.aload_n 0, 1) := by decide +kernel
theorem dX9_footman_14 : decode cX9_footman 14 = .ok (.getfield 10, 3) := by decide +kernel
theorem dX9_footman_17 : decode cX9_footman 17 = .ok (.getfield 73, 3) := by decide +kernel
theorem dX9_footman_20 : decode cX9_footman 20 = .ok (.invokevirtual 166, 3) := by decide +kernel
theorem dX9_footman_23 : decode cX9_footman 23 = .ok (.istore_n 2, 1) := by decide +kernel
theorem dX9_footman_24 : decode cX9_footman 24 = .ok (.aload_n 0, 1) := by decide +kernel
theorem dX9_footman_25 : decode cX9_footman 25 = .ok (.getfield 10, 3) := by decide +kernel
theorem dX9_footman_28 : decode cX9_footman 28 = .ok (.iload_n 1, 1) := by decide +kernel
theorem dX9_footman_29 : decode cX9_footman 29 = .ok (.invokevirtual 169, 3) := by decide +kernel
theorem dX9_footman_32 : decode cX9_footman 32 = .ok (.iload_n 2, 1) := by decide +kernel
theorem dX9_footman_33 : decode cX9_footman 33 = .ok (.aload_n 0, 1) := by decide +kernel
theorem dX9_footman_34 : decode cX9_footman 34 = .ok (.getfield 10, 3) := by decide +kernel
theorem dX9_footman_37 : decode cX9_footman 37 = .ok (.getfield 73, 3) := by decide +kernel
theorem dX9_footman_40 : decode cX9_footman 40 = .ok (.invokevirtual 166, 3) := by decide +kernel
theorem dX9_footman_43 : decode cX9_footman 43 = .ok (.isub, 1) := by decide +kernel
theorem dX9_footman_44 : decode cX9_footman 44 = .ok (.ireturn, 1) := by decide +kernel
theorem dX9_hall_0 : decode cX9_hall 0 = .ok (.iload_n 1, 1) := by decide +kernel
theorem dX9_hall_1 : decode cX9_hall 1 = .ok (.tableswitch 78 0 4 #[35, 43, 51, 59, 67], 35) := by decide +kernel
theorem dX9_hall_36 : decode cX9_hall 36 = .ok (.aload_n 0, 1) := by decide +kernel
theorem dX9_hall_37 : decode cX9_hall 37 = .ok (.getfield 10, 3) := by decide +kernel
theorem dX9_hall_40 : decode cX9_hall 40 = .ok (.getfield 173, 3) := by decide +kernel
theorem dX9_hall_43 : decode cX9_hall 43 = .ok (.ireturn, 1) := by decide +kernel
theorem dX9_hall_44 : decode cX9_hall 44 = .ok (.aload_n 0, 1) := by decide +kernel
theorem dX9_hall_45 : decode cX9_hall 45 = .ok (.getfield 10, 3) := by decide +kernel
theorem dX9_hall_48 : decode cX9_hall 48 = .ok (.invokevirtual 176, 3) := by decide +kernel
theorem dX9_hall_51 : decode cX9_hall 51 = .ok (.ireturn, 1) := by decide +kernel
theorem dX9_hall_52 : decode cX9_hall 52 = .ok (.aload_n 0, 1) := by decide +kernel
theorem dX9_hall_53 : decode cX9_hall 53 = .ok (.getfield 10, 3) := by decide +kernel
theorem dX9_hall_56 : decode cX9_hall 56 = .ok (.invokevirtual 179, 3) := by decide +kernel
theorem dX9_hall_59 : decode cX9_hall 59 = .ok (.ireturn, 1) := by decide +kernel
theorem dX9_hall_60 : decode cX9_hall 60 = .ok (.aload_n 0, 1) := by decide +kernel
theorem dX9_hall_61 : decode cX9_hall 61 = .ok (.getfield 10, 3) := by decide +kernel
theorem dX9_hall_64 : decode cX9_hall 64 = .ok (.getfield 182, 3) := by decide +kernel
theorem dX9_hall_67 : decode cX9_hall 67 = .ok (.ireturn, 1) := by decide +kernel
theorem dX9_hall_68 : decode cX9_hall 68 = .ok (.aload_n 0, 1) := by decide +kernel
theorem dX9_hall_69 : decode cX9_hall 69 = .ok (.getfield 10, 3) := by decide +kernel
theorem dX9_hall_72 : decode cX9_hall 72 = .ok (.getfield 73, 3) := by decide +kernel
theorem dX9_hall_75 : decode cX9_hall 75 = .ok (.getfield 185, 3) := by decide +kernel
theorem dX9_hall_78 : decode cX9_hall 78 = .ok (.ireturn, 1) := by decide +kernel
theorem dX9_hall_79 : decode cX9_hall 79 = .ok (.ldc 72, 2) := by decide +kernel
theorem dX9_hall_81 : decode cX9_hall 81 = .ok (.ireturn, 1) := by decide +kernel
theorem dX9_behind_0 : decode cX9_behind 0 = .ok (.iload_n 1, 1) := by decide +kernel
theorem dX9_behind_1 : decode cX9_behind 1 = .ok (.invokestatic 63, 3) := by decide +kernel
theorem dX9_behind_4 : decode cX9_behind 4 = .ok (.ifCond .eq 22, 3) := by decide +kernel
theorem dX9_behind_7 : decode cX9_behind 7 = .ok (.iload_n 2, 1) := by decide +kernel
theorem dX9_behind_8 : decode cX9_behind 8 = .ok (.iconst 0, 1) := by decide +kernel
theorem dX9_behind_9 : decode cX9_behind 9 = .ok (.bipush 100, 2) := by decide +kernel
theorem dX9_behind_11 : decode cX9_behind 11 = .ok (.invokestatic 66, 3) := by decide +kernel
theorem dX9_behind_14 : decode cX9_behind 14 = .ok (.ifCond .eq 12, 3) := by decide +kernel
theorem dX9_behind_17 : decode cX9_behind 17 = .ok (.iload_n 3, 1) := by decide +kernel
theorem dX9_behind_18 : decode cX9_behind 18 = .ok (.iconst 0, 1) := by decide +kernel
theorem dX9_behind_19 : decode cX9_behind 19 = .ok (.iconst 3, 1) := by decide +kernel
theorem dX9_behind_20 : decode cX9_behind 20 = .ok (.invokestatic 66, 3) := by decide +kernel
theorem dX9_behind_23 : decode cX9_behind 23 = .ok (.ifCond .ne 6, 3) := by decide +kernel
theorem dX9_behind_26 : decode cX9_behind 26 = .ok (.ldc 72, 2) := by decide +kernel
theorem dX9_behind_28 : decode cX9_behind 28 = .ok (.ireturn, 1) := by decide +kernel
theorem dX9_behind_29 : decode cX9_behind 29 = .ok (.aload_n 0, 1) := by decide +kernel
theorem dX9_behind_30 : decode cX9_behind 30 = .ok (.getfield 22, 3) := by decide +kernel
theorem dX9_behind_33 : decode cX9_behind 33 = .ok (.aload_n 0, 1) := by decide +kernel
theorem dX9_behind_34 : decode cX9_behind 34 = .ok (.getfield 10, 3) := by decide +kernel
theorem dX9_behind_37 : decode cX9_behind 37 = .ok (.iload_n 2, 1) := by decide +kernel
theorem dX9_behind_38 : decode cX9_behind 38 = .ok (.invokevirtual 188, 3) := by decide +kernel
theorem dX9_behind_41 : decode cX9_behind 41 = .ok (.astore 4, 2) := by decide +kernel
theorem dX9_behind_43 : decode cX9_behind 43 = .ok (.iload_n 3, 1) := by decide +kernel
theorem dX9_behind_44 : decode cX9_behind 44 = .ok (.tableswitch 51 0 2 #[28, 36, 44], 28) := by decide +kernel
theorem dX9_behind_72 : decode cX9_behind 72 = .ok (.aload 4, 2) := by decide +kernel
theorem dX9_behind_74 : decode cX9_behind 74 = .ok (.getfield 124, 3) := by decide +kernel
theorem dX9_behind_77 : decode cX9_behind 77 = .ok (.iload_n 1, 1) := by decide +kernel
theorem dX9_behind_78 : decode cX9_behind 78 = .ok (.iaload, 1) := by decide +kernel
theorem dX9_behind_79 : decode cX9_behind 79 = .ok (.ireturn, 1) := by decide +kernel
theorem dX9_behind_80 : decode cX9_behind 80 = .ok (.aload 4, 2) := by decide +kernel
theorem dX9_behind_82 : decode cX9_behind 82 = .ok (.getfield 130, 3) := by decide +kernel
theorem dX9_behind_85 : decode cX9_behind 85 = .ok (.iload_n 1, 1) := by decide +kernel
theorem dX9_behind_86 : decode cX9_behind 86 = .ok (.iaload, 1) := by decide +kernel
theorem dX9_behind_87 : decode cX9_behind 87 = .ok (.ireturn, 1) := by decide +kernel
theorem dX9_behind_88 : decode cX9_behind 88 = .ok (.aload 4, 2) := by decide +kernel
theorem dX9_behind_90 : decode cX9_behind 90 = .ok (.iload_n 1, 1) := by decide +kernel
theorem dX9_behind_91 : decode cX9_behind 91 = .ok (.invokevirtual 136, 3) := by decide +kernel
theorem dX9_behind_94 : decode cX9_behind 94 = .ok (.ireturn, 1) := by decide +kernel
theorem dX9_behind_95 : decode cX9_behind 95 = .ok (.aload 4, 2) := by decide +kernel
theorem dX9_behind_97 : decode cX9_behind 97 = .ok (.iload_n 1, 1) := by decide +kernel
theorem dX9_behind_98 : decode cX9_behind 98 = .ok (.invokevirtual 133, 3) := by decide +kernel
theorem dX9_behind_101 : decode cX9_behind 101 = .ok (.ifCond .eq 7, 3) := by decide +kernel
theorem dX9_behind_104 : decode cX9_behind 104 = .ok (.iconst 1, 1) := by decide +kernel
theorem dX9_behind_105 : decode cX9_behind 105 = .ok (.goto 4, 3) := by decide +kernel
theorem dX9_behind_108 : decode cX9_behind 108 = .ok (.iconst 0, 1) := by decide +kernel
theorem dX9_behind_109 : decode cX9_behind 109 = .ok (.ireturn, 1) := by decide +kernel
theorem dX9_still_0 : decode cX9_still 0 = .ok (.aload_n 0, 1) := by decide +kernel
theorem dX9_still_1 : decode cX9_still 1 = .ok (.getfield 22, 3) := by decide +kernel
theorem dX9_still_4 : decode cX9_still 4 = .ok (.aload_n 0, 1) := by decide +kernel
theorem dX9_still_5 : decode cX9_still 5 = .ok (.getfield 10, 3) := by decide +kernel
theorem dX9_still_8 : decode cX9_still 8 = .ok (.invokevirtual 192, 3) := by decide +kernel
theorem dX9_still_11 : decode cX9_still 11 = .ok (.ireturn, 1) := by decide +kernel
theorem dX9_birth_0 : decode cX9_birth 0 = .ok (.iload_n 1, 1) := by decide +kernel
theorem dX9_birth_1 : decode cX9_birth 1 = .ok (.invokestatic 63, 3) := by decide +kernel
theorem dX9_birth_4 : decode cX9_birth 4 = .ok (.ifCond .eq 23, 3) := by decide +kernel
theorem dX9_birth_7 : decode cX9_birth 7 = .ok (.iload_n 2, 1) := by decide +kernel
theorem dX9_birth_8 : decode cX9_birth 8 = .ok (.iconst 0, 1) := by decide +kernel
theorem dX9_birth_9 : decode cX9_birth 9 = .ok (.sipush 999, 3) := by decide +kernel
theorem dX9_birth_12 : decode cX9_birth 12 = .ok (.invokestatic 66, 3) := by decide +kernel
theorem dX9_birth_15 : decode cX9_birth 15 = .ok (.ifCond .eq 12, 3) := by decide +kernel
theorem dX9_birth_18 : decode cX9_birth 18 = .ok (.iload_n 3, 1) := by decide +kernel
theorem dX9_birth_19 : decode cX9_birth 19 = .ok (.iconst 0, 1) := by decide +kernel
theorem dX9_birth_20 : decode cX9_birth 20 = .ok (.iconst 5, 1) := by decide +kernel
theorem dX9_birth_21 : decode cX9_birth 21 = .ok (.invokestatic 66, 3) := by decide +kernel
theorem dX9_birth_24 : decode cX9_birth 24 = .ok (.ifCond .ne 6, 3) := by decide +kernel
theorem dX9_birth_27 : decode cX9_birth 27 = .ok (.ldc 72, 2) := by decide +kernel
theorem dX9_birth_29 : decode cX9_birth 29 = .ok (.ireturn, 1) := by decide +kernel
theorem dX9_birth_30 : decode cX9_birth 30 = .ok (.aload_n 0, 1) := by decide +kernel
theorem dX9_birth_31 : decode cX9_birth 31 = .ok (.getfield 22, 3) := by decide +kernel
theorem dX9_birth_34 : decode cX9_birth 34 = .ok (.aload_n 0, 1) := by decide +kernel
theorem dX9_birth_35 : decode cX9_birth 35 = .ok (.getfield 10, 3) := by decide +kernel
theorem dX9_birth_38 : decode cX9_birth 38 = .ok (.iload_n 1, 1) := by decide +kernel
theorem dX9_birth_39 : decode cX9_birth 39 = .ok (.iload_n 2, 1) := by decide +kernel
theorem dX9_birth_40 : decode cX9_birth 40 = .ok (.iload_n 3, 1) := by decide +kernel
theorem dX9_birth_41 : decode cX9_birth 41 = .ok (.invokevirtual 196, 3) := by decide +kernel
theorem dX9_birth_44 : decode cX9_birth 44 = .ok (.ireturn, 1) := by decide +kernel
theorem dX9_smells_0 : decode cX9_smells 0 = .ok (.iload_n 1, 1) := by decide +kernel
theorem dX9_smells_1 : decode cX9_smells 1 = .ok (.invokestatic 63, 3) := by decide +kernel
theorem dX9_smells_4 : decode cX9_smells 4 = .ok (.ifCond .eq 13, 3) := by decide +kernel
theorem dX9_smells_7 : decode cX9_smells 7 = .ok (.iload_n 2, 1) := by decide +kernel
theorem dX9_smells_8 : decode cX9_smells 8 = .ok (.iconst 0, 1) := by decide +kernel
theorem dX9_smells_9 : decode cX9_smells 9 = .ok (.bipush 60, 2) := by decide +kernel
theorem dX9_smells_11 : decode cX9_smells 11 = .ok (.invokestatic 66, 3) := by decide +kernel
theorem dX9_smells_14 : decode cX9_smells 14 = .ok (.ifCond .ne 6, 3) := by decide +kernel
theorem dX9_smells_17 : decode cX9_smells 17 = .ok (.ldc 72, 2) := by decide +kernel
theorem dX9_smells_19 : decode cX9_smells 19 = .ok (.ireturn, 1) := by decide +kernel
theorem dX9_smells_20 : decode cX9_smells 20 = .ok (.aload_n 0, 1) := by decide +kernel
theorem dX9_smells_21 : decode cX9_smells 21 = .ok (.getfield 22, 3) := by decide +kernel
theorem dX9_smells_24 : decode cX9_smells 24 = .ok (.aload_n 0, 1) := by decide +kernel
theorem dX9_smells_25 : decode cX9_smells 25 = .ok (.getfield 10, 3) := by decide +kernel
theorem dX9_smells_28 : decode cX9_smells 28 = .ok (.iload_n 1, 1) := by decide +kernel
theorem dX9_smells_29 : decode cX9_smells 29 = .ok (.iload_n 2, 1) := by decide +kernel
theorem dX9_smells_30 : decode cX9_smells 30 = .ok (.invokevirtual 200, 3) := by decide +kernel
theorem dX9_smells_33 : decode cX9_smells 33 = .ok (.ireturn, 1) := by decide +kernel
theorem dX9_snuffs_0 : decode cX9_snuffs 0 = .ok (.aload_n 0, 1) := by decide +kernel
theorem dX9_snuffs_1 : decode cX9_snuffs 1 = .ok (.getfield 10, 3) := by decide +kernel
theorem dX9_snuffs_4 : decode cX9_snuffs 4 = .ok (.getfield 73, 3) := by decide +kernel
theorem dX9_snuffs_7 : decode cX9_snuffs 7 = .ok (.iload_n 1, 1) := by decide +kernel
theorem dX9_snuffs_8 : decode cX9_snuffs 8 = .ok (.invokevirtual 86, 3) := by decide +kernel
theorem dX9_snuffs_11 : decode cX9_snuffs 11 = .ok (.ifCond .eq 13, 3) := by decide +kernel
theorem dX9_snuffs_14 : decode cX9_snuffs 14 = .ok (.iload_n 2, 1) := by decide +kernel
theorem dX9_snuffs_15 : decode cX9_snuffs 15 = .ok (.iconst 1, 1) := by decide +kernel
theorem dX9_snuffs_16 : decode cX9_snuffs 16 = .ok (.bipush 60, 2) := by decide +kernel
theorem dX9_snuffs_18 : decode cX9_snuffs 18 = .ok (.invokestatic 66, 3) := by decide +kernel
theorem dX9_snuffs_21 : decode cX9_snuffs 21 = .ok (.ifCond .ne 6, 3) := by decide +kernel
theorem dX9_snuffs_24 : decode cX9_snuffs 24 = .ok (.ldc 72, 2) := by decide +kernel
theorem dX9_snuffs_26 : decode cX9_snuffs 26 = .ok (.ireturn, 1) := by decide +kernel
theorem dX9_snuffs_27 : decode cX9_snuffs 27 = .ok (.aload_n 0, 1) := by decide +kernel
theorem dX9_snuffs_28 : decode cX9_snuffs 28 = .ok (.getfield 22, 3) := by decide +kernel
theorem dX9_snuffs_31 : decode cX9_snuffs 31 = .ok (.aload_n 0, 1) := by decide +kernel
theorem dX9_snuffs_32 : decode cX9_snuffs 32 = .ok (.getfield 10, 3) := by decide +kernel
theorem dX9_snuffs_35 : decode cX9_snuffs 35 = .ok (.iload_n 1, 1) := by decide +kernel
theorem dX9_snuffs_36 : decode cX9_snuffs 36 = .ok (.iconst 0, 1) := by decide +kernel
theorem dX9_snuffs_37 : decode cX9_snuffs 37 = .ok (.iload_n 2, 1) := by decide +kernel
theorem dX9_snuffs_38 : decode cX9_snuffs 38 = .ok (.invokevirtual 204, 3) := by decide +kernel
theorem dX9_snuffs_41 : decode cX9_snuffs 41 = .ok (.aload_n 0, 1) := by decide +kernel
theorem dX9_snuffs_42 : decode cX9_snuffs 42 = .ok (.getfield 22, 3) := by decide +kernel
theorem dX9_snuffs_45 : decode cX9_snuffs 45 = .ok (.aload_n 0, 1) := by decide +kernel
theorem dX9_snuffs_46 : decode cX9_snuffs 46 = .ok (.getfield 10, 3) := by decide +kernel
theorem dX9_snuffs_49 : decode cX9_snuffs 49 = .ok (.iload_n 1, 1) := by decide +kernel
theorem dX9_snuffs_50 : decode cX9_snuffs 50 = .ok (.iconst 1, 1) := by decide +kernel
theorem dX9_snuffs_51 : decode cX9_snuffs 51 = .ok (.iload_n 2, 1) := by decide +kernel
theorem dX9_snuffs_52 : decode cX9_snuffs 52 = .ok (.invokevirtual 204, 3) := by decide +kernel
theorem dX9_snuffs_55 : decode cX9_snuffs 55 = .ok (.isub, 1) := by decide +kernel
theorem dX9_snuffs_56 : decode cX9_snuffs 56 = .ok (.ireturn, 1) := by decide +kernel
theorem dX9_storm_0 : decode cX9_storm 0 = .ok (.iload_n 1, 1) := by decide +kernel
theorem dX9_storm_1 : decode cX9_storm 1 = .ok (.iconst 1, 1) := by decide +kernel
theorem dX9_storm_2 : decode cX9_storm 2 = .ok (.bipush 20, 2) := by decide +kernel
theorem dX9_storm_4 : decode cX9_storm 4 = .ok (.invokestatic 66, 3) := by decide +kernel
theorem dX9_storm_7 : decode cX9_storm 7 = .ok (.ifCond .ne 6, 3) := by decide +kernel
theorem dX9_storm_10 : decode cX9_storm 10 = .ok (.ldc 72, 2) := by decide +kernel
theorem dX9_storm_12 : decode cX9_storm 12 = .ok (.ireturn, 1) := by decide +kernel
theorem dX9_storm_13 : decode cX9_storm 13 = .ok (.sipush 9999, 3) := by decide +kernel
theorem dX9_storm_16 : decode cX9_storm 16 = .ok (.istore_n 2, 1) := by decide +kernel
theorem dX9_storm_17 : decode cX9_storm 17 = .ok (.iload_n 2, 1) := by decide +kernel
theorem dX9_storm_18 : decode cX9_storm 18 = .ok (.ifCond .lt 27, 3) := by decide +kernel
theorem dX9_storm_21 : decode cX9_storm 21 = .ok (.aload_n 0, 1) := by decide +kernel
theorem dX9_storm_22 : decode cX9_storm 22 = .ok (.getfield 22, 3) := by decide +kernel
theorem dX9_storm_25 : decode cX9_storm 25 = .ok (.aload_n 0, 1) := by decide +kernel
theorem dX9_storm_26 : decode cX9_storm 26 = .ok (.getfield 10, 3) := by decide +kernel
theorem dX9_storm_29 : decode cX9_storm 29 = .ok (.iload_n 2, 1) := by decide +kernel
theorem dX9_storm_30 : decode cX9_storm 30 = .ok (.iload_n 1, 1) := by decide +kernel
theorem dX9_storm_31 : decode cX9_storm 31 = .ok (.invokevirtual 208, 3) := by decide +kernel
theorem dX9_storm_34 : decode cX9_storm 34 = .ok (.ifCond .eq 5, 3) := by decide +kernel
theorem dX9_storm_37 : decode cX9_storm 37 = .ok (.iload_n 2, 1) := by decide +kernel
theorem dX9_storm_38 : decode cX9_storm 38 = .ok (.ireturn, 1) := by decide +kernel
theorem dX9_storm_39 : decode cX9_storm 39 = .ok (.iinc 2 (-100), 3) := by decide +kernel
theorem dX9_storm_42 : decode cX9_storm 42 = .ok (.goto (-25), 3) := by decide +kernel
theorem dX9_storm_45 : decode cX9_storm 45 = .ok (.ldc 212, 2) := by decide +kernel
theorem dX9_storm_47 : decode cX9_storm 47 = .ok (.ireturn, 1) := by decide +kernel
theorem dX9_opened_0 : decode cX9_opened 0 = .ok (.iload_n 1, 1) := by decide +kernel
theorem dX9_opened_1 : decode cX9_opened 1 = .ok (.invokestatic 213, 3) := by decide +kernel
theorem dX9_opened_4 : decode cX9_opened 4 = .ok (.ifCond .eq 22, 3) := by decide +kernel
theorem dX9_opened_7 : decode cX9_opened 7 = .ok (.iload_n 2, 1) := by decide +kernel
theorem dX9_opened_8 : decode cX9_opened 8 = .ok (.iconst 0, 1) := by decide +kernel
theorem dX9_opened_9 : decode cX9_opened 9 = .ok (.bipush 40, 2) := by decide +kernel
theorem dX9_opened_11 : decode cX9_opened 11 = .ok (.invokestatic 66, 3) := by decide +kernel
theorem dX9_opened_14 : decode cX9_opened 14 = .ok (.ifCond .eq 12, 3) := by decide +kernel
theorem dX9_opened_17 : decode cX9_opened 17 = .ok (.iload_n 3, 1) := by decide +kernel
theorem dX9_opened_18 : decode cX9_opened 18 = .ok (.iconst 0, 1) := by decide +kernel
theorem dX9_opened_19 : decode cX9_opened 19 = .ok (.iconst 1, 1) := by decide +kernel
theorem dX9_opened_20 : decode cX9_opened 20 = .ok (.invokestatic 66, 3) := by decide +kernel
theorem dX9_opened_23 : decode cX9_opened 23 = .ok (.ifCond .ne 6, 3) := by decide +kernel
theorem dX9_opened_26 : decode cX9_opened 26 = .ok (.ldc 72, 2) := by decide +kernel
theorem dX9_opened_28 : decode cX9_opened 28 = .ok (.ireturn, 1) := by decide +kernel
theorem dX9_opened_29 : decode cX9_opened 29 = .ok (.aload_n 0, 1) := by decide +kernel
theorem dX9_opened_30 : decode cX9_opened 30 = .ok (.getfield 41, 3) := by decide +kernel
theorem dX9_opened_33 : decode cX9_opened 33 = .ok (.iload_n 1, 1) := by decide +kernel
theorem dX9_opened_34 : decode cX9_opened 34 = .ok (.aaload, 1) := by decide +kernel
theorem dX9_opened_35 : decode cX9_opened 35 = .ok (.invokevirtual 216, 3) := by decide +kernel
theorem dX9_opened_38 : decode cX9_opened 38 = .ok (.ifCond .eq 6, 3) := by decide +kernel
theorem dX9_opened_41 : decode cX9_opened 41 = .ok (.ldc 220, 2) := by decide +kernel
theorem dX9_opened_43 : decode cX9_opened 43 = .ok (.ireturn, 1) := by decide +kernel
theorem dX9_opened_44 : decode cX9_opened 44 = .ok (.aload_n 0, 1) := by decide +kernel
theorem dX9_opened_45 : decode cX9_opened 45 = .ok (.getfield 22, 3) := by decide +kernel
theorem dX9_opened_48 : decode cX9_opened 48 = .ok (.aload_n 0, 1) := by decide +kernel
theorem dX9_opened_49 : decode cX9_opened 49 = .ok (.getfield 10, 3) := by decide +kernel
theorem dX9_opened_52 : decode cX9_opened 52 = .ok (.aload_n 0, 1) := by decide +kernel
theorem dX9_opened_53 : decode cX9_opened 53 = .ok (.getfield 41, 3) := by decide +kernel
theorem dX9_opened_56 : decode cX9_opened 56 = .ok (.iload_n 1, 1) := by decide +kernel
theorem dX9_opened_57 : decode cX9_opened 57 = .ok (.aaload, 1) := by decide +kernel
theorem dX9_opened_58 : decode cX9_opened 58 = .ok (.iload_n 2, 1) := by decide +kernel
theorem dX9_opened_59 : decode cX9_opened 59 = .ok (.invokevirtual 221, 3) := by decide +kernel
theorem dX9_opened_62 : decode cX9_opened 62 = .ok (.istore 4, 2) := by decide +kernel
theorem dX9_opened_64 : decode cX9_opened 64 = .ok (.iload 4, 2) := by decide +kernel
theorem dX9_opened_66 : decode cX9_opened 66 = .ok (.ldc 212, 2) := by decide +kernel
theorem dX9_opened_68 : decode cX9_opened 68 = .ok (.if_icmp .eq 7, 3) := by decide +kernel
theorem dX9_opened_71 : decode cX9_opened 71 = .ok (.iload_n 3, 1) := by decide +kernel
theorem dX9_opened_72 : decode cX9_opened 72 = .ok (.ifCond .ne 6, 3) := by decide +kernel
theorem dX9_opened_75 : decode cX9_opened 75 = .ok (.iload 4, 2) := by decide +kernel
theorem dX9_opened_77 : decode cX9_opened 77 = .ok (.ireturn, 1) := by decide +kernel
theorem dX9_opened_78 : decode cX9_opened 78 = .ok (.aload_n 0, 1) := by decide +kernel
theorem dX9_opened_79 : decode cX9_opened 79 = .ok (.getfield 22, 3) := by decide +kernel
theorem dX9_opened_82 : decode cX9_opened 82 = .ok (.aload_n 0, 1) := by decide +kernel
theorem dX9_opened_83 : decode cX9_opened 83 = .ok (.getfield 10, 3) := by decide +kernel
theorem dX9_opened_86 : decode cX9_opened 86 = .ok (.aload_n 0, 1) := by decide +kernel
theorem dX9_opened_87 : decode cX9_opened 87 = .ok (.getfield 41, 3) := by decide +kernel
theorem dX9_opened_90 : decode cX9_opened 90 = .ok (.iload_n 1, 1) := by decide +kernel
theorem dX9_opened_91 : decode cX9_opened 91 = .ok (.aaload, 1) := by decide +kernel
theorem dX9_opened_92 : decode cX9_opened 92 = .ok (.iload 4, 2) := by decide +kernel
theorem dX9_opened_94 : decode cX9_opened 94 = .ok (.iload_n 2, 1) := by decide +kernel
theorem dX9_opened_95 : decode cX9_opened 95 = .ok (.invokevirtual 225, 3) := by decide +kernel
theorem dX9_opened_98 : decode cX9_opened 98 = .ok (.ireturn, 1) := by decide +kernel
theorem dX9_fine_0 : decode cX9_fine 0 = .ok (.aload_n 0, 1) := by decide +kernel
theorem dX9_fine_1 : decode cX9_fine 1 = .ok (.getfield 10, 3) := by decide +kernel
theorem dX9_fine_4 : decode cX9_fine 4 = .ok (.getfield 229, 3) := by decide +kernel
theorem dX9_fine_7 : decode cX9_fine 7 = .ok (.iconst 2, 1) := by decide +kernel
theorem dX9_fine_8 : decode cX9_fine 8 = .ok (.aload_n 0, 1) := by decide +kernel
theorem dX9_fine_9 : decode cX9_fine 9 = .ok (.getfield 10, 3) := by decide +kernel
theorem dX9_fine_12 : decode cX9_fine 12 = .ok (.getfield 173, 3) := by decide +kernel
theorem dX9_fine_15 : decode cX9_fine 15 = .ok (.aload_n 0, 1) := by decide +kernel
theorem dX9_fine_16 : decode cX9_fine 16 = .ok (.getfield 10, 3) := by decide +kernel
theorem dX9_fine_19 : decode cX9_fine 19 = .ok (.getfield 235, 3) := by decide +kernel
theorem dX9_fine_22 : decode cX9_fine 22 = .ok (.aload_n 0, 1) := by decide +kernel
theorem dX9_fine_23 : decode cX9_fine 23 = .ok (.getfield 10, 3) := by decide +kernel
theorem dX9_fine_26 : decode cX9_fine 26 = .ok (.getfield 173, 3) := by decide +kernel
theorem dX9_fine_29 : decode cX9_fine 29 = .ok (.invokevirtual 238, 3) := by decide +kernel
theorem dX9_fine_32 : decode cX9_fine 32 = .ok (.ireturn, 1) := by decide +kernel
theorem dX9_feed_0 : decode cX9_feed 0 = .ok (.aload_n 0, 1) := by decide +kernel
theorem dX9_feed_1 : decode cX9_feed 1 = .ok (.getfield 241, 3) := by decide +kernel
theorem dX9_feed_4 : decode cX9_feed 4 = .ok (.bipush 12, 2) := by decide +kernel
theorem dX9_feed_6 : decode cX9_feed 6 = .ok (.iadd, 1) := by decide +kernel
theorem dX9_feed_7 : decode cX9_feed 7 = .ok (.bipush 96, 2) := by decide +kernel
theorem dX9_feed_9 : decode cX9_feed 9 = .ok (.if_icmp .le 6, 3) := by decide +kernel
theorem dX9_feed_12 : decode cX9_feed 12 = .ok (.ldc 81, 2) := by decide +kernel
theorem dX9_feed_14 : decode cX9_feed 14 = .ok (.ireturn, 1) := by decide +kernel
theorem dX9_feed_15 : decode cX9_feed 15 = .ok (.aload_n 0, 1) := by decide +kernel
theorem dX9_feed_16 : decode cX9_feed 16 = .ok (.iload_n 1, 1) := by decide +kernel
theorem dX9_feed_17 : decode cX9_feed 17 = .ok (.invokevirtual 244, 3) := by decide +kernel
theorem dX9_feed_20 : decode cX9_feed 20 = .ok (.aload_n 0, 1) := by decide +kernel
theorem dX9_feed_21 : decode cX9_feed 21 = .ok (.iload_n 2, 1) := by decide +kernel
theorem dX9_feed_22 : decode cX9_feed 22 = .ok (.invokevirtual 244, 3) := by decide +kernel
theorem dX9_feed_25 : decode cX9_feed 25 = .ok (.aload_n 0, 1) := by decide +kernel
theorem dX9_feed_26 : decode cX9_feed 26 = .ok (.iload_n 3, 1) := by decide +kernel
theorem dX9_feed_27 : decode cX9_feed 27 = .ok (.invokevirtual 244, 3) := by decide +kernel
theorem dX9_feed_30 : decode cX9_feed 30 = .ok (.aload_n 0, 1) := by decide +kernel
theorem dX9_feed_31 : decode cX9_feed 31 = .ok (.getfield 241, 3) := by decide +kernel
theorem dX9_feed_34 : decode cX9_feed 34 = .ok (.ireturn, 1) := by decide +kernel
theorem dX9_putBytes_0 : decode cX9_putBytes 0 = .ok (.bipush 24, 2) := by decide +kernel
theorem dX9_putBytes_2 : decode cX9_putBytes 2 = .ok (.istore_n 2, 1) := by decide +kernel
theorem dX9_putBytes_3 : decode cX9_putBytes 3 = .ok (.iload_n 2, 1) := by decide +kernel
theorem dX9_putBytes_4 : decode cX9_putBytes 4 = .ok (.ifCond .lt 32, 3) := by decide +kernel
theorem dX9_putBytes_7 : decode cX9_putBytes 7 = .ok (.aload_n 0, 1) := by decide +kernel
theorem dX9_putBytes_8 : decode cX9_putBytes 8 = .ok (.getfield 26, 3) := by decide +kernel
theorem dX9_putBytes_11 : decode cX9_putBytes 11 = .ok (.aload_n 0, 1) := by decide +kernel
theorem dX9_putBytes_12 : decode cX9_putBytes 12 = .ok (.getfield 241, 3) := by decide +kernel
theorem dX9_putBytes_15 : decode cX9_putBytes 15 = .ok (.iload_n 1, 1) := by decide +kernel
theorem dX9_putBytes_16 : decode cX9_putBytes 16 = .ok (.iload_n 2, 1) := by decide +kernel
theorem dX9_putBytes_17 : decode cX9_putBytes 17 = .ok (.iushr, 1) := by decide +kernel
theorem dX9_putBytes_18 : decode cX9_putBytes 18 = .ok (.i2b, 1) := by decide +kernel
theorem dX9_putBytes_19 : decode cX9_putBytes 19 = .ok (.bastore, 1) := by decide +kernel
theorem dX9_putBytes_20 : decode cX9_putBytes 20 = .ok (.aload_n 0, 1) := by decide +kernel
theorem dX9_putBytes_21 : decode cX9_putBytes 21 = .ok (.dup, 1) := by decide +kernel
theorem dX9_putBytes_22 : decode cX9_putBytes 22 = .ok (.getfield 241, 3) := by decide +kernel
theorem dX9_putBytes_25 : decode cX9_putBytes 25 = .ok (.iconst 1, 1) := by decide +kernel
theorem dX9_putBytes_26 : decode cX9_putBytes 26 = .ok (.iadd, 1) := by decide +kernel
theorem dX9_putBytes_27 : decode cX9_putBytes 27 = .ok (.putfield 241, 3) := by decide +kernel
theorem dX9_putBytes_30 : decode cX9_putBytes 30 = .ok (.iinc 2 (-8), 3) := by decide +kernel
theorem dX9_putBytes_33 : decode cX9_putBytes 33 = .ok (.goto (-30), 3) := by decide +kernel
theorem dX9_putBytes_36 : decode cX9_putBytes 36 = .ok (.return_, 1) := by decide +kernel
theorem dX9_trim_0 : decode cX9_trim 0 = .ok (.iload_n 1, 1) := by decide +kernel
theorem dX9_trim_1 : decode cX9_trim 1 = .ok (.iconst 0, 1) := by decide +kernel
theorem dX9_trim_2 : decode cX9_trim 2 = .ok (.aload_n 0, 1) := by decide +kernel
theorem dX9_trim_3 : decode cX9_trim 3 = .ok (.getfield 241, 3) := by decide +kernel
theorem dX9_trim_6 : decode cX9_trim 6 = .ok (.invokestatic 66, 3) := by decide +kernel
theorem dX9_trim_9 : decode cX9_trim 9 = .ok (.ifCond .ne 6, 3) := by decide +kernel
theorem dX9_trim_12 : decode cX9_trim 12 = .ok (.ldc 72, 2) := by decide +kernel
theorem dX9_trim_14 : decode cX9_trim 14 = .ok (.ireturn, 1) := by decide +kernel
theorem dX9_trim_15 : decode cX9_trim 15 = .ok (.aload_n 0, 1) := by decide +kernel
theorem dX9_trim_16 : decode cX9_trim 16 = .ok (.iload_n 1, 1) := by decide +kernel
theorem dX9_trim_17 : decode cX9_trim 17 = .ok (.putfield 241, 3) := by decide +kernel
theorem dX9_trim_20 : decode cX9_trim 20 = .ok (.iload_n 1, 1) := by decide +kernel
theorem dX9_trim_21 : decode cX9_trim 21 = .ok (.ireturn, 1) := by decide +kernel
theorem dX9_text_0 : decode cX9_text 0 = .ok (.aload_n 0, 1) := by decide +kernel
theorem dX9_text_1 : decode cX9_text 1 = .ok (.getfield 35, 3) := by decide +kernel
theorem dX9_text_4 : decode cX9_text 4 = .ok (.aload_n 0, 1) := by decide +kernel
theorem dX9_text_5 : decode cX9_text 5 = .ok (.getfield 241, 3) := by decide +kernel
theorem dX9_text_8 : decode cX9_text 8 = .ok (.invokevirtual 247, 3) := by decide +kernel
theorem dX9_text_11 : decode cX9_text 11 = .ok (.istore_n 1, 1) := by decide +kernel
theorem dX9_text_12 : decode cX9_text 12 = .ok (.aload_n 0, 1) := by decide +kernel
theorem dX9_text_13 : decode cX9_text 13 = .ok (.iconst 0, 1) := by decide +kernel
theorem dX9_text_14 : decode cX9_text 14 = .ok (.putfield 241, 3) := by decide +kernel
theorem dX9_text_17 : decode cX9_text 17 = .ok (.iload_n 1, 1) := by decide +kernel
theorem dX9_text_18 : decode cX9_text 18 = .ok (.ldc 212, 2) := by decide +kernel
theorem dX9_text_20 : decode cX9_text 20 = .ok (.if_icmp .eq 8, 3) := by decide +kernel
theorem dX9_text_23 : decode cX9_text 23 = .ok (.bipush (-100), 2) := by decide +kernel
theorem dX9_text_25 : decode cX9_text 25 = .ok (.iload_n 1, 1) := by decide +kernel
theorem dX9_text_26 : decode cX9_text 26 = .ok (.isub, 1) := by decide +kernel
theorem dX9_text_27 : decode cX9_text 27 = .ok (.ireturn, 1) := by decide +kernel
theorem dX9_text_28 : decode cX9_text 28 = .ok (.aload_n 0, 1) := by decide +kernel
theorem dX9_text_29 : decode cX9_text 29 = .ok (.getfield 10, 3) := by decide +kernel
theorem dX9_text_32 : decode cX9_text 32 = .ok (.getfield 229, 3) := by decide +kernel
theorem dX9_text_35 : decode cX9_text 35 = .ok (.getfield 250, 3) := by decide +kernel
theorem dX9_text_38 : decode cX9_text 38 = .ok (.bipush 14, 2) := by decide +kernel
theorem dX9_text_40 : decode cX9_text 40 = .ok (.if_icmp .lt 6, 3) := by decide +kernel
theorem dX9_text_43 : decode cX9_text 43 = .ok (.ldc 81, 2) := by decide +kernel
theorem dX9_text_45 : decode cX9_text 45 = .ok (.ireturn, 1) := by decide +kernel
theorem dX9_text_46 : decode cX9_text 46 = .ok (.aload_n 0, 1) := by decide +kernel
theorem dX9_text_47 : decode cX9_text 47 = .ok (.getfield 10, 3) := by decide +kernel
theorem dX9_text_50 : decode cX9_text 50 = .ok (.getfield 229, 3) := by decide +kernel
theorem dX9_text_53 : decode cX9_text 53 = .ok (.aload_n 0, 1) := by decide +kernel
theorem dX9_text_54 : decode cX9_text 54 = .ok (.getfield 35, 3) := by decide +kernel
theorem dX9_text_57 : decode cX9_text 57 = .ok (.invokevirtual 251, 3) := by decide +kernel
theorem dX9_text_60 : decode cX9_text 60 = .ok (.invokevirtual 255, 3) := by decide +kernel
theorem dX9_text_63 : decode cX9_text 63 = .ok (.ireturn, 1) := by decide +kernel
theorem dX9_textTold_0 : decode cX9_textTold 0 = .ok (.aload_n 0, 1) := by decide +kernel
theorem dX9_textTold_1 : decode cX9_textTold 1 = .ok (.getfield 10, 3) := by decide +kernel
theorem dX9_textTold_4 : decode cX9_textTold 4 = .ok (.getfield 229, 3) := by decide +kernel
theorem dX9_textTold_7 : decode cX9_textTold 7 = .ok (.iload_n 1, 1) := by decide +kernel
theorem dX9_textTold_8 : decode cX9_textTold 8 = .ok (.invokevirtual 258, 3) := by decide +kernel
theorem dX9_textTold_11 : decode cX9_textTold 11 = .ok (.astore_n 3, 1) := by decide +kernel
theorem dX9_textTold_12 : decode cX9_textTold 12 = .ok (.aload_n 3, 1) := by decide +kernel
theorem dX9_textTold_13 : decode cX9_textTold 13 = .ok (.ifnull 12, 3) := by decide +kernel
theorem dX9_textTold_16 : decode cX9_textTold 16 = .ok (.iload_n 2, 1) := by decide +kernel
theorem dX9_textTold_17 : decode cX9_textTold 17 = .ok (.iconst 0, 1) := by decide +kernel
theorem dX9_textTold_18 : decode cX9_textTold 18 = .ok (.iconst 1, 1) := by decide +kernel
theorem dX9_textTold_19 : decode cX9_textTold 19 = .ok (.invokestatic 66, 3) := by decide +kernel
theorem dX9_textTold_22 : decode cX9_textTold 22 = .ok (.ifCond .ne 6, 3) := by decide +kernel
theorem dX9_textTold_25 : decode cX9_textTold 25 = .ok (.ldc 72, 2) := by decide +kernel
theorem dX9_textTold_27 : decode cX9_textTold 27 = .ok (.ireturn, 1) := by decide +kernel
theorem dX9_textTold_28 : decode cX9_textTold 28 = .ok (.iload_n 2, 1) := by decide +kernel
theorem dX9_textTold_29 : decode cX9_textTold 29 = .ok (.ifCond .ne 10, 3) := by decide +kernel
theorem dX9_textTold_32 : decode cX9_textTold 32 = .ok (.aload_n 3, 1) := by decide +kernel
theorem dX9_textTold_33 : decode cX9_textTold 33 = .ok (.getfield 262, 3) := by decide +kernel
theorem dX9_textTold_36 : decode cX9_textTold 36 = .ok (.goto 7, 3) := by decide +kernel
theorem dX9_textTold_39 : decode cX9_textTold 39 = .ok (.aload_n 3, 1) := by decide +kernel
theorem dX9_textTold_40 : decode cX9_textTold 40 = .ok (.getfield 267, 3) := by decide +kernel
theorem dX9_textTold_43 : decode cX9_textTold 43 = .ok (.ireturn, 1) := by decide +kernel
theorem dX9_why_0 : decode cX9_why 0 = .ok (.iload_n 1, 1) := by decide +kernel
theorem dX9_why_1 : decode cX9_why 1 = .ok (.iconst 0, 1) := by decide +kernel
theorem dX9_why_2 : decode cX9_why 2 = .ok (.iconst 2, 1) := by decide +kernel
theorem dX9_why_3 : decode cX9_why 3 = .ok (.invokestatic 66, 3) := by decide +kernel
theorem dX9_why_6 : decode cX9_why 6 = .ok (.ifCond .ne 6, 3) := by decide +kernel
theorem dX9_why_9 : decode cX9_why 9 = .ok (.ldc 72, 2) := by decide +kernel
theorem dX9_why_11 : decode cX9_why 11 = .ok (.ireturn, 1) := by decide +kernel
theorem dX9_why_12 : decode cX9_why 12 = .ok (.aload_n 0, 1) := by decide +kernel
theorem dX9_why_13 : decode cX9_why 13 = .ok (.getfield 10, 3) := by decide +kernel
theorem dX9_why_16 : decode cX9_why 16 = .ok (.getfield 229, 3) := by decide +kernel
theorem dX9_why_19 : decode cX9_why 19 = .ok (.getfield 270, 3) := by decide +kernel
theorem dX9_why_22 : decode cX9_why 22 = .ok (.iload_n 1, 1) := by decide +kernel
theorem dX9_why_23 : decode cX9_why 23 = .ok (.iaload, 1) := by decide +kernel
theorem dX9_why_24 : decode cX9_why 24 = .ok (.ireturn, 1) := by decide +kernel
theorem dX9_sheet_0 : decode cX9_sheet 0 = .ok (.iload_n 1, 1) := by decide +kernel
theorem dX9_sheet_1 : decode cX9_sheet 1 = .ok (.invokestatic 213, 3) := by decide +kernel
theorem dX9_sheet_4 : decode cX9_sheet 4 = .ok (.ifCond .eq 12, 3) := by decide +kernel
theorem dX9_sheet_7 : decode cX9_sheet 7 = .ok (.iload_n 2, 1) := by decide +kernel
theorem dX9_sheet_8 : decode cX9_sheet 8 = .ok (.iconst (-1), 1) := by decide +kernel
theorem dX9_sheet_9 : decode cX9_sheet 9 = .ok (.iconst 1, 1) := by decide +kernel
theorem dX9_sheet_10 : decode cX9_sheet 10 = .ok (.invokestatic 66, 3) := by decide +kernel
theorem dX9_sheet_13 : decode cX9_sheet 13 = .ok (.ifCond .ne 6, 3) := by decide +kernel
theorem dX9_sheet_16 : decode cX9_sheet 16 = .ok (.ldc 72, 2) := by decide +kernel
theorem dX9_sheet_18 : decode cX9_sheet 18 = .ok (.ireturn, 1) := by decide +kernel
theorem dX9_sheet_19 : decode cX9_sheet 19 = .ok (.iload_n 2, 1) := by decide +kernel
theorem dX9_sheet_20 : decode cX9_sheet 20 = .ok (.iconst (-1), 1) := by decide +kernel
theorem dX9_sheet_21 : decode cX9_sheet 21 = .ok (.if_icmp .ne 16, 3) := by decide +kernel
theorem dX9_sheet_24 : decode cX9_sheet 24 = .ok (.aload_n 0, 1) := by decide +kernel
theorem dX9_sheet_25 : decode cX9_sheet 25 = .ok (.getfield 41, 3) := by decide +kernel
theorem dX9_sheet_28 : decode cX9_sheet 28 = .ok (.iload_n 1, 1) := by decide +kernel
theorem dX9_sheet_29 : decode cX9_sheet 29 = .ok (.aaload, 1) := by decide +kernel
theorem dX9_sheet_30 : decode cX9_sheet 30 = .ok (.iconst (-1), 1) := by decide +kernel
theorem dX9_sheet_31 : decode cX9_sheet 31 = .ok (.iconst 0, 1) := by decide +kernel
theorem dX9_sheet_32 : decode cX9_sheet 32 = .ok (.invokevirtual 273, 3) := by decide +kernel
theorem dX9_sheet_35 : decode cX9_sheet 35 = .ok (.iconst 0, 1) := by decide +kernel
theorem dX9_sheet_36 : decode cX9_sheet 36 = .ok (.ireturn, 1) := by decide +kernel
theorem dX9_sheet_37 : decode cX9_sheet 37 = .ok (.iload_n 3, 1) := by decide +kernel
theorem dX9_sheet_38 : decode cX9_sheet 38 = .ok (.bipush 24, 2) := by decide +kernel
theorem dX9_sheet_40 : decode cX9_sheet 40 = .ok (.if_icmp .le 6, 3) := by decide +kernel
theorem dX9_sheet_43 : decode cX9_sheet 43 = .ok (.ldc 72, 2) := by decide +kernel
theorem dX9_sheet_45 : decode cX9_sheet 45 = .ok (.ireturn, 1) := by decide +kernel
theorem dX9_sheet_46 : decode cX9_sheet 46 = .ok (.iload_n 3, 1) := by decide +kernel
theorem dX9_sheet_47 : decode cX9_sheet 47 = .ok (.ifCond .ge 7, 3) := by decide +kernel
theorem dX9_sheet_50 : decode cX9_sheet 50 = .ok (.ldc_w 277, 3) := by decide +kernel
theorem dX9_sheet_53 : decode cX9_sheet 53 = .ok (.ireturn, 1) := by decide +kernel
theorem dX9_sheet_54 : decode cX9_sheet 54 = .ok (.aload_n 0, 1) := by decide +kernel
theorem dX9_sheet_55 : decode cX9_sheet 55 = .ok (.getfield 41, 3) := by decide +kernel
theorem dX9_sheet_58 : decode cX9_sheet 58 = .ok (.iload_n 1, 1) := by decide +kernel
theorem dX9_sheet_59 : decode cX9_sheet 59 = .ok (.aaload, 1) := by decide +kernel
theorem dX9_sheet_60 : decode cX9_sheet 60 = .ok (.iload_n 2, 1) := by decide +kernel
theorem dX9_sheet_61 : decode cX9_sheet 61 = .ok (.iload_n 3, 1) := by decide +kernel
theorem dX9_sheet_62 : decode cX9_sheet 62 = .ok (.invokevirtual 273, 3) := by decide +kernel
theorem dX9_sheet_65 : decode cX9_sheet 65 = .ok (.iload_n 3, 1) := by decide +kernel
theorem dX9_sheet_66 : decode cX9_sheet 66 = .ok (.ireturn, 1) := by decide +kernel
theorem dX9_mark_0 : decode cX9_mark 0 = .ok (.iload_n 1, 1) := by decide +kernel
theorem dX9_mark_1 : decode cX9_mark 1 = .ok (.invokestatic 213, 3) := by decide +kernel
theorem dX9_mark_4 : decode cX9_mark 4 = .ok (.ifCond .ne 6, 3) := by decide +kernel
theorem dX9_mark_7 : decode cX9_mark 7 = .ok (.ldc 72, 2) := by decide +kernel
theorem dX9_mark_9 : decode cX9_mark 9 = .ok (.ireturn, 1) := by decide +kernel
theorem dX9_mark_10 : decode cX9_mark 10 = .ok (.aload_n 0, 1) := by decide +kernel
theorem dX9_mark_11 : decode cX9_mark 11 = .ok (.getfield 41, 3) := by decide +kernel
theorem dX9_mark_14 : decode cX9_mark 14 = .ok (.iload_n 1, 1) := by decide +kernel
theorem dX9_mark_15 : decode cX9_mark 15 = .ok (.aaload, 1) := by decide +kernel
theorem dX9_mark_16 : decode cX9_mark 16 = .ok (.astore 4, 2) := by decide +kernel
theorem dX9_mark_18 : decode cX9_mark 18 = .ok (.aload 4, 2) := by decide +kernel
theorem dX9_mark_20 : decode cX9_mark 20 = .ok (.invokevirtual 216, 3) := by decide +kernel
theorem dX9_mark_23 : decode cX9_mark 23 = .ok (.ifCond .eq 6, 3) := by decide +kernel
theorem dX9_mark_26 : decode cX9_mark 26 = .ok (.ldc 220, 2) := by decide +kernel
theorem dX9_mark_28 : decode cX9_mark 28 = .ok (.ireturn, 1) := by decide +kernel
theorem dX9_mark_29 : decode cX9_mark 29 = .ok (.aload 4, 2) := by decide +kernel
theorem dX9_mark_31 : decode cX9_mark 31 = .ok (.iload_n 2, 1) := by decide +kernel
theorem dX9_mark_32 : decode cX9_mark 32 = .ok (.invokevirtual 278, 3) := by decide +kernel
theorem dX9_mark_35 : decode cX9_mark 35 = .ok (.ifCond .ne 7, 3) := by decide +kernel
theorem dX9_mark_38 : decode cX9_mark 38 = .ok (.ldc_w 279, 3) := by decide +kernel
theorem dX9_mark_41 : decode cX9_mark 41 = .ok (.ireturn, 1) := by decide +kernel
theorem dX9_mark_42 : decode cX9_mark 42 = .ok (.aload 4, 2) := by decide +kernel
theorem dX9_mark_44 : decode cX9_mark 44 = .ok (.getfield 280, 3) := by decide +kernel
theorem dX9_mark_47 : decode cX9_mark 47 = .ok (.ifCond .ne 23, 3) := by decide +kernel
theorem dX9_mark_50 : decode cX9_mark 50 = .ok (.iload_n 3, 1) := by decide +kernel
theorem dX9_mark_51 : decode cX9_mark 51 = .ok (.ldc 212, 2) := by decide +kernel
theorem dX9_mark_53 : decode cX9_mark 53 = .ok (.if_icmp .ne 6, 3) := by decide +kernel
theorem dX9_mark_56 : decode cX9_mark 56 = .ok (.ldc 119, 2) := by decide +kernel
theorem dX9_mark_58 : decode cX9_mark 58 = .ok (.ireturn, 1) := by decide +kernel
theorem dX9_mark_59 : decode cX9_mark 59 = .ok (.aload 4, 2) := by decide +kernel
theorem dX9_mark_61 : decode cX9_mark 61 = .ok (.getfield 283, 3) := by decide +kernel
theorem dX9_mark_64 : decode cX9_mark 64 = .ok (.iload_n 2, 1) := by decide +kernel
theorem dX9_mark_65 : decode cX9_mark 65 = .ok (.iload_n 3, 1) := by decide +kernel
theorem dX9_mark_66 : decode cX9_mark 66 = .ok (.i2s, 1) := by decide +kernel
theorem dX9_mark_67 : decode cX9_mark 67 = .ok (.iastore, 1) := by decide +kernel
theorem dX9_mark_68 : decode cX9_mark 68 = .ok (.iconst 1, 1) := by decide +kernel
theorem dX9_mark_69 : decode cX9_mark 69 = .ok (.ireturn, 1) := by decide +kernel
theorem dX9_mark_70 : decode cX9_mark 70 = .ok (.iload_n 3, 1) := by decide +kernel
theorem dX9_mark_71 : decode cX9_mark 71 = .ok (.ldc 212, 2) := by decide +kernel
theorem dX9_mark_73 : decode cX9_mark 73 = .ok (.if_icmp .eq 19, 3) := by decide +kernel
theorem dX9_mark_76 : decode cX9_mark 76 = .ok (.iload_n 3, 1) := by decide +kernel
theorem dX9_mark_77 : decode cX9_mark 77 = .ok (.ldc_w 286, 3) := by decide +kernel
theorem dX9_mark_80 : decode cX9_mark 80 = .ok (.ldc_w 287, 3) := by decide +kernel
theorem dX9_mark_83 : decode cX9_mark 83 = .ok (.invokestatic 66, 3) := by decide +kernel
theorem dX9_mark_86 : decode cX9_mark 86 = .ok (.ifCond .ne 6, 3) := by decide +kernel
theorem dX9_mark_89 : decode cX9_mark 89 = .ok (.ldc 72, 2) := by decide +kernel
theorem dX9_mark_91 : decode cX9_mark 91 = .ok (.ireturn, 1) := by decide +kernel
theorem dX9_mark_92 : decode cX9_mark 92 = .ok (.aload 4, 2) := by decide +kernel
theorem dX9_mark_94 : decode cX9_mark 94 = .ok (.getfield 283, 3) := by decide +kernel
theorem dX9_mark_97 : decode cX9_mark 97 = .ok (.iload_n 2, 1) := by decide +kernel
theorem dX9_mark_98 : decode cX9_mark 98 = .ok (.iload_n 3, 1) := by decide +kernel
theorem dX9_mark_99 : decode cX9_mark 99 = .ok (.ldc 212, 2) := by decide +kernel
theorem dX9_mark_101 : decode cX9_mark 101 = .ok (.if_icmp .ne 8, 3) := by decide +kernel
theorem dX9_mark_104 : decode cX9_mark 104 = .ok (.ldc 212, 2) := by decide +kernel
theorem dX9_mark_106 : decode cX9_mark 106 = .ok (.goto 4, 3) := by decide +kernel
theorem dX9_mark_109 : decode cX9_mark 109 = .ok (.iload_n 3, 1) := by decide +kernel
theorem dX9_mark_110 : decode cX9_mark 110 = .ok (.iastore, 1) := by decide +kernel
theorem dX9_mark_111 : decode cX9_mark 111 = .ok (.iconst 1, 1) := by decide +kernel
theorem dX9_mark_112 : decode cX9_mark 112 = .ok (.ireturn, 1) := by decide +kernel
theorem dX9_pour_0 : decode cX9_pour 0 = .ok (.iload_n 1, 1) := by decide +kernel
theorem dX9_pour_1 : decode cX9_pour 1 = .ok (.invokestatic 213, 3) := by decide +kernel
theorem dX9_pour_4 : decode cX9_pour 4 = .ok (.ifCond .ne 6, 3) := by decide +kernel
theorem dX9_pour_7 : decode cX9_pour 7 = .ok (.ldc 72, 2) := by decide +kernel
theorem dX9_pour_9 : decode cX9_pour 9 = .ok (.ireturn, 1) := by decide +kernel
theorem dX9_pour_10 : decode cX9_pour 10 = .ok (.aload_n 0, 1) := by decide +kernel
theorem dX9_pour_11 : decode cX9_pour 11 = .ok (.getfield 41, 3) := by decide +kernel
theorem dX9_pour_14 : decode cX9_pour 14 = .ok (.iload_n 1, 1) := by decide +kernel
theorem dX9_pour_15 : decode cX9_pour 15 = .ok (.aaload, 1) := by decide +kernel
theorem dX9_pour_16 : decode cX9_pour 16 = .ok (.astore_n 2, 1) := by decide +kernel
theorem dX9_pour_17 : decode cX9_pour 17 = .ok (.aload_n 2, 1) := by decide +kernel
theorem dX9_pour_18 : decode cX9_pour 18 = .ok (.invokevirtual 216, 3) := by decide +kernel
theorem dX9_pour_21 : decode cX9_pour 21 = .ok (.ifCond .eq 6, 3) := by decide +kernel
theorem dX9_pour_24 : decode cX9_pour 24 = .ok (.ldc 220, 2) := by decide +kernel
theorem dX9_pour_26 : decode cX9_pour 26 = .ok (.ireturn, 1) := by decide +kernel
theorem dX9_pour_27 : decode cX9_pour 27 = .ok (.iconst 0, 1) := by decide +kernel
theorem dX9_pour_28 : decode cX9_pour 28 = .ok (.istore_n 3, 1) := by decide +kernel
theorem dX9_pour_29 : decode cX9_pour 29 = .ok (.iconst 0, 1) := by decide +kernel
theorem dX9_pour_30 : decode cX9_pour 30 = .ok (.istore 4, 2) := by decide +kernel
theorem dX9_pour_32 : decode cX9_pour 32 = .ok (.iload 4, 2) := by decide +kernel
theorem dX9_pour_34 : decode cX9_pour 34 = .ok (.bipush 8, 2) := by decide +kernel
theorem dX9_pour_36 : decode cX9_pour 36 = .ok (.if_icmp .ge 69, 3) := by decide +kernel
theorem dX9_pour_39 : decode cX9_pour 39 = .ok (.aload_n 2, 1) := by decide +kernel
theorem dX9_pour_40 : decode cX9_pour 40 = .ok (.iload 4, 2) := by decide +kernel
theorem dX9_pour_42 : decode cX9_pour 42 = .ok (.invokevirtual 288, 3) := by decide +kernel
theorem dX9_pour_45 : decode cX9_pour 45 = .ok (.ifCond .eq 54, 3) := by decide +kernel
theorem dX9_pour_48 : decode cX9_pour 48 = .ok (.aload_n 2, 1) := by decide +kernel
theorem dX9_pour_49 : decode cX9_pour 49 = .ok (.getfield 283, 3) := by decide +kernel
theorem dX9_pour_52 : decode cX9_pour 52 = .ok (.iload 4, 2) := by decide +kernel
theorem dX9_pour_54 : decode cX9_pour 54 = .ok (.iaload, 1) := by decide +kernel
theorem dX9_pour_55 : decode cX9_pour 55 = .ok (.iconst 0, 1) := by decide +kernel
theorem dX9_pour_56 : decode cX9_pour 56 = .ok (.sipush 9999, 3) := by decide +kernel
theorem dX9_pour_59 : decode cX9_pour 59 = .ok (.invokestatic 291, 3) := by decide +kernel
theorem dX9_pour_62 : decode cX9_pour 62 = .ok (.istore 5, 2) := by decide +kernel
theorem dX9_pour_64 : decode cX9_pour 64 = .ok (.iload_n 3, 1) := by decide +kernel
theorem dX9_pour_65 : decode cX9_pour 65 = .ok (.iload 5, 2) := by decide +kernel
theorem dX9_pour_67 : decode cX9_pour 67 = .ok (.aload_n 0, 1) := by decide +kernel
theorem dX9_pour_68 : decode cX9_pour 68 = .ok (.getfield 10, 3) := by decide +kernel
theorem dX9_pour_71 : decode cX9_pour 71 = .ok (.getfield 130, 3) := by decide +kernel
theorem dX9_pour_74 : decode cX9_pour 74 = .ok (.iload 4, 2) := by decide +kernel
theorem dX9_pour_76 : decode cX9_pour 76 = .ok (.iaload, 1) := by decide +kernel
theorem dX9_pour_77 : decode cX9_pour 77 = .ok (.if_icmp .ne 7, 3) := by decide +kernel
theorem dX9_pour_80 : decode cX9_pour 80 = .ok (.iconst 0, 1) := by decide +kernel
theorem dX9_pour_81 : decode cX9_pour 81 = .ok (.goto 4, 3) := by decide +kernel
theorem dX9_pour_84 : decode cX9_pour 84 = .ok (.iconst 1, 1) := by decide +kernel
theorem dX9_pour_85 : decode cX9_pour 85 = .ok (.iadd, 1) := by decide +kernel
theorem dX9_pour_86 : decode cX9_pour 86 = .ok (.istore_n 3, 1) := by decide +kernel
theorem dX9_pour_87 : decode cX9_pour 87 = .ok (.aload_n 0, 1) := by decide +kernel
theorem dX9_pour_88 : decode cX9_pour 88 = .ok (.getfield 10, 3) := by decide +kernel
theorem dX9_pour_91 : decode cX9_pour 91 = .ok (.getfield 130, 3) := by decide +kernel
theorem dX9_pour_94 : decode cX9_pour 94 = .ok (.iload 4, 2) := by decide +kernel
theorem dX9_pour_96 : decode cX9_pour 96 = .ok (.iload 5, 2) := by decide +kernel
theorem dX9_pour_98 : decode cX9_pour 98 = .ok (.iastore, 1) := by decide +kernel
theorem dX9_pour_99 : decode cX9_pour 99 = .ok (.iinc 4 1, 3) := by decide +kernel
theorem dX9_pour_102 : decode cX9_pour 102 = .ok (.goto (-70), 3) := by decide +kernel
theorem dX9_pour_105 : decode cX9_pour 105 = .ok (.iload_n 3, 1) := by decide +kernel
theorem dX9_pour_106 : decode cX9_pour 106 = .ok (.ireturn, 1) := by decide +kernel
theorem dX9_reads_0 : decode cX9_reads 0 = .ok (.iload_n 1, 1) := by decide +kernel
theorem dX9_reads_1 : decode cX9_reads 1 = .ok (.invokestatic 213, 3) := by decide +kernel
theorem dX9_reads_4 : decode cX9_reads 4 = .ok (.ifCond .ne 6, 3) := by decide +kernel
theorem dX9_reads_7 : decode cX9_reads 7 = .ok (.ldc 72, 2) := by decide +kernel
theorem dX9_reads_9 : decode cX9_reads 9 = .ok (.ireturn, 1) := by decide +kernel
theorem dX9_reads_10 : decode cX9_reads 10 = .ok (.aload_n 0, 1) := by decide +kernel
theorem dX9_reads_11 : decode cX9_reads 11 = .ok (.getfield 41, 3) := by decide +kernel
theorem dX9_reads_14 : decode cX9_reads 14 = .ok (.iload_n 1, 1) := by decide +kernel
theorem dX9_reads_15 : decode cX9_reads 15 = .ok (.aaload, 1) := by decide +kernel
theorem dX9_reads_16 : decode cX9_reads 16 = .ok (.astore_n 2, 1) := by decide +kernel
theorem dX9_reads_17 : decode cX9_reads 17 = .ok (.aload_n 2, 1) := by decide +kernel
theorem dX9_reads_18 : decode cX9_reads 18 = .ok (.invokevirtual 216, 3) := by decide +kernel
theorem dX9_reads_21 : decode cX9_reads 21 = .ok (.ifCond .eq 6, 3) := by decide +kernel
theorem dX9_reads_24 : decode cX9_reads 24 = .ok (.ldc 220, 2) := by decide +kernel
theorem dX9_reads_26 : decode cX9_reads 26 = .ok (.ireturn, 1) := by decide +kernel
theorem dX9_reads_27 : decode cX9_reads 27 = .ok (.iconst 0, 1) := by decide +kernel
theorem dX9_reads_28 : decode cX9_reads 28 = .ok (.istore_n 3, 1) := by decide +kernel
theorem dX9_reads_29 : decode cX9_reads 29 = .ok (.iload_n 3, 1) := by decide +kernel
theorem dX9_reads_30 : decode cX9_reads 30 = .ok (.aload_n 2, 1) := by decide +kernel
theorem dX9_reads_31 : decode cX9_reads 31 = .ok (.getfield 295, 3) := by decide +kernel
theorem dX9_reads_34 : decode cX9_reads 34 = .ok (.if_icmp .ge 44, 3) := by decide +kernel
theorem dX9_reads_37 : decode cX9_reads 37 = .ok (.aload_n 2, 1) := by decide +kernel
theorem dX9_reads_38 : decode cX9_reads 38 = .ok (.iload_n 3, 1) := by decide +kernel
theorem dX9_reads_39 : decode cX9_reads 39 = .ok (.invokevirtual 288, 3) := by decide +kernel
theorem dX9_reads_42 : decode cX9_reads 42 = .ok (.ifCond .eq 30, 3) := by decide +kernel
theorem dX9_reads_45 : decode cX9_reads 45 = .ok (.iload_n 3, 1) := by decide +kernel
theorem dX9_reads_46 : decode cX9_reads 46 = .ok (.invokestatic 63, 3) := by decide +kernel
theorem dX9_reads_49 : decode cX9_reads 49 = .ok (.ifCond .eq 21, 3) := by decide +kernel
theorem dX9_reads_52 : decode cX9_reads 52 = .ok (.aload_n 2, 1) := by decide +kernel
theorem dX9_reads_53 : decode cX9_reads 53 = .ok (.getfield 283, 3) := by decide +kernel
theorem dX9_reads_56 : decode cX9_reads 56 = .ok (.iload_n 3, 1) := by decide +kernel
theorem dX9_reads_57 : decode cX9_reads 57 = .ok (.iaload, 1) := by decide +kernel
theorem dX9_reads_58 : decode cX9_reads 58 = .ok (.aload_n 0, 1) := by decide +kernel
theorem dX9_reads_59 : decode cX9_reads 59 = .ok (.getfield 10, 3) := by decide +kernel
theorem dX9_reads_62 : decode cX9_reads 62 = .ok (.getfield 124, 3) := by decide +kernel
theorem dX9_reads_65 : decode cX9_reads 65 = .ok (.iload_n 3, 1) := by decide +kernel
theorem dX9_reads_66 : decode cX9_reads 66 = .ok (.iaload, 1) := by decide +kernel
theorem dX9_reads_67 : decode cX9_reads 67 = .ok (.if_icmp .eq 5, 3) := by decide +kernel
theorem dX9_reads_70 : decode cX9_reads 70 = .ok (.iload_n 3, 1) := by decide +kernel
theorem dX9_reads_71 : decode cX9_reads 71 = .ok (.ireturn, 1) := by decide +kernel
theorem dX9_reads_72 : decode cX9_reads 72 = .ok (.iinc 3 1, 3) := by decide +kernel
theorem dX9_reads_75 : decode cX9_reads 75 = .ok (.goto (-46), 3) := by decide +kernel
theorem dX9_reads_78 : decode cX9_reads 78 = .ok (.ldc 212, 2) := by decide +kernel
theorem dX9_reads_80 : decode cX9_reads 80 = .ok (.ireturn, 1) := by decide +kernel
theorem dX9_copy_0 : decode cX9_copy 0 = .ok (.iload_n 1, 1) := by decide +kernel
theorem dX9_copy_1 : decode cX9_copy 1 = .ok (.invokestatic 213, 3) := by decide +kernel
theorem dX9_copy_4 : decode cX9_copy 4 = .ok (.ifCond .eq 10, 3) := by decide +kernel
theorem dX9_copy_7 : decode cX9_copy 7 = .ok (.iload_n 3, 1) := by decide +kernel
theorem dX9_copy_8 : decode cX9_copy 8 = .ok (.invokestatic 213, 3) := by decide +kernel
theorem dX9_copy_11 : decode cX9_copy 11 = .ok (.ifCond .ne 6, 3) := by decide +kernel
theorem dX9_copy_14 : decode cX9_copy 14 = .ok (.ldc 72, 2) := by decide +kernel
theorem dX9_copy_16 : decode cX9_copy 16 = .ok (.ireturn, 1) := by decide +kernel
theorem dX9_copy_17 : decode cX9_copy 17 = .ok (.aload_n 0, 1) := by decide +kernel
theorem dX9_copy_18 : decode cX9_copy 18 = .ok (.getfield 41, 3) := by decide +kernel
theorem dX9_copy_21 : decode cX9_copy 21 = .ok (.iload_n 1, 1) := by decide +kernel
theorem dX9_copy_22 : decode cX9_copy 22 = .ok (.aaload, 1) := by decide +kernel
theorem dX9_copy_23 : decode cX9_copy 23 = .ok (.astore 6, 2) := by decide +kernel
theorem dX9_copy_25 : decode cX9_copy 25 = .ok (.aload_n 0, 1) := by decide +kernel
theorem dX9_copy_26 : decode cX9_copy 26 = .ok (.getfield 41, 3) := by decide +kernel
theorem dX9_copy_29 : decode cX9_copy 29 = .ok (.iload_n 3, 1) := by decide +kernel
theorem dX9_copy_30 : decode cX9_copy 30 = .ok (.aaload, 1) := by decide +kernel
theorem dX9_copy_31 : decode cX9_copy 31 = .ok (.astore 7, 2) := by decide +kernel
theorem dX9_copy_33 : decode cX9_copy 33 = .ok (.aload 6, 2) := by decide +kernel
theorem dX9_copy_35 : decode cX9_copy 35 = .ok (.invokevirtual 216, 3) := by decide +kernel
theorem dX9_copy_38 : decode cX9_copy 38 = .ok (.ifCond .ne 11, 3) := by decide +kernel
theorem dX9_copy_41 : decode cX9_copy 41 = .ok (.aload 7, 2) := by decide +kernel
theorem dX9_copy_43 : decode cX9_copy 43 = .ok (.invokevirtual 216, 3) := by decide +kernel
theorem dX9_copy_46 : decode cX9_copy 46 = .ok (.ifCond .eq 6, 3) := by decide +kernel
theorem dX9_copy_49 : decode cX9_copy 49 = .ok (.ldc 220, 2) := by decide +kernel
theorem dX9_copy_51 : decode cX9_copy 51 = .ok (.ireturn, 1) := by decide +kernel
theorem dX9_copy_52 : decode cX9_copy 52 = .ok (.aload 6, 2) := by decide +kernel
theorem dX9_copy_54 : decode cX9_copy 54 = .ok (.getfield 280, 3) := by decide +kernel
theorem dX9_copy_57 : decode cX9_copy 57 = .ok (.aload 7, 2) := by decide +kernel
theorem dX9_copy_59 : decode cX9_copy 59 = .ok (.getfield 280, 3) := by decide +kernel
theorem dX9_copy_62 : decode cX9_copy 62 = .ok (.if_icmp .eq 6, 3) := by decide +kernel
theorem dX9_copy_65 : decode cX9_copy 65 = .ok (.ldc 119, 2) := by decide +kernel
theorem dX9_copy_67 : decode cX9_copy 67 = .ok (.ireturn, 1) := by decide +kernel
theorem dX9_copy_68 : decode cX9_copy 68 = .ok (.aload 6, 2) := by decide +kernel
theorem dX9_copy_70 : decode cX9_copy 70 = .ok (.iload_n 2, 1) := by decide +kernel
theorem dX9_copy_71 : decode cX9_copy 71 = .ok (.iload 5, 2) := by decide +kernel
theorem dX9_copy_73 : decode cX9_copy 73 = .ok (.invokevirtual 296, 3) := by decide +kernel
theorem dX9_copy_76 : decode cX9_copy 76 = .ok (.ifCond .eq 15, 3) := by decide +kernel
theorem dX9_copy_79 : decode cX9_copy 79 = .ok (.aload 7, 2) := by decide +kernel
theorem dX9_copy_81 : decode cX9_copy 81 = .ok (.iload 4, 2) := by decide +kernel
theorem dX9_copy_83 : decode cX9_copy 83 = .ok (.iload 5, 2) := by decide +kernel
theorem dX9_copy_85 : decode cX9_copy 85 = .ok (.invokevirtual 296, 3) := by decide +kernel
theorem dX9_copy_88 : decode cX9_copy 88 = .ok (.ifCond .ne 7, 3) := by decide +kernel
theorem dX9_copy_91 : decode cX9_copy 91 = .ok (.ldc_w 279, 3) := by decide +kernel
theorem dX9_copy_94 : decode cX9_copy 94 = .ok (.ireturn, 1) := by decide +kernel
theorem dX9_copy_95 : decode cX9_copy 95 = .ok (.aload 6, 2) := by decide +kernel
theorem dX9_copy_97 : decode cX9_copy 97 = .ok (.getfield 283, 3) := by decide +kernel
theorem dX9_copy_100 : decode cX9_copy 100 = .ok (.iload_n 2, 1) := by decide +kernel
theorem dX9_copy_101 : decode cX9_copy 101 = .ok (.aload 7, 2) := by decide +kernel
theorem dX9_copy_103 : decode cX9_copy 103 = .ok (.getfield 283, 3) := by decide +kernel
theorem dX9_copy_106 : decode cX9_copy 106 = .ok (.iload 4, 2) := by decide +kernel
theorem dX9_copy_108 : decode cX9_copy 108 = .ok (.iload 5, 2) := by decide +kernel
theorem dX9_copy_110 : decode cX9_copy 110 = .ok (.invokestatic 299, 3) := by decide +kernel
theorem dX9_copy_113 : decode cX9_copy 113 = .ok (.iload 5, 2) := by decide +kernel
theorem dX9_copy_115 : decode cX9_copy 115 = .ok (.ireturn, 1) := by decide +kernel
theorem dX9_lay_0 : decode cX9_lay 0 = .ok (.iload_n 1, 1) := by decide +kernel
theorem dX9_lay_1 : decode cX9_lay 1 = .ok (.invokestatic 305, 3) := by decide +kernel
theorem dX9_lay_4 : decode cX9_lay 4 = .ok (.ifCond .eq 12, 3) := by decide +kernel
theorem dX9_lay_7 : decode cX9_lay 7 = .ok (.aload_n 0, 1) := by decide +kernel
theorem dX9_lay_8 : decode cX9_lay 8 = .ok (.iload_n 2, 1) := by decide +kernel
theorem dX9_lay_9 : decode cX9_lay 9 = .ok (.iload_n 3, 1) := by decide +kernel
theorem dX9_lay_10 : decode cX9_lay 10 = .ok (.invokevirtual 308, 3) := by decide +kernel
theorem dX9_lay_13 : decode cX9_lay 13 = .ok (.ifCond .ne 6, 3) := by decide +kernel
theorem dX9_lay_16 : decode cX9_lay 16 = .ok (.ldc 72, 2) := by decide +kernel
theorem dX9_lay_18 : decode cX9_lay 18 = .ok (.ireturn, 1) := by decide +kernel
theorem dX9_lay_19 : decode cX9_lay 19 = .ok (.iload_n 2, 1) := by decide +kernel
theorem dX9_lay_20 : decode cX9_lay 20 = .ok (.iconst 2, 1) := by decide +kernel
theorem dX9_lay_21 : decode cX9_lay 21 = .ok (.if_icmp .ne 18, 3) := by decide +kernel
theorem dX9_lay_24 : decode cX9_lay 24 = .ok (.aload_n 0, 1) := by decide +kernel
theorem dX9_lay_25 : decode cX9_lay 25 = .ok (.getfield 41, 3) := by decide +kernel
theorem dX9_lay_28 : decode cX9_lay 28 = .ok (.iload_n 3, 1) := by decide +kernel
theorem dX9_lay_29 : decode cX9_lay 29 = .ok (.aaload, 1) := by decide +kernel
theorem dX9_lay_30 : decode cX9_lay 30 = .ok (.invokevirtual 216, 3) := by decide +kernel
theorem dX9_lay_33 : decode cX9_lay 33 = .ok (.ifCond .eq 6, 3) := by decide +kernel
theorem dX9_lay_36 : decode cX9_lay 36 = .ok (.ldc 220, 2) := by decide +kernel
theorem dX9_lay_38 : decode cX9_lay 38 = .ok (.ireturn, 1) := by decide +kernel
theorem dX9_lay_39 : decode cX9_lay 39 = .ok (.aload_n 0, 1) := by decide +kernel
theorem dX9_lay_40 : decode cX9_lay 40 = .ok (.getfield 47, 3) := by decide +kernel
theorem dX9_lay_43 : decode cX9_lay 43 = .ok (.iload_n 1, 1) := by decide +kernel
theorem dX9_lay_44 : decode cX9_lay 44 = .ok (.aaload, 1) := by decide +kernel
theorem dX9_lay_45 : decode cX9_lay 45 = .ok (.astore 4, 2) := by decide +kernel
theorem dX9_lay_47 : decode cX9_lay 47 = .ok (.aload 4, 2) := by decide +kernel
theorem dX9_lay_49 : decode cX9_lay 49 = .ok (.getfield 311, 3) := by decide +kernel
theorem dX9_lay_52 : decode cX9_lay 52 = .ok (.istore 5, 2) := by decide +kernel
theorem dX9_lay_54 : decode cX9_lay 54 = .ok (.aload 4, 2) := by decide +kernel
theorem dX9_lay_56 : decode cX9_lay 56 = .ok (.iload_n 2, 1) := by decide +kernel
theorem dX9_lay_57 : decode cX9_lay 57 = .ok (.putfield 311, 3) := by decide +kernel
theorem dX9_lay_60 : decode cX9_lay 60 = .ok (.iload_n 2, 1) := by decide +kernel
theorem dX9_lay_61 : decode cX9_lay 61 = .ok (.iconst 1, 1) := by decide +kernel
theorem dX9_lay_62 : decode cX9_lay 62 = .ok (.if_icmp .ne 40, 3) := by decide +kernel
theorem dX9_lay_65 : decode cX9_lay 65 = .ok (.aload 4, 2) := by decide +kernel
theorem dX9_lay_67 : decode cX9_lay 67 = .ok (.aload_n 0, 1) := by decide +kernel
theorem dX9_lay_68 : decode cX9_lay 68 = .ok (.getfield 10, 3) := by decide +kernel
theorem dX9_lay_71 : decode cX9_lay 71 = .ok (.getfield 73, 3) := by decide +kernel
theorem dX9_lay_74 : decode cX9_lay 74 = .ok (.getfield 89, 3) := by decide +kernel
theorem dX9_lay_77 : decode cX9_lay 77 = .ok (.iload_n 3, 1) := by decide +kernel
theorem dX9_lay_78 : decode cX9_lay 78 = .ok (.iaload, 1) := by decide +kernel
theorem dX9_lay_79 : decode cX9_lay 79 = .ok (.putfield 314, 3) := by decide +kernel
theorem dX9_lay_82 : decode cX9_lay 82 = .ok (.aload 4, 2) := by decide +kernel
theorem dX9_lay_84 : decode cX9_lay 84 = .ok (.aload_n 0, 1) := by decide +kernel
theorem dX9_lay_85 : decode cX9_lay 85 = .ok (.getfield 10, 3) := by decide +kernel
theorem dX9_lay_88 : decode cX9_lay 88 = .ok (.getfield 73, 3) := by decide +kernel
theorem dX9_lay_91 : decode cX9_lay 91 = .ok (.getfield 98, 3) := by decide +kernel
theorem dX9_lay_94 : decode cX9_lay 94 = .ok (.iload_n 3, 1) := by decide +kernel
theorem dX9_lay_95 : decode cX9_lay 95 = .ok (.iaload, 1) := by decide +kernel
theorem dX9_lay_96 : decode cX9_lay 96 = .ok (.putfield 316, 3) := by decide +kernel
theorem dX9_lay_99 : decode cX9_lay 99 = .ok (.goto 31, 3) := by decide +kernel
theorem dX9_lay_102 : decode cX9_lay 102 = .ok (.iload_n 2, 1) := by decide +kernel
theorem dX9_lay_103 : decode cX9_lay 103 = .ok (.iconst 2, 1) := by decide +kernel
theorem dX9_lay_104 : decode cX9_lay 104 = .ok (.if_icmp .ne 20, 3) := by decide +kernel
theorem dX9_lay_107 : decode cX9_lay 107 = .ok (.aload 4, 2) := by decide +kernel
theorem dX9_lay_109 : decode cX9_lay 109 = .ok (.getfield 318, 3) := by decide +kernel
theorem dX9_lay_112 : decode cX9_lay 112 = .ok (.aload_n 0, 1) := by decide +kernel
theorem dX9_lay_113 : decode cX9_lay 113 = .ok (.getfield 41, 3) := by decide +kernel
theorem dX9_lay_116 : decode cX9_lay 116 = .ok (.iload_n 3, 1) := by decide +kernel
theorem dX9_lay_117 : decode cX9_lay 117 = .ok (.aaload, 1) := by decide +kernel
theorem dX9_lay_118 : decode cX9_lay 118 = .ok (.invokevirtual 322, 3) := by decide +kernel
theorem dX9_lay_121 : decode cX9_lay 121 = .ok (.goto 9, 3) := by decide +kernel
theorem dX9_lay_124 : decode cX9_lay 124 = .ok (.aload 4, 2) := by decide +kernel
theorem dX9_lay_126 : decode cX9_lay 126 = .ok (.iload_n 3, 1) := by decide +kernel
theorem dX9_lay_127 : decode cX9_lay 127 = .ok (.putfield 326, 3) := by decide +kernel
theorem dX9_lay_130 : decode cX9_lay 130 = .ok (.iload 5, 2) := by decide +kernel
theorem dX9_lay_132 : decode cX9_lay 132 = .ok (.ireturn, 1) := by decide +kernel
theorem dX9_canLay_0 : decode cX9_canLay 0 = .ok (.iload_n 1, 1) := by decide +kernel
theorem dX9_canLay_1 : decode cX9_canLay 1 = .ok (.tableswitch 50 0 3 #[31, 33, 45, 31], 31) := by decide +kernel
theorem dX9_canLay_32 : decode cX9_canLay 32 = .ok (.iconst 1, 1) := by decide +kernel
theorem dX9_canLay_33 : decode cX9_canLay 33 = .ok (.ireturn, 1) := by decide +kernel
theorem dX9_canLay_34 : decode cX9_canLay 34 = .ok (.aload_n 0, 1) := by decide +kernel
theorem dX9_canLay_35 : decode cX9_canLay 35 = .ok (.getfield 10, 3) := by decide +kernel
theorem dX9_canLay_38 : decode cX9_canLay 38 = .ok (.getfield 73, 3) := by decide +kernel
theorem dX9_canLay_41 : decode cX9_canLay 41 = .ok (.iload_n 2, 1) := by decide +kernel
theorem dX9_canLay_42 : decode cX9_canLay 42 = .ok (.invokevirtual 86, 3) := by decide +kernel
theorem dX9_canLay_45 : decode cX9_canLay 45 = .ok (.ireturn, 1) := by decide +kernel
theorem dX9_canLay_46 : decode cX9_canLay 46 = .ok (.iload_n 2, 1) := by decide +kernel
theorem dX9_canLay_47 : decode cX9_canLay 47 = .ok (.invokestatic 213, 3) := by decide +kernel
theorem dX9_canLay_50 : decode cX9_canLay 50 = .ok (.ireturn, 1) := by decide +kernel
theorem dX9_canLay_51 : decode cX9_canLay 51 = .ok (.iconst 0, 1) := by decide +kernel
theorem dX9_canLay_52 : decode cX9_canLay 52 = .ok (.ireturn, 1) := by decide +kernel
theorem dX9_ask_0 : decode cX9_ask 0 = .ok (.iload_n 1, 1) := by decide +kernel
theorem dX9_ask_1 : decode cX9_ask 1 = .ok (.invokestatic 305, 3) := by decide +kernel
theorem dX9_ask_4 : decode cX9_ask 4 = .ok (.ifCond .eq 10, 3) := by decide +kernel
theorem dX9_ask_7 : decode cX9_ask 7 = .ok (.iload_n 2, 1) := by decide +kernel
theorem dX9_ask_8 : decode cX9_ask 8 = .ok (.invokestatic 57, 3) := by decide +kernel
theorem dX9_ask_11 : decode cX9_ask 11 = .ok (.ifCond .ne 6, 3) := by decide +kernel
theorem dX9_ask_14 : decode cX9_ask 14 = .ok (.ldc 72, 2) := by decide +kernel
theorem dX9_ask_16 : decode cX9_ask 16 = .ok (.ireturn, 1) := by decide +kernel
theorem dX9_ask_17 : decode cX9_ask 17 = .ok (.aload_n 0, 1) := by decide +kernel
theorem dX9_ask_18 : decode cX9_ask 18 = .ok (.getfield 47, 3) := by decide +kernel
theorem dX9_ask_21 : decode cX9_ask 21 = .ok (.iload_n 1, 1) := by decide +kernel
theorem dX9_ask_22 : decode cX9_ask 22 = .ok (.aaload, 1) := by decide +kernel
theorem dX9_ask_23 : decode cX9_ask 23 = .ok (.astore_n 3, 1) := by decide +kernel
theorem dX9_ask_24 : decode cX9_ask 24 = .ok (.aload_n 3, 1) := by decide +kernel
theorem dX9_ask_25 : decode cX9_ask 25 = .ok (.getfield 311, 3) := by decide +kernel
theorem dX9_ask_28 : decode cX9_ask 28 = .ok (.ifCond .ne 6, 3) := by decide +kernel
theorem dX9_ask_31 : decode cX9_ask 31 = .ok (.ldc 220, 2) := by decide +kernel
theorem dX9_ask_33 : decode cX9_ask 33 = .ok (.ireturn, 1) := by decide +kernel
theorem dX9_ask_34 : decode cX9_ask 34 = .ok (.aload_n 3, 1) := by decide +kernel
theorem dX9_ask_35 : decode cX9_ask 35 = .ok (.getfield 311, 3) := by decide +kernel
theorem dX9_ask_38 : decode cX9_ask 38 = .ok (.iconst 1, 1) := by decide +kernel
theorem dX9_ask_39 : decode cX9_ask 39 = .ok (.if_icmp .ne 14, 3) := by decide +kernel
theorem dX9_ask_42 : decode cX9_ask 42 = .ok (.aload_n 3, 1) := by decide +kernel
theorem dX9_ask_43 : decode cX9_ask 43 = .ok (.getfield 314, 3) := by decide +kernel
theorem dX9_ask_46 : decode cX9_ask 46 = .ok (.iload_n 2, 1) := by decide +kernel
theorem dX9_ask_47 : decode cX9_ask 47 = .ok (.invokestatic 115, 3) := by decide +kernel
theorem dX9_ask_50 : decode cX9_ask 50 = .ok (.ifCond .ne 6, 3) := by decide +kernel
theorem dX9_ask_53 : decode cX9_ask 53 = .ok (.ldc 119, 2) := by decide +kernel
theorem dX9_ask_55 : decode cX9_ask 55 = .ok (.ireturn, 1) := by decide +kernel
theorem dX9_ask_56 : decode cX9_ask 56 = .ok (.aload_n 3, 1) := by decide +kernel
theorem dX9_ask_57 : decode cX9_ask 57 = .ok (.getfield 314, 3) := by decide +kernel
theorem dX9_ask_60 : decode cX9_ask 60 = .ok (.aload_n 3, 1) := by decide +kernel
theorem dX9_ask_61 : decode cX9_ask 61 = .ok (.getfield 316, 3) := by decide +kernel
theorem dX9_ask_64 : decode cX9_ask 64 = .ok (.invokestatic 111, 3) := by decide +kernel
theorem dX9_ask_67 : decode cX9_ask 67 = .ok (.ireturn, 1) := by decide +kernel
theorem dX9_item_0 : decode cX9_item 0 = .ok (.iload_n 1, 1) := by decide +kernel
theorem dX9_item_1 : decode cX9_item 1 = .ok (.invokestatic 305, 3) := by decide +kernel
theorem dX9_item_4 : decode cX9_item 4 = .ok (.ifCond .ne 6, 3) := by decide +kernel
theorem dX9_item_7 : decode cX9_item 7 = .ok (.ldc 72, 2) := by decide +kernel
theorem dX9_item_9 : decode cX9_item 9 = .ok (.ireturn, 1) := by decide +kernel
theorem dX9_item_10 : decode cX9_item 10 = .ok (.aload_n 0, 1) := by decide +kernel
theorem dX9_item_11 : decode cX9_item 11 = .ok (.getfield 47, 3) := by decide +kernel
theorem dX9_item_14 : decode cX9_item 14 = .ok (.iload_n 1, 1) := by decide +kernel
theorem dX9_item_15 : decode cX9_item 15 = .ok (.aaload, 1) := by decide +kernel
theorem dX9_item_16 : decode cX9_item 16 = .ok (.astore_n 3, 1) := by decide +kernel
theorem dX9_item_17 : decode cX9_item 17 = .ok (.aload_n 3, 1) := by decide +kernel
theorem dX9_item_18 : decode cX9_item 18 = .ok (.getfield 311, 3) := by decide +kernel
theorem dX9_item_21 : decode cX9_item 21 = .ok (.ifCond .ne 6, 3) := by decide +kernel
theorem dX9_item_24 : decode cX9_item 24 = .ok (.ldc 220, 2) := by decide +kernel
theorem dX9_item_26 : decode cX9_item 26 = .ok (.ireturn, 1) := by decide +kernel
theorem dX9_item_27 : decode cX9_item 27 = .ok (.aload_n 3, 1) := by decide +kernel
theorem dX9_item_28 : decode cX9_item 28 = .ok (.getfield 311, 3) := by decide +kernel
theorem dX9_item_31 : decode cX9_item 31 = .ok (.iconst 2, 1) := by decide +kernel
theorem dX9_item_32 : decode cX9_item 32 = .ok (.if_icmp .eq 6, 3) := by decide +kernel
theorem dX9_item_35 : decode cX9_item 35 = .ok (.ldc 119, 2) := by decide +kernel
theorem dX9_item_37 : decode cX9_item 37 = .ok (.ireturn, 1) := by decide +kernel
theorem dX9_item_38 : decode cX9_item 38 = .ok (.aload_n 3, 1) := by decide +kernel
theorem dX9_item_39 : decode cX9_item 39 = .ok (.getfield 318, 3) := by decide +kernel
theorem dX9_item_42 : decode cX9_item 42 = .ok (.iload_n 2, 1) := by decide +kernel
theorem dX9_item_43 : decode cX9_item 43 = .ok (.invokevirtual 278, 3) := by decide +kernel
theorem dX9_item_46 : decode cX9_item 46 = .ok (.ifCond .ne 7, 3) := by decide +kernel
theorem dX9_item_49 : decode cX9_item 49 = .ok (.ldc_w 279, 3) := by decide +kernel
theorem dX9_item_52 : decode cX9_item 52 = .ok (.ireturn, 1) := by decide +kernel
theorem dX9_item_53 : decode cX9_item 53 = .ok (.aload_n 3, 1) := by decide +kernel
theorem dX9_item_54 : decode cX9_item 54 = .ok (.getfield 318, 3) := by decide +kernel
theorem dX9_item_57 : decode cX9_item 57 = .ok (.iload_n 2, 1) := by decide +kernel
theorem dX9_item_58 : decode cX9_item 58 = .ok (.invokevirtual 288, 3) := by decide +kernel
theorem dX9_item_61 : decode cX9_item 61 = .ok (.ifCond .eq 15, 3) := by decide +kernel
theorem dX9_item_64 : decode cX9_item 64 = .ok (.aload_n 3, 1) := by decide +kernel
theorem dX9_item_65 : decode cX9_item 65 = .ok (.getfield 318, 3) := by decide +kernel
theorem dX9_item_68 : decode cX9_item 68 = .ok (.getfield 283, 3) := by decide +kernel
theorem dX9_item_71 : decode cX9_item 71 = .ok (.iload_n 2, 1) := by decide +kernel
theorem dX9_item_72 : decode cX9_item 72 = .ok (.iaload, 1) := by decide +kernel
theorem dX9_item_73 : decode cX9_item 73 = .ok (.goto 5, 3) := by decide +kernel
theorem dX9_item_76 : decode cX9_item 76 = .ok (.ldc 119, 2) := by decide +kernel
theorem dX9_item_78 : decode cX9_item 78 = .ok (.ireturn, 1) := by decide +kernel
theorem dX9_rest_0 : decode cX9_rest 0 = .ok (.iload_n 1, 1) := by decide +kernel
theorem dX9_rest_1 : decode cX9_rest 1 = .ok (.invokestatic 305, 3) := by decide +kernel
theorem dX9_rest_4 : decode cX9_rest 4 = .ok (.ifCond .ne 6, 3) := by decide +kernel
theorem dX9_rest_7 : decode cX9_rest 7 = .ok (.ldc 72, 2) := by decide +kernel
theorem dX9_rest_9 : decode cX9_rest 9 = .ok (.ireturn, 1) := by decide +kernel
theorem dX9_rest_10 : decode cX9_rest 10 = .ok (.aload_n 0, 1) := by decide +kernel
theorem dX9_rest_11 : decode cX9_rest 11 = .ok (.getfield 47, 3) := by decide +kernel
theorem dX9_rest_14 : decode cX9_rest 14 = .ok (.iload_n 1, 1) := by decide +kernel
theorem dX9_rest_15 : decode cX9_rest 15 = .ok (.aaload, 1) := by decide +kernel
theorem dX9_rest_16 : decode cX9_rest 16 = .ok (.astore_n 3, 1) := by decide +kernel
theorem dX9_rest_17 : decode cX9_rest 17 = .ok (.aload_n 3, 1) := by decide +kernel
theorem dX9_rest_18 : decode cX9_rest 18 = .ok (.getfield 311, 3) := by decide +kernel
theorem dX9_rest_21 : decode cX9_rest 21 = .ok (.ifCond .ne 6, 3) := by decide +kernel
theorem dX9_rest_24 : decode cX9_rest 24 = .ok (.ldc 220, 2) := by decide +kernel
theorem dX9_rest_26 : decode cX9_rest 26 = .ok (.ireturn, 1) := by decide +kernel
theorem dX9_rest_27 : decode cX9_rest 27 = .ok (.aload_n 3, 1) := by decide +kernel
theorem dX9_rest_28 : decode cX9_rest 28 = .ok (.getfield 311, 3) := by decide +kernel
theorem dX9_rest_31 : decode cX9_rest 31 = .ok (.iconst 3, 1) := by decide +kernel
theorem dX9_rest_32 : decode cX9_rest 32 = .ok (.if_icmp .eq 6, 3) := by decide +kernel
theorem dX9_rest_35 : decode cX9_rest 35 = .ok (.ldc 119, 2) := by decide +kernel
theorem dX9_rest_37 : decode cX9_rest 37 = .ok (.ireturn, 1) := by decide +kernel
theorem dX9_rest_38 : decode cX9_rest 38 = .ok (.iload_n 2, 1) := by decide +kernel
theorem dX9_rest_39 : decode cX9_rest 39 = .ok (.ifCond .ne 9, 3) := by decide +kernel
theorem dX9_rest_42 : decode cX9_rest 42 = .ok (.ldc_w 329, 3) := by decide +kernel
theorem dX9_rest_45 : decode cX9_rest 45 = .ok (.goto 9, 3) := by decide +kernel
theorem dX9_rest_48 : decode cX9_rest 48 = .ok (.aload_n 3, 1) := by decide +kernel
theorem dX9_rest_49 : decode cX9_rest 49 = .ok (.getfield 326, 3) := by decide +kernel
theorem dX9_rest_52 : decode cX9_rest 52 = .ok (.iload_n 2, 1) := by decide +kernel
theorem dX9_rest_53 : decode cX9_rest 53 = .ok (.irem, 1) := by decide +kernel
theorem dX9_rest_54 : decode cX9_rest 54 = .ok (.ireturn, 1) := by decide +kernel
theorem dX9_tell_0 : decode cX9_tell 0 = .ok (.aload_n 0, 1) := by decide +kernel
theorem dX9_tell_1 : decode cX9_tell 1 = .ok (.getfield 330, 3) := by decide +kernel
theorem dX9_tell_4 : decode cX9_tell 4 = .ok (.bipush 60, 2) := by decide +kernel
theorem dX9_tell_6 : decode cX9_tell 6 = .ok (.if_icmp .lt 6, 3) := by decide +kernel
theorem dX9_tell_9 : decode cX9_tell 9 = .ok (.ldc 81, 2) := by decide +kernel
theorem dX9_tell_11 : decode cX9_tell 11 = .ok (.ireturn, 1) := by decide +kernel
theorem dX9_tell_12 : decode cX9_tell 12 = .ok (.aload_n 0, 1) := by decide +kernel
theorem dX9_tell_13 : decode cX9_tell 13 = .ok (.getfield 51, 3) := by decide +kernel
theorem dX9_tell_16 : decode cX9_tell 16 = .ok (.aload_n 0, 1) := by decide +kernel
theorem dX9_tell_17 : decode cX9_tell 17 = .ok (.getfield 330, 3) := by decide +kernel
theorem dX9_tell_20 : decode cX9_tell 20 = .ok (.iload_n 1, 1) := by decide +kernel
theorem dX9_tell_21 : decode cX9_tell 21 = .ok (.iastore, 1) := by decide +kernel
theorem dX9_tell_22 : decode cX9_tell 22 = .ok (.aload_n 0, 1) := by decide +kernel
theorem dX9_tell_23 : decode cX9_tell 23 = .ok (.dup, 1) := by decide +kernel
theorem dX9_tell_24 : decode cX9_tell 24 = .ok (.getfield 330, 3) := by decide +kernel
theorem dX9_tell_27 : decode cX9_tell 27 = .ok (.iconst 1, 1) := by decide +kernel
theorem dX9_tell_28 : decode cX9_tell 28 = .ok (.iadd, 1) := by decide +kernel
theorem dX9_tell_29 : decode cX9_tell 29 = .ok (.putfield 330, 3) := by decide +kernel
theorem dX9_tell_32 : decode cX9_tell 32 = .ok (.aload_n 0, 1) := by decide +kernel
theorem dX9_tell_33 : decode cX9_tell 33 = .ok (.getfield 330, 3) := by decide +kernel
theorem dX9_tell_36 : decode cX9_tell 36 = .ok (.ireturn, 1) := by decide +kernel
theorem dX9_check_0 : decode cX9_check 0 = .ok (.aload_n 0, 1) := by decide +kernel
theorem dX9_check_1 : decode cX9_check 1 = .ok (.getfield 330, 3) := by decide +kernel
theorem dX9_check_4 : decode cX9_check 4 = .ok (.istore_n 2, 1) := by decide +kernel
theorem dX9_check_5 : decode cX9_check 5 = .ok (.aload_n 0, 1) := by decide +kernel
theorem dX9_check_6 : decode cX9_check 6 = .ok (.iconst 0, 1) := by decide +kernel
theorem dX9_check_7 : decode cX9_check 7 = .ok (.putfield 330, 3) := by decide +kernel
theorem dX9_check_10 : decode cX9_check 10 = .ok (.iload_n 1, 1) := by decide +kernel
theorem dX9_check_11 : decode cX9_check 11 = .ok (.iconst 1, 1) := by decide +kernel
theorem dX9_check_12 : decode cX9_check 12 = .ok (.bipush 30, 2) := by decide +kernel
theorem dX9_check_14 : decode cX9_check 14 = .ok (.invokestatic 66, 3) := by decide +kernel
theorem dX9_check_17 : decode cX9_check 17 = .ok (.ifCond .ne 6, 3) := by decide +kernel
theorem dX9_check_20 : decode cX9_check 20 = .ok (.ldc 72, 2) := by decide +kernel
theorem dX9_check_22 : decode cX9_check 22 = .ok (.ireturn, 1) := by decide +kernel
theorem dX9_check_23 : decode cX9_check 23 = .ok (.aload_n 0, 1) := by decide +kernel
theorem dX9_check_24 : decode cX9_check 24 = .ok (.getfield 333, 3) := by decide +kernel
theorem dX9_check_27 : decode cX9_check 27 = .ok (.ifCond .ne 7, 3) := by decide +kernel
theorem dX9_check_30 : decode cX9_check 30 = .ok (.ldc_w 329, 3) := by decide +kernel
theorem dX9_check_33 : decode cX9_check 33 = .ok (.ireturn, 1) := by decide +kernel
theorem dX9_check_34 : decode cX9_check 34 = .ok (.aload_n 0, 1) := by decide +kernel
theorem dX9_check_35 : decode cX9_check 35 = .ok (.getfield 22, 3) := by decide +kernel
theorem dX9_check_38 : decode cX9_check 38 = .ok (.aload_n 0, 1) := by decide +kernel
theorem dX9_check_39 : decode cX9_check 39 = .ok (.getfield 16, 3) := by decide +kernel
theorem dX9_check_42 : decode cX9_check 42 = .ok (.aload_n 0, 1) := by decide +kernel
theorem dX9_check_43 : decode cX9_check 43 = .ok (.getfield 51, 3) := by decide +kernel
theorem dX9_check_46 : decode cX9_check 46 = .ok (.iload_n 2, 1) := by decide +kernel
theorem dX9_check_47 : decode cX9_check 47 = .ok (.iload_n 1, 1) := by decide +kernel
theorem dX9_check_48 : decode cX9_check 48 = .ok (.invokevirtual 337, 3) := by decide +kernel
theorem dX9_check_51 : decode cX9_check 51 = .ok (.istore_n 3, 1) := by decide +kernel
theorem dX9_check_52 : decode cX9_check 52 = .ok (.iconst 2, 1) := by decide +kernel
theorem dX9_check_53 : decode cX9_check 53 = .ok (.iload_n 1, 1) := by decide +kernel
theorem dX9_check_54 : decode cX9_check 54 = .ok (.aload_n 0, 1) := by decide +kernel
theorem dX9_check_55 : decode cX9_check 55 = .ok (.getfield 16, 3) := by decide +kernel
theorem dX9_check_58 : decode cX9_check 58 = .ok (.invokevirtual 160, 3) := by decide +kernel
theorem dX9_check_61 : decode cX9_check 61 = .ok (.invokestatic 145, 3) := by decide +kernel
theorem dX9_check_64 : decode cX9_check 64 = .ok (.imul, 1) := by decide +kernel
theorem dX9_check_65 : decode cX9_check 65 = .ok (.istore 4, 2) := by decide +kernel
theorem dX9_check_67 : decode cX9_check 67 = .ok (.iload_n 3, 1) := by decide +kernel
theorem dX9_check_68 : decode cX9_check 68 = .ok (.iload 4, 2) := by decide +kernel
theorem dX9_check_70 : decode cX9_check 70 = .ok (.if_icmp .ne 13, 3) := by decide +kernel
theorem dX9_check_73 : decode cX9_check 73 = .ok (.iload_n 2, 1) := by decide +kernel
theorem dX9_check_74 : decode cX9_check 74 = .ok (.iload 4, 2) := by decide +kernel
theorem dX9_check_76 : decode cX9_check 76 = .ok (.if_icmp .ne 7, 3) := by decide +kernel
theorem dX9_check_79 : decode cX9_check 79 = .ok (.iconst 0, 1) := by decide +kernel
theorem dX9_check_80 : decode cX9_check 80 = .ok (.goto 6, 3) := by decide +kernel
theorem dX9_check_83 : decode cX9_check 83 = .ok (.iconst 1, 1) := by decide +kernel
theorem dX9_check_84 : decode cX9_check 84 = .ok (.iload_n 3, 1) := by decide +kernel
theorem dX9_check_85 : decode cX9_check 85 = .ok (.iadd, 1) := by decide +kernel
theorem dX9_check_86 : decode cX9_check 86 = .ok (.ireturn, 1) := by decide +kernel
theorem dX9_keep_0 : decode cX9_keep 0 = .ok (.aload_n 0, 1) := by decide +kernel
theorem dX9_keep_1 : decode cX9_keep 1 = .ok (.getfield 16, 3) := by decide +kernel
theorem dX9_keep_4 : decode cX9_keep 4 = .ok (.aload_n 0, 1) := by decide +kernel
theorem dX9_keep_5 : decode cX9_keep 5 = .ok (.getfield 10, 3) := by decide +kernel
theorem dX9_keep_8 : decode cX9_keep 8 = .ok (.invokevirtual 341, 3) := by decide +kernel
theorem dX9_keep_11 : decode cX9_keep 11 = .ok (.aload_n 0, 1) := by decide +kernel
theorem dX9_keep_12 : decode cX9_keep 12 = .ok (.iconst 1, 1) := by decide +kernel
theorem dX9_keep_13 : decode cX9_keep 13 = .ok (.putfield 333, 3) := by decide +kernel
theorem dX9_keep_16 : decode cX9_keep 16 = .ok (.aload_n 0, 1) := by decide +kernel
theorem dX9_keep_17 : decode cX9_keep 17 = .ok (.getfield 16, 3) := by decide +kernel
theorem dX9_keep_20 : decode cX9_keep 20 = .ok (.getfield 73, 3) := by decide +kernel
theorem dX9_keep_23 : decode cX9_keep 23 = .ok (.getfield 77, 3) := by decide +kernel
theorem dX9_keep_26 : decode cX9_keep 26 = .ok (.ireturn, 1) := by decide +kernel
theorem dX9_back_0 : decode cX9_back 0 = .ok (.aload_n 0, 1) := by decide +kernel
theorem dX9_back_1 : decode cX9_back 1 = .ok (.getfield 333, 3) := by decide +kernel
theorem dX9_back_4 : decode cX9_back 4 = .ok (.ifCond .ne 7, 3) := by decide +kernel
theorem dX9_back_7 : decode cX9_back 7 = .ok (.ldc_w 329, 3) := by decide +kernel
theorem dX9_back_10 : decode cX9_back 10 = .ok (.ireturn, 1) := by decide +kernel
theorem dX9_back_11 : decode cX9_back 11 = .ok (.aload_n 0, 1) := by decide +kernel
theorem dX9_back_12 : decode cX9_back 12 = .ok (.getfield 10, 3) := by decide +kernel
theorem dX9_back_15 : decode cX9_back 15 = .ok (.aload_n 0, 1) := by decide +kernel
theorem dX9_back_16 : decode cX9_back 16 = .ok (.getfield 16, 3) := by decide +kernel
theorem dX9_back_19 : decode cX9_back 19 = .ok (.invokevirtual 341, 3) := by decide +kernel
theorem dX9_back_22 : decode cX9_back 22 = .ok (.aload_n 0, 1) := by decide +kernel
theorem dX9_back_23 : decode cX9_back 23 = .ok (.getfield 10, 3) := by decide +kernel
theorem dX9_back_26 : decode cX9_back 26 = .ok (.getfield 73, 3) := by decide +kernel
theorem dX9_back_29 : decode cX9_back 29 = .ok (.getfield 77, 3) := by decide +kernel
theorem dX9_back_32 : decode cX9_back 32 = .ok (.ireturn, 1) := by decide +kernel
theorem dX9_count_0 : decode cX9_count 0 = .ok (.iload_n 1, 1) := by decide +kernel
theorem dX9_count_1 : decode cX9_count 1 = .ok (.tableswitch 129 0 8 #[51, 62, 73, 81, 92, 100, 111, 116, 121], 51) := by decide +kernel
theorem dX9_count_52 : decode cX9_count 52 = .ok (.aload_n 0, 1) := by decide +kernel
theorem dX9_count_53 : decode cX9_count 53 = .ok (.getfield 10, 3) := by decide +kernel
theorem dX9_count_56 : decode cX9_count 56 = .ok (.getfield 73, 3) := by decide +kernel
theorem dX9_count_59 : decode cX9_count 59 = .ok (.getfield 77, 3) := by decide +kernel
theorem dX9_count_62 : decode cX9_count 62 = .ok (.ireturn, 1) := by decide +kernel
theorem dX9_count_63 : decode cX9_count 63 = .ok (.aload_n 0, 1) := by decide +kernel
theorem dX9_count_64 : decode cX9_count 64 = .ok (.getfield 10, 3) := by decide +kernel
theorem dX9_count_67 : decode cX9_count 67 = .ok (.getfield 73, 3) := by decide +kernel
theorem dX9_count_70 : decode cX9_count 70 = .ok (.invokevirtual 166, 3) := by decide +kernel
theorem dX9_count_73 : decode cX9_count 73 = .ok (.ireturn, 1) := by decide +kernel
theorem dX9_count_74 : decode cX9_count 74 = .ok (.aload_n 0, 1) := by decide +kernel
theorem dX9_count_75 : decode cX9_count 75 = .ok (.getfield 10, 3) := by decide +kernel
theorem dX9_count_78 : decode cX9_count 78 = .ok (.getfield 235, 3) := by decide +kernel
theorem dX9_count_81 : decode cX9_count 81 = .ok (.ireturn, 1) := by decide +kernel
theorem dX9_count_82 : decode cX9_count 82 = .ok (.aload_n 0, 1) := by decide +kernel
theorem dX9_count_83 : decode cX9_count 83 = .ok (.getfield 10, 3) := by decide +kernel
theorem dX9_count_86 : decode cX9_count 86 = .ok (.getfield 124, 3) := by decide +kernel
theorem dX9_count_89 : decode cX9_count 89 = .ok (.bipush 8, 2) := by decide +kernel
theorem dX9_count_91 : decode cX9_count 91 = .ok (.iaload, 1) := by decide +kernel
theorem dX9_count_92 : decode cX9_count 92 = .ok (.ireturn, 1) := by decide +kernel
theorem dX9_count_93 : decode cX9_count 93 = .ok (.aload_n 0, 1) := by decide +kernel
theorem dX9_count_94 : decode cX9_count 94 = .ok (.getfield 10, 3) := by decide +kernel
theorem dX9_count_97 : decode cX9_count 97 = .ok (.invokevirtual 156, 3) := by decide +kernel
theorem dX9_count_100 : decode cX9_count 100 = .ok (.ireturn, 1) := by decide +kernel
theorem dX9_count_101 : decode cX9_count 101 = .ok (.aload_n 0, 1) := by decide +kernel
theorem dX9_count_102 : decode cX9_count 102 = .ok (.getfield 10, 3) := by decide +kernel
theorem dX9_count_105 : decode cX9_count 105 = .ok (.getfield 229, 3) := by decide +kernel
theorem dX9_count_108 : decode cX9_count 108 = .ok (.getfield 250, 3) := by decide +kernel
theorem dX9_count_111 : decode cX9_count 111 = .ok (.ireturn, 1) := by decide +kernel
theorem dX9_count_112 : decode cX9_count 112 = .ok (.aload_n 0, 1) := by decide +kernel
theorem dX9_count_113 : decode cX9_count 113 = .ok (.getfield 330, 3) := by decide +kernel
theorem dX9_count_116 : decode cX9_count 116 = .ok (.ireturn, 1) := by decide +kernel
theorem dX9_count_117 : decode cX9_count 117 = .ok (.aload_n 0, 1) := by decide +kernel
theorem dX9_count_118 : decode cX9_count 118 = .ok (.getfield 241, 3) := by decide +kernel
theorem dX9_count_121 : decode cX9_count 121 = .ok (.ireturn, 1) := by decide +kernel
theorem dX9_count_122 : decode cX9_count 122 = .ok (.aload_n 0, 1) := by decide +kernel
theorem dX9_count_123 : decode cX9_count 123 = .ok (.getfield 10, 3) := by decide +kernel
theorem dX9_count_126 : decode cX9_count 126 = .ok (.getfield 153, 3) := by decide +kernel
theorem dX9_count_129 : decode cX9_count 129 = .ok (.ireturn, 1) := by decide +kernel
theorem dX9_count_130 : decode cX9_count 130 = .ok (.ldc 72, 2) := by decide +kernel
theorem dX9_count_132 : decode cX9_count 132 = .ok (.ireturn, 1) := by decide +kernel
theorem dX9_isRoom_0 : decode cX9_isRoom 0 = .ok (.iload_n 0, 1) := by decide +kernel
theorem dX9_isRoom_1 : decode cX9_isRoom 1 = .ok (.iconst 0, 1) := by decide +kernel
theorem dX9_isRoom_2 : decode cX9_isRoom 2 = .ok (.bipush 7, 2) := by decide +kernel
theorem dX9_isRoom_4 : decode cX9_isRoom 4 = .ok (.invokestatic 66, 3) := by decide +kernel
theorem dX9_isRoom_7 : decode cX9_isRoom 7 = .ok (.ireturn, 1) := by decide +kernel
theorem dX9_isSheet_0 : decode cX9_isSheet 0 = .ok (.iload_n 0, 1) := by decide +kernel
theorem dX9_isSheet_1 : decode cX9_isSheet 1 = .ok (.iconst 0, 1) := by decide +kernel
theorem dX9_isSheet_2 : decode cX9_isSheet 2 = .ok (.iconst 3, 1) := by decide +kernel
theorem dX9_isSheet_3 : decode cX9_isSheet 3 = .ok (.invokestatic 66, 3) := by decide +kernel
theorem dX9_isSheet_6 : decode cX9_isSheet 6 = .ok (.ireturn, 1) := by decide +kernel
theorem dX9_isSlot_0 : decode cX9_isSlot 0 = .ok (.iload_n 0, 1) := by decide +kernel
theorem dX9_isSlot_1 : decode cX9_isSlot 1 = .ok (.iconst 0, 1) := by decide +kernel
theorem dX9_isSlot_2 : decode cX9_isSlot 2 = .ok (.iconst 4, 1) := by decide +kernel
theorem dX9_isSlot_3 : decode cX9_isSlot 3 = .ok (.invokestatic 66, 3) := by decide +kernel
theorem dX9_isSlot_6 : decode cX9_isSlot 6 = .ok (.ireturn, 1) := by decide +kernel
theorem dX9_isWithin_0 : decode cX9_isWithin 0 = .ok (.iload_n 0, 1) := by decide +kernel
theorem dX9_isWithin_1 : decode cX9_isWithin 1 = .ok (.iload_n 1, 1) := by decide +kernel
theorem dX9_isWithin_2 : decode cX9_isWithin 2 = .ok (.if_icmp .lt 12, 3) := by decide +kernel
theorem dX9_isWithin_5 : decode cX9_isWithin 5 = .ok (.iload_n 0, 1) := by decide +kernel
theorem dX9_isWithin_6 : decode cX9_isWithin 6 = .ok (.iload_n 2, 1) := by decide +kernel
theorem dX9_isWithin_7 : decode cX9_isWithin 7 = .ok (.if_icmp .gt 7, 3) := by decide +kernel
theorem dX9_isWithin_10 : decode cX9_isWithin 10 = .ok (.iconst 1, 1) := by decide +kernel
theorem dX9_isWithin_11 : decode cX9_isWithin 11 = .ok (.goto 4, 3) := by decide +kernel
theorem dX9_isWithin_14 : decode cX9_isWithin 14 = .ok (.iconst 0, 1) := by decide +kernel
theorem dX9_isWithin_15 : decode cX9_isWithin 15 = .ok (.ireturn, 1) := by decide +kernel
theorem dX9_heldWithin_0 : decode cX9_heldWithin 0 = .ok (.iload_n 1, 1) := by decide +kernel
theorem dX9_heldWithin_1 : decode cX9_heldWithin 1 = .ok (.iload_n 2, 1) := by decide +kernel
theorem dX9_heldWithin_2 : decode cX9_heldWithin 2 = .ok (.iload_n 0, 1) := by decide +kernel
theorem dX9_heldWithin_3 : decode cX9_heldWithin 3 = .ok (.invokestatic 145, 3) := by decide +kernel
theorem dX9_heldWithin_6 : decode cX9_heldWithin 6 = .ok (.invokestatic 344, 3) := by decide +kernel
theorem dX9_heldWithin_9 : decode cX9_heldWithin 9 = .ok (.ireturn, 1) := by decide +kernel
end
section
theorem dX10_init_0 : decode cX10_init 0 = .ok (.aload_n 0, 1) := by decide +kernel
theorem dX10_init_1 : decode cX10_init 1 = .ok (.invokespecial 1, 3) := by decide +kernel
theorem dX10_init_4 : decode cX10_init 4 = .ok (.aload_n 0, 1) := by decide +kernel
theorem dX10_init_5 : decode cX10_init 5 = .ok (.sipush 1460, 3) := by decide +kernel
theorem dX10_init_8 : decode cX10_init 8 = .ok (.newarray .int, 2) := by decide +kernel
theorem dX10_init_10 : decode cX10_init 10 = .ok (.putfield 9, 3) := by decide +kernel
theorem dX10_init_13 : decode cX10_init 13 = .ok (.aload_n 0, 1) := by decide +kernel
theorem dX10_init_14 : decode cX10_init 14 = .ok (.sipush 1460, 3) := by decide +kernel
theorem dX10_init_17 : decode cX10_init 17 = .ok (.newarray .int, 2) := by decide +kernel
theorem dX10_init_19 : decode cX10_init 19 = .ok (.putfield 13, 3) := by decide +kernel
theorem dX10_init_22 : decode cX10_init 22 = .ok (.aload_n 0, 1) := by decide +kernel
theorem dX10_init_23 : decode cX10_init 23 = .ok (.sipush 1460, 3) := by decide +kernel
theorem dX10_init_26 : decode cX10_init 26 = .ok (.newarray .int, 2) := by decide +kernel
theorem dX10_init_28 : decode cX10_init 28 = .ok (.putfield 16, 3) := by decide +kernel
theorem dX10_init_31 : decode cX10_init 31 = .ok (.aload_n 0, 1) := by decide +kernel
theorem dX10_init_32 : decode cX10_init 32 = .ok (.bipush 10, 2) := by decide +kernel
theorem dX10_init_34 : decode cX10_init 34 = .ok (.newarray .int, 2) := by decide +kernel
theorem dX10_init_36 : decode cX10_init 36 = .ok (.putfield 19, 3) := by decide +kernel
theorem dX10_init_39 : decode cX10_init 39 = .ok (.aload_n 0, 1) := by decide +kernel
theorem dX10_init_40 : decode cX10_init 40 = .ok (.bipush 9, 2) := by decide +kernel
theorem dX10_init_42 : decode cX10_init 42 = .ok (.newarray .int, 2) := by decide +kernel
theorem dX10_init_44 : decode cX10_init 44 = .ok (.putfield 22, 3) := by decide +kernel
theorem dX10_init_47 : decode cX10_init 47 = .ok (.aload_n 0, 1) := by decide +kernel
theorem dX10_init_48 : decode cX10_init 48 = .ok (.bipush 8, 2) := by decide +kernel
theorem dX10_init_50 : decode cX10_init 50 = .ok (.newarray .int, 2) := by decide +kernel
theorem dX10_init_52 : decode cX10_init 52 = .ok (.putfield 25, 3) := by decide +kernel
theorem dX10_init_55 : decode cX10_init 55 = .ok (.aload_n 0, 1) := by decide +kernel
theorem dX10_init_56 : decode cX10_init 56 = .ok (.bipush 8, 2) := by decide +kernel
theorem dX10_init_58 : decode cX10_init 58 = .ok (.newarray .int, 2) := by decide +kernel
theorem dX10_init_60 : decode cX10_init 60 = .ok (.putfield 28, 3) := by decide +kernel
theorem dX10_init_63 : decode cX10_init 63 = .ok (.aload_n 0, 1) := by decide +kernel
theorem dX10_init_64 : decode cX10_init 64 = .ok (.bipush 88, 2) := by decide +kernel
theorem dX10_init_66 : decode cX10_init 66 = .ok (.newarray .int, 2) := by decide +kernel
theorem dX10_init_68 : decode cX10_init 68 = .ok (.putfield 31, 3) := by decide +kernel
theorem dX10_init_71 : decode cX10_init 71 = .ok (.aload_n 0, 1) := by decide +kernel
theorem dX10_init_72 : decode cX10_init 72 = .ok (.bipush 96, 2) := by decide +kernel
theorem dX10_init_74 : decode cX10_init 74 = .ok (.newarray .int, 2) := by decide +kernel
theorem dX10_init_76 : decode cX10_init 76 = .ok (.putfield 34, 3) := by decide +kernel
theorem dX10_init_79 : decode cX10_init 79 = .ok (.aload_n 0, 1) := by decide +kernel
theorem dX10_init_80 : decode cX10_init 80 = .ok (.bipush 12, 2) := by decide +kernel
theorem dX10_init_82 : decode cX10_init 82 = .ok (.newarray .char, 2) := by decide +kernel
theorem dX10_init_84 : decode cX10_init 84 = .ok (.dup, 1) := by decide +kernel
theorem dX10_init_85 : decode cX10_init 85 = .ok (.iconst 0, 1) := by decide +kernel
theorem dX10_init_86 : decode cX10_init 86 = .ok (.bipush 108, 2) := by decide +kernel
theorem dX10_init_88 : decode cX10_init 88 = .ok (.castore, 1) := by decide +kernel
theorem dX10_init_89 : decode cX10_init 89 = .ok (.dup, 1) := by decide +kernel
theorem dX10_init_90 : decode cX10_init 90 = .ok (.iconst 1, 1) := by decide +kernel
theorem dX10_init_91 : decode cX10_init 91 = .ok (.bipush 101, 2) := by decide +kernel
theorem dX10_init_93 : decode cX10_init 93 = .ok (.castore, 1) := by decide +kernel
theorem dX10_init_94 : decode cX10_init 94 = .ok (.dup, 1) := by decide +kernel
theorem dX10_init_95 : decode cX10_init 95 = .ok (.iconst 2, 1) := by decide +kernel
theorem dX10_init_96 : decode cX10_init 96 = .ok (.bipush 116, 2) := by decide +kernel
theorem dX10_init_98 : decode cX10_init 98 = .ok (.castore, 1) := by decide +kernel
theorem dX10_init_99 : decode cX10_init 99 = .ok (.dup, 1) := by decide +kernel
theorem dX10_init_100 : decode cX10_init 100 = .ok (.iconst 3, 1) := by decide +kernel
theorem dX10_init_101 : decode cX10_init 101 = .ok (.bipush 115, 2) := by decide +kernel
theorem dX10_init_103 : decode cX10_init 103 = .ok (.castore, 1) := by decide +kernel
theorem dX10_init_104 : decode cX10_init 104 = .ok (.dup, 1) := by decide +kernel
theorem dX10_init_105 : decode cX10_init 105 = .ok (.iconst 4, 1) := by decide +kernel
theorem dX10_init_106 : decode cX10_init 106 = .ok (.bipush 103, 2) := by decide +kernel
theorem dX10_init_108 : decode cX10_init 108 = .ok (.castore, 1) := by decide +kernel
theorem dX10_init_109 : decode cX10_init 109 = .ok (.dup, 1) := by decide +kernel
theorem dX10_init_110 : decode cX10_init 110 = .ok (.iconst 5, 1) := by decide +kernel
theorem dX10_init_111 : decode cX10_init 111 = .ok (.bipush 117, 2) := by decide +kernel
theorem dX10_init_113 : decode cX10_init 113 = .ok (.castore, 1) := by decide +kernel
theorem dX10_init_114 : decode cX10_init 114 = .ok (.dup, 1) := by decide +kernel
theorem dX10_init_115 : decode cX10_init 115 = .ok (.bipush 6, 2) := by decide +kernel
theorem dX10_init_117 : decode cX10_init 117 = .ok (.bipush 115, 2) := by decide +kernel
theorem dX10_init_119 : decode cX10_init 119 = .ok (.castore, 1) := by decide +kernel
theorem dX10_init_120 : decode cX10_init 120 = .ok (.dup, 1) := by decide +kernel
theorem dX10_init_121 : decode cX10_init 121 = .ok (.bipush 7, 2) := by decide +kernel
theorem dX10_init_123 : decode cX10_init 123 = .ok (.bipush 116, 2) := by decide +kernel
theorem dX10_init_125 : decode cX10_init 125 = .ok (.castore, 1) := by decide +kernel
theorem dX10_init_126 : decode cX10_init 126 = .ok (.dup, 1) := by decide +kernel
theorem dX10_init_127 : decode cX10_init 127 = .ok (.bipush 8, 2) := by decide +kernel
theorem dX10_init_129 : decode cX10_init 129 = .ok (.bipush 102, 2) := by decide +kernel
theorem dX10_init_131 : decode cX10_init 131 = .ok (.castore, 1) := by decide +kernel
theorem dX10_init_132 : decode cX10_init 132 = .ok (.dup, 1) := by decide +kernel
theorem dX10_init_133 : decode cX10_init 133 = .ok (.bipush 9, 2) := by decide +kernel
theorem dX10_init_135 : decode cX10_init 135 = .ok (.bipush 105, 2) := by decide +kernel
theorem dX10_init_137 : decode cX10_init 137 = .ok (.castore, 1) := by decide +kernel
theorem dX10_init_138 : decode cX10_init 138 = .ok (.dup, 1) := by decide +kernel
theorem dX10_init_139 : decode cX10_init 139 = .ok (.bipush 10, 2) := by decide +kernel
theorem dX10_init_141 : decode cX10_init 141 = .ok (.bipush 110, 2) := by decide +kernel
theorem dX10_init_143 : decode cX10_init 143 = .ok (.castore, 1) := by decide +kernel
theorem dX10_init_144 : decode cX10_init 144 = .ok (.dup, 1) := by decide +kernel
theorem dX10_init_145 : decode cX10_init 145 = .ok (.bipush 11, 2) := by decide +kernel
theorem dX10_init_147 : decode cX10_init 147 = .ok (.bipush 101, 2) := by decide +kernel
theorem dX10_init_149 : decode cX10_init 149 = .ok (.castore, 1) := by decide +kernel
theorem dX10_init_150 : decode cX10_init 150 = .ok (.putfield 37, 3) := by decide +kernel
theorem dX10_init_153 : decode cX10_init 153 = .ok (.aload_n 0, 1) := by decide +kernel
theorem dX10_init_154 : decode cX10_init 154 = .ok (.iconst 4, 1) := by decide +kernel
theorem dX10_init_155 : decode cX10_init 155 = .ok (.newarray .int, 2) := by decide +kernel
theorem dX10_init_157 : decode cX10_init 157 = .ok (.dup, 1) := by decide +kernel
theorem dX10_init_158 : decode cX10_init 158 = .ok (.iconst 0, 1) := by decide +kernel
theorem dX10_init_159 : decode cX10_init 159 = .ok (.iconst 0, 1) := by decide +kernel
theorem dX10_init_160 : decode cX10_init 160 = .ok (.iastore, 1) := by decide +kernel
theorem dX10_init_161 : decode cX10_init 161 = .ok (.dup, 1) := by decide +kernel
theorem dX10_init_162 : decode cX10_init 162 = .ok (.iconst 1, 1) := by decide +kernel
theorem dX10_init_163 : decode cX10_init 163 = .ok (.iconst 4, 1) := by decide +kernel
theorem dX10_init_164 : decode cX10_init 164 = .ok (.iastore, 1) := by decide +kernel
theorem dX10_init_165 : decode cX10_init 165 = .ok (.dup, 1) := by decide +kernel
theorem dX10_init_166 : decode cX10_init 166 = .ok (.iconst 2, 1) := by decide +kernel
theorem dX10_init_167 : decode cX10_init 167 = .ok (.bipush 8, 2) := by decide +kernel
theorem dX10_init_169 : decode cX10_init 169 = .ok (.iastore, 1) := by decide +kernel
theorem dX10_init_170 : decode cX10_init 170 = .ok (.dup, 1) := by decide +kernel
theorem dX10_init_171 : decode cX10_init 171 = .ok (.iconst 3, 1) := by decide +kernel
theorem dX10_init_172 : decode cX10_init 172 = .ok (.bipush 12, 2) := by decide +kernel
theorem dX10_init_174 : decode cX10_init 174 = .ok (.iastore, 1) := by decide +kernel
theorem dX10_init_175 : decode cX10_init 175 = .ok (.putfield 41, 3) := by decide +kernel
theorem dX10_init_178 : decode cX10_init 178 = .ok (.aload_n 0, 1) := by decide +kernel
theorem dX10_init_179 : decode cX10_init 179 = .ok (.bipush 96, 2) := by decide +kernel
theorem dX10_init_181 : decode cX10_init 181 = .ok (.newarray .int, 2) := by decide +kernel
theorem dX10_init_183 : decode cX10_init 183 = .ok (.putfield 44, 3) := by decide +kernel
theorem dX10_init_186 : decode cX10_init 186 = .ok (.aload_n 0, 1) := by decide +kernel
theorem dX10_init_187 : decode cX10_init 187 = .ok (.bipush 96, 2) := by decide +kernel
theorem dX10_init_189 : decode cX10_init 189 = .ok (.newarray .int, 2) := by decide +kernel
theorem dX10_init_191 : decode cX10_init 191 = .ok (.putfield 47, 3) := by decide +kernel
theorem dX10_init_194 : decode cX10_init 194 = .ok (.aload_n 0, 1) := by decide +kernel
theorem dX10_init_195 : decode cX10_init 195 = .ok (.bipush 10, 2) := by decide +kernel
theorem dX10_init_197 : decode cX10_init 197 = .ok (.newarray .boolean, 2) := by decide +kernel
theorem dX10_init_199 : decode cX10_init 199 = .ok (.putfield 50, 3) := by decide +kernel
theorem dX10_init_202 : decode cX10_init 202 = .ok (.aload_n 0, 1) := by decide +kernel
theorem dX10_init_203 : decode cX10_init 203 = .ok (.bipush 96, 2) := by decide +kernel
theorem dX10_init_205 : decode cX10_init 205 = .ok (.newarray .int, 2) := by decide +kernel
theorem dX10_init_207 : decode cX10_init 207 = .ok (.putfield 54, 3) := by decide +kernel
theorem dX10_init_210 : decode cX10_init 210 = .ok (.aload_n 0, 1) := by decide +kernel
theorem dX10_init_211 : decode cX10_init 211 = .ok (.iconst 4, 1) := by decide +kernel
theorem dX10_init_212 : decode cX10_init 212 = .ok (.newarray .int, 2) := by decide +kernel
theorem dX10_init_214 : decode cX10_init 214 = .ok (.putfield 57, 3) := by decide +kernel
theorem dX10_init_217 : decode cX10_init 217 = .ok (.aload_n 0, 1) := by decide +kernel
theorem dX10_init_218 : decode cX10_init 218 = .ok (.iconst 4, 1) := by decide +kernel
theorem dX10_init_219 : decode cX10_init 219 = .ok (.newarray .int, 2) := by decide +kernel
theorem dX10_init_221 : decode cX10_init 221 = .ok (.dup, 1) := by decide +kernel
theorem dX10_init_222 : decode cX10_init 222 = .ok (.iconst 0, 1) := by decide +kernel
theorem dX10_init_223 : decode cX10_init 223 = .ok (.iconst (-1), 1) := by decide +kernel
theorem dX10_init_224 : decode cX10_init 224 = .ok (.iastore, 1) := by decide +kernel
theorem dX10_init_225 : decode cX10_init 225 = .ok (.dup, 1) := by decide +kernel
theorem dX10_init_226 : decode cX10_init 226 = .ok (.iconst 1, 1) := by decide +kernel
theorem dX10_init_227 : decode cX10_init 227 = .ok (.iconst (-1), 1) := by decide +kernel
theorem dX10_init_228 : decode cX10_init 228 = .ok (.iastore, 1) := by decide +kernel
theorem dX10_init_229 : decode cX10_init 229 = .ok (.dup, 1) := by decide +kernel
theorem dX10_init_230 : decode cX10_init 230 = .ok (.iconst 2, 1) := by decide +kernel
theorem dX10_init_231 : decode cX10_init 231 = .ok (.iconst (-1), 1) := by decide +kernel
theorem dX10_init_232 : decode cX10_init 232 = .ok (.iastore, 1) := by decide +kernel
theorem dX10_init_233 : decode cX10_init 233 = .ok (.dup, 1) := by decide +kernel
theorem dX10_init_234 : decode cX10_init 234 = .ok (.iconst 3, 1) := by decide +kernel
theorem dX10_init_235 : decode cX10_init 235 = .ok (.iconst (-1), 1) := by decide +kernel
theorem dX10_init_236 : decode cX10_init 236 = .ok (.iastore, 1) := by decide +kernel
theorem dX10_init_237 : decode cX10_init 237 = .ok (.putfield 60, 3) := by decide +kernel
theorem dX10_init_240 : decode cX10_init 240 = .ok (.aload_n 0, 1) := by decide +kernel
theorem dX10_init_241 : decode cX10_init 241 = .ok (.iconst 4, 1) := by decide +kernel
theorem dX10_init_242 : decode cX10_init 242 = .ok (.newarray .int, 2) := by decide +kernel
theorem dX10_init_244 : decode cX10_init 244 = .ok (.putfield 63, 3) := by decide +kernel
theorem dX10_init_247 : decode cX10_init 247 = .ok (.aload_n 0, 1) := by decide +kernel
theorem dX10_init_248 : decode cX10_init 248 = .ok (.bipush 96, 2) := by decide +kernel
theorem dX10_init_250 : decode cX10_init 250 = .ok (.newarray .int, 2) := by decide +kernel
theorem dX10_init_252 : decode cX10_init 252 = .ok (.putfield 66, 3) := by decide +kernel
theorem dX10_init_255 : decode cX10_init 255 = .ok (.aload_n 0, 1) := by decide +kernel
theorem dX10_init_256 : decode cX10_init 256 = .ok (.iconst 5, 1) := by decide +kernel
theorem dX10_init_257 : decode cX10_init 257 = .ok (.newarray .int, 2) := by decide +kernel
theorem dX10_init_259 : decode cX10_init 259 = .ok (.putfield 69, 3) := by decide +kernel
theorem dX10_init_262 : decode cX10_init 262 = .ok (.aload_n 0, 1) := by decide +kernel
theorem dX10_init_263 : decode cX10_init 263 = .ok (.iconst 5, 1) := by decide +kernel
theorem dX10_init_264 : decode cX10_init 264 = .ok (.newarray .int, 2) := by decide +kernel
theorem dX10_init_266 : decode cX10_init 266 = .ok (.putfield 72, 3) := by decide +kernel
theorem dX10_init_269 : decode cX10_init 269 = .ok (.aload_n 0, 1) := by decide +kernel
theorem dX10_init_270 : decode cX10_init 270 = .ok (.iconst 5, 1) := by decide +kernel
theorem dX10_init_271 : decode cX10_init 271 = .ok (.newarray .int, 2) := by decide +kernel
theorem dX10_init_273 : decode cX10_init 273 = .ok (.putfield 75, 3) := by decide +kernel
theorem dX10_init_276 : decode cX10_init 276 = .ok (.aload_n 0, 1) := by decide +kernel
theorem dX10_init_277 : decode cX10_init 277 = .ok (.bipush 120, 2) := by decide +kernel
theorem dX10_init_279 : decode cX10_init 279 = .ok (.newarray .int, 2) := by decide +kernel
theorem dX10_init_281 : decode cX10_init 281 = .ok (.putfield 78, 3) := by decide +kernel
theorem dX10_init_284 : decode cX10_init 284 = .ok (.aload_n 0, 1) := by decide +kernel
theorem dX10_init_285 : decode cX10_init 285 = .ok (.bipush 24, 2) := by decide +kernel
theorem dX10_init_287 : decode cX10_init 287 = .ok (.newarray .int, 2) := by decide +kernel
theorem dX10_init_289 : decode cX10_init 289 = .ok (.putfield 81, 3) := by decide +kernel
theorem dX10_init_292 : decode cX10_init 292 = .ok (.aload_n 0, 1) := by decide +kernel
theorem dX10_init_293 : decode cX10_init 293 = .ok (.bipush 60, 2) := by decide +kernel
theorem dX10_init_295 : decode cX10_init 295 = .ok (.newarray .int, 2) := by decide +kernel
theorem dX10_init_297 : decode cX10_init 297 = .ok (.putfield 84, 3) := by decide +kernel
theorem dX10_init_300 : decode cX10_init 300 = .ok (.aload_n 0, 1) := by decide +kernel
theorem dX10_init_301 : decode cX10_init 301 = .ok (.getfield 9, 3) := by decide +kernel
theorem dX10_init_304 : decode cX10_init 304 = .ok (.iconst 0, 1) := by decide +kernel
theorem dX10_init_305 : decode cX10_init 305 = .ok (.iconst 1, 1) := by decide +kernel
theorem dX10_init_306 : decode cX10_init 306 = .ok (.iastore, 1) := by decide +kernel
theorem dX10_init_307 : decode cX10_init 307 = .ok (.aload_n 0, 1) := by decide +kernel
theorem dX10_init_308 : decode cX10_init 308 = .ok (.getfield 9, 3) := by decide +kernel
theorem dX10_init_311 : decode cX10_init 311 = .ok (.iconst 3, 1) := by decide +kernel
theorem dX10_init_312 : decode cX10_init 312 = .ok (.sipush 1000, 3) := by decide +kernel
theorem dX10_init_315 : decode cX10_init 315 = .ok (.iastore, 1) := by decide +kernel
theorem dX10_init_316 : decode cX10_init 316 = .ok (.iconst 0, 1) := by decide +kernel
theorem dX10_init_317 : decode cX10_init 317 = .ok (.istore_n 1, 1) := by decide +kernel
theorem dX10_init_318 : decode cX10_init 318 = .ok (.iload_n 1, 1) := by decide +kernel
theorem dX10_init_319 : decode cX10_init 319 = .ok (.bipush 8, 2) := by decide +kernel
theorem dX10_init_321 : decode cX10_init 321 = .ok (.if_icmp .ge 23, 3) := by decide +kernel
theorem dX10_init_324 : decode cX10_init 324 = .ok (.aload_n 0, 1) := by decide +kernel
theorem dX10_init_325 : decode cX10_init 325 = .ok (.getfield 9, 3) := by decide +kernel
theorem dX10_init_328 : decode cX10_init 328 = .ok (.bipush 6, 2) := by decide +kernel
theorem dX10_init_330 : decode cX10_init 330 = .ok (.iconst 4, 1) := by decide +kernel
theorem dX10_init_331 : decode cX10_init 331 = .ok (.iload_n 1, 1) := by decide +kernel
theorem dX10_init_332 : decode cX10_init 332 = .ok (.imul, 1) := by decide +kernel
theorem dX10_init_333 : decode cX10_init 333 = .ok (.iadd, 1) := by decide +kernel
theorem dX10_init_334 : decode cX10_init 334 = .ok (.sipush 1000, 3) := by decide +kernel
theorem dX10_init_337 : decode cX10_init 337 = .ok (.iastore, 1) := by decide +kernel
theorem dX10_init_338 : decode cX10_init 338 = .ok (.iinc 1 1, 3) := by decide +kernel
theorem dX10_init_341 : decode cX10_init 341 = .ok (.goto (-23), 3) := by decide +kernel
theorem dX10_init_344 : decode cX10_init 344 = .ok (.return_, 1) := by decide +kernel
theorem dX10_in_0 : decode cX10_in 0 = .ok (.iload_n 0, 1) := by decide +kernel
theorem dX10_in_1 : decode cX10_in 1 = .ok (.iload_n 1, 1) := by decide +kernel
theorem dX10_in_2 : decode cX10_in 2 = .ok (.if_icmp .lt 12, 3) := by decide +kernel
theorem dX10_in_5 : decode cX10_in 5 = .ok (.iload_n 0, 1) := by decide +kernel
theorem dX10_in_6 : decode cX10_in 6 = .ok (.iload_n 2, 1) := by decide +kernel
theorem dX10_in_7 : decode cX10_in 7 = .ok (.if_icmp .gt 7, 3) := by decide +kernel
theorem dX10_in_10 : decode cX10_in 10 = .ok (.iconst 1, 1) := by decide +kernel
theorem dX10_in_11 : decode cX10_in 11 = .ok (.goto 4, 3) := by decide +kernel
theorem dX10_in_14 : decode cX10_in 14 = .ok (.iconst 0, 1) := by decide +kernel
theorem dX10_in_15 : decode cX10_in 15 = .ok (.ireturn, 1) := by decide +kernel
theorem dX10_within_0 : decode cX10_within 0 = .ok (.iload_n 0, 1) := by decide +kernel
theorem dX10_within_1 : decode cX10_within 1 = .ok (.iload_n 1, 1) := by decide +kernel
theorem dX10_within_2 : decode cX10_within 2 = .ok (.if_icmp .ge 7, 3) := by decide +kernel
theorem dX10_within_5 : decode cX10_within 5 = .ok (.iload_n 1, 1) := by decide +kernel
theorem dX10_within_6 : decode cX10_within 6 = .ok (.goto 13, 3) := by decide +kernel
theorem dX10_within_9 : decode cX10_within 9 = .ok (.iload_n 0, 1) := by decide +kernel
theorem dX10_within_10 : decode cX10_within 10 = .ok (.iload_n 2, 1) := by decide +kernel
theorem dX10_within_11 : decode cX10_within 11 = .ok (.if_icmp .le 7, 3) := by decide +kernel
theorem dX10_within_14 : decode cX10_within 14 = .ok (.iload_n 2, 1) := by decide +kernel
theorem dX10_within_15 : decode cX10_within 15 = .ok (.goto 4, 3) := by decide +kernel
theorem dX10_within_18 : decode cX10_within 18 = .ok (.iload_n 0, 1) := by decide +kernel
theorem dX10_within_19 : decode cX10_within 19 = .ok (.ireturn, 1) := by decide +kernel
theorem dX10_copyAll_0 : decode cX10_copyAll 0 = .ok (.iconst 0, 1) := by decide +kernel
theorem dX10_copyAll_1 : decode cX10_copyAll 1 = .ok (.istore_n 2, 1) := by decide +kernel
theorem dX10_copyAll_2 : decode cX10_copyAll 2 = .ok (.iload_n 2, 1) := by decide +kernel
theorem dX10_copyAll_3 : decode cX10_copyAll 3 = .ok (.sipush 1460, 3) := by decide +kernel
theorem dX10_copyAll_6 : decode cX10_copyAll 6 = .ok (.if_icmp .ge 15, 3) := by decide +kernel
theorem dX10_copyAll_9 : decode cX10_copyAll 9 = .ok (.aload_n 1, 1) := by decide +kernel
theorem dX10_copyAll_10 : decode cX10_copyAll 10 = .ok (.iload_n 2, 1) := by decide +kernel
theorem dX10_copyAll_11 : decode cX10_copyAll 11 = .ok (.aload_n 0, 1) := by decide +kernel
theorem dX10_copyAll_12 : decode cX10_copyAll 12 = .ok (.iload_n 2, 1) := by decide +kernel
theorem dX10_copyAll_13 : decode cX10_copyAll 13 = .ok (.iaload, 1) := by decide +kernel
theorem dX10_copyAll_14 : decode cX10_copyAll 14 = .ok (.iastore, 1) := by decide +kernel
theorem dX10_copyAll_15 : decode cX10_copyAll 15 = .ok (.iinc 2 1, 3) := by decide +kernel
theorem dX10_copyAll_18 : decode cX10_copyAll 18 = .ok (.goto (-16), 3) := by decide +kernel
theorem dX10_copyAll_21 : decode cX10_copyAll 21 = .ok (.return_, 1) := by decide +kernel
theorem dX10_isDoor_0 : decode cX10_isDoor 0 = .ok (.iload_n 1, 1) := by decide +kernel
theorem dX10_isDoor_1 : decode cX10_isDoor 1 = .ok (.iconst 0, 1) := by decide +kernel
theorem dX10_isDoor_2 : decode cX10_isDoor 2 = .ok (.aload_n 0, 1) := by decide +kernel
theorem dX10_isDoor_3 : decode cX10_isDoor 3 = .ok (.getfield 9, 3) := by decide +kernel
theorem dX10_isDoor_6 : decode cX10_isDoor 6 = .ok (.iconst 1, 1) := by decide +kernel
theorem dX10_isDoor_7 : decode cX10_isDoor 7 = .ok (.iaload, 1) := by decide +kernel
theorem dX10_isDoor_8 : decode cX10_isDoor 8 = .ok (.iconst 1, 1) := by decide +kernel
theorem dX10_isDoor_9 : decode cX10_isDoor 9 = .ok (.isub, 1) := by decide +kernel
theorem dX10_isDoor_10 : decode cX10_isDoor 10 = .ok (.invokestatic 87, 3) := by decide +kernel
theorem dX10_isDoor_13 : decode cX10_isDoor 13 = .ok (.ireturn, 1) := by decide +kernel
theorem dX10_isRoom_0 : decode cX10_isRoom 0 = .ok (.iload_n 0, 1) := by decide +kernel
theorem dX10_isRoom_1 : decode cX10_isRoom 1 = .ok (.iconst 0, 1) := by decide +kernel
theorem dX10_isRoom_2 : decode cX10_isRoom 2 = .ok (.bipush 7, 2) := by decide +kernel
theorem dX10_isRoom_4 : decode cX10_isRoom 4 = .ok (.invokestatic 87, 3) := by decide +kernel
theorem dX10_isRoom_7 : decode cX10_isRoom 7 = .ok (.ireturn, 1) := by decide +kernel
theorem dX10_of_0 : decode cX10_of 0 = .ok (.aload_n 0, 1) := by decide +kernel
theorem dX10_of_1 : decode cX10_of 1 = .ok (.getfield 9, 3) := by decide +kernel
theorem dX10_of_4 : decode cX10_of 4 = .ok (.bipush 38, 2) := by decide +kernel
theorem dX10_of_6 : decode cX10_of 6 = .ok (.iconst 5, 1) := by decide +kernel
theorem dX10_of_7 : decode cX10_of 7 = .ok (.iload_n 1, 1) := by decide +kernel
theorem dX10_of_8 : decode cX10_of 8 = .ok (.imul, 1) := by decide +kernel
theorem dX10_of_9 : decode cX10_of 9 = .ok (.iadd, 1) := by decide +kernel
theorem dX10_of_10 : decode cX10_of 10 = .ok (.iload_n 2, 1) := by decide +kernel
theorem dX10_of_11 : decode cX10_of 11 = .ok (.iadd, 1) := by decide +kernel
theorem dX10_of_12 : decode cX10_of 12 = .ok (.iaload, 1) := by decide +kernel
theorem dX10_of_13 : decode cX10_of 13 = .ok (.ireturn, 1) := by decide +kernel
theorem dX10_at0_0 : decode cX10_at0 0 = .ok (.aload_n 0, 1) := by decide +kernel
theorem dX10_at0_1 : decode cX10_at0 1 = .ok (.getfield 9, 3) := by decide +kernel
theorem dX10_at0_4 : decode cX10_at0 4 = .ok (.bipush 6, 2) := by decide +kernel
theorem dX10_at0_6 : decode cX10_at0 6 = .ok (.iconst 4, 1) := by decide +kernel
theorem dX10_at0_7 : decode cX10_at0 7 = .ok (.iload_n 1, 1) := by decide +kernel
theorem dX10_at0_8 : decode cX10_at0 8 = .ok (.imul, 1) := by decide +kernel
theorem dX10_at0_9 : decode cX10_at0 9 = .ok (.iadd, 1) := by decide +kernel
theorem dX10_at0_10 : decode cX10_at0 10 = .ok (.iload_n 2, 1) := by decide +kernel
theorem dX10_at0_11 : decode cX10_at0 11 = .ok (.iadd, 1) := by decide +kernel
theorem dX10_at0_12 : decode cX10_at0 12 = .ok (.iaload, 1) := by decide +kernel
theorem dX10_at0_13 : decode cX10_at0 13 = .ok (.ireturn, 1) := by decide +kernel
theorem dX10_becomes_0 : decode cX10_becomes 0 = .ok (.aload_n 0, 1) := by decide +kernel
theorem dX10_becomes_1 : decode cX10_becomes 1 = .ok (.getfield 9, 3) := by decide +kernel
theorem dX10_becomes_4 : decode cX10_becomes 4 = .ok (.iload_n 1, 1) := by decide +kernel
theorem dX10_becomes_5 : decode cX10_becomes 5 = .ok (.iaload, 1) := by decide +kernel
theorem dX10_becomes_6 : decode cX10_becomes 6 = .ok (.istore_n 3, 1) := by decide +kernel
theorem dX10_becomes_7 : decode cX10_becomes 7 = .ok (.aload_n 0, 1) := by decide +kernel
theorem dX10_becomes_8 : decode cX10_becomes 8 = .ok (.getfield 9, 3) := by decide +kernel
theorem dX10_becomes_11 : decode cX10_becomes 11 = .ok (.iload_n 1, 1) := by decide +kernel
theorem dX10_becomes_12 : decode cX10_becomes 12 = .ok (.iload_n 2, 1) := by decide +kernel
theorem dX10_becomes_13 : decode cX10_becomes 13 = .ok (.iastore, 1) := by decide +kernel
theorem dX10_becomes_14 : decode cX10_becomes 14 = .ok (.iload_n 3, 1) := by decide +kernel
theorem dX10_becomes_15 : decode cX10_becomes 15 = .ok (.ireturn, 1) := by decide +kernel
theorem dX10_comes_0 : decode cX10_comes 0 = .ok (.bipush 38, 2) := by decide +kernel
theorem dX10_comes_2 : decode cX10_comes 2 = .ok (.iconst 5, 1) := by decide +kernel
theorem dX10_comes_3 : decode cX10_comes 3 = .ok (.aload_n 0, 1) := by decide +kernel
theorem dX10_comes_4 : decode cX10_comes 4 = .ok (.getfield 9, 3) := by decide +kernel
theorem dX10_comes_7 : decode cX10_comes 7 = .ok (.iconst 1, 1) := by decide +kernel
theorem dX10_comes_8 : decode cX10_comes 8 = .ok (.iaload, 1) := by decide +kernel
theorem dX10_comes_9 : decode cX10_comes 9 = .ok (.imul, 1) := by decide +kernel
theorem dX10_comes_10 : decode cX10_comes 10 = .ok (.iadd, 1) := by decide +kernel
theorem dX10_comes_11 : decode cX10_comes 11 = .ok (.istore 6, 2) := by decide +kernel
theorem dX10_comes_13 : decode cX10_comes 13 = .ok (.aload_n 0, 1) := by decide +kernel
theorem dX10_comes_14 : decode cX10_comes 14 = .ok (.getfield 9, 3) := by decide +kernel
theorem dX10_comes_17 : decode cX10_comes 17 = .ok (.iload 6, 2) := by decide +kernel
theorem dX10_comes_19 : decode cX10_comes 19 = .ok (.iload_n 1, 1) := by decide +kernel
theorem dX10_comes_20 : decode cX10_comes 20 = .ok (.iastore, 1) := by decide +kernel
theorem dX10_comes_21 : decode cX10_comes 21 = .ok (.aload_n 0, 1) := by decide +kernel
theorem dX10_comes_22 : decode cX10_comes 22 = .ok (.getfield 9, 3) := by decide +kernel
theorem dX10_comes_25 : decode cX10_comes 25 = .ok (.iload 6, 2) := by decide +kernel
theorem dX10_comes_27 : decode cX10_comes 27 = .ok (.iconst 1, 1) := by decide +kernel
theorem dX10_comes_28 : decode cX10_comes 28 = .ok (.iadd, 1) := by decide +kernel
theorem dX10_comes_29 : decode cX10_comes 29 = .ok (.iload_n 2, 1) := by decide +kernel
theorem dX10_comes_30 : decode cX10_comes 30 = .ok (.iastore, 1) := by decide +kernel
theorem dX10_comes_31 : decode cX10_comes 31 = .ok (.aload_n 0, 1) := by decide +kernel
theorem dX10_comes_32 : decode cX10_comes 32 = .ok (.getfield 9, 3) := by decide +kernel
theorem dX10_comes_35 : decode cX10_comes 35 = .ok (.iload 6, 2) := by decide +kernel
theorem dX10_comes_37 : decode cX10_comes 37 = .ok (.iconst 2, 1) := by decide +kernel
theorem dX10_comes_38 : decode cX10_comes 38 = .ok (.iadd, 1) := by decide +kernel
theorem dX10_comes_39 : decode cX10_comes 39 = .ok (.iload_n 3, 1) := by decide +kernel
theorem dX10_comes_40 : decode cX10_comes 40 = .ok (.iastore, 1) := by decide +kernel
theorem dX10_comes_41 : decode cX10_comes 41 = .ok (.aload_n 0, 1) := by decide +kernel
theorem dX10_comes_42 : decode cX10_comes 42 = .ok (.getfield 9, 3) := by decide +kernel
theorem dX10_comes_45 : decode cX10_comes 45 = .ok (.iload 6, 2) := by decide +kernel
theorem dX10_comes_47 : decode cX10_comes 47 = .ok (.iconst 3, 1) := by decide +kernel
theorem dX10_comes_48 : decode cX10_comes 48 = .ok (.iadd, 1) := by decide +kernel
theorem dX10_comes_49 : decode cX10_comes 49 = .ok (.iload 4, 2) := by decide +kernel
theorem dX10_comes_51 : decode cX10_comes 51 = .ok (.iastore, 1) := by decide +kernel
theorem dX10_comes_52 : decode cX10_comes 52 = .ok (.aload_n 0, 1) := by decide +kernel
theorem dX10_comes_53 : decode cX10_comes 53 = .ok (.getfield 9, 3) := by decide +kernel
theorem dX10_comes_56 : decode cX10_comes 56 = .ok (.iload 6, 2) := by decide +kernel
theorem dX10_comes_58 : decode cX10_comes 58 = .ok (.iconst 4, 1) := by decide +kernel
theorem dX10_comes_59 : decode cX10_comes 59 = .ok (.iadd, 1) := by decide +kernel
theorem dX10_comes_60 : decode cX10_comes 60 = .ok (.iload 5, 2) := by decide +kernel
theorem dX10_comes_62 : decode cX10_comes 62 = .ok (.iastore, 1) := by decide +kernel
theorem dX10_comes_63 : decode cX10_comes 63 = .ok (.aload_n 0, 1) := by decide +kernel
theorem dX10_comes_64 : decode cX10_comes 64 = .ok (.getfield 9, 3) := by decide +kernel
theorem dX10_comes_67 : decode cX10_comes 67 = .ok (.iconst 1, 1) := by decide +kernel
theorem dX10_comes_68 : decode cX10_comes 68 = .ok (.dup2, 1) := by decide +kernel
theorem dX10_comes_69 : decode cX10_comes 69 = .ok (.iaload, 1) := by decide +kernel
theorem dX10_comes_70 : decode cX10_comes 70 = .ok (.iconst 1, 1) := by decide +kernel
theorem dX10_comes_71 : decode cX10_comes 71 = .ok (.iadd, 1) := by decide +kernel
theorem dX10_comes_72 : decode cX10_comes 72 = .ok (.iastore, 1) := by decide +kernel
theorem dX10_comes_73 : decode cX10_comes 73 = .ok (.aload_n 0, 1) := by decide +kernel
theorem dX10_comes_74 : decode cX10_comes 74 = .ok (.getfield 9, 3) := by decide +kernel
theorem dX10_comes_77 : decode cX10_comes 77 = .ok (.iconst 1, 1) := by decide +kernel
theorem dX10_comes_78 : decode cX10_comes 78 = .ok (.iaload, 1) := by decide +kernel
theorem dX10_comes_79 : decode cX10_comes 79 = .ok (.iconst 1, 1) := by decide +kernel
theorem dX10_comes_80 : decode cX10_comes 80 = .ok (.isub, 1) := by decide +kernel
theorem dX10_comes_81 : decode cX10_comes 81 = .ok (.ireturn, 1) := by decide +kernel
theorem dX10_door_0 : decode cX10_door 0 = .ok (.iload_n 1, 1) := by decide +kernel
theorem dX10_door_1 : decode cX10_door 1 = .ok (.iconst 0, 1) := by decide +kernel
theorem dX10_door_2 : decode cX10_door 2 = .ok (.iconst 5, 1) := by decide +kernel
theorem dX10_door_3 : decode cX10_door 3 = .ok (.invokestatic 87, 3) := by decide +kernel
theorem dX10_door_6 : decode cX10_door 6 = .ok (.ifCond .eq 36, 3) := by decide +kernel
theorem dX10_door_9 : decode cX10_door 9 = .ok (.iload_n 2, 1) := by decide +kernel
theorem dX10_door_10 : decode cX10_door 10 = .ok (.invokestatic 91, 3) := by decide +kernel
theorem dX10_door_13 : decode cX10_door 13 = .ok (.ifCond .eq 29, 3) := by decide +kernel
theorem dX10_door_16 : decode cX10_door 16 = .ok (.iload_n 3, 1) := by decide +kernel
theorem dX10_door_17 : decode cX10_door 17 = .ok (.iconst 0, 1) := by decide +kernel
theorem dX10_door_18 : decode cX10_door 18 = .ok (.bipush 8, 2) := by decide +kernel
theorem dX10_door_20 : decode cX10_door 20 = .ok (.invokestatic 87, 3) := by decide +kernel
theorem dX10_door_23 : decode cX10_door 23 = .ok (.ifCond .eq 19, 3) := by decide +kernel
theorem dX10_door_26 : decode cX10_door 26 = .ok (.iload_n 2, 1) := by decide +kernel
theorem dX10_door_27 : decode cX10_door 27 = .ok (.iload_n 3, 1) := by decide +kernel
theorem dX10_door_28 : decode cX10_door 28 = .ok (.if_icmp .eq 14, 3) := by decide +kernel
theorem dX10_door_31 : decode cX10_door 31 = .ok (.iload 4, 2) := by decide +kernel
theorem dX10_door_33 : decode cX10_door 33 = .ok (.iconst 1, 1) := by decide +kernel
theorem dX10_door_34 : decode cX10_door 34 = .ok (.bipush 9, 2) := by decide +kernel
theorem dX10_door_36 : decode cX10_door 36 = .ok (.invokestatic 87, 3) := by decide +kernel
theorem dX10_door_39 : decode cX10_door 39 = .ok (.ifCond .ne 6, 3) := by decide +kernel
theorem dX10_door_42 : decode cX10_door 42 = .ok (.ldc 95, 2) := by decide +kernel
theorem dX10_door_44 : decode cX10_door 44 = .ok (.ireturn, 1) := by decide +kernel
theorem dX10_door_45 : decode cX10_door 45 = .ok (.aload_n 0, 1) := by decide +kernel
theorem dX10_door_46 : decode cX10_door 46 = .ok (.getfield 9, 3) := by decide +kernel
theorem dX10_door_49 : decode cX10_door 49 = .ok (.iconst 1, 1) := by decide +kernel
theorem dX10_door_50 : decode cX10_door 50 = .ok (.iaload, 1) := by decide +kernel
theorem dX10_door_51 : decode cX10_door 51 = .ok (.bipush 10, 2) := by decide +kernel
theorem dX10_door_53 : decode cX10_door 53 = .ok (.if_icmp .ne 8, 3) := by decide +kernel
theorem dX10_door_56 : decode cX10_door 56 = .ok (.ldc 96, 2) := by decide +kernel
theorem dX10_door_58 : decode cX10_door 58 = .ok (.goto 13, 3) := by decide +kernel
theorem dX10_door_61 : decode cX10_door 61 = .ok (.aload_n 0, 1) := by decide +kernel
theorem dX10_door_62 : decode cX10_door 62 = .ok (.iload_n 1, 1) := by decide +kernel
theorem dX10_door_63 : decode cX10_door 63 = .ok (.iload_n 2, 1) := by decide +kernel
theorem dX10_door_64 : decode cX10_door 64 = .ok (.iload_n 3, 1) := by decide +kernel
theorem dX10_door_65 : decode cX10_door 65 = .ok (.iload 4, 2) := by decide +kernel
theorem dX10_door_67 : decode cX10_door 67 = .ok (.iconst 0, 1) := by decide +kernel
theorem dX10_door_68 : decode cX10_door 68 = .ok (.invokevirtual 97, 3) := by decide +kernel
theorem dX10_door_71 : decode cX10_door 71 = .ok (.ireturn, 1) := by decide +kernel
theorem dX10_letsOf_0 : decode cX10_letsOf 0 = .ok (.aload_n 0, 1) := by decide +kernel
theorem dX10_letsOf_1 : decode cX10_letsOf 1 = .ok (.iload_n 1, 1) := by decide +kernel
theorem dX10_letsOf_2 : decode cX10_letsOf 2 = .ok (.iconst 4, 1) := by decide +kernel
theorem dX10_letsOf_3 : decode cX10_letsOf 3 = .ok (.invokevirtual 101, 3) := by decide +kernel
theorem dX10_letsOf_6 : decode cX10_letsOf 6 = .ok (.iconst 1, 1) := by decide +kernel
theorem dX10_letsOf_7 : decode cX10_letsOf 7 = .ok (.if_icmp .ne 7, 3) := by decide +kernel
theorem dX10_letsOf_10 : decode cX10_letsOf 10 = .ok (.iconst 1, 1) := by decide +kernel
theorem dX10_letsOf_11 : decode cX10_letsOf 11 = .ok (.goto 4, 3) := by decide +kernel
theorem dX10_letsOf_14 : decode cX10_letsOf 14 = .ok (.iconst 0, 1) := by decide +kernel
theorem dX10_letsOf_15 : decode cX10_letsOf 15 = .ok (.istore_n 2, 1) := by decide +kernel
theorem dX10_letsOf_16 : decode cX10_letsOf 16 = .ok (.aload_n 0, 1) := by decide +kernel
theorem dX10_letsOf_17 : decode cX10_letsOf 17 = .ok (.iconst 0, 1) := by decide +kernel
theorem dX10_letsOf_18 : decode cX10_letsOf 18 = .ok (.invokevirtual 105, 3) := by decide +kernel
theorem dX10_letsOf_21 : decode cX10_letsOf 21 = .ok (.istore_n 3, 1) := by decide +kernel
theorem dX10_letsOf_22 : decode cX10_letsOf 22 = .ok (.aload_n 0, 1) := by decide +kernel
theorem dX10_letsOf_23 : decode cX10_letsOf 23 = .ok (.getfield 57, 3) := by decide +kernel
theorem dX10_letsOf_26 : decode cX10_letsOf 26 = .ok (.iconst 0, 1) := by decide +kernel
theorem dX10_letsOf_27 : decode cX10_letsOf 27 = .ok (.aload_n 0, 1) := by decide +kernel
theorem dX10_letsOf_28 : decode cX10_letsOf 28 = .ok (.iload_n 1, 1) := by decide +kernel
theorem dX10_letsOf_29 : decode cX10_letsOf 29 = .ok (.iconst 3, 1) := by decide +kernel
theorem dX10_letsOf_30 : decode cX10_letsOf 30 = .ok (.invokevirtual 101, 3) := by decide +kernel
theorem dX10_letsOf_33 : decode cX10_letsOf 33 = .ok (.iastore, 1) := by decide +kernel
theorem dX10_letsOf_34 : decode cX10_letsOf 34 = .ok (.aload_n 0, 1) := by decide +kernel
theorem dX10_letsOf_35 : decode cX10_letsOf 35 = .ok (.getfield 57, 3) := by decide +kernel
theorem dX10_letsOf_38 : decode cX10_letsOf 38 = .ok (.iconst 1, 1) := by decide +kernel
theorem dX10_letsOf_39 : decode cX10_letsOf 39 = .ok (.aload_n 0, 1) := by decide +kernel
theorem dX10_letsOf_40 : decode cX10_letsOf 40 = .ok (.iload_n 1, 1) := by decide +kernel
theorem dX10_letsOf_41 : decode cX10_letsOf 41 = .ok (.iconst 4, 1) := by decide +kernel
theorem dX10_letsOf_42 : decode cX10_letsOf 42 = .ok (.invokevirtual 101, 3) := by decide +kernel
theorem dX10_letsOf_45 : decode cX10_letsOf 45 = .ok (.iastore, 1) := by decide +kernel
theorem dX10_letsOf_46 : decode cX10_letsOf 46 = .ok (.iload_n 3, 1) := by decide +kernel
theorem dX10_letsOf_47 : decode cX10_letsOf 47 = .ok (.ifCond .ge 23, 3) := by decide +kernel
theorem dX10_letsOf_50 : decode cX10_letsOf 50 = .ok (.iload_n 2, 1) := by decide +kernel
theorem dX10_letsOf_51 : decode cX10_letsOf 51 = .ok (.ifCond .eq 15, 3) := by decide +kernel
theorem dX10_letsOf_54 : decode cX10_letsOf 54 = .ok (.bipush 6, 2) := by decide +kernel
theorem dX10_letsOf_56 : decode cX10_letsOf 56 = .ok (.aload_n 0, 1) := by decide +kernel
theorem dX10_letsOf_57 : decode cX10_letsOf 57 = .ok (.iload_n 1, 1) := by decide +kernel
theorem dX10_letsOf_58 : decode cX10_letsOf 58 = .ok (.iconst 3, 1) := by decide +kernel
theorem dX10_letsOf_59 : decode cX10_letsOf 59 = .ok (.invokevirtual 101, 3) := by decide +kernel
theorem dX10_letsOf_62 : decode cX10_letsOf 62 = .ok (.imul, 1) := by decide +kernel
theorem dX10_letsOf_63 : decode cX10_letsOf 63 = .ok (.goto 18, 3) := by decide +kernel
theorem dX10_letsOf_66 : decode cX10_letsOf 66 = .ok (.iconst 0, 1) := by decide +kernel
theorem dX10_letsOf_67 : decode cX10_letsOf 67 = .ok (.goto 14, 3) := by decide +kernel
theorem dX10_letsOf_70 : decode cX10_letsOf 70 = .ok (.aload_n 0, 1) := by decide +kernel
theorem dX10_letsOf_71 : decode cX10_letsOf 71 = .ok (.iload_n 3, 1) := by decide +kernel
theorem dX10_letsOf_72 : decode cX10_letsOf 72 = .ok (.invokevirtual 109, 3) := by decide +kernel
theorem dX10_letsOf_75 : decode cX10_letsOf 75 = .ok (.iconst 0, 1) := by decide +kernel
theorem dX10_letsOf_76 : decode cX10_letsOf 76 = .ok (.bipush 60, 2) := by decide +kernel
theorem dX10_letsOf_78 : decode cX10_letsOf 78 = .ok (.invokestatic 112, 3) := by decide +kernel
theorem dX10_letsOf_81 : decode cX10_letsOf 81 = .ok (.istore 4, 2) := by decide +kernel
theorem dX10_letsOf_83 : decode cX10_letsOf 83 = .ok (.aload_n 0, 1) := by decide +kernel
theorem dX10_letsOf_84 : decode cX10_letsOf 84 = .ok (.iload_n 1, 1) := by decide +kernel
theorem dX10_letsOf_85 : decode cX10_letsOf 85 = .ok (.iconst 0, 1) := by decide +kernel
theorem dX10_letsOf_86 : decode cX10_letsOf 86 = .ok (.invokevirtual 101, 3) := by decide +kernel
theorem dX10_letsOf_89 : decode cX10_letsOf 89 = .ok (.tableswitch 76 1 5 #[35, 40, 45, 58, 69], 35) := by decide +kernel
theorem dX10_letsOf_124 : decode cX10_letsOf 124 = .ok (.iload 4, 2) := by decide +kernel
theorem dX10_letsOf_126 : decode cX10_letsOf 126 = .ok (.iconst 2, 1) := by decide +kernel
theorem dX10_letsOf_127 : decode cX10_letsOf 127 = .ok (.idiv, 1) := by decide +kernel
theorem dX10_letsOf_128 : decode cX10_letsOf 128 = .ok (.ireturn, 1) := by decide +kernel
theorem dX10_letsOf_129 : decode cX10_letsOf 129 = .ok (.iload 4, 2) := by decide +kernel
theorem dX10_letsOf_131 : decode cX10_letsOf 131 = .ok (.iconst 3, 1) := by decide +kernel
theorem dX10_letsOf_132 : decode cX10_letsOf 132 = .ok (.iadd, 1) := by decide +kernel
theorem dX10_letsOf_133 : decode cX10_letsOf 133 = .ok (.ireturn, 1) := by decide +kernel
theorem dX10_letsOf_134 : decode cX10_letsOf 134 = .ok (.iload_n 2, 1) := by decide +kernel
theorem dX10_letsOf_135 : decode cX10_letsOf 135 = .ok (.ifCond .eq 10, 3) := by decide +kernel
theorem dX10_letsOf_138 : decode cX10_letsOf 138 = .ok (.iload 4, 2) := by decide +kernel
theorem dX10_letsOf_140 : decode cX10_letsOf 140 = .ok (.iconst 2, 1) := by decide +kernel
theorem dX10_letsOf_141 : decode cX10_letsOf 141 = .ok (.idiv, 1) := by decide +kernel
theorem dX10_letsOf_142 : decode cX10_letsOf 142 = .ok (.goto 4, 3) := by decide +kernel
theorem dX10_letsOf_145 : decode cX10_letsOf 145 = .ok (.iconst 0, 1) := by decide +kernel
theorem dX10_letsOf_146 : decode cX10_letsOf 146 = .ok (.ireturn, 1) := by decide +kernel
theorem dX10_letsOf_147 : decode cX10_letsOf 147 = .ok (.iload 4, 2) := by decide +kernel
theorem dX10_letsOf_149 : decode cX10_letsOf 149 = .ok (.iconst 3, 1) := by decide +kernel
theorem dX10_letsOf_150 : decode cX10_letsOf 150 = .ok (.iadd, 1) := by decide +kernel
theorem dX10_letsOf_151 : decode cX10_letsOf 151 = .ok (.iconst 0, 1) := by decide +kernel
theorem dX10_letsOf_152 : decode cX10_letsOf 152 = .ok (.bipush 10, 2) := by decide +kernel
theorem dX10_letsOf_154 : decode cX10_letsOf 154 = .ok (.invokestatic 112, 3) := by decide +kernel
theorem dX10_letsOf_157 : decode cX10_letsOf 157 = .ok (.ireturn, 1) := by decide +kernel
theorem dX10_letsOf_158 : decode cX10_letsOf 158 = .ok (.aload_n 0, 1) := by decide +kernel
theorem dX10_letsOf_159 : decode cX10_letsOf 159 = .ok (.iload_n 1, 1) := by decide +kernel
theorem dX10_letsOf_160 : decode cX10_letsOf 160 = .ok (.iconst 3, 1) := by decide +kernel
theorem dX10_letsOf_161 : decode cX10_letsOf 161 = .ok (.invokevirtual 101, 3) := by decide +kernel
theorem dX10_letsOf_164 : decode cX10_letsOf 164 = .ok (.ireturn, 1) := by decide +kernel
theorem dX10_letsOf_165 : decode cX10_letsOf 165 = .ok (.iload 4, 2) := by decide +kernel
theorem dX10_letsOf_167 : decode cX10_letsOf 167 = .ok (.ireturn, 1) := by decide +kernel
theorem dX10_airOf_0 : decode cX10_airOf 0 = .ok (.iload_n 1, 1) := by decide +kernel
theorem dX10_airOf_1 : decode cX10_airOf 1 = .ok (.bipush 8, 2) := by decide +kernel
theorem dX10_airOf_3 : decode cX10_airOf 3 = .ok (.if_icmp .ne 12, 3) := by decide +kernel
theorem dX10_airOf_6 : decode cX10_airOf 6 = .ok (.aload_n 0, 1) := by decide +kernel
theorem dX10_airOf_7 : decode cX10_airOf 7 = .ok (.getfield 9, 3) := by decide +kernel
theorem dX10_airOf_10 : decode cX10_airOf 10 = .ok (.iconst 3, 1) := by decide +kernel
theorem dX10_airOf_11 : decode cX10_airOf 11 = .ok (.iaload, 1) := by decide +kernel
theorem dX10_airOf_12 : decode cX10_airOf 12 = .ok (.goto 9, 3) := by decide +kernel
theorem dX10_airOf_15 : decode cX10_airOf 15 = .ok (.aload_n 0, 1) := by decide +kernel
theorem dX10_airOf_16 : decode cX10_airOf 16 = .ok (.iload_n 1, 1) := by decide +kernel
theorem dX10_airOf_17 : decode cX10_airOf 17 = .ok (.iconst 0, 1) := by decide +kernel
theorem dX10_airOf_18 : decode cX10_airOf 18 = .ok (.invokevirtual 116, 3) := by decide +kernel
theorem dX10_airOf_21 : decode cX10_airOf 21 = .ok (.ireturn, 1) := by decide +kernel
theorem dX10_flowOf_0 : decode cX10_flowOf 0 = .ok (.aload_n 0, 1) := by decide +kernel
theorem dX10_flowOf_1 : decode cX10_flowOf 1 = .ok (.aload_n 0, 1) := by decide +kernel
theorem dX10_flowOf_2 : decode cX10_flowOf 2 = .ok (.iload_n 1, 1) := by decide +kernel
theorem dX10_flowOf_3 : decode cX10_flowOf 3 = .ok (.iconst 1, 1) := by decide +kernel
theorem dX10_flowOf_4 : decode cX10_flowOf 4 = .ok (.invokevirtual 101, 3) := by decide +kernel
theorem dX10_flowOf_7 : decode cX10_flowOf 7 = .ok (.invokevirtual 119, 3) := by decide +kernel
theorem dX10_flowOf_10 : decode cX10_flowOf 10 = .ok (.aload_n 0, 1) := by decide +kernel
theorem dX10_flowOf_11 : decode cX10_flowOf 11 = .ok (.aload_n 0, 1) := by decide +kernel
theorem dX10_flowOf_12 : decode cX10_flowOf 12 = .ok (.iload_n 1, 1) := by decide +kernel
theorem dX10_flowOf_13 : decode cX10_flowOf 13 = .ok (.iconst 2, 1) := by decide +kernel
theorem dX10_flowOf_14 : decode cX10_flowOf 14 = .ok (.invokevirtual 101, 3) := by decide +kernel
theorem dX10_flowOf_17 : decode cX10_flowOf 17 = .ok (.invokevirtual 119, 3) := by decide +kernel
theorem dX10_flowOf_20 : decode cX10_flowOf 20 = .ok (.isub, 1) := by decide +kernel
theorem dX10_flowOf_21 : decode cX10_flowOf 21 = .ok (.i2l, 1) := by decide +kernel
theorem dX10_flowOf_22 : decode cX10_flowOf 22 = .ok (.aload_n 0, 1) := by decide +kernel
theorem dX10_flowOf_23 : decode cX10_flowOf 23 = .ok (.iload_n 1, 1) := by decide +kernel
theorem dX10_flowOf_24 : decode cX10_flowOf 24 = .ok (.invokevirtual 122, 3) := by decide +kernel
theorem dX10_flowOf_27 : decode cX10_flowOf 27 = .ok (.i2l, 1) := by decide +kernel
theorem dX10_flowOf_28 : decode cX10_flowOf 28 = .ok (.lmul, 1) := by decide +kernel
theorem dX10_flowOf_29 : decode cX10_flowOf 29 = .ok (.ldc2_w 125, 3) := by decide +kernel
theorem dX10_flowOf_32 : decode cX10_flowOf 32 = .ok (.ldiv, 1) := by decide +kernel
theorem dX10_flowOf_33 : decode cX10_flowOf 33 = .ok (.l2i, 1) := by decide +kernel
theorem dX10_flowOf_34 : decode cX10_flowOf 34 = .ok (.ireturn, 1) := by decide +kernel
theorem dX10_worthOf_0 : decode cX10_worthOf 0 = .ok (.aload_n 0, 1) := by decide +kernel
theorem dX10_worthOf_1 : decode cX10_worthOf 1 = .ok (.iload_n 1, 1) := by decide +kernel
theorem dX10_worthOf_2 : decode cX10_worthOf 2 = .ok (.iconst 3, 1) := by decide +kernel
theorem dX10_worthOf_3 : decode cX10_worthOf 3 = .ok (.invokevirtual 101, 3) := by decide +kernel
theorem dX10_worthOf_6 : decode cX10_worthOf 6 = .ok (.istore_n 2, 1) := by decide +kernel
theorem dX10_worthOf_7 : decode cX10_worthOf 7 = .ok (.aload_n 0, 1) := by decide +kernel
theorem dX10_worthOf_8 : decode cX10_worthOf 8 = .ok (.iload_n 1, 1) := by decide +kernel
theorem dX10_worthOf_9 : decode cX10_worthOf 9 = .ok (.iconst 0, 1) := by decide +kernel
theorem dX10_worthOf_10 : decode cX10_worthOf 10 = .ok (.invokevirtual 101, 3) := by decide +kernel
theorem dX10_worthOf_13 : decode cX10_worthOf 13 = .ok (.tableswitch 59 1 5 #[35, 40, 45, 52, 57], 35) := by decide +kernel
theorem dX10_worthOf_48 : decode cX10_worthOf 48 = .ok (.iload_n 2, 1) := by decide +kernel
theorem dX10_worthOf_49 : decode cX10_worthOf 49 = .ok (.bipush 20, 2) := by decide +kernel
theorem dX10_worthOf_51 : decode cX10_worthOf 51 = .ok (.iadd, 1) := by decide +kernel
theorem dX10_worthOf_52 : decode cX10_worthOf 52 = .ok (.ireturn, 1) := by decide +kernel
theorem dX10_worthOf_53 : decode cX10_worthOf 53 = .ok (.bipush 30, 2) := by decide +kernel
theorem dX10_worthOf_55 : decode cX10_worthOf 55 = .ok (.iload_n 2, 1) := by decide +kernel
theorem dX10_worthOf_56 : decode cX10_worthOf 56 = .ok (.isub, 1) := by decide +kernel
theorem dX10_worthOf_57 : decode cX10_worthOf 57 = .ok (.ireturn, 1) := by decide +kernel
theorem dX10_worthOf_58 : decode cX10_worthOf 58 = .ok (.iconst 2, 1) := by decide +kernel
theorem dX10_worthOf_59 : decode cX10_worthOf 59 = .ok (.iload_n 2, 1) := by decide +kernel
theorem dX10_worthOf_60 : decode cX10_worthOf 60 = .ok (.bipush 20, 2) := by decide +kernel
theorem dX10_worthOf_62 : decode cX10_worthOf 62 = .ok (.iadd, 1) := by decide +kernel
theorem dX10_worthOf_63 : decode cX10_worthOf 63 = .ok (.imul, 1) := by decide +kernel
theorem dX10_worthOf_64 : decode cX10_worthOf 64 = .ok (.ireturn, 1) := by decide +kernel
theorem dX10_worthOf_65 : decode cX10_worthOf 65 = .ok (.bipush 25, 2) := by decide +kernel
theorem dX10_worthOf_67 : decode cX10_worthOf 67 = .ok (.iload_n 2, 1) := by decide +kernel
theorem dX10_worthOf_68 : decode cX10_worthOf 68 = .ok (.isub, 1) := by decide +kernel
theorem dX10_worthOf_69 : decode cX10_worthOf 69 = .ok (.ireturn, 1) := by decide +kernel
theorem dX10_worthOf_70 : decode cX10_worthOf 70 = .ok (.iconst 2, 1) := by decide +kernel
theorem dX10_worthOf_71 : decode cX10_worthOf 71 = .ok (.ireturn, 1) := by decide +kernel
theorem dX10_worthOf_72 : decode cX10_worthOf 72 = .ok (.iload_n 2, 1) := by decide +kernel
theorem dX10_worthOf_73 : decode cX10_worthOf 73 = .ok (.ireturn, 1) := by decide +kernel
theorem dX10_told_0 : decode cX10_told 0 = .ok (.aload_n 0, 1) := by decide +kernel
theorem dX10_told_1 : decode cX10_told 1 = .ok (.iload_n 1, 1) := by decide +kernel
theorem dX10_told_2 : decode cX10_told 2 = .ok (.invokevirtual 127, 3) := by decide +kernel
theorem dX10_told_5 : decode cX10_told 5 = .ok (.ifCond .ne 6, 3) := by decide +kernel
theorem dX10_told_8 : decode cX10_told 8 = .ok (.ldc 95, 2) := by decide +kernel
theorem dX10_told_10 : decode cX10_told 10 = .ok (.ireturn, 1) := by decide +kernel
theorem dX10_told_11 : decode cX10_told 11 = .ok (.iload_n 2, 1) := by decide +kernel
theorem dX10_told_12 : decode cX10_told 12 = .ok (.tableswitch 73 0 7 #[48, 48, 48, 48, 48, 55, 61, 67], 48) := by decide +kernel
theorem dX10_told_60 : decode cX10_told 60 = .ok (.aload_n 0, 1) := by decide +kernel
theorem dX10_told_61 : decode cX10_told 61 = .ok (.iload_n 1, 1) := by decide +kernel
theorem dX10_told_62 : decode cX10_told 62 = .ok (.iload_n 2, 1) := by decide +kernel
theorem dX10_told_63 : decode cX10_told 63 = .ok (.invokevirtual 101, 3) := by decide +kernel
theorem dX10_told_66 : decode cX10_told 66 = .ok (.ireturn, 1) := by decide +kernel
theorem dX10_told_67 : decode cX10_told 67 = .ok (.aload_n 0, 1) := by decide +kernel
theorem dX10_told_68 : decode cX10_told 68 = .ok (.iload_n 1, 1) := by decide +kernel
theorem dX10_told_69 : decode cX10_told 69 = .ok (.invokevirtual 122, 3) := by decide +kernel
theorem dX10_told_72 : decode cX10_told 72 = .ok (.ireturn, 1) := by decide +kernel
theorem dX10_told_73 : decode cX10_told 73 = .ok (.aload_n 0, 1) := by decide +kernel
theorem dX10_told_74 : decode cX10_told 74 = .ok (.iload_n 1, 1) := by decide +kernel
theorem dX10_told_75 : decode cX10_told 75 = .ok (.invokevirtual 130, 3) := by decide +kernel
theorem dX10_told_78 : decode cX10_told 78 = .ok (.ireturn, 1) := by decide +kernel
theorem dX10_told_79 : decode cX10_told 79 = .ok (.aload_n 0, 1) := by decide +kernel
theorem dX10_told_80 : decode cX10_told 80 = .ok (.iload_n 1, 1) := by decide +kernel
theorem dX10_told_81 : decode cX10_told 81 = .ok (.invokevirtual 133, 3) := by decide +kernel
theorem dX10_told_84 : decode cX10_told 84 = .ok (.ireturn, 1) := by decide +kernel
theorem dX10_told_85 : decode cX10_told 85 = .ok (.ldc 95, 2) := by decide +kernel
theorem dX10_told_87 : decode cX10_told 87 = .ok (.ireturn, 1) := by decide +kernel
theorem dX10_isUnder_0 : decode cX10_isUnder 0 = .ok (.iload_n 1, 1) := by decide +kernel
theorem dX10_isUnder_1 : decode cX10_isUnder 1 = .ok (.ifCond .eq 28, 3) := by decide +kernel
theorem dX10_isUnder_4 : decode cX10_isUnder 4 = .ok (.iload_n 0, 1) := by decide +kernel
theorem dX10_isUnder_5 : decode cX10_isUnder 5 = .ok (.iload_n 1, 1) := by decide +kernel
theorem dX10_isUnder_6 : decode cX10_isUnder 6 = .ok (.if_icmp .eq 23, 3) := by decide +kernel
theorem dX10_isUnder_9 : decode cX10_isUnder 9 = .ok (.iload_n 1, 1) := by decide +kernel
theorem dX10_isUnder_10 : decode cX10_isUnder 10 = .ok (.iconst 1, 1) := by decide +kernel
theorem dX10_isUnder_11 : decode cX10_isUnder 11 = .ok (.if_icmp .ne 8, 3) := by decide +kernel
theorem dX10_isUnder_14 : decode cX10_isUnder 14 = .ok (.iload_n 0, 1) := by decide +kernel
theorem dX10_isUnder_15 : decode cX10_isUnder 15 = .ok (.iconst 3, 1) := by decide +kernel
theorem dX10_isUnder_16 : decode cX10_isUnder 16 = .ok (.if_icmp .eq 13, 3) := by decide +kernel
theorem dX10_isUnder_19 : decode cX10_isUnder 19 = .ok (.iload_n 1, 1) := by decide +kernel
theorem dX10_isUnder_20 : decode cX10_isUnder 20 = .ok (.iconst 2, 1) := by decide +kernel
theorem dX10_isUnder_21 : decode cX10_isUnder 21 = .ok (.if_icmp .ne 12, 3) := by decide +kernel
theorem dX10_isUnder_24 : decode cX10_isUnder 24 = .ok (.iload_n 0, 1) := by decide +kernel
theorem dX10_isUnder_25 : decode cX10_isUnder 25 = .ok (.iconst 4, 1) := by decide +kernel
theorem dX10_isUnder_26 : decode cX10_isUnder 26 = .ok (.if_icmp .ne 7, 3) := by decide +kernel
theorem dX10_isUnder_29 : decode cX10_isUnder 29 = .ok (.iconst 1, 1) := by decide +kernel
theorem dX10_isUnder_30 : decode cX10_isUnder 30 = .ok (.goto 4, 3) := by decide +kernel
theorem dX10_isUnder_33 : decode cX10_isUnder 33 = .ok (.iconst 0, 1) := by decide +kernel
theorem dX10_isUnder_34 : decode cX10_isUnder 34 = .ok (.ireturn, 1) := by decide +kernel
theorem dX10_as_0 : decode cX10_as 0 = .ok (.aload_n 0, 1) := by decide +kernel
theorem dX10_as_1 : decode cX10_as 1 = .ok (.iload_n 1, 1) := by decide +kernel
theorem dX10_as_2 : decode cX10_as 2 = .ok (.invokevirtual 127, 3) := by decide +kernel
theorem dX10_as_5 : decode cX10_as 5 = .ok (.ifCond .eq 12, 3) := by decide +kernel
theorem dX10_as_8 : decode cX10_as 8 = .ok (.iload_n 2, 1) := by decide +kernel
theorem dX10_as_9 : decode cX10_as 9 = .ok (.iconst 0, 1) := by decide +kernel
theorem dX10_as_10 : decode cX10_as 10 = .ok (.iconst 5, 1) := by decide +kernel
theorem dX10_as_11 : decode cX10_as 11 = .ok (.invokestatic 87, 3) := by decide +kernel
theorem dX10_as_14 : decode cX10_as 14 = .ok (.ifCond .ne 6, 3) := by decide +kernel
theorem dX10_as_17 : decode cX10_as 17 = .ok (.ldc 95, 2) := by decide +kernel
theorem dX10_as_19 : decode cX10_as 19 = .ok (.ireturn, 1) := by decide +kernel
theorem dX10_as_20 : decode cX10_as 20 = .ok (.aload_n 0, 1) := by decide +kernel
theorem dX10_as_21 : decode cX10_as 21 = .ok (.iload_n 1, 1) := by decide +kernel
theorem dX10_as_22 : decode cX10_as 22 = .ok (.iconst 0, 1) := by decide +kernel
theorem dX10_as_23 : decode cX10_as 23 = .ok (.invokevirtual 101, 3) := by decide +kernel
theorem dX10_as_26 : decode cX10_as 26 = .ok (.iload_n 2, 1) := by decide +kernel
theorem dX10_as_27 : decode cX10_as 27 = .ok (.invokestatic 136, 3) := by decide +kernel
theorem dX10_as_30 : decode cX10_as 30 = .ok (.ifCond .eq 12, 3) := by decide +kernel
theorem dX10_as_33 : decode cX10_as 33 = .ok (.aload_n 0, 1) := by decide +kernel
theorem dX10_as_34 : decode cX10_as 34 = .ok (.iload_n 1, 1) := by decide +kernel
theorem dX10_as_35 : decode cX10_as 35 = .ok (.iconst 3, 1) := by decide +kernel
theorem dX10_as_36 : decode cX10_as 36 = .ok (.invokevirtual 101, 3) := by decide +kernel
theorem dX10_as_39 : decode cX10_as 39 = .ok (.goto 5, 3) := by decide +kernel
theorem dX10_as_42 : decode cX10_as 42 = .ok (.ldc 140, 2) := by decide +kernel
theorem dX10_as_44 : decode cX10_as 44 = .ok (.ireturn, 1) := by decide +kernel
theorem dX10_turns_0 : decode cX10_turns 0 = .ok (.aload_n 0, 1) := by decide +kernel
theorem dX10_turns_1 : decode cX10_turns 1 = .ok (.iload_n 1, 1) := by decide +kernel
theorem dX10_turns_2 : decode cX10_turns 2 = .ok (.invokevirtual 127, 3) := by decide +kernel
theorem dX10_turns_5 : decode cX10_turns 5 = .ok (.ifCond .eq 26, 3) := by decide +kernel
theorem dX10_turns_8 : decode cX10_turns 8 = .ok (.iload_n 2, 1) := by decide +kernel
theorem dX10_turns_9 : decode cX10_turns 9 = .ok (.iconst 0, 1) := by decide +kernel
theorem dX10_turns_10 : decode cX10_turns 10 = .ok (.iconst 5, 1) := by decide +kernel
theorem dX10_turns_11 : decode cX10_turns 11 = .ok (.invokestatic 87, 3) := by decide +kernel
theorem dX10_turns_14 : decode cX10_turns 14 = .ok (.ifCond .eq 17, 3) := by decide +kernel
theorem dX10_turns_17 : decode cX10_turns 17 = .ok (.aload_n 0, 1) := by decide +kernel
theorem dX10_turns_18 : decode cX10_turns 18 = .ok (.bipush 38, 2) := by decide +kernel
theorem dX10_turns_20 : decode cX10_turns 20 = .ok (.iconst 5, 1) := by decide +kernel
theorem dX10_turns_21 : decode cX10_turns 21 = .ok (.iload_n 1, 1) := by decide +kernel
theorem dX10_turns_22 : decode cX10_turns 22 = .ok (.imul, 1) := by decide +kernel
theorem dX10_turns_23 : decode cX10_turns 23 = .ok (.iadd, 1) := by decide +kernel
theorem dX10_turns_24 : decode cX10_turns 24 = .ok (.iload_n 2, 1) := by decide +kernel
theorem dX10_turns_25 : decode cX10_turns 25 = .ok (.invokevirtual 141, 3) := by decide +kernel
theorem dX10_turns_28 : decode cX10_turns 28 = .ok (.goto 5, 3) := by decide +kernel
theorem dX10_turns_31 : decode cX10_turns 31 = .ok (.ldc 95, 2) := by decide +kernel
theorem dX10_turns_33 : decode cX10_turns 33 = .ok (.ireturn, 1) := by decide +kernel
theorem dX10_open_0 : decode cX10_open 0 = .ok (.aload_n 0, 1) := by decide +kernel
theorem dX10_open_1 : decode cX10_open 1 = .ok (.iload_n 1, 1) := by decide +kernel
theorem dX10_open_2 : decode cX10_open 2 = .ok (.invokevirtual 127, 3) := by decide +kernel
theorem dX10_open_5 : decode cX10_open 5 = .ok (.ifCond .eq 28, 3) := by decide +kernel
theorem dX10_open_8 : decode cX10_open 8 = .ok (.iload_n 2, 1) := by decide +kernel
theorem dX10_open_9 : decode cX10_open 9 = .ok (.iconst 0, 1) := by decide +kernel
theorem dX10_open_10 : decode cX10_open 10 = .ok (.iconst 1, 1) := by decide +kernel
theorem dX10_open_11 : decode cX10_open 11 = .ok (.invokestatic 87, 3) := by decide +kernel
theorem dX10_open_14 : decode cX10_open 14 = .ok (.ifCond .eq 19, 3) := by decide +kernel
theorem dX10_open_17 : decode cX10_open 17 = .ok (.aload_n 0, 1) := by decide +kernel
theorem dX10_open_18 : decode cX10_open 18 = .ok (.bipush 38, 2) := by decide +kernel
theorem dX10_open_20 : decode cX10_open 20 = .ok (.iconst 5, 1) := by decide +kernel
theorem dX10_open_21 : decode cX10_open 21 = .ok (.iload_n 1, 1) := by decide +kernel
theorem dX10_open_22 : decode cX10_open 22 = .ok (.imul, 1) := by decide +kernel
theorem dX10_open_23 : decode cX10_open 23 = .ok (.iadd, 1) := by decide +kernel
theorem dX10_open_24 : decode cX10_open 24 = .ok (.iconst 4, 1) := by decide +kernel
theorem dX10_open_25 : decode cX10_open 25 = .ok (.iadd, 1) := by decide +kernel
theorem dX10_open_26 : decode cX10_open 26 = .ok (.iload_n 2, 1) := by decide +kernel
theorem dX10_open_27 : decode cX10_open 27 = .ok (.invokevirtual 141, 3) := by decide +kernel
theorem dX10_open_30 : decode cX10_open 30 = .ok (.goto 5, 3) := by decide +kernel
theorem dX10_open_33 : decode cX10_open 33 = .ok (.ldc 95, 2) := by decide +kernel
theorem dX10_open_35 : decode cX10_open 35 = .ok (.ireturn, 1) := by decide +kernel
theorem dX10_findFlows_0 : decode cX10_findFlows 0 = .ok (.iconst 0, 1) := by decide +kernel
theorem dX10_findFlows_1 : decode cX10_findFlows 1 = .ok (.istore_n 1, 1) := by decide +kernel
theorem dX10_findFlows_2 : decode cX10_findFlows 2 = .ok (.iload_n 1, 1) := by decide +kernel
theorem dX10_findFlows_3 : decode cX10_findFlows 3 = .ok (.bipush 9, 2) := by decide +kernel
theorem dX10_findFlows_5 : decode cX10_findFlows 5 = .ok (.if_icmp .ge 16, 3) := by decide +kernel
theorem dX10_findFlows_8 : decode cX10_findFlows 8 = .ok (.aload_n 0, 1) := by decide +kernel
theorem dX10_findFlows_9 : decode cX10_findFlows 9 = .ok (.getfield 22, 3) := by decide +kernel
theorem dX10_findFlows_12 : decode cX10_findFlows 12 = .ok (.iload_n 1, 1) := by decide +kernel
theorem dX10_findFlows_13 : decode cX10_findFlows 13 = .ok (.iconst 0, 1) := by decide +kernel
theorem dX10_findFlows_14 : decode cX10_findFlows 14 = .ok (.iastore, 1) := by decide +kernel
theorem dX10_findFlows_15 : decode cX10_findFlows 15 = .ok (.iinc 1 1, 3) := by decide +kernel
theorem dX10_findFlows_18 : decode cX10_findFlows 18 = .ok (.goto (-16), 3) := by decide +kernel
theorem dX10_findFlows_21 : decode cX10_findFlows 21 = .ok (.iconst 0, 1) := by decide +kernel
theorem dX10_findFlows_22 : decode cX10_findFlows 22 = .ok (.istore_n 1, 1) := by decide +kernel
theorem dX10_findFlows_23 : decode cX10_findFlows 23 = .ok (.iload_n 1, 1) := by decide +kernel
theorem dX10_findFlows_24 : decode cX10_findFlows 24 = .ok (.aload_n 0, 1) := by decide +kernel
theorem dX10_findFlows_25 : decode cX10_findFlows 25 = .ok (.getfield 9, 3) := by decide +kernel
theorem dX10_findFlows_28 : decode cX10_findFlows 28 = .ok (.iconst 1, 1) := by decide +kernel
theorem dX10_findFlows_29 : decode cX10_findFlows 29 = .ok (.iaload, 1) := by decide +kernel
theorem dX10_findFlows_30 : decode cX10_findFlows 30 = .ok (.if_icmp .ge 76, 3) := by decide +kernel
theorem dX10_findFlows_33 : decode cX10_findFlows 33 = .ok (.aload_n 0, 1) := by decide +kernel
theorem dX10_findFlows_34 : decode cX10_findFlows 34 = .ok (.getfield 19, 3) := by decide +kernel
theorem dX10_findFlows_37 : decode cX10_findFlows 37 = .ok (.iload_n 1, 1) := by decide +kernel
theorem dX10_findFlows_38 : decode cX10_findFlows 38 = .ok (.aload_n 0, 1) := by decide +kernel
theorem dX10_findFlows_39 : decode cX10_findFlows 39 = .ok (.iload_n 1, 1) := by decide +kernel
theorem dX10_findFlows_40 : decode cX10_findFlows 40 = .ok (.invokevirtual 130, 3) := by decide +kernel
theorem dX10_findFlows_43 : decode cX10_findFlows 43 = .ok (.iastore, 1) := by decide +kernel
theorem dX10_findFlows_44 : decode cX10_findFlows 44 = .ok (.aload_n 0, 1) := by decide +kernel
theorem dX10_findFlows_45 : decode cX10_findFlows 45 = .ok (.getfield 19, 3) := by decide +kernel
theorem dX10_findFlows_48 : decode cX10_findFlows 48 = .ok (.iload_n 1, 1) := by decide +kernel
theorem dX10_findFlows_49 : decode cX10_findFlows 49 = .ok (.iaload, 1) := by decide +kernel
theorem dX10_findFlows_50 : decode cX10_findFlows 50 = .ok (.ifCond .ge 13, 3) := by decide +kernel
theorem dX10_findFlows_53 : decode cX10_findFlows 53 = .ok (.aload_n 0, 1) := by decide +kernel
theorem dX10_findFlows_54 : decode cX10_findFlows 54 = .ok (.getfield 19, 3) := by decide +kernel
theorem dX10_findFlows_57 : decode cX10_findFlows 57 = .ok (.iload_n 1, 1) := by decide +kernel
theorem dX10_findFlows_58 : decode cX10_findFlows 58 = .ok (.iaload, 1) := by decide +kernel
theorem dX10_findFlows_59 : decode cX10_findFlows 59 = .ok (.ineg, 1) := by decide +kernel
theorem dX10_findFlows_60 : decode cX10_findFlows 60 = .ok (.goto 9, 3) := by decide +kernel
theorem dX10_findFlows_63 : decode cX10_findFlows 63 = .ok (.aload_n 0, 1) := by decide +kernel
theorem dX10_findFlows_64 : decode cX10_findFlows 64 = .ok (.getfield 19, 3) := by decide +kernel
theorem dX10_findFlows_67 : decode cX10_findFlows 67 = .ok (.iload_n 1, 1) := by decide +kernel
theorem dX10_findFlows_68 : decode cX10_findFlows 68 = .ok (.iaload, 1) := by decide +kernel
theorem dX10_findFlows_69 : decode cX10_findFlows 69 = .ok (.istore_n 2, 1) := by decide +kernel
theorem dX10_findFlows_70 : decode cX10_findFlows 70 = .ok (.aload_n 0, 1) := by decide +kernel
theorem dX10_findFlows_71 : decode cX10_findFlows 71 = .ok (.getfield 22, 3) := by decide +kernel
theorem dX10_findFlows_74 : decode cX10_findFlows 74 = .ok (.aload_n 0, 1) := by decide +kernel
theorem dX10_findFlows_75 : decode cX10_findFlows 75 = .ok (.iload_n 1, 1) := by decide +kernel
theorem dX10_findFlows_76 : decode cX10_findFlows 76 = .ok (.iconst 1, 1) := by decide +kernel
theorem dX10_findFlows_77 : decode cX10_findFlows 77 = .ok (.invokevirtual 101, 3) := by decide +kernel
theorem dX10_findFlows_80 : decode cX10_findFlows 80 = .ok (.dup2, 1) := by decide +kernel
theorem dX10_findFlows_81 : decode cX10_findFlows 81 = .ok (.iaload, 1) := by decide +kernel
theorem dX10_findFlows_82 : decode cX10_findFlows 82 = .ok (.iload_n 2, 1) := by decide +kernel
theorem dX10_findFlows_83 : decode cX10_findFlows 83 = .ok (.iadd, 1) := by decide +kernel
theorem dX10_findFlows_84 : decode cX10_findFlows 84 = .ok (.iastore, 1) := by decide +kernel
theorem dX10_findFlows_85 : decode cX10_findFlows 85 = .ok (.aload_n 0, 1) := by decide +kernel
theorem dX10_findFlows_86 : decode cX10_findFlows 86 = .ok (.getfield 22, 3) := by decide +kernel
theorem dX10_findFlows_89 : decode cX10_findFlows 89 = .ok (.aload_n 0, 1) := by decide +kernel
theorem dX10_findFlows_90 : decode cX10_findFlows 90 = .ok (.iload_n 1, 1) := by decide +kernel
theorem dX10_findFlows_91 : decode cX10_findFlows 91 = .ok (.iconst 2, 1) := by decide +kernel
theorem dX10_findFlows_92 : decode cX10_findFlows 92 = .ok (.invokevirtual 101, 3) := by decide +kernel
theorem dX10_findFlows_95 : decode cX10_findFlows 95 = .ok (.dup2, 1) := by decide +kernel
theorem dX10_findFlows_96 : decode cX10_findFlows 96 = .ok (.iaload, 1) := by decide +kernel
theorem dX10_findFlows_97 : decode cX10_findFlows 97 = .ok (.iload_n 2, 1) := by decide +kernel
theorem dX10_findFlows_98 : decode cX10_findFlows 98 = .ok (.iadd, 1) := by decide +kernel
theorem dX10_findFlows_99 : decode cX10_findFlows 99 = .ok (.iastore, 1) := by decide +kernel
theorem dX10_findFlows_100 : decode cX10_findFlows 100 = .ok (.iinc 1 1, 3) := by decide +kernel
theorem dX10_findFlows_103 : decode cX10_findFlows 103 = .ok (.goto (-80), 3) := by decide +kernel
theorem dX10_findFlows_106 : decode cX10_findFlows 106 = .ok (.return_, 1) := by decide +kernel
theorem dX10_room_0 : decode cX10_room 0 = .ok (.iload_n 1, 1) := by decide +kernel
theorem dX10_room_1 : decode cX10_room 1 = .ok (.invokestatic 91, 3) := by decide +kernel
theorem dX10_room_4 : decode cX10_room 4 = .ok (.ifCond .eq 12, 3) := by decide +kernel
theorem dX10_room_7 : decode cX10_room 7 = .ok (.iload_n 2, 1) := by decide +kernel
theorem dX10_room_8 : decode cX10_room 8 = .ok (.iconst 0, 1) := by decide +kernel
theorem dX10_room_9 : decode cX10_room 9 = .ok (.iconst 4, 1) := by decide +kernel
theorem dX10_room_10 : decode cX10_room 10 = .ok (.invokestatic 87, 3) := by decide +kernel
theorem dX10_room_13 : decode cX10_room 13 = .ok (.ifCond .ne 6, 3) := by decide +kernel
theorem dX10_room_16 : decode cX10_room 16 = .ok (.ldc 95, 2) := by decide +kernel
theorem dX10_room_18 : decode cX10_room 18 = .ok (.ireturn, 1) := by decide +kernel
theorem dX10_room_19 : decode cX10_room 19 = .ok (.iload_n 2, 1) := by decide +kernel
theorem dX10_room_20 : decode cX10_room 20 = .ok (.iconst 4, 1) := by decide +kernel
theorem dX10_room_21 : decode cX10_room 21 = .ok (.if_icmp .ge 10, 3) := by decide +kernel
theorem dX10_room_24 : decode cX10_room 24 = .ok (.aload_n 0, 1) := by decide +kernel
theorem dX10_room_25 : decode cX10_room 25 = .ok (.iload_n 1, 1) := by decide +kernel
theorem dX10_room_26 : decode cX10_room 26 = .ok (.iload_n 2, 1) := by decide +kernel
theorem dX10_room_27 : decode cX10_room 27 = .ok (.invokevirtual 116, 3) := by decide +kernel
theorem dX10_room_30 : decode cX10_room 30 = .ok (.ireturn, 1) := by decide +kernel
theorem dX10_room_31 : decode cX10_room 31 = .ok (.aload_n 0, 1) := by decide +kernel
theorem dX10_room_32 : decode cX10_room 32 = .ok (.invokevirtual 144, 3) := by decide +kernel
theorem dX10_room_35 : decode cX10_room 35 = .ok (.aload_n 0, 1) := by decide +kernel
theorem dX10_room_36 : decode cX10_room 36 = .ok (.getfield 22, 3) := by decide +kernel
theorem dX10_room_39 : decode cX10_room 39 = .ok (.iload_n 1, 1) := by decide +kernel
theorem dX10_room_40 : decode cX10_room 40 = .ok (.iaload, 1) := by decide +kernel
theorem dX10_room_41 : decode cX10_room 41 = .ok (.ireturn, 1) := by decide +kernel
theorem dX10_set_0 : decode cX10_set 0 = .ok (.iload_n 1, 1) := by decide +kernel
theorem dX10_set_1 : decode cX10_set 1 = .ok (.invokestatic 91, 3) := by decide +kernel
theorem dX10_set_4 : decode cX10_set 4 = .ok (.ifCond .eq 42, 3) := by decide +kernel
theorem dX10_set_7 : decode cX10_set 7 = .ok (.iload_n 2, 1) := by decide +kernel
theorem dX10_set_8 : decode cX10_set 8 = .ok (.iconst 0, 1) := by decide +kernel
theorem dX10_set_9 : decode cX10_set 9 = .ok (.iconst 3, 1) := by decide +kernel
theorem dX10_set_10 : decode cX10_set 10 = .ok (.invokestatic 87, 3) := by decide +kernel
theorem dX10_set_13 : decode cX10_set 13 = .ok (.ifCond .eq 33, 3) := by decide +kernel
theorem dX10_set_16 : decode cX10_set 16 = .ok (.iload_n 3, 1) := by decide +kernel
theorem dX10_set_17 : decode cX10_set 17 = .ok (.iconst 0, 1) := by decide +kernel
theorem dX10_set_18 : decode cX10_set 18 = .ok (.iload_n 2, 1) := by decide +kernel
theorem dX10_set_19 : decode cX10_set 19 = .ok (.iconst 1, 1) := by decide +kernel
theorem dX10_set_20 : decode cX10_set 20 = .ok (.if_icmp .ne 8, 3) := by decide +kernel
theorem dX10_set_23 : decode cX10_set 23 = .ok (.bipush 9, 2) := by decide +kernel
theorem dX10_set_25 : decode cX10_set 25 = .ok (.goto 15, 3) := by decide +kernel
theorem dX10_set_28 : decode cX10_set 28 = .ok (.iload_n 2, 1) := by decide +kernel
theorem dX10_set_29 : decode cX10_set 29 = .ok (.iconst 3, 1) := by decide +kernel
theorem dX10_set_30 : decode cX10_set 30 = .ok (.if_icmp .ne 7, 3) := by decide +kernel
theorem dX10_set_33 : decode cX10_set 33 = .ok (.iconst 1, 1) := by decide +kernel
theorem dX10_set_34 : decode cX10_set 34 = .ok (.goto 6, 3) := by decide +kernel
theorem dX10_set_37 : decode cX10_set 37 = .ok (.sipush 9999, 3) := by decide +kernel
theorem dX10_set_40 : decode cX10_set 40 = .ok (.invokestatic 87, 3) := by decide +kernel
theorem dX10_set_43 : decode cX10_set 43 = .ok (.ifCond .ne 6, 3) := by decide +kernel
theorem dX10_set_46 : decode cX10_set 46 = .ok (.ldc 95, 2) := by decide +kernel
theorem dX10_set_48 : decode cX10_set 48 = .ok (.ireturn, 1) := by decide +kernel
theorem dX10_set_49 : decode cX10_set 49 = .ok (.aload_n 0, 1) := by decide +kernel
theorem dX10_set_50 : decode cX10_set 50 = .ok (.bipush 6, 2) := by decide +kernel
theorem dX10_set_52 : decode cX10_set 52 = .ok (.iconst 4, 1) := by decide +kernel
theorem dX10_set_53 : decode cX10_set 53 = .ok (.iload_n 1, 1) := by decide +kernel
theorem dX10_set_54 : decode cX10_set 54 = .ok (.imul, 1) := by decide +kernel
theorem dX10_set_55 : decode cX10_set 55 = .ok (.iadd, 1) := by decide +kernel
theorem dX10_set_56 : decode cX10_set 56 = .ok (.iload_n 2, 1) := by decide +kernel
theorem dX10_set_57 : decode cX10_set 57 = .ok (.iadd, 1) := by decide +kernel
theorem dX10_set_58 : decode cX10_set 58 = .ok (.iload_n 3, 1) := by decide +kernel
theorem dX10_set_59 : decode cX10_set 59 = .ok (.invokevirtual 141, 3) := by decide +kernel
theorem dX10_set_62 : decode cX10_set 62 = .ok (.ireturn, 1) := by decide +kernel
theorem dX10_wind_0 : decode cX10_wind 0 = .ok (.iload_n 1, 1) := by decide +kernel
theorem dX10_wind_1 : decode cX10_wind 1 = .ok (.iconst 0, 1) := by decide +kernel
theorem dX10_wind_2 : decode cX10_wind 2 = .ok (.sipush 9999, 3) := by decide +kernel
theorem dX10_wind_5 : decode cX10_wind 5 = .ok (.invokestatic 87, 3) := by decide +kernel
theorem dX10_wind_8 : decode cX10_wind 8 = .ok (.ifCond .eq 12, 3) := by decide +kernel
theorem dX10_wind_11 : decode cX10_wind 11 = .ok (.aload_n 0, 1) := by decide +kernel
theorem dX10_wind_12 : decode cX10_wind 12 = .ok (.iconst 3, 1) := by decide +kernel
theorem dX10_wind_13 : decode cX10_wind 13 = .ok (.iload_n 1, 1) := by decide +kernel
theorem dX10_wind_14 : decode cX10_wind 14 = .ok (.invokevirtual 141, 3) := by decide +kernel
theorem dX10_wind_17 : decode cX10_wind 17 = .ok (.goto 5, 3) := by decide +kernel
theorem dX10_wind_20 : decode cX10_wind 20 = .ok (.ldc 95, 2) := by decide +kernel
theorem dX10_wind_22 : decode cX10_wind 22 = .ok (.ireturn, 1) := by decide +kernel
theorem dX10_draw_0 : decode cX10_draw 0 = .ok (.aload_n 0, 1) := by decide +kernel
theorem dX10_draw_1 : decode cX10_draw 1 = .ok (.getfield 9, 3) := by decide +kernel
theorem dX10_draw_4 : decode cX10_draw 4 = .ok (.iconst 0, 1) := by decide +kernel
theorem dX10_draw_5 : decode cX10_draw 5 = .ok (.aload_n 0, 1) := by decide +kernel
theorem dX10_draw_6 : decode cX10_draw 6 = .ok (.getfield 9, 3) := by decide +kernel
theorem dX10_draw_9 : decode cX10_draw 9 = .ok (.iconst 0, 1) := by decide +kernel
theorem dX10_draw_10 : decode cX10_draw 10 = .ok (.iaload, 1) := by decide +kernel
theorem dX10_draw_11 : decode cX10_draw 11 = .ok (.ldc 147, 2) := by decide +kernel
theorem dX10_draw_13 : decode cX10_draw 13 = .ok (.imul, 1) := by decide +kernel
theorem dX10_draw_14 : decode cX10_draw 14 = .ok (.sipush 12345, 3) := by decide +kernel
theorem dX10_draw_17 : decode cX10_draw 17 = .ok (.iadd, 1) := by decide +kernel
theorem dX10_draw_18 : decode cX10_draw 18 = .ok (.iastore, 1) := by decide +kernel
theorem dX10_draw_19 : decode cX10_draw 19 = .ok (.aload_n 0, 1) := by decide +kernel
theorem dX10_draw_20 : decode cX10_draw 20 = .ok (.getfield 9, 3) := by decide +kernel
theorem dX10_draw_23 : decode cX10_draw 23 = .ok (.iconst 0, 1) := by decide +kernel
theorem dX10_draw_24 : decode cX10_draw 24 = .ok (.iaload, 1) := by decide +kernel
theorem dX10_draw_25 : decode cX10_draw 25 = .ok (.bipush 8, 2) := by decide +kernel
theorem dX10_draw_27 : decode cX10_draw 27 = .ok (.iushr, 1) := by decide +kernel
theorem dX10_draw_28 : decode cX10_draw 28 = .ok (.ireturn, 1) := by decide +kernel
theorem dX10_deal_0 : decode cX10_deal 0 = .ok (.iload_n 1, 1) := by decide +kernel
theorem dX10_deal_1 : decode cX10_deal 1 = .ok (.iconst 1, 1) := by decide +kernel
theorem dX10_deal_2 : decode cX10_deal 2 = .ok (.bipush 10, 2) := by decide +kernel
theorem dX10_deal_4 : decode cX10_deal 4 = .ok (.invokestatic 87, 3) := by decide +kernel
theorem dX10_deal_7 : decode cX10_deal 7 = .ok (.ifCond .ne 6, 3) := by decide +kernel
theorem dX10_deal_10 : decode cX10_deal 10 = .ok (.ldc 95, 2) := by decide +kernel
theorem dX10_deal_12 : decode cX10_deal 12 = .ok (.ireturn, 1) := by decide +kernel
theorem dX10_deal_13 : decode cX10_deal 13 = .ok (.iconst 0, 1) := by decide +kernel
theorem dX10_deal_14 : decode cX10_deal 14 = .ok (.istore_n 2, 1) := by decide +kernel
theorem dX10_deal_15 : decode cX10_deal 15 = .ok (.iload_n 2, 1) := by decide +kernel
theorem dX10_deal_16 : decode cX10_deal 16 = .ok (.iload_n 1, 1) := by decide +kernel
theorem dX10_deal_17 : decode cX10_deal 17 = .ok (.if_icmp .ge 75, 3) := by decide +kernel
theorem dX10_deal_20 : decode cX10_deal 20 = .ok (.aload_n 0, 1) := by decide +kernel
theorem dX10_deal_21 : decode cX10_deal 21 = .ok (.getfield 9, 3) := by decide +kernel
theorem dX10_deal_24 : decode cX10_deal 24 = .ok (.iconst 1, 1) := by decide +kernel
theorem dX10_deal_25 : decode cX10_deal 25 = .ok (.iaload, 1) := by decide +kernel
theorem dX10_deal_26 : decode cX10_deal 26 = .ok (.bipush 10, 2) := by decide +kernel
theorem dX10_deal_28 : decode cX10_deal 28 = .ok (.if_icmp .ge 64, 3) := by decide +kernel
theorem dX10_deal_31 : decode cX10_deal 31 = .ok (.aload_n 0, 1) := by decide +kernel
theorem dX10_deal_32 : decode cX10_deal 32 = .ok (.invokevirtual 148, 3) := by decide +kernel
theorem dX10_deal_35 : decode cX10_deal 35 = .ok (.bipush 6, 2) := by decide +kernel
theorem dX10_deal_37 : decode cX10_deal 37 = .ok (.irem, 1) := by decide +kernel
theorem dX10_deal_38 : decode cX10_deal 38 = .ok (.istore_n 3, 1) := by decide +kernel
theorem dX10_deal_39 : decode cX10_deal 39 = .ok (.aload_n 0, 1) := by decide +kernel
theorem dX10_deal_40 : decode cX10_deal 40 = .ok (.invokevirtual 148, 3) := by decide +kernel
theorem dX10_deal_43 : decode cX10_deal 43 = .ok (.bipush 8, 2) := by decide +kernel
theorem dX10_deal_45 : decode cX10_deal 45 = .ok (.irem, 1) := by decide +kernel
theorem dX10_deal_46 : decode cX10_deal 46 = .ok (.istore 4, 2) := by decide +kernel
theorem dX10_deal_48 : decode cX10_deal 48 = .ok (.iload 4, 2) := by decide +kernel
theorem dX10_deal_50 : decode cX10_deal 50 = .ok (.iconst 1, 1) := by decide +kernel
theorem dX10_deal_51 : decode cX10_deal 51 = .ok (.iadd, 1) := by decide +kernel
theorem dX10_deal_52 : decode cX10_deal 52 = .ok (.aload_n 0, 1) := by decide +kernel
theorem dX10_deal_53 : decode cX10_deal 53 = .ok (.invokevirtual 148, 3) := by decide +kernel
theorem dX10_deal_56 : decode cX10_deal 56 = .ok (.bipush 8, 2) := by decide +kernel
theorem dX10_deal_58 : decode cX10_deal 58 = .ok (.irem, 1) := by decide +kernel
theorem dX10_deal_59 : decode cX10_deal 59 = .ok (.iadd, 1) := by decide +kernel
theorem dX10_deal_60 : decode cX10_deal 60 = .ok (.bipush 9, 2) := by decide +kernel
theorem dX10_deal_62 : decode cX10_deal 62 = .ok (.irem, 1) := by decide +kernel
theorem dX10_deal_63 : decode cX10_deal 63 = .ok (.istore 5, 2) := by decide +kernel
theorem dX10_deal_65 : decode cX10_deal 65 = .ok (.aload_n 0, 1) := by decide +kernel
theorem dX10_deal_66 : decode cX10_deal 66 = .ok (.iload_n 3, 1) := by decide +kernel
theorem dX10_deal_67 : decode cX10_deal 67 = .ok (.iload 4, 2) := by decide +kernel
theorem dX10_deal_69 : decode cX10_deal 69 = .ok (.iload 5, 2) := by decide +kernel
theorem dX10_deal_71 : decode cX10_deal 71 = .ok (.iconst 1, 1) := by decide +kernel
theorem dX10_deal_72 : decode cX10_deal 72 = .ok (.aload_n 0, 1) := by decide +kernel
theorem dX10_deal_73 : decode cX10_deal 73 = .ok (.invokevirtual 148, 3) := by decide +kernel
theorem dX10_deal_76 : decode cX10_deal 76 = .ok (.bipush 9, 2) := by decide +kernel
theorem dX10_deal_78 : decode cX10_deal 78 = .ok (.irem, 1) := by decide +kernel
theorem dX10_deal_79 : decode cX10_deal 79 = .ok (.iadd, 1) := by decide +kernel
theorem dX10_deal_80 : decode cX10_deal 80 = .ok (.iconst 1, 1) := by decide +kernel
theorem dX10_deal_81 : decode cX10_deal 81 = .ok (.invokevirtual 97, 3) := by decide +kernel
theorem dX10_deal_84 : decode cX10_deal 84 = .ok (.istore 6, 2) := by decide +kernel
theorem dX10_deal_86 : decode cX10_deal 86 = .ok (.iinc 2 1, 3) := by decide +kernel
theorem dX10_deal_89 : decode cX10_deal 89 = .ok (.goto (-74), 3) := by decide +kernel
theorem dX10_deal_92 : decode cX10_deal 92 = .ok (.iload_n 2, 1) := by decide +kernel
theorem dX10_deal_93 : decode cX10_deal 93 = .ok (.ireturn, 1) := by decide +kernel
theorem dX10_seed_0 : decode cX10_seed 0 = .ok (.aload_n 0, 1) := by decide +kernel
theorem dX10_seed_1 : decode cX10_seed 1 = .ok (.iconst 0, 1) := by decide +kernel
theorem dX10_seed_2 : decode cX10_seed 2 = .ok (.iload_n 1, 1) := by decide +kernel
theorem dX10_seed_3 : decode cX10_seed 3 = .ok (.invokevirtual 141, 3) := by decide +kernel
theorem dX10_seed_6 : decode cX10_seed 6 = .ok (.ireturn, 1) := by decide +kernel
theorem dX10_carries_0 : decode cX10_carries 0 = .ok (.iconst 0, 1) := by decide +kernel
theorem dX10_carries_1 : decode cX10_carries 1 = .ok (.istore_n 1, 1) := by decide +kernel
theorem dX10_carries_2 : decode cX10_carries 2 = .ok (.iload_n 1, 1) := by decide +kernel
theorem dX10_carries_3 : decode cX10_carries 3 = .ok (.aload_n 0, 1) := by decide +kernel
theorem dX10_carries_4 : decode cX10_carries 4 = .ok (.getfield 9, 3) := by decide +kernel
theorem dX10_carries_7 : decode cX10_carries 7 = .ok (.iconst 1, 1) := by decide +kernel
theorem dX10_carries_8 : decode cX10_carries 8 = .ok (.iaload, 1) := by decide +kernel
theorem dX10_carries_9 : decode cX10_carries 9 = .ok (.if_icmp .ge 209, 3) := by decide +kernel
theorem dX10_carries_12 : decode cX10_carries 12 = .ok (.aload_n 0, 1) := by decide +kernel
theorem dX10_carries_13 : decode cX10_carries 13 = .ok (.getfield 19, 3) := by decide +kernel
theorem dX10_carries_16 : decode cX10_carries 16 = .ok (.iload_n 1, 1) := by decide +kernel
theorem dX10_carries_17 : decode cX10_carries 17 = .ok (.iaload, 1) := by decide +kernel
theorem dX10_carries_18 : decode cX10_carries 18 = .ok (.ifCond .le 12, 3) := by decide +kernel
theorem dX10_carries_21 : decode cX10_carries 21 = .ok (.aload_n 0, 1) := by decide +kernel
theorem dX10_carries_22 : decode cX10_carries 22 = .ok (.iload_n 1, 1) := by decide +kernel
theorem dX10_carries_23 : decode cX10_carries 23 = .ok (.iconst 1, 1) := by decide +kernel
theorem dX10_carries_24 : decode cX10_carries 24 = .ok (.invokevirtual 101, 3) := by decide +kernel
theorem dX10_carries_27 : decode cX10_carries 27 = .ok (.goto 9, 3) := by decide +kernel
theorem dX10_carries_30 : decode cX10_carries 30 = .ok (.aload_n 0, 1) := by decide +kernel
theorem dX10_carries_31 : decode cX10_carries 31 = .ok (.iload_n 1, 1) := by decide +kernel
theorem dX10_carries_32 : decode cX10_carries 32 = .ok (.iconst 2, 1) := by decide +kernel
theorem dX10_carries_33 : decode cX10_carries 33 = .ok (.invokevirtual 101, 3) := by decide +kernel
theorem dX10_carries_36 : decode cX10_carries 36 = .ok (.istore_n 2, 1) := by decide +kernel
theorem dX10_carries_37 : decode cX10_carries 37 = .ok (.aload_n 0, 1) := by decide +kernel
theorem dX10_carries_38 : decode cX10_carries 38 = .ok (.getfield 19, 3) := by decide +kernel
theorem dX10_carries_41 : decode cX10_carries 41 = .ok (.iload_n 1, 1) := by decide +kernel
theorem dX10_carries_42 : decode cX10_carries 42 = .ok (.iaload, 1) := by decide +kernel
theorem dX10_carries_43 : decode cX10_carries 43 = .ok (.ifCond .le 12, 3) := by decide +kernel
theorem dX10_carries_46 : decode cX10_carries 46 = .ok (.aload_n 0, 1) := by decide +kernel
theorem dX10_carries_47 : decode cX10_carries 47 = .ok (.iload_n 1, 1) := by decide +kernel
theorem dX10_carries_48 : decode cX10_carries 48 = .ok (.iconst 2, 1) := by decide +kernel
theorem dX10_carries_49 : decode cX10_carries 49 = .ok (.invokevirtual 101, 3) := by decide +kernel
theorem dX10_carries_52 : decode cX10_carries 52 = .ok (.goto 9, 3) := by decide +kernel
theorem dX10_carries_55 : decode cX10_carries 55 = .ok (.aload_n 0, 1) := by decide +kernel
theorem dX10_carries_56 : decode cX10_carries 56 = .ok (.iload_n 1, 1) := by decide +kernel
theorem dX10_carries_57 : decode cX10_carries 57 = .ok (.iconst 1, 1) := by decide +kernel
theorem dX10_carries_58 : decode cX10_carries 58 = .ok (.invokevirtual 101, 3) := by decide +kernel
theorem dX10_carries_61 : decode cX10_carries 61 = .ok (.istore_n 3, 1) := by decide +kernel
theorem dX10_carries_62 : decode cX10_carries 62 = .ok (.aload_n 0, 1) := by decide +kernel
theorem dX10_carries_63 : decode cX10_carries 63 = .ok (.getfield 19, 3) := by decide +kernel
theorem dX10_carries_66 : decode cX10_carries 66 = .ok (.iload_n 1, 1) := by decide +kernel
theorem dX10_carries_67 : decode cX10_carries 67 = .ok (.iaload, 1) := by decide +kernel
theorem dX10_carries_68 : decode cX10_carries 68 = .ok (.ifCond .eq 144, 3) := by decide +kernel
theorem dX10_carries_71 : decode cX10_carries 71 = .ok (.iload_n 2, 1) := by decide +kernel
theorem dX10_carries_72 : decode cX10_carries 72 = .ok (.bipush 8, 2) := by decide +kernel
theorem dX10_carries_74 : decode cX10_carries 74 = .ok (.if_icmp .ne 6, 3) := by decide +kernel
theorem dX10_carries_77 : decode cX10_carries 77 = .ok (.goto 135, 3) := by decide +kernel
theorem dX10_carries_80 : decode cX10_carries 80 = .ok (.aload_n 0, 1) := by decide +kernel
theorem dX10_carries_81 : decode cX10_carries 81 = .ok (.getfield 19, 3) := by decide +kernel
theorem dX10_carries_84 : decode cX10_carries 84 = .ok (.iload_n 1, 1) := by decide +kernel
theorem dX10_carries_85 : decode cX10_carries 85 = .ok (.iaload, 1) := by decide +kernel
theorem dX10_carries_86 : decode cX10_carries 86 = .ok (.ifCond .ge 14, 3) := by decide +kernel
theorem dX10_carries_89 : decode cX10_carries 89 = .ok (.aload_n 0, 1) := by decide +kernel
theorem dX10_carries_90 : decode cX10_carries 90 = .ok (.getfield 19, 3) := by decide +kernel
theorem dX10_carries_93 : decode cX10_carries 93 = .ok (.iload_n 1, 1) := by decide +kernel
theorem dX10_carries_94 : decode cX10_carries 94 = .ok (.iaload, 1) := by decide +kernel
theorem dX10_carries_95 : decode cX10_carries 95 = .ok (.ineg, 1) := by decide +kernel
theorem dX10_carries_96 : decode cX10_carries 96 = .ok (.i2l, 1) := by decide +kernel
theorem dX10_carries_97 : decode cX10_carries 97 = .ok (.goto 10, 3) := by decide +kernel
theorem dX10_carries_100 : decode cX10_carries 100 = .ok (.aload_n 0, 1) := by decide +kernel
theorem dX10_carries_101 : decode cX10_carries 101 = .ok (.getfield 19, 3) := by decide +kernel
theorem dX10_carries_104 : decode cX10_carries 104 = .ok (.iload_n 1, 1) := by decide +kernel
theorem dX10_carries_105 : decode cX10_carries 105 = .ok (.iaload, 1) := by decide +kernel
theorem dX10_carries_106 : decode cX10_carries 106 = .ok (.i2l, 1) := by decide +kernel
theorem dX10_carries_107 : decode cX10_carries 107 = .ok (.lstore 4, 2) := by decide +kernel
theorem dX10_carries_109 : decode cX10_carries 109 = .ok (.aload_n 0, 1) := by decide +kernel
theorem dX10_carries_110 : decode cX10_carries 110 = .ok (.getfield 25, 3) := by decide +kernel
theorem dX10_carries_113 : decode cX10_carries 113 = .ok (.iload_n 2, 1) := by decide +kernel
theorem dX10_carries_114 : decode cX10_carries 114 = .ok (.iaload, 1) := by decide +kernel
theorem dX10_carries_115 : decode cX10_carries 115 = .ok (.i2l, 1) := by decide +kernel
theorem dX10_carries_116 : decode cX10_carries 116 = .ok (.lload 4, 2) := by decide +kernel
theorem dX10_carries_118 : decode cX10_carries 118 = .ok (.lmul, 1) := by decide +kernel
theorem dX10_carries_119 : decode cX10_carries 119 = .ok (.aload_n 0, 1) := by decide +kernel
theorem dX10_carries_120 : decode cX10_carries 120 = .ok (.getfield 28, 3) := by decide +kernel
theorem dX10_carries_123 : decode cX10_carries 123 = .ok (.iload_n 2, 1) := by decide +kernel
theorem dX10_carries_124 : decode cX10_carries 124 = .ok (.iaload, 1) := by decide +kernel
theorem dX10_carries_125 : decode cX10_carries 125 = .ok (.iconst 1, 1) := by decide +kernel
theorem dX10_carries_126 : decode cX10_carries 126 = .ok (.if_icmp .ge 7, 3) := by decide +kernel
theorem dX10_carries_129 : decode cX10_carries 129 = .ok (.iconst 1, 1) := by decide +kernel
theorem dX10_carries_130 : decode cX10_carries 130 = .ok (.goto 9, 3) := by decide +kernel
theorem dX10_carries_133 : decode cX10_carries 133 = .ok (.aload_n 0, 1) := by decide +kernel
theorem dX10_carries_134 : decode cX10_carries 134 = .ok (.getfield 28, 3) := by decide +kernel
theorem dX10_carries_137 : decode cX10_carries 137 = .ok (.iload_n 2, 1) := by decide +kernel
theorem dX10_carries_138 : decode cX10_carries 138 = .ok (.iaload, 1) := by decide +kernel
theorem dX10_carries_139 : decode cX10_carries 139 = .ok (.i2l, 1) := by decide +kernel
theorem dX10_carries_140 : decode cX10_carries 140 = .ok (.ldiv, 1) := by decide +kernel
theorem dX10_carries_141 : decode cX10_carries 141 = .ok (.lstore 6, 2) := by decide +kernel
theorem dX10_carries_143 : decode cX10_carries 143 = .ok (.aload_n 0, 1) := by decide +kernel
theorem dX10_carries_144 : decode cX10_carries 144 = .ok (.iload_n 2, 1) := by decide +kernel
theorem dX10_carries_145 : decode cX10_carries 145 = .ok (.iconst 2, 1) := by decide +kernel
theorem dX10_carries_146 : decode cX10_carries 146 = .ok (.invokevirtual 116, 3) := by decide +kernel
theorem dX10_carries_149 : decode cX10_carries 149 = .ok (.istore 8, 2) := by decide +kernel
theorem dX10_carries_151 : decode cX10_carries 151 = .ok (.lload 6, 2) := by decide +kernel
theorem dX10_carries_153 : decode cX10_carries 153 = .ok (.iload 8, 2) := by decide +kernel
theorem dX10_carries_155 : decode cX10_carries 155 = .ok (.i2l, 1) := by decide +kernel
theorem dX10_carries_156 : decode cX10_carries 156 = .ok (.lcmp, 1) := by decide +kernel
theorem dX10_carries_157 : decode cX10_carries 157 = .ok (.ifCond .le 8, 3) := by decide +kernel
theorem dX10_carries_160 : decode cX10_carries 160 = .ok (.iload 8, 2) := by decide +kernel
theorem dX10_carries_162 : decode cX10_carries 162 = .ok (.goto 6, 3) := by decide +kernel
theorem dX10_carries_165 : decode cX10_carries 165 = .ok (.lload 6, 2) := by decide +kernel
theorem dX10_carries_167 : decode cX10_carries 167 = .ok (.l2i, 1) := by decide +kernel
theorem dX10_carries_168 : decode cX10_carries 168 = .ok (.istore 9, 2) := by decide +kernel
theorem dX10_carries_170 : decode cX10_carries 170 = .ok (.aload_n 0, 1) := by decide +kernel
theorem dX10_carries_171 : decode cX10_carries 171 = .ok (.getfield 9, 3) := by decide +kernel
theorem dX10_carries_174 : decode cX10_carries 174 = .ok (.bipush 6, 2) := by decide +kernel
theorem dX10_carries_176 : decode cX10_carries 176 = .ok (.iconst 4, 1) := by decide +kernel
theorem dX10_carries_177 : decode cX10_carries 177 = .ok (.iload_n 2, 1) := by decide +kernel
theorem dX10_carries_178 : decode cX10_carries 178 = .ok (.imul, 1) := by decide +kernel
theorem dX10_carries_179 : decode cX10_carries 179 = .ok (.iadd, 1) := by decide +kernel
theorem dX10_carries_180 : decode cX10_carries 180 = .ok (.iconst 2, 1) := by decide +kernel
theorem dX10_carries_181 : decode cX10_carries 181 = .ok (.iadd, 1) := by decide +kernel
theorem dX10_carries_182 : decode cX10_carries 182 = .ok (.dup2, 1) := by decide +kernel
theorem dX10_carries_183 : decode cX10_carries 183 = .ok (.iaload, 1) := by decide +kernel
theorem dX10_carries_184 : decode cX10_carries 184 = .ok (.iload 9, 2) := by decide +kernel
theorem dX10_carries_186 : decode cX10_carries 186 = .ok (.isub, 1) := by decide +kernel
theorem dX10_carries_187 : decode cX10_carries 187 = .ok (.iastore, 1) := by decide +kernel
theorem dX10_carries_188 : decode cX10_carries 188 = .ok (.iload_n 3, 1) := by decide +kernel
theorem dX10_carries_189 : decode cX10_carries 189 = .ok (.bipush 8, 2) := by decide +kernel
theorem dX10_carries_191 : decode cX10_carries 191 = .ok (.if_icmp .ge 21, 3) := by decide +kernel
theorem dX10_carries_194 : decode cX10_carries 194 = .ok (.aload_n 0, 1) := by decide +kernel
theorem dX10_carries_195 : decode cX10_carries 195 = .ok (.getfield 9, 3) := by decide +kernel
theorem dX10_carries_198 : decode cX10_carries 198 = .ok (.bipush 6, 2) := by decide +kernel
theorem dX10_carries_200 : decode cX10_carries 200 = .ok (.iconst 4, 1) := by decide +kernel
theorem dX10_carries_201 : decode cX10_carries 201 = .ok (.iload_n 3, 1) := by decide +kernel
theorem dX10_carries_202 : decode cX10_carries 202 = .ok (.imul, 1) := by decide +kernel
theorem dX10_carries_203 : decode cX10_carries 203 = .ok (.iadd, 1) := by decide +kernel
theorem dX10_carries_204 : decode cX10_carries 204 = .ok (.iconst 2, 1) := by decide +kernel
theorem dX10_carries_205 : decode cX10_carries 205 = .ok (.iadd, 1) := by decide +kernel
theorem dX10_carries_206 : decode cX10_carries 206 = .ok (.dup2, 1) := by decide +kernel
theorem dX10_carries_207 : decode cX10_carries 207 = .ok (.iaload, 1) := by decide +kernel
theorem dX10_carries_208 : decode cX10_carries 208 = .ok (.iload 9, 2) := by decide +kernel
theorem dX10_carries_210 : decode cX10_carries 210 = .ok (.iadd, 1) := by decide +kernel
theorem dX10_carries_211 : decode cX10_carries 211 = .ok (.iastore, 1) := by decide +kernel
theorem dX10_carries_212 : decode cX10_carries 212 = .ok (.iinc 1 1, 3) := by decide +kernel
theorem dX10_carries_215 : decode cX10_carries 215 = .ok (.goto (-213), 3) := by decide +kernel
theorem dX10_carries_218 : decode cX10_carries 218 = .ok (.return_, 1) := by decide +kernel
theorem dX10_blows_0 : decode cX10_blows 0 = .ok (.iconst 0, 1) := by decide +kernel
theorem dX10_blows_1 : decode cX10_blows 1 = .ok (.istore_n 1, 1) := by decide +kernel
theorem dX10_blows_2 : decode cX10_blows 2 = .ok (.iload_n 1, 1) := by decide +kernel
theorem dX10_blows_3 : decode cX10_blows 3 = .ok (.aload_n 0, 1) := by decide +kernel
theorem dX10_blows_4 : decode cX10_blows 4 = .ok (.getfield 9, 3) := by decide +kernel
theorem dX10_blows_7 : decode cX10_blows 7 = .ok (.iconst 1, 1) := by decide +kernel
theorem dX10_blows_8 : decode cX10_blows 8 = .ok (.iaload, 1) := by decide +kernel
theorem dX10_blows_9 : decode cX10_blows 9 = .ok (.if_icmp .ge 88, 3) := by decide +kernel
theorem dX10_blows_12 : decode cX10_blows 12 = .ok (.aload_n 0, 1) := by decide +kernel
theorem dX10_blows_13 : decode cX10_blows 13 = .ok (.getfield 9, 3) := by decide +kernel
theorem dX10_blows_16 : decode cX10_blows 16 = .ok (.bipush 6, 2) := by decide +kernel
theorem dX10_blows_18 : decode cX10_blows 18 = .ok (.iconst 4, 1) := by decide +kernel
theorem dX10_blows_19 : decode cX10_blows 19 = .ok (.aload_n 0, 1) := by decide +kernel
theorem dX10_blows_20 : decode cX10_blows 20 = .ok (.iload_n 1, 1) := by decide +kernel
theorem dX10_blows_21 : decode cX10_blows 21 = .ok (.iconst 1, 1) := by decide +kernel
theorem dX10_blows_22 : decode cX10_blows 22 = .ok (.invokevirtual 101, 3) := by decide +kernel
theorem dX10_blows_25 : decode cX10_blows 25 = .ok (.imul, 1) := by decide +kernel
theorem dX10_blows_26 : decode cX10_blows 26 = .ok (.iadd, 1) := by decide +kernel
theorem dX10_blows_27 : decode cX10_blows 27 = .ok (.dup2, 1) := by decide +kernel
theorem dX10_blows_28 : decode cX10_blows 28 = .ok (.iaload, 1) := by decide +kernel
theorem dX10_blows_29 : decode cX10_blows 29 = .ok (.aload_n 0, 1) := by decide +kernel
theorem dX10_blows_30 : decode cX10_blows 30 = .ok (.getfield 19, 3) := by decide +kernel
theorem dX10_blows_33 : decode cX10_blows 33 = .ok (.iload_n 1, 1) := by decide +kernel
theorem dX10_blows_34 : decode cX10_blows 34 = .ok (.iaload, 1) := by decide +kernel
theorem dX10_blows_35 : decode cX10_blows 35 = .ok (.isub, 1) := by decide +kernel
theorem dX10_blows_36 : decode cX10_blows 36 = .ok (.iastore, 1) := by decide +kernel
theorem dX10_blows_37 : decode cX10_blows 37 = .ok (.aload_n 0, 1) := by decide +kernel
theorem dX10_blows_38 : decode cX10_blows 38 = .ok (.iload_n 1, 1) := by decide +kernel
theorem dX10_blows_39 : decode cX10_blows 39 = .ok (.iconst 2, 1) := by decide +kernel
theorem dX10_blows_40 : decode cX10_blows 40 = .ok (.invokevirtual 101, 3) := by decide +kernel
theorem dX10_blows_43 : decode cX10_blows 43 = .ok (.bipush 8, 2) := by decide +kernel
theorem dX10_blows_45 : decode cX10_blows 45 = .ok (.if_icmp .ge 31, 3) := by decide +kernel
theorem dX10_blows_48 : decode cX10_blows 48 = .ok (.aload_n 0, 1) := by decide +kernel
theorem dX10_blows_49 : decode cX10_blows 49 = .ok (.getfield 9, 3) := by decide +kernel
theorem dX10_blows_52 : decode cX10_blows 52 = .ok (.bipush 6, 2) := by decide +kernel
theorem dX10_blows_54 : decode cX10_blows 54 = .ok (.iconst 4, 1) := by decide +kernel
theorem dX10_blows_55 : decode cX10_blows 55 = .ok (.aload_n 0, 1) := by decide +kernel
theorem dX10_blows_56 : decode cX10_blows 56 = .ok (.iload_n 1, 1) := by decide +kernel
theorem dX10_blows_57 : decode cX10_blows 57 = .ok (.iconst 2, 1) := by decide +kernel
theorem dX10_blows_58 : decode cX10_blows 58 = .ok (.invokevirtual 101, 3) := by decide +kernel
theorem dX10_blows_61 : decode cX10_blows 61 = .ok (.imul, 1) := by decide +kernel
theorem dX10_blows_62 : decode cX10_blows 62 = .ok (.iadd, 1) := by decide +kernel
theorem dX10_blows_63 : decode cX10_blows 63 = .ok (.dup2, 1) := by decide +kernel
theorem dX10_blows_64 : decode cX10_blows 64 = .ok (.iaload, 1) := by decide +kernel
theorem dX10_blows_65 : decode cX10_blows 65 = .ok (.aload_n 0, 1) := by decide +kernel
theorem dX10_blows_66 : decode cX10_blows 66 = .ok (.getfield 19, 3) := by decide +kernel
theorem dX10_blows_69 : decode cX10_blows 69 = .ok (.iload_n 1, 1) := by decide +kernel
theorem dX10_blows_70 : decode cX10_blows 70 = .ok (.iaload, 1) := by decide +kernel
theorem dX10_blows_71 : decode cX10_blows 71 = .ok (.iadd, 1) := by decide +kernel
theorem dX10_blows_72 : decode cX10_blows 72 = .ok (.iastore, 1) := by decide +kernel
theorem dX10_blows_73 : decode cX10_blows 73 = .ok (.goto 18, 3) := by decide +kernel
theorem dX10_blows_76 : decode cX10_blows 76 = .ok (.aload_n 0, 1) := by decide +kernel
theorem dX10_blows_77 : decode cX10_blows 77 = .ok (.getfield 9, 3) := by decide +kernel
theorem dX10_blows_80 : decode cX10_blows 80 = .ok (.iconst 4, 1) := by decide +kernel
theorem dX10_blows_81 : decode cX10_blows 81 = .ok (.dup2, 1) := by decide +kernel
theorem dX10_blows_82 : decode cX10_blows 82 = .ok (.iaload, 1) := by decide +kernel
theorem dX10_blows_83 : decode cX10_blows 83 = .ok (.aload_n 0, 1) := by decide +kernel
theorem dX10_blows_84 : decode cX10_blows 84 = .ok (.getfield 19, 3) := by decide +kernel
theorem dX10_blows_87 : decode cX10_blows 87 = .ok (.iload_n 1, 1) := by decide +kernel
theorem dX10_blows_88 : decode cX10_blows 88 = .ok (.iaload, 1) := by decide +kernel
theorem dX10_blows_89 : decode cX10_blows 89 = .ok (.iadd, 1) := by decide +kernel
theorem dX10_blows_90 : decode cX10_blows 90 = .ok (.iastore, 1) := by decide +kernel
theorem dX10_blows_91 : decode cX10_blows 91 = .ok (.iinc 1 1, 3) := by decide +kernel
theorem dX10_blows_94 : decode cX10_blows 94 = .ok (.goto (-92), 3) := by decide +kernel
theorem dX10_blows_97 : decode cX10_blows 97 = .ok (.iconst 0, 1) := by decide +kernel
theorem dX10_blows_98 : decode cX10_blows 98 = .ok (.istore_n 1, 1) := by decide +kernel
theorem dX10_blows_99 : decode cX10_blows 99 = .ok (.iload_n 1, 1) := by decide +kernel
theorem dX10_blows_100 : decode cX10_blows 100 = .ok (.bipush 8, 2) := by decide +kernel
theorem dX10_blows_102 : decode cX10_blows 102 = .ok (.if_icmp .ge 43, 3) := by decide +kernel
theorem dX10_blows_105 : decode cX10_blows 105 = .ok (.aload_n 0, 1) := by decide +kernel
theorem dX10_blows_106 : decode cX10_blows 106 = .ok (.iload_n 1, 1) := by decide +kernel
theorem dX10_blows_107 : decode cX10_blows 107 = .ok (.iconst 0, 1) := by decide +kernel
theorem dX10_blows_108 : decode cX10_blows 108 = .ok (.invokevirtual 116, 3) := by decide +kernel
theorem dX10_blows_111 : decode cX10_blows 111 = .ok (.aload_n 0, 1) := by decide +kernel
theorem dX10_blows_112 : decode cX10_blows 112 = .ok (.iload_n 1, 1) := by decide +kernel
theorem dX10_blows_113 : decode cX10_blows 113 = .ok (.iconst 1, 1) := by decide +kernel
theorem dX10_blows_114 : decode cX10_blows 114 = .ok (.invokevirtual 116, 3) := by decide +kernel
theorem dX10_blows_117 : decode cX10_blows 117 = .ok (.isub, 1) := by decide +kernel
theorem dX10_blows_118 : decode cX10_blows 118 = .ok (.istore_n 2, 1) := by decide +kernel
theorem dX10_blows_119 : decode cX10_blows 119 = .ok (.aload_n 0, 1) := by decide +kernel
theorem dX10_blows_120 : decode cX10_blows 120 = .ok (.getfield 9, 3) := by decide +kernel
theorem dX10_blows_123 : decode cX10_blows 123 = .ok (.bipush 6, 2) := by decide +kernel
theorem dX10_blows_125 : decode cX10_blows 125 = .ok (.iconst 4, 1) := by decide +kernel
theorem dX10_blows_126 : decode cX10_blows 126 = .ok (.iload_n 1, 1) := by decide +kernel
theorem dX10_blows_127 : decode cX10_blows 127 = .ok (.imul, 1) := by decide +kernel
theorem dX10_blows_128 : decode cX10_blows 128 = .ok (.iadd, 1) := by decide +kernel
theorem dX10_blows_129 : decode cX10_blows 129 = .ok (.iload_n 2, 1) := by decide +kernel
theorem dX10_blows_130 : decode cX10_blows 130 = .ok (.ifCond .ge 7, 3) := by decide +kernel
theorem dX10_blows_133 : decode cX10_blows 133 = .ok (.iconst 0, 1) := by decide +kernel
theorem dX10_blows_134 : decode cX10_blows 134 = .ok (.goto 4, 3) := by decide +kernel
theorem dX10_blows_137 : decode cX10_blows 137 = .ok (.iload_n 2, 1) := by decide +kernel
theorem dX10_blows_138 : decode cX10_blows 138 = .ok (.iastore, 1) := by decide +kernel
theorem dX10_blows_139 : decode cX10_blows 139 = .ok (.iinc 1 1, 3) := by decide +kernel
theorem dX10_blows_142 : decode cX10_blows 142 = .ok (.goto (-43), 3) := by decide +kernel
theorem dX10_blows_145 : decode cX10_blows 145 = .ok (.return_, 1) := by decide +kernel
theorem dX10_gustOf_0 : decode cX10_gustOf 0 = .ok (.aload_n 0, 1) := by decide +kernel
theorem dX10_gustOf_1 : decode cX10_gustOf 1 = .ok (.iconst 1, 1) := by decide +kernel
theorem dX10_gustOf_2 : decode cX10_gustOf 2 = .ok (.invokevirtual 105, 3) := by decide +kernel
theorem dX10_gustOf_5 : decode cX10_gustOf 5 = .ok (.istore_n 2, 1) := by decide +kernel
theorem dX10_gustOf_6 : decode cX10_gustOf 6 = .ok (.aload_n 0, 1) := by decide +kernel
theorem dX10_gustOf_7 : decode cX10_gustOf 7 = .ok (.getfield 57, 3) := by decide +kernel
theorem dX10_gustOf_10 : decode cX10_gustOf 10 = .ok (.iconst 0, 1) := by decide +kernel
theorem dX10_gustOf_11 : decode cX10_gustOf 11 = .ok (.aload_n 0, 1) := by decide +kernel
theorem dX10_gustOf_12 : decode cX10_gustOf 12 = .ok (.iload_n 1, 1) := by decide +kernel
theorem dX10_gustOf_13 : decode cX10_gustOf 13 = .ok (.iconst 1, 1) := by decide +kernel
theorem dX10_gustOf_14 : decode cX10_gustOf 14 = .ok (.invokevirtual 116, 3) := by decide +kernel
theorem dX10_gustOf_17 : decode cX10_gustOf 17 = .ok (.iastore, 1) := by decide +kernel
theorem dX10_gustOf_18 : decode cX10_gustOf 18 = .ok (.aload_n 0, 1) := by decide +kernel
theorem dX10_gustOf_19 : decode cX10_gustOf 19 = .ok (.getfield 57, 3) := by decide +kernel
theorem dX10_gustOf_22 : decode cX10_gustOf 22 = .ok (.iconst 1, 1) := by decide +kernel
theorem dX10_gustOf_23 : decode cX10_gustOf 23 = .ok (.aload_n 0, 1) := by decide +kernel
theorem dX10_gustOf_24 : decode cX10_gustOf 24 = .ok (.iload_n 1, 1) := by decide +kernel
theorem dX10_gustOf_25 : decode cX10_gustOf 25 = .ok (.iconst 2, 1) := by decide +kernel
theorem dX10_gustOf_26 : decode cX10_gustOf 26 = .ok (.invokevirtual 116, 3) := by decide +kernel
theorem dX10_gustOf_29 : decode cX10_gustOf 29 = .ok (.iastore, 1) := by decide +kernel
theorem dX10_gustOf_30 : decode cX10_gustOf 30 = .ok (.iload_n 2, 1) := by decide +kernel
theorem dX10_gustOf_31 : decode cX10_gustOf 31 = .ok (.ifCond .ge 8, 3) := by decide +kernel
theorem dX10_gustOf_34 : decode cX10_gustOf 34 = .ok (.bipush 20, 2) := by decide +kernel
theorem dX10_gustOf_36 : decode cX10_gustOf 36 = .ok (.goto 15, 3) := by decide +kernel
theorem dX10_gustOf_39 : decode cX10_gustOf 39 = .ok (.aload_n 0, 1) := by decide +kernel
theorem dX10_gustOf_40 : decode cX10_gustOf 40 = .ok (.iload_n 2, 1) := by decide +kernel
theorem dX10_gustOf_41 : decode cX10_gustOf 41 = .ok (.invokevirtual 109, 3) := by decide +kernel
theorem dX10_gustOf_44 : decode cX10_gustOf 44 = .ok (.iconst 0, 1) := by decide +kernel
theorem dX10_gustOf_45 : decode cX10_gustOf 45 = .ok (.sipush 999, 3) := by decide +kernel
theorem dX10_gustOf_48 : decode cX10_gustOf 48 = .ok (.invokestatic 112, 3) := by decide +kernel
theorem dX10_gustOf_51 : decode cX10_gustOf 51 = .ok (.ireturn, 1) := by decide +kernel
theorem dX10_minute_0 : decode cX10_minute 0 = .ok (.aload_n 0, 1) := by decide +kernel
theorem dX10_minute_1 : decode cX10_minute 1 = .ok (.invokevirtual 144, 3) := by decide +kernel
theorem dX10_minute_4 : decode cX10_minute 4 = .ok (.iconst 0, 1) := by decide +kernel
theorem dX10_minute_5 : decode cX10_minute 5 = .ok (.istore_n 1, 1) := by decide +kernel
theorem dX10_minute_6 : decode cX10_minute 6 = .ok (.iload_n 1, 1) := by decide +kernel
theorem dX10_minute_7 : decode cX10_minute 7 = .ok (.bipush 8, 2) := by decide +kernel
theorem dX10_minute_9 : decode cX10_minute 9 = .ok (.if_icmp .ge 33, 3) := by decide +kernel
theorem dX10_minute_12 : decode cX10_minute 12 = .ok (.aload_n 0, 1) := by decide +kernel
theorem dX10_minute_13 : decode cX10_minute 13 = .ok (.getfield 25, 3) := by decide +kernel
theorem dX10_minute_16 : decode cX10_minute 16 = .ok (.iload_n 1, 1) := by decide +kernel
theorem dX10_minute_17 : decode cX10_minute 17 = .ok (.aload_n 0, 1) := by decide +kernel
theorem dX10_minute_18 : decode cX10_minute 18 = .ok (.iload_n 1, 1) := by decide +kernel
theorem dX10_minute_19 : decode cX10_minute 19 = .ok (.iconst 2, 1) := by decide +kernel
theorem dX10_minute_20 : decode cX10_minute 20 = .ok (.invokevirtual 116, 3) := by decide +kernel
theorem dX10_minute_23 : decode cX10_minute 23 = .ok (.iastore, 1) := by decide +kernel
theorem dX10_minute_24 : decode cX10_minute 24 = .ok (.aload_n 0, 1) := by decide +kernel
theorem dX10_minute_25 : decode cX10_minute 25 = .ok (.getfield 28, 3) := by decide +kernel
theorem dX10_minute_28 : decode cX10_minute 28 = .ok (.iload_n 1, 1) := by decide +kernel
theorem dX10_minute_29 : decode cX10_minute 29 = .ok (.aload_n 0, 1) := by decide +kernel
theorem dX10_minute_30 : decode cX10_minute 30 = .ok (.iload_n 1, 1) := by decide +kernel
theorem dX10_minute_31 : decode cX10_minute 31 = .ok (.iconst 0, 1) := by decide +kernel
theorem dX10_minute_32 : decode cX10_minute 32 = .ok (.invokevirtual 116, 3) := by decide +kernel
theorem dX10_minute_35 : decode cX10_minute 35 = .ok (.iastore, 1) := by decide +kernel
theorem dX10_minute_36 : decode cX10_minute 36 = .ok (.iinc 1 1, 3) := by decide +kernel
theorem dX10_minute_39 : decode cX10_minute 39 = .ok (.goto (-33), 3) := by decide +kernel
theorem dX10_minute_42 : decode cX10_minute 42 = .ok (.aload_n 0, 1) := by decide +kernel
theorem dX10_minute_43 : decode cX10_minute 43 = .ok (.invokevirtual 152, 3) := by decide +kernel
theorem dX10_minute_46 : decode cX10_minute 46 = .ok (.aload_n 0, 1) := by decide +kernel
theorem dX10_minute_47 : decode cX10_minute 47 = .ok (.invokevirtual 155, 3) := by decide +kernel
theorem dX10_minute_50 : decode cX10_minute 50 = .ok (.iconst 0, 1) := by decide +kernel
theorem dX10_minute_51 : decode cX10_minute 51 = .ok (.istore_n 1, 1) := by decide +kernel
theorem dX10_minute_52 : decode cX10_minute 52 = .ok (.iconst 0, 1) := by decide +kernel
theorem dX10_minute_53 : decode cX10_minute 53 = .ok (.istore_n 2, 1) := by decide +kernel
theorem dX10_minute_54 : decode cX10_minute 54 = .ok (.iload_n 2, 1) := by decide +kernel
theorem dX10_minute_55 : decode cX10_minute 55 = .ok (.bipush 8, 2) := by decide +kernel
theorem dX10_minute_57 : decode cX10_minute 57 = .ok (.if_icmp .ge 50, 3) := by decide +kernel
theorem dX10_minute_60 : decode cX10_minute 60 = .ok (.aload_n 0, 1) := by decide +kernel
theorem dX10_minute_61 : decode cX10_minute 61 = .ok (.iload_n 2, 1) := by decide +kernel
theorem dX10_minute_62 : decode cX10_minute 62 = .ok (.iconst 3, 1) := by decide +kernel
theorem dX10_minute_63 : decode cX10_minute 63 = .ok (.invokevirtual 116, 3) := by decide +kernel
theorem dX10_minute_66 : decode cX10_minute 66 = .ok (.iconst 1, 1) := by decide +kernel
theorem dX10_minute_67 : decode cX10_minute 67 = .ok (.if_icmp .ne 34, 3) := by decide +kernel
theorem dX10_minute_70 : decode cX10_minute 70 = .ok (.aload_n 0, 1) := by decide +kernel
theorem dX10_minute_71 : decode cX10_minute 71 = .ok (.getfield 22, 3) := by decide +kernel
theorem dX10_minute_74 : decode cX10_minute 74 = .ok (.iload_n 2, 1) := by decide +kernel
theorem dX10_minute_75 : decode cX10_minute 75 = .ok (.iaload, 1) := by decide +kernel
theorem dX10_minute_76 : decode cX10_minute 76 = .ok (.aload_n 0, 1) := by decide +kernel
theorem dX10_minute_77 : decode cX10_minute 77 = .ok (.iload_n 2, 1) := by decide +kernel
theorem dX10_minute_78 : decode cX10_minute 78 = .ok (.invokevirtual 158, 3) := by decide +kernel
theorem dX10_minute_81 : decode cX10_minute 81 = .ok (.if_icmp .le 20, 3) := by decide +kernel
theorem dX10_minute_84 : decode cX10_minute 84 = .ok (.aload_n 0, 1) := by decide +kernel
theorem dX10_minute_85 : decode cX10_minute 85 = .ok (.getfield 9, 3) := by decide +kernel
theorem dX10_minute_88 : decode cX10_minute 88 = .ok (.bipush 6, 2) := by decide +kernel
theorem dX10_minute_90 : decode cX10_minute 90 = .ok (.iconst 4, 1) := by decide +kernel
theorem dX10_minute_91 : decode cX10_minute 91 = .ok (.iload_n 2, 1) := by decide +kernel
theorem dX10_minute_92 : decode cX10_minute 92 = .ok (.imul, 1) := by decide +kernel
theorem dX10_minute_93 : decode cX10_minute 93 = .ok (.iadd, 1) := by decide +kernel
theorem dX10_minute_94 : decode cX10_minute 94 = .ok (.iconst 3, 1) := by decide +kernel
theorem dX10_minute_95 : decode cX10_minute 95 = .ok (.iadd, 1) := by decide +kernel
theorem dX10_minute_96 : decode cX10_minute 96 = .ok (.iconst 0, 1) := by decide +kernel
theorem dX10_minute_97 : decode cX10_minute 97 = .ok (.iastore, 1) := by decide +kernel
theorem dX10_minute_98 : decode cX10_minute 98 = .ok (.iinc 1 1, 3) := by decide +kernel
theorem dX10_minute_101 : decode cX10_minute 101 = .ok (.iinc 2 1, 3) := by decide +kernel
theorem dX10_minute_104 : decode cX10_minute 104 = .ok (.goto (-50), 3) := by decide +kernel
theorem dX10_minute_107 : decode cX10_minute 107 = .ok (.aload_n 0, 1) := by decide +kernel
theorem dX10_minute_108 : decode cX10_minute 108 = .ok (.getfield 9, 3) := by decide +kernel
theorem dX10_minute_111 : decode cX10_minute 111 = .ok (.iconst 2, 1) := by decide +kernel
theorem dX10_minute_112 : decode cX10_minute 112 = .ok (.dup2, 1) := by decide +kernel
theorem dX10_minute_113 : decode cX10_minute 113 = .ok (.iaload, 1) := by decide +kernel
theorem dX10_minute_114 : decode cX10_minute 114 = .ok (.iconst 1, 1) := by decide +kernel
theorem dX10_minute_115 : decode cX10_minute 115 = .ok (.iadd, 1) := by decide +kernel
theorem dX10_minute_116 : decode cX10_minute 116 = .ok (.iastore, 1) := by decide +kernel
theorem dX10_minute_117 : decode cX10_minute 117 = .ok (.iload_n 1, 1) := by decide +kernel
theorem dX10_minute_118 : decode cX10_minute 118 = .ok (.ireturn, 1) := by decide +kernel
theorem dX10_goesOn_0 : decode cX10_goesOn 0 = .ok (.iconst 0, 1) := by decide +kernel
theorem dX10_goesOn_1 : decode cX10_goesOn 1 = .ok (.istore_n 2, 1) := by decide +kernel
theorem dX10_goesOn_2 : decode cX10_goesOn 2 = .ok (.iconst 0, 1) := by decide +kernel
theorem dX10_goesOn_3 : decode cX10_goesOn 3 = .ok (.istore_n 3, 1) := by decide +kernel
theorem dX10_goesOn_4 : decode cX10_goesOn 4 = .ok (.iload_n 3, 1) := by decide +kernel
theorem dX10_goesOn_5 : decode cX10_goesOn 5 = .ok (.iload_n 1, 1) := by decide +kernel
theorem dX10_goesOn_6 : decode cX10_goesOn 6 = .ok (.if_icmp .ge 16, 3) := by decide +kernel
theorem dX10_goesOn_9 : decode cX10_goesOn 9 = .ok (.iload_n 2, 1) := by decide +kernel
theorem dX10_goesOn_10 : decode cX10_goesOn 10 = .ok (.aload_n 0, 1) := by decide +kernel
theorem dX10_goesOn_11 : decode cX10_goesOn 11 = .ok (.invokevirtual 161, 3) := by decide +kernel
theorem dX10_goesOn_14 : decode cX10_goesOn 14 = .ok (.iadd, 1) := by decide +kernel
theorem dX10_goesOn_15 : decode cX10_goesOn 15 = .ok (.istore_n 2, 1) := by decide +kernel
theorem dX10_goesOn_16 : decode cX10_goesOn 16 = .ok (.iinc 3 1, 3) := by decide +kernel
theorem dX10_goesOn_19 : decode cX10_goesOn 19 = .ok (.goto (-15), 3) := by decide +kernel
theorem dX10_goesOn_22 : decode cX10_goesOn 22 = .ok (.iload_n 2, 1) := by decide +kernel
theorem dX10_goesOn_23 : decode cX10_goesOn 23 = .ok (.ireturn, 1) := by decide +kernel
theorem dX10_run_0 : decode cX10_run 0 = .ok (.iload_n 1, 1) := by decide +kernel
theorem dX10_run_1 : decode cX10_run 1 = .ok (.iconst 1, 1) := by decide +kernel
theorem dX10_run_2 : decode cX10_run 2 = .ok (.bipush 100, 2) := by decide +kernel
theorem dX10_run_4 : decode cX10_run 4 = .ok (.invokestatic 87, 3) := by decide +kernel
theorem dX10_run_7 : decode cX10_run 7 = .ok (.ifCond .eq 25, 3) := by decide +kernel
theorem dX10_run_10 : decode cX10_run 10 = .ok (.aload_n 0, 1) := by decide +kernel
theorem dX10_run_11 : decode cX10_run 11 = .ok (.sipush 9999, 3) := by decide +kernel
theorem dX10_run_14 : decode cX10_run 14 = .ok (.aload_n 0, 1) := by decide +kernel
theorem dX10_run_15 : decode cX10_run 15 = .ok (.getfield 9, 3) := by decide +kernel
theorem dX10_run_18 : decode cX10_run 18 = .ok (.iconst 2, 1) := by decide +kernel
theorem dX10_run_19 : decode cX10_run 19 = .ok (.iaload, 1) := by decide +kernel
theorem dX10_run_20 : decode cX10_run 20 = .ok (.isub, 1) := by decide +kernel
theorem dX10_run_21 : decode cX10_run 21 = .ok (.iconst 0, 1) := by decide +kernel
theorem dX10_run_22 : decode cX10_run 22 = .ok (.iload_n 1, 1) := by decide +kernel
theorem dX10_run_23 : decode cX10_run 23 = .ok (.invokestatic 112, 3) := by decide +kernel
theorem dX10_run_26 : decode cX10_run 26 = .ok (.invokevirtual 164, 3) := by decide +kernel
theorem dX10_run_29 : decode cX10_run 29 = .ok (.goto 5, 3) := by decide +kernel
theorem dX10_run_32 : decode cX10_run 32 = .ok (.ldc 95, 2) := by decide +kernel
theorem dX10_run_34 : decode cX10_run 34 = .ok (.ireturn, 1) := by decide +kernel
theorem dX10_footman_0 : decode cX10_footman 0 = .ok (.iload_n 1, 1) := by decide +kernel
theorem dX10_footman_1 : decode cX10_footman 1 = .ok (.iconst 0, 1) := by decide +kernel
theorem dX10_footman_2 : decode cX10_footman 2 = .ok (.bipush 100, 2) := by decide +kernel
theorem dX10_footman_4 : decode cX10_footman 4 = .ok (.invokestatic 87, 3) := by decide +kernel
theorem dX10_footman_7 : decode cX10_footman 7 = .ok (.ifCond .ne 6, 3) := by decide +kernel
theorem dX10_footman_10 : decode cX10_footman 10 = .ok (.ldc 95, 2) := by decide +kernel
theorem dX10_footman_12 : decode cX10_footman 12 = .ok (.ireturn, 1) := by decide +kernel
theorem dX10_footman_13 : decode cX10_footman 13 = .ok (.iconst 0, 1) := by decide +kernel
theorem dX10_footman_14 : decode cX10_footman 14 = .ok (.istore_n 2, 1) := by decide +kernel
theorem dX10_footman_15 : decode cX10_footman 15 = .ok (.iconst 0, 1) := by decide +kernel
theorem dX10_footman_16 : decode cX10_footman 16 = .ok (.istore_n 3, 1) := by decide +kernel
theorem dX10_footman_17 : decode cX10_footman 17 = .ok (.iload_n 3, 1) := by decide +kernel
theorem dX10_footman_18 : decode cX10_footman 18 = .ok (.aload_n 0, 1) := by decide +kernel
theorem dX10_footman_19 : decode cX10_footman 19 = .ok (.getfield 9, 3) := by decide +kernel
theorem dX10_footman_22 : decode cX10_footman 22 = .ok (.iconst 1, 1) := by decide +kernel
theorem dX10_footman_23 : decode cX10_footman 23 = .ok (.iaload, 1) := by decide +kernel
theorem dX10_footman_24 : decode cX10_footman 24 = .ok (.if_icmp .ge 43, 3) := by decide +kernel
theorem dX10_footman_27 : decode cX10_footman 27 = .ok (.aload_n 0, 1) := by decide +kernel
theorem dX10_footman_28 : decode cX10_footman 28 = .ok (.invokevirtual 148, 3) := by decide +kernel
theorem dX10_footman_31 : decode cX10_footman 31 = .ok (.bipush 100, 2) := by decide +kernel
theorem dX10_footman_33 : decode cX10_footman 33 = .ok (.irem, 1) := by decide +kernel
theorem dX10_footman_34 : decode cX10_footman 34 = .ok (.iload_n 1, 1) := by decide +kernel
theorem dX10_footman_35 : decode cX10_footman 35 = .ok (.if_icmp .ge 26, 3) := by decide +kernel
theorem dX10_footman_38 : decode cX10_footman 38 = .ok (.iload_n 2, 1) := by decide +kernel
theorem dX10_footman_39 : decode cX10_footman 39 = .ok (.aload_n 0, 1) := by decide +kernel
theorem dX10_footman_40 : decode cX10_footman 40 = .ok (.iload_n 3, 1) := by decide +kernel
theorem dX10_footman_41 : decode cX10_footman 41 = .ok (.iconst 4, 1) := by decide +kernel
theorem dX10_footman_42 : decode cX10_footman 42 = .ok (.invokevirtual 101, 3) := by decide +kernel
theorem dX10_footman_45 : decode cX10_footman 45 = .ok (.iadd, 1) := by decide +kernel
theorem dX10_footman_46 : decode cX10_footman 46 = .ok (.istore_n 2, 1) := by decide +kernel
theorem dX10_footman_47 : decode cX10_footman 47 = .ok (.aload_n 0, 1) := by decide +kernel
theorem dX10_footman_48 : decode cX10_footman 48 = .ok (.getfield 9, 3) := by decide +kernel
theorem dX10_footman_51 : decode cX10_footman 51 = .ok (.bipush 38, 2) := by decide +kernel
theorem dX10_footman_53 : decode cX10_footman 53 = .ok (.iconst 5, 1) := by decide +kernel
theorem dX10_footman_54 : decode cX10_footman 54 = .ok (.iload_n 3, 1) := by decide +kernel
theorem dX10_footman_55 : decode cX10_footman 55 = .ok (.imul, 1) := by decide +kernel
theorem dX10_footman_56 : decode cX10_footman 56 = .ok (.iadd, 1) := by decide +kernel
theorem dX10_footman_57 : decode cX10_footman 57 = .ok (.iconst 4, 1) := by decide +kernel
theorem dX10_footman_58 : decode cX10_footman 58 = .ok (.iadd, 1) := by decide +kernel
theorem dX10_footman_59 : decode cX10_footman 59 = .ok (.iconst 0, 1) := by decide +kernel
theorem dX10_footman_60 : decode cX10_footman 60 = .ok (.iastore, 1) := by decide +kernel
theorem dX10_footman_61 : decode cX10_footman 61 = .ok (.iinc 3 1, 3) := by decide +kernel
theorem dX10_footman_64 : decode cX10_footman 64 = .ok (.goto (-47), 3) := by decide +kernel
theorem dX10_footman_67 : decode cX10_footman 67 = .ok (.iload_n 2, 1) := by decide +kernel
theorem dX10_footman_68 : decode cX10_footman 68 = .ok (.ireturn, 1) := by decide +kernel
theorem dX10_sumOf_0 : decode cX10_sumOf 0 = .ok (.iconst 0, 1) := by decide +kernel
theorem dX10_sumOf_1 : decode cX10_sumOf 1 = .ok (.istore_n 2, 1) := by decide +kernel
theorem dX10_sumOf_2 : decode cX10_sumOf 2 = .ok (.iconst 0, 1) := by decide +kernel
theorem dX10_sumOf_3 : decode cX10_sumOf 3 = .ok (.istore_n 3, 1) := by decide +kernel
theorem dX10_sumOf_4 : decode cX10_sumOf 4 = .ok (.iload_n 3, 1) := by decide +kernel
theorem dX10_sumOf_5 : decode cX10_sumOf 5 = .ok (.bipush 8, 2) := by decide +kernel
theorem dX10_sumOf_7 : decode cX10_sumOf 7 = .ok (.if_icmp .ge 18, 3) := by decide +kernel
theorem dX10_sumOf_10 : decode cX10_sumOf 10 = .ok (.iload_n 2, 1) := by decide +kernel
theorem dX10_sumOf_11 : decode cX10_sumOf 11 = .ok (.aload_n 0, 1) := by decide +kernel
theorem dX10_sumOf_12 : decode cX10_sumOf 12 = .ok (.iload_n 3, 1) := by decide +kernel
theorem dX10_sumOf_13 : decode cX10_sumOf 13 = .ok (.iload_n 1, 1) := by decide +kernel
theorem dX10_sumOf_14 : decode cX10_sumOf 14 = .ok (.invokevirtual 116, 3) := by decide +kernel
theorem dX10_sumOf_17 : decode cX10_sumOf 17 = .ok (.iadd, 1) := by decide +kernel
theorem dX10_sumOf_18 : decode cX10_sumOf 18 = .ok (.istore_n 2, 1) := by decide +kernel
theorem dX10_sumOf_19 : decode cX10_sumOf 19 = .ok (.iinc 3 1, 3) := by decide +kernel
theorem dX10_sumOf_22 : decode cX10_sumOf 22 = .ok (.goto (-18), 3) := by decide +kernel
theorem dX10_sumOf_25 : decode cX10_sumOf 25 = .ok (.iload_n 2, 1) := by decide +kernel
theorem dX10_sumOf_26 : decode cX10_sumOf 26 = .ok (.ireturn, 1) := by decide +kernel
theorem dX10_litSet_0 : decode cX10_litSet 0 = .ok (.iconst 0, 1) := by decide +kernel
theorem dX10_litSet_1 : decode cX10_litSet 1 = .ok (.istore_n 1, 1) := by decide +kernel
theorem dX10_litSet_2 : decode cX10_litSet 2 = .ok (.iconst 0, 1) := by decide +kernel
theorem dX10_litSet_3 : decode cX10_litSet 3 = .ok (.istore_n 2, 1) := by decide +kernel
theorem dX10_litSet_4 : decode cX10_litSet 4 = .ok (.iload_n 2, 1) := by decide +kernel
theorem dX10_litSet_5 : decode cX10_litSet 5 = .ok (.bipush 8, 2) := by decide +kernel
theorem dX10_litSet_7 : decode cX10_litSet 7 = .ok (.if_icmp .ge 20, 3) := by decide +kernel
theorem dX10_litSet_10 : decode cX10_litSet 10 = .ok (.iload_n 1, 1) := by decide +kernel
theorem dX10_litSet_11 : decode cX10_litSet 11 = .ok (.aload_n 0, 1) := by decide +kernel
theorem dX10_litSet_12 : decode cX10_litSet 12 = .ok (.iload_n 2, 1) := by decide +kernel
theorem dX10_litSet_13 : decode cX10_litSet 13 = .ok (.iconst 3, 1) := by decide +kernel
theorem dX10_litSet_14 : decode cX10_litSet 14 = .ok (.invokevirtual 116, 3) := by decide +kernel
theorem dX10_litSet_17 : decode cX10_litSet 17 = .ok (.iload_n 2, 1) := by decide +kernel
theorem dX10_litSet_18 : decode cX10_litSet 18 = .ok (.ishl, 1) := by decide +kernel
theorem dX10_litSet_19 : decode cX10_litSet 19 = .ok (.ior, 1) := by decide +kernel
theorem dX10_litSet_20 : decode cX10_litSet 20 = .ok (.istore_n 1, 1) := by decide +kernel
theorem dX10_litSet_21 : decode cX10_litSet 21 = .ok (.iinc 2 1, 3) := by decide +kernel
theorem dX10_litSet_24 : decode cX10_litSet 24 = .ok (.goto (-20), 3) := by decide +kernel
theorem dX10_litSet_27 : decode cX10_litSet 27 = .ok (.iload_n 1, 1) := by decide +kernel
theorem dX10_litSet_28 : decode cX10_litSet 28 = .ok (.ireturn, 1) := by decide +kernel
theorem dX10_openSet_0 : decode cX10_openSet 0 = .ok (.iconst 0, 1) := by decide +kernel
theorem dX10_openSet_1 : decode cX10_openSet 1 = .ok (.istore_n 1, 1) := by decide +kernel
theorem dX10_openSet_2 : decode cX10_openSet 2 = .ok (.iconst 0, 1) := by decide +kernel
theorem dX10_openSet_3 : decode cX10_openSet 3 = .ok (.istore_n 2, 1) := by decide +kernel
theorem dX10_openSet_4 : decode cX10_openSet 4 = .ok (.iload_n 2, 1) := by decide +kernel
theorem dX10_openSet_5 : decode cX10_openSet 5 = .ok (.aload_n 0, 1) := by decide +kernel
theorem dX10_openSet_6 : decode cX10_openSet 6 = .ok (.getfield 9, 3) := by decide +kernel
theorem dX10_openSet_9 : decode cX10_openSet 9 = .ok (.iconst 1, 1) := by decide +kernel
theorem dX10_openSet_10 : decode cX10_openSet 10 = .ok (.iaload, 1) := by decide +kernel
theorem dX10_openSet_11 : decode cX10_openSet 11 = .ok (.if_icmp .ge 20, 3) := by decide +kernel
theorem dX10_openSet_14 : decode cX10_openSet 14 = .ok (.iload_n 1, 1) := by decide +kernel
theorem dX10_openSet_15 : decode cX10_openSet 15 = .ok (.aload_n 0, 1) := by decide +kernel
theorem dX10_openSet_16 : decode cX10_openSet 16 = .ok (.iload_n 2, 1) := by decide +kernel
theorem dX10_openSet_17 : decode cX10_openSet 17 = .ok (.iconst 4, 1) := by decide +kernel
theorem dX10_openSet_18 : decode cX10_openSet 18 = .ok (.invokevirtual 101, 3) := by decide +kernel
theorem dX10_openSet_21 : decode cX10_openSet 21 = .ok (.iload_n 2, 1) := by decide +kernel
theorem dX10_openSet_22 : decode cX10_openSet 22 = .ok (.ishl, 1) := by decide +kernel
theorem dX10_openSet_23 : decode cX10_openSet 23 = .ok (.ior, 1) := by decide +kernel
theorem dX10_openSet_24 : decode cX10_openSet 24 = .ok (.istore_n 1, 1) := by decide +kernel
theorem dX10_openSet_25 : decode cX10_openSet 25 = .ok (.iinc 2 1, 3) := by decide +kernel
theorem dX10_openSet_28 : decode cX10_openSet 28 = .ok (.goto (-24), 3) := by decide +kernel
theorem dX10_openSet_31 : decode cX10_openSet 31 = .ok (.iload_n 1, 1) := by decide +kernel
theorem dX10_openSet_32 : decode cX10_openSet 32 = .ok (.ireturn, 1) := by decide +kernel
theorem dX10_hall_0 : decode cX10_hall 0 = .ok (.iload_n 1, 1) := by decide +kernel
theorem dX10_hall_1 : decode cX10_hall 1 = .ok (.tableswitch 64 0 4 #[35, 42, 48, 54, 59], 35) := by decide +kernel
theorem dX10_hall_36 : decode cX10_hall 36 = .ok (.aload_n 0, 1) := by decide +kernel
theorem dX10_hall_37 : decode cX10_hall 37 = .ok (.getfield 9, 3) := by decide +kernel
theorem dX10_hall_40 : decode cX10_hall 40 = .ok (.iconst 4, 1) := by decide +kernel
theorem dX10_hall_41 : decode cX10_hall 41 = .ok (.iaload, 1) := by decide +kernel
theorem dX10_hall_42 : decode cX10_hall 42 = .ok (.ireturn, 1) := by decide +kernel
theorem dX10_hall_43 : decode cX10_hall 43 = .ok (.aload_n 0, 1) := by decide +kernel
theorem dX10_hall_44 : decode cX10_hall 44 = .ok (.iconst 0, 1) := by decide +kernel
theorem dX10_hall_45 : decode cX10_hall 45 = .ok (.invokevirtual 167, 3) := by decide +kernel
theorem dX10_hall_48 : decode cX10_hall 48 = .ok (.ireturn, 1) := by decide +kernel
theorem dX10_hall_49 : decode cX10_hall 49 = .ok (.aload_n 0, 1) := by decide +kernel
theorem dX10_hall_50 : decode cX10_hall 50 = .ok (.iconst 2, 1) := by decide +kernel
theorem dX10_hall_51 : decode cX10_hall 51 = .ok (.invokevirtual 167, 3) := by decide +kernel
theorem dX10_hall_54 : decode cX10_hall 54 = .ok (.ireturn, 1) := by decide +kernel
theorem dX10_hall_55 : decode cX10_hall 55 = .ok (.aload_n 0, 1) := by decide +kernel
theorem dX10_hall_56 : decode cX10_hall 56 = .ok (.invokevirtual 170, 3) := by decide +kernel
theorem dX10_hall_59 : decode cX10_hall 59 = .ok (.ireturn, 1) := by decide +kernel
theorem dX10_hall_60 : decode cX10_hall 60 = .ok (.aload_n 0, 1) := by decide +kernel
theorem dX10_hall_61 : decode cX10_hall 61 = .ok (.invokevirtual 173, 3) := by decide +kernel
theorem dX10_hall_64 : decode cX10_hall 64 = .ok (.ireturn, 1) := by decide +kernel
theorem dX10_hall_65 : decode cX10_hall 65 = .ok (.ldc 95, 2) := by decide +kernel
theorem dX10_hall_67 : decode cX10_hall 67 = .ok (.ireturn, 1) := by decide +kernel
theorem dX10_thinks_0 : decode cX10_thinks 0 = .ok (.iconst 0, 1) := by decide +kernel
theorem dX10_thinks_1 : decode cX10_thinks 1 = .ok (.istore_n 1, 1) := by decide +kernel
theorem dX10_thinks_2 : decode cX10_thinks 2 = .ok (.iload_n 1, 1) := by decide +kernel
theorem dX10_thinks_3 : decode cX10_thinks 3 = .ok (.bipush 88, 2) := by decide +kernel
theorem dX10_thinks_5 : decode cX10_thinks 5 = .ok (.if_icmp .ge 21, 3) := by decide +kernel
theorem dX10_thinks_8 : decode cX10_thinks 8 = .ok (.aload_n 0, 1) := by decide +kernel
theorem dX10_thinks_9 : decode cX10_thinks 9 = .ok (.getfield 31, 3) := by decide +kernel
theorem dX10_thinks_12 : decode cX10_thinks 12 = .ok (.iload_n 1, 1) := by decide +kernel
theorem dX10_thinks_13 : decode cX10_thinks 13 = .ok (.aload_n 0, 1) := by decide +kernel
theorem dX10_thinks_14 : decode cX10_thinks 14 = .ok (.getfield 9, 3) := by decide +kernel
theorem dX10_thinks_17 : decode cX10_thinks 17 = .ok (.iload_n 1, 1) := by decide +kernel
theorem dX10_thinks_18 : decode cX10_thinks 18 = .ok (.iaload, 1) := by decide +kernel
theorem dX10_thinks_19 : decode cX10_thinks 19 = .ok (.iastore, 1) := by decide +kernel
theorem dX10_thinks_20 : decode cX10_thinks 20 = .ok (.iinc 1 1, 3) := by decide +kernel
theorem dX10_thinks_23 : decode cX10_thinks 23 = .ok (.goto (-21), 3) := by decide +kernel
theorem dX10_thinks_26 : decode cX10_thinks 26 = .ok (.return_, 1) := by decide +kernel
theorem dX10_putsBack_0 : decode cX10_putsBack 0 = .ok (.iconst 0, 1) := by decide +kernel
theorem dX10_putsBack_1 : decode cX10_putsBack 1 = .ok (.istore_n 1, 1) := by decide +kernel
theorem dX10_putsBack_2 : decode cX10_putsBack 2 = .ok (.iload_n 1, 1) := by decide +kernel
theorem dX10_putsBack_3 : decode cX10_putsBack 3 = .ok (.bipush 88, 2) := by decide +kernel
theorem dX10_putsBack_5 : decode cX10_putsBack 5 = .ok (.if_icmp .ge 21, 3) := by decide +kernel
theorem dX10_putsBack_8 : decode cX10_putsBack 8 = .ok (.aload_n 0, 1) := by decide +kernel
theorem dX10_putsBack_9 : decode cX10_putsBack 9 = .ok (.getfield 9, 3) := by decide +kernel
theorem dX10_putsBack_12 : decode cX10_putsBack 12 = .ok (.iload_n 1, 1) := by decide +kernel
theorem dX10_putsBack_13 : decode cX10_putsBack 13 = .ok (.aload_n 0, 1) := by decide +kernel
theorem dX10_putsBack_14 : decode cX10_putsBack 14 = .ok (.getfield 31, 3) := by decide +kernel
theorem dX10_putsBack_17 : decode cX10_putsBack 17 = .ok (.iload_n 1, 1) := by decide +kernel
theorem dX10_putsBack_18 : decode cX10_putsBack 18 = .ok (.iaload, 1) := by decide +kernel
theorem dX10_putsBack_19 : decode cX10_putsBack 19 = .ok (.iastore, 1) := by decide +kernel
theorem dX10_putsBack_20 : decode cX10_putsBack 20 = .ok (.iinc 1 1, 3) := by decide +kernel
theorem dX10_putsBack_23 : decode cX10_putsBack 23 = .ok (.goto (-21), 3) := by decide +kernel
theorem dX10_putsBack_26 : decode cX10_putsBack 26 = .ok (.return_, 1) := by decide +kernel
theorem dX10_behind_0 : decode cX10_behind 0 = .ok (.iload_n 1, 1) := by decide +kernel
theorem dX10_behind_1 : decode cX10_behind 1 = .ok (.invokestatic 91, 3) := by decide +kernel
theorem dX10_behind_4 : decode cX10_behind 4 = .ok (.ifCond .eq 22, 3) := by decide +kernel
theorem dX10_behind_7 : decode cX10_behind 7 = .ok (.iload_n 2, 1) := by decide +kernel
theorem dX10_behind_8 : decode cX10_behind 8 = .ok (.iconst 0, 1) := by decide +kernel
theorem dX10_behind_9 : decode cX10_behind 9 = .ok (.bipush 100, 2) := by decide +kernel
theorem dX10_behind_11 : decode cX10_behind 11 = .ok (.invokestatic 87, 3) := by decide +kernel
theorem dX10_behind_14 : decode cX10_behind 14 = .ok (.ifCond .eq 12, 3) := by decide +kernel
theorem dX10_behind_17 : decode cX10_behind 17 = .ok (.iload_n 3, 1) := by decide +kernel
theorem dX10_behind_18 : decode cX10_behind 18 = .ok (.iconst 0, 1) := by decide +kernel
theorem dX10_behind_19 : decode cX10_behind 19 = .ok (.iconst 3, 1) := by decide +kernel
theorem dX10_behind_20 : decode cX10_behind 20 = .ok (.invokestatic 87, 3) := by decide +kernel
theorem dX10_behind_23 : decode cX10_behind 23 = .ok (.ifCond .ne 6, 3) := by decide +kernel
theorem dX10_behind_26 : decode cX10_behind 26 = .ok (.ldc 95, 2) := by decide +kernel
theorem dX10_behind_28 : decode cX10_behind 28 = .ok (.ireturn, 1) := by decide +kernel
theorem dX10_behind_29 : decode cX10_behind 29 = .ok (.aload_n 0, 1) := by decide +kernel
theorem dX10_behind_30 : decode cX10_behind 30 = .ok (.invokevirtual 176, 3) := by decide +kernel
theorem dX10_behind_33 : decode cX10_behind 33 = .ok (.aload_n 0, 1) := by decide +kernel
theorem dX10_behind_34 : decode cX10_behind 34 = .ok (.iload_n 2, 1) := by decide +kernel
theorem dX10_behind_35 : decode cX10_behind 35 = .ok (.invokevirtual 164, 3) := by decide +kernel
theorem dX10_behind_38 : decode cX10_behind 38 = .ok (.istore 4, 2) := by decide +kernel
theorem dX10_behind_40 : decode cX10_behind 40 = .ok (.aload_n 0, 1) := by decide +kernel
theorem dX10_behind_41 : decode cX10_behind 41 = .ok (.invokevirtual 144, 3) := by decide +kernel
theorem dX10_behind_44 : decode cX10_behind 44 = .ok (.iload_n 3, 1) := by decide +kernel
theorem dX10_behind_45 : decode cX10_behind 45 = .ok (.ifCond .ne 12, 3) := by decide +kernel
theorem dX10_behind_48 : decode cX10_behind 48 = .ok (.aload_n 0, 1) := by decide +kernel
theorem dX10_behind_49 : decode cX10_behind 49 = .ok (.iload_n 1, 1) := by decide +kernel
theorem dX10_behind_50 : decode cX10_behind 50 = .ok (.iconst 0, 1) := by decide +kernel
theorem dX10_behind_51 : decode cX10_behind 51 = .ok (.invokevirtual 116, 3) := by decide +kernel
theorem dX10_behind_54 : decode cX10_behind 54 = .ok (.goto 37, 3) := by decide +kernel
theorem dX10_behind_57 : decode cX10_behind 57 = .ok (.iload_n 3, 1) := by decide +kernel
theorem dX10_behind_58 : decode cX10_behind 58 = .ok (.iconst 1, 1) := by decide +kernel
theorem dX10_behind_59 : decode cX10_behind 59 = .ok (.if_icmp .ne 12, 3) := by decide +kernel
theorem dX10_behind_62 : decode cX10_behind 62 = .ok (.aload_n 0, 1) := by decide +kernel
theorem dX10_behind_63 : decode cX10_behind 63 = .ok (.iload_n 1, 1) := by decide +kernel
theorem dX10_behind_64 : decode cX10_behind 64 = .ok (.iconst 2, 1) := by decide +kernel
theorem dX10_behind_65 : decode cX10_behind 65 = .ok (.invokevirtual 116, 3) := by decide +kernel
theorem dX10_behind_68 : decode cX10_behind 68 = .ok (.goto 23, 3) := by decide +kernel
theorem dX10_behind_71 : decode cX10_behind 71 = .ok (.iload_n 3, 1) := by decide +kernel
theorem dX10_behind_72 : decode cX10_behind 72 = .ok (.iconst 2, 1) := by decide +kernel
theorem dX10_behind_73 : decode cX10_behind 73 = .ok (.if_icmp .ne 12, 3) := by decide +kernel
theorem dX10_behind_76 : decode cX10_behind 76 = .ok (.aload_n 0, 1) := by decide +kernel
theorem dX10_behind_77 : decode cX10_behind 77 = .ok (.getfield 22, 3) := by decide +kernel
theorem dX10_behind_80 : decode cX10_behind 80 = .ok (.iload_n 1, 1) := by decide +kernel
theorem dX10_behind_81 : decode cX10_behind 81 = .ok (.iaload, 1) := by decide +kernel
theorem dX10_behind_82 : decode cX10_behind 82 = .ok (.goto 9, 3) := by decide +kernel
theorem dX10_behind_85 : decode cX10_behind 85 = .ok (.aload_n 0, 1) := by decide +kernel
theorem dX10_behind_86 : decode cX10_behind 86 = .ok (.iload_n 1, 1) := by decide +kernel
theorem dX10_behind_87 : decode cX10_behind 87 = .ok (.iconst 3, 1) := by decide +kernel
theorem dX10_behind_88 : decode cX10_behind 88 = .ok (.invokevirtual 116, 3) := by decide +kernel
theorem dX10_behind_91 : decode cX10_behind 91 = .ok (.istore 5, 2) := by decide +kernel
theorem dX10_behind_93 : decode cX10_behind 93 = .ok (.aload_n 0, 1) := by decide +kernel
theorem dX10_behind_94 : decode cX10_behind 94 = .ok (.invokevirtual 179, 3) := by decide +kernel
theorem dX10_behind_97 : decode cX10_behind 97 = .ok (.iload 5, 2) := by decide +kernel
theorem dX10_behind_99 : decode cX10_behind 99 = .ok (.ireturn, 1) := by decide +kernel
theorem dX10_isStill_0 : decode cX10_isStill 0 = .ok (.aload_n 0, 1) := by decide +kernel
theorem dX10_isStill_1 : decode cX10_isStill 1 = .ok (.invokevirtual 144, 3) := by decide +kernel
theorem dX10_isStill_4 : decode cX10_isStill 4 = .ok (.iconst 0, 1) := by decide +kernel
theorem dX10_isStill_5 : decode cX10_isStill 5 = .ok (.istore_n 1, 1) := by decide +kernel
theorem dX10_isStill_6 : decode cX10_isStill 6 = .ok (.iload_n 1, 1) := by decide +kernel
theorem dX10_isStill_7 : decode cX10_isStill 7 = .ok (.aload_n 0, 1) := by decide +kernel
theorem dX10_isStill_8 : decode cX10_isStill 8 = .ok (.getfield 9, 3) := by decide +kernel
theorem dX10_isStill_11 : decode cX10_isStill 11 = .ok (.iconst 1, 1) := by decide +kernel
theorem dX10_isStill_12 : decode cX10_isStill 12 = .ok (.iaload, 1) := by decide +kernel
theorem dX10_isStill_13 : decode cX10_isStill 13 = .ok (.if_icmp .ge 20, 3) := by decide +kernel
theorem dX10_isStill_16 : decode cX10_isStill 16 = .ok (.aload_n 0, 1) := by decide +kernel
theorem dX10_isStill_17 : decode cX10_isStill 17 = .ok (.getfield 19, 3) := by decide +kernel
theorem dX10_isStill_20 : decode cX10_isStill 20 = .ok (.iload_n 1, 1) := by decide +kernel
theorem dX10_isStill_21 : decode cX10_isStill 21 = .ok (.iaload, 1) := by decide +kernel
theorem dX10_isStill_22 : decode cX10_isStill 22 = .ok (.ifCond .eq 5, 3) := by decide +kernel
theorem dX10_isStill_25 : decode cX10_isStill 25 = .ok (.iconst 0, 1) := by decide +kernel
theorem dX10_isStill_26 : decode cX10_isStill 26 = .ok (.ireturn, 1) := by decide +kernel
theorem dX10_isStill_27 : decode cX10_isStill 27 = .ok (.iinc 1 1, 3) := by decide +kernel
theorem dX10_isStill_30 : decode cX10_isStill 30 = .ok (.goto (-24), 3) := by decide +kernel
theorem dX10_isStill_33 : decode cX10_isStill 33 = .ok (.iconst 1, 1) := by decide +kernel
theorem dX10_isStill_34 : decode cX10_isStill 34 = .ok (.ireturn, 1) := by decide +kernel
theorem dX10_still_0 : decode cX10_still 0 = .ok (.aload_n 0, 1) := by decide +kernel
theorem dX10_still_1 : decode cX10_still 1 = .ok (.invokevirtual 176, 3) := by decide +kernel
theorem dX10_still_4 : decode cX10_still 4 = .ok (.iconst 0, 1) := by decide +kernel
theorem dX10_still_5 : decode cX10_still 5 = .ok (.istore_n 1, 1) := by decide +kernel
theorem dX10_still_6 : decode cX10_still 6 = .ok (.iload_n 1, 1) := by decide +kernel
theorem dX10_still_7 : decode cX10_still 7 = .ok (.sipush 200, 3) := by decide +kernel
theorem dX10_still_10 : decode cX10_still 10 = .ok (.if_icmp .gt 21, 3) := by decide +kernel
theorem dX10_still_13 : decode cX10_still 13 = .ok (.aload_n 0, 1) := by decide +kernel
theorem dX10_still_14 : decode cX10_still 14 = .ok (.invokevirtual 182, 3) := by decide +kernel
theorem dX10_still_17 : decode cX10_still 17 = .ok (.ifCond .ne 14, 3) := by decide +kernel
theorem dX10_still_20 : decode cX10_still 20 = .ok (.aload_n 0, 1) := by decide +kernel
theorem dX10_still_21 : decode cX10_still 21 = .ok (.invokevirtual 161, 3) := by decide +kernel
theorem dX10_still_24 : decode cX10_still 24 = .ok (.istore_n 2, 1) := by decide +kernel
theorem dX10_still_25 : decode cX10_still 25 = .ok (.iinc 1 1, 3) := by decide +kernel
theorem dX10_still_28 : decode cX10_still 28 = .ok (.goto (-22), 3) := by decide +kernel
theorem dX10_still_31 : decode cX10_still 31 = .ok (.aload_n 0, 1) := by decide +kernel
theorem dX10_still_32 : decode cX10_still 32 = .ok (.invokevirtual 179, 3) := by decide +kernel
theorem dX10_still_35 : decode cX10_still 35 = .ok (.iload_n 1, 1) := by decide +kernel
theorem dX10_still_36 : decode cX10_still 36 = .ok (.sipush 200, 3) := by decide +kernel
theorem dX10_still_39 : decode cX10_still 39 = .ok (.if_icmp .gt 7, 3) := by decide +kernel
theorem dX10_still_42 : decode cX10_still 42 = .ok (.iload_n 1, 1) := by decide +kernel
theorem dX10_still_43 : decode cX10_still 43 = .ok (.goto 5, 3) := by decide +kernel
theorem dX10_still_46 : decode cX10_still 46 = .ok (.ldc 186, 2) := by decide +kernel
theorem dX10_still_48 : decode cX10_still 48 = .ok (.ireturn, 1) := by decide +kernel
theorem dX10_bitsOf_0 : decode cX10_bitsOf 0 = .ok (.iconst 0, 1) := by decide +kernel
theorem dX10_bitsOf_1 : decode cX10_bitsOf 1 = .ok (.istore_n 1, 1) := by decide +kernel
theorem dX10_bitsOf_2 : decode cX10_bitsOf 2 = .ok (.iconst 0, 1) := by decide +kernel
theorem dX10_bitsOf_3 : decode cX10_bitsOf 3 = .ok (.istore_n 2, 1) := by decide +kernel
theorem dX10_bitsOf_4 : decode cX10_bitsOf 4 = .ok (.iload_n 2, 1) := by decide +kernel
theorem dX10_bitsOf_5 : decode cX10_bitsOf 5 = .ok (.bipush 10, 2) := by decide +kernel
theorem dX10_bitsOf_7 : decode cX10_bitsOf 7 = .ok (.if_icmp .ge 17, 3) := by decide +kernel
theorem dX10_bitsOf_10 : decode cX10_bitsOf 10 = .ok (.iload_n 1, 1) := by decide +kernel
theorem dX10_bitsOf_11 : decode cX10_bitsOf 11 = .ok (.iload_n 0, 1) := by decide +kernel
theorem dX10_bitsOf_12 : decode cX10_bitsOf 12 = .ok (.iload_n 2, 1) := by decide +kernel
theorem dX10_bitsOf_13 : decode cX10_bitsOf 13 = .ok (.ishr, 1) := by decide +kernel
theorem dX10_bitsOf_14 : decode cX10_bitsOf 14 = .ok (.iconst 1, 1) := by decide +kernel
theorem dX10_bitsOf_15 : decode cX10_bitsOf 15 = .ok (.iand, 1) := by decide +kernel
theorem dX10_bitsOf_16 : decode cX10_bitsOf 16 = .ok (.iadd, 1) := by decide +kernel
theorem dX10_bitsOf_17 : decode cX10_bitsOf 17 = .ok (.istore_n 1, 1) := by decide +kernel
theorem dX10_bitsOf_18 : decode cX10_bitsOf 18 = .ok (.iinc 2 1, 3) := by decide +kernel
theorem dX10_bitsOf_21 : decode cX10_bitsOf 21 = .ok (.goto (-17), 3) := by decide +kernel
theorem dX10_bitsOf_24 : decode cX10_bitsOf 24 = .ok (.iload_n 1, 1) := by decide +kernel
theorem dX10_bitsOf_25 : decode cX10_bitsOf 25 = .ok (.ireturn, 1) := by decide +kernel
theorem dX10_isCalm_0 : decode cX10_isCalm 0 = .ok (.iconst 0, 1) := by decide +kernel
theorem dX10_isCalm_1 : decode cX10_isCalm 1 = .ok (.istore 5, 2) := by decide +kernel
theorem dX10_isCalm_3 : decode cX10_isCalm 3 = .ok (.iload 5, 2) := by decide +kernel
theorem dX10_isCalm_5 : decode cX10_isCalm 5 = .ok (.aload_n 0, 1) := by decide +kernel
theorem dX10_isCalm_6 : decode cX10_isCalm 6 = .ok (.getfield 9, 3) := by decide +kernel
theorem dX10_isCalm_9 : decode cX10_isCalm 9 = .ok (.iconst 1, 1) := by decide +kernel
theorem dX10_isCalm_10 : decode cX10_isCalm 10 = .ok (.iaload, 1) := by decide +kernel
theorem dX10_isCalm_11 : decode cX10_isCalm 11 = .ok (.if_icmp .ge 45, 3) := by decide +kernel
theorem dX10_isCalm_14 : decode cX10_isCalm 14 = .ok (.aload_n 0, 1) := by decide +kernel
theorem dX10_isCalm_15 : decode cX10_isCalm 15 = .ok (.getfield 9, 3) := by decide +kernel
theorem dX10_isCalm_18 : decode cX10_isCalm 18 = .ok (.bipush 38, 2) := by decide +kernel
theorem dX10_isCalm_20 : decode cX10_isCalm 20 = .ok (.iconst 5, 1) := by decide +kernel
theorem dX10_isCalm_21 : decode cX10_isCalm 21 = .ok (.iload 5, 2) := by decide +kernel
theorem dX10_isCalm_23 : decode cX10_isCalm 23 = .ok (.imul, 1) := by decide +kernel
theorem dX10_isCalm_24 : decode cX10_isCalm 24 = .ok (.iadd, 1) := by decide +kernel
theorem dX10_isCalm_25 : decode cX10_isCalm 25 = .ok (.iconst 4, 1) := by decide +kernel
theorem dX10_isCalm_26 : decode cX10_isCalm 26 = .ok (.iadd, 1) := by decide +kernel
theorem dX10_isCalm_27 : decode cX10_isCalm 27 = .ok (.iload 4, 2) := by decide +kernel
theorem dX10_isCalm_29 : decode cX10_isCalm 29 = .ok (.iload 5, 2) := by decide +kernel
theorem dX10_isCalm_31 : decode cX10_isCalm 31 = .ok (.ishr, 1) := by decide +kernel
theorem dX10_isCalm_32 : decode cX10_isCalm 32 = .ok (.iconst 1, 1) := by decide +kernel
theorem dX10_isCalm_33 : decode cX10_isCalm 33 = .ok (.iand, 1) := by decide +kernel
theorem dX10_isCalm_34 : decode cX10_isCalm 34 = .ok (.iconst 1, 1) := by decide +kernel
theorem dX10_isCalm_35 : decode cX10_isCalm 35 = .ok (.if_icmp .ne 7, 3) := by decide +kernel
theorem dX10_isCalm_38 : decode cX10_isCalm 38 = .ok (.iconst 0, 1) := by decide +kernel
theorem dX10_isCalm_39 : decode cX10_isCalm 39 = .ok (.goto 10, 3) := by decide +kernel
theorem dX10_isCalm_42 : decode cX10_isCalm 42 = .ok (.aload_n 0, 1) := by decide +kernel
theorem dX10_isCalm_43 : decode cX10_isCalm 43 = .ok (.iload 5, 2) := by decide +kernel
theorem dX10_isCalm_45 : decode cX10_isCalm 45 = .ok (.iconst 4, 1) := by decide +kernel
theorem dX10_isCalm_46 : decode cX10_isCalm 46 = .ok (.invokevirtual 101, 3) := by decide +kernel
theorem dX10_isCalm_49 : decode cX10_isCalm 49 = .ok (.iastore, 1) := by decide +kernel
theorem dX10_isCalm_50 : decode cX10_isCalm 50 = .ok (.iinc 5 1, 3) := by decide +kernel
theorem dX10_isCalm_53 : decode cX10_isCalm 53 = .ok (.goto (-50), 3) := by decide +kernel
theorem dX10_isCalm_56 : decode cX10_isCalm 56 = .ok (.iconst 1, 1) := by decide +kernel
theorem dX10_isCalm_57 : decode cX10_isCalm 57 = .ok (.istore 5, 2) := by decide +kernel
theorem dX10_isCalm_59 : decode cX10_isCalm 59 = .ok (.iconst 0, 1) := by decide +kernel
theorem dX10_isCalm_60 : decode cX10_isCalm 60 = .ok (.istore 6, 2) := by decide +kernel
theorem dX10_isCalm_62 : decode cX10_isCalm 62 = .ok (.iload 6, 2) := by decide +kernel
theorem dX10_isCalm_64 : decode cX10_isCalm 64 = .ok (.iload_n 3, 1) := by decide +kernel
theorem dX10_isCalm_65 : decode cX10_isCalm 65 = .ok (.if_icmp .gt 41, 3) := by decide +kernel
theorem dX10_isCalm_68 : decode cX10_isCalm 68 = .ok (.iload 5, 2) := by decide +kernel
theorem dX10_isCalm_70 : decode cX10_isCalm 70 = .ok (.ifCond .eq 36, 3) := by decide +kernel
theorem dX10_isCalm_73 : decode cX10_isCalm 73 = .ok (.aload_n 0, 1) := by decide +kernel
theorem dX10_isCalm_74 : decode cX10_isCalm 74 = .ok (.invokevirtual 144, 3) := by decide +kernel
theorem dX10_isCalm_77 : decode cX10_isCalm 77 = .ok (.aload_n 0, 1) := by decide +kernel
theorem dX10_isCalm_78 : decode cX10_isCalm 78 = .ok (.getfield 22, 3) := by decide +kernel
theorem dX10_isCalm_81 : decode cX10_isCalm 81 = .ok (.iload_n 1, 1) := by decide +kernel
theorem dX10_isCalm_82 : decode cX10_isCalm 82 = .ok (.iaload, 1) := by decide +kernel
theorem dX10_isCalm_83 : decode cX10_isCalm 83 = .ok (.iload_n 2, 1) := by decide +kernel
theorem dX10_isCalm_84 : decode cX10_isCalm 84 = .ok (.if_icmp .gt 7, 3) := by decide +kernel
theorem dX10_isCalm_87 : decode cX10_isCalm 87 = .ok (.iconst 1, 1) := by decide +kernel
theorem dX10_isCalm_88 : decode cX10_isCalm 88 = .ok (.goto 4, 3) := by decide +kernel
theorem dX10_isCalm_91 : decode cX10_isCalm 91 = .ok (.iconst 0, 1) := by decide +kernel
theorem dX10_isCalm_92 : decode cX10_isCalm 92 = .ok (.istore 5, 2) := by decide +kernel
theorem dX10_isCalm_94 : decode cX10_isCalm 94 = .ok (.aload_n 0, 1) := by decide +kernel
theorem dX10_isCalm_95 : decode cX10_isCalm 95 = .ok (.invokevirtual 161, 3) := by decide +kernel
theorem dX10_isCalm_98 : decode cX10_isCalm 98 = .ok (.istore 7, 2) := by decide +kernel
theorem dX10_isCalm_100 : decode cX10_isCalm 100 = .ok (.iinc 6 1, 3) := by decide +kernel
theorem dX10_isCalm_103 : decode cX10_isCalm 103 = .ok (.goto (-41), 3) := by decide +kernel
theorem dX10_isCalm_106 : decode cX10_isCalm 106 = .ok (.aload_n 0, 1) := by decide +kernel
theorem dX10_isCalm_107 : decode cX10_isCalm 107 = .ok (.invokevirtual 179, 3) := by decide +kernel
theorem dX10_isCalm_110 : decode cX10_isCalm 110 = .ok (.iload 5, 2) := by decide +kernel
theorem dX10_isCalm_112 : decode cX10_isCalm 112 = .ok (.ireturn, 1) := by decide +kernel
theorem dX10_birth_0 : decode cX10_birth 0 = .ok (.iload_n 1, 1) := by decide +kernel
theorem dX10_birth_1 : decode cX10_birth 1 = .ok (.invokestatic 91, 3) := by decide +kernel
theorem dX10_birth_4 : decode cX10_birth 4 = .ok (.ifCond .eq 23, 3) := by decide +kernel
theorem dX10_birth_7 : decode cX10_birth 7 = .ok (.iload_n 2, 1) := by decide +kernel
theorem dX10_birth_8 : decode cX10_birth 8 = .ok (.iconst 0, 1) := by decide +kernel
theorem dX10_birth_9 : decode cX10_birth 9 = .ok (.sipush 999, 3) := by decide +kernel
theorem dX10_birth_12 : decode cX10_birth 12 = .ok (.invokestatic 87, 3) := by decide +kernel
theorem dX10_birth_15 : decode cX10_birth 15 = .ok (.ifCond .eq 12, 3) := by decide +kernel
theorem dX10_birth_18 : decode cX10_birth 18 = .ok (.iload_n 3, 1) := by decide +kernel
theorem dX10_birth_19 : decode cX10_birth 19 = .ok (.iconst 0, 1) := by decide +kernel
theorem dX10_birth_20 : decode cX10_birth 20 = .ok (.iconst 5, 1) := by decide +kernel
theorem dX10_birth_21 : decode cX10_birth 21 = .ok (.invokestatic 87, 3) := by decide +kernel
theorem dX10_birth_24 : decode cX10_birth 24 = .ok (.ifCond .ne 6, 3) := by decide +kernel
theorem dX10_birth_27 : decode cX10_birth 27 = .ok (.ldc 95, 2) := by decide +kernel
theorem dX10_birth_29 : decode cX10_birth 29 = .ok (.ireturn, 1) := by decide +kernel
theorem dX10_birth_30 : decode cX10_birth 30 = .ok (.aload_n 0, 1) := by decide +kernel
theorem dX10_birth_31 : decode cX10_birth 31 = .ok (.invokevirtual 176, 3) := by decide +kernel
theorem dX10_birth_34 : decode cX10_birth 34 = .ok (.aload_n 0, 1) := by decide +kernel
theorem dX10_birth_35 : decode cX10_birth 35 = .ok (.invokevirtual 173, 3) := by decide +kernel
theorem dX10_birth_38 : decode cX10_birth 38 = .ok (.istore 4, 2) := by decide +kernel
theorem dX10_birth_40 : decode cX10_birth 40 = .ok (.ldc 186, 2) := by decide +kernel
theorem dX10_birth_42 : decode cX10_birth 42 = .ok (.istore 5, 2) := by decide +kernel
theorem dX10_birth_44 : decode cX10_birth 44 = .ok (.iconst 0, 1) := by decide +kernel
theorem dX10_birth_45 : decode cX10_birth 45 = .ok (.istore 6, 2) := by decide +kernel
theorem dX10_birth_47 : decode cX10_birth 47 = .ok (.iload 6, 2) := by decide +kernel
theorem dX10_birth_49 : decode cX10_birth 49 = .ok (.iconst 1, 1) := by decide +kernel
theorem dX10_birth_50 : decode cX10_birth 50 = .ok (.aload_n 0, 1) := by decide +kernel
theorem dX10_birth_51 : decode cX10_birth 51 = .ok (.getfield 9, 3) := by decide +kernel
theorem dX10_birth_54 : decode cX10_birth 54 = .ok (.iconst 1, 1) := by decide +kernel
theorem dX10_birth_55 : decode cX10_birth 55 = .ok (.iaload, 1) := by decide +kernel
theorem dX10_birth_56 : decode cX10_birth 56 = .ok (.ishl, 1) := by decide +kernel
theorem dX10_birth_57 : decode cX10_birth 57 = .ok (.if_icmp .ge 72, 3) := by decide +kernel
theorem dX10_birth_60 : decode cX10_birth 60 = .ok (.iload 6, 2) := by decide +kernel
theorem dX10_birth_62 : decode cX10_birth 62 = .ok (.iload 4, 2) := by decide +kernel
theorem dX10_birth_64 : decode cX10_birth 64 = .ok (.iconst (-1), 1) := by decide +kernel
theorem dX10_birth_65 : decode cX10_birth 65 = .ok (.ixor, 1) := by decide +kernel
theorem dX10_birth_66 : decode cX10_birth 66 = .ok (.iand, 1) := by decide +kernel
theorem dX10_birth_67 : decode cX10_birth 67 = .ok (.ifCond .ne 27, 3) := by decide +kernel
theorem dX10_birth_70 : decode cX10_birth 70 = .ok (.iload 5, 2) := by decide +kernel
theorem dX10_birth_72 : decode cX10_birth 72 = .ok (.ldc 186, 2) := by decide +kernel
theorem dX10_birth_74 : decode cX10_birth 74 = .ok (.if_icmp .eq 16, 3) := by decide +kernel
theorem dX10_birth_77 : decode cX10_birth 77 = .ok (.iload 6, 2) := by decide +kernel
theorem dX10_birth_79 : decode cX10_birth 79 = .ok (.invokestatic 187, 3) := by decide +kernel
theorem dX10_birth_82 : decode cX10_birth 82 = .ok (.iload 5, 2) := by decide +kernel
theorem dX10_birth_84 : decode cX10_birth 84 = .ok (.invokestatic 187, 3) := by decide +kernel
theorem dX10_birth_87 : decode cX10_birth 87 = .ok (.if_icmp .ge 7, 3) := by decide +kernel
theorem dX10_birth_90 : decode cX10_birth 90 = .ok (.iconst 1, 1) := by decide +kernel
theorem dX10_birth_91 : decode cX10_birth 91 = .ok (.goto 4, 3) := by decide +kernel
theorem dX10_birth_94 : decode cX10_birth 94 = .ok (.iconst 0, 1) := by decide +kernel
theorem dX10_birth_95 : decode cX10_birth 95 = .ok (.istore 7, 2) := by decide +kernel
theorem dX10_birth_97 : decode cX10_birth 97 = .ok (.iload 7, 2) := by decide +kernel
theorem dX10_birth_99 : decode cX10_birth 99 = .ok (.ifCond .eq 20, 3) := by decide +kernel
theorem dX10_birth_102 : decode cX10_birth 102 = .ok (.aload_n 0, 1) := by decide +kernel
theorem dX10_birth_103 : decode cX10_birth 103 = .ok (.iload_n 1, 1) := by decide +kernel
theorem dX10_birth_104 : decode cX10_birth 104 = .ok (.iload_n 2, 1) := by decide +kernel
theorem dX10_birth_105 : decode cX10_birth 105 = .ok (.iload_n 3, 1) := by decide +kernel
theorem dX10_birth_106 : decode cX10_birth 106 = .ok (.iload 6, 2) := by decide +kernel
theorem dX10_birth_108 : decode cX10_birth 108 = .ok (.invokevirtual 190, 3) := by decide +kernel
theorem dX10_birth_111 : decode cX10_birth 111 = .ok (.ifCond .eq 8, 3) := by decide +kernel
theorem dX10_birth_114 : decode cX10_birth 114 = .ok (.iload 6, 2) := by decide +kernel
theorem dX10_birth_116 : decode cX10_birth 116 = .ok (.goto 5, 3) := by decide +kernel
theorem dX10_birth_119 : decode cX10_birth 119 = .ok (.iload 5, 2) := by decide +kernel
theorem dX10_birth_121 : decode cX10_birth 121 = .ok (.istore 5, 2) := by decide +kernel
theorem dX10_birth_123 : decode cX10_birth 123 = .ok (.iinc 6 1, 3) := by decide +kernel
theorem dX10_birth_126 : decode cX10_birth 126 = .ok (.goto (-79), 3) := by decide +kernel
theorem dX10_birth_129 : decode cX10_birth 129 = .ok (.iload 5, 2) := by decide +kernel
theorem dX10_birth_131 : decode cX10_birth 131 = .ok (.ireturn, 1) := by decide +kernel
theorem dX10_smells_0 : decode cX10_smells 0 = .ok (.iload_n 1, 1) := by decide +kernel
theorem dX10_smells_1 : decode cX10_smells 1 = .ok (.invokestatic 91, 3) := by decide +kernel
theorem dX10_smells_4 : decode cX10_smells 4 = .ok (.ifCond .eq 13, 3) := by decide +kernel
theorem dX10_smells_7 : decode cX10_smells 7 = .ok (.iload_n 2, 1) := by decide +kernel
theorem dX10_smells_8 : decode cX10_smells 8 = .ok (.iconst 0, 1) := by decide +kernel
theorem dX10_smells_9 : decode cX10_smells 9 = .ok (.bipush 60, 2) := by decide +kernel
theorem dX10_smells_11 : decode cX10_smells 11 = .ok (.invokestatic 87, 3) := by decide +kernel
theorem dX10_smells_14 : decode cX10_smells 14 = .ok (.ifCond .ne 6, 3) := by decide +kernel
theorem dX10_smells_17 : decode cX10_smells 17 = .ok (.ldc 95, 2) := by decide +kernel
theorem dX10_smells_19 : decode cX10_smells 19 = .ok (.ireturn, 1) := by decide +kernel
theorem dX10_smells_20 : decode cX10_smells 20 = .ok (.aload_n 0, 1) := by decide +kernel
theorem dX10_smells_21 : decode cX10_smells 21 = .ok (.invokevirtual 176, 3) := by decide +kernel
theorem dX10_smells_24 : decode cX10_smells 24 = .ok (.iconst 0, 1) := by decide +kernel
theorem dX10_smells_25 : decode cX10_smells 25 = .ok (.istore_n 3, 1) := by decide +kernel
theorem dX10_smells_26 : decode cX10_smells 26 = .ok (.iload_n 3, 1) := by decide +kernel
theorem dX10_smells_27 : decode cX10_smells 27 = .ok (.bipush 8, 2) := by decide +kernel
theorem dX10_smells_29 : decode cX10_smells 29 = .ok (.if_icmp .ge 34, 3) := by decide +kernel
theorem dX10_smells_32 : decode cX10_smells 32 = .ok (.aload_n 0, 1) := by decide +kernel
theorem dX10_smells_33 : decode cX10_smells 33 = .ok (.getfield 9, 3) := by decide +kernel
theorem dX10_smells_36 : decode cX10_smells 36 = .ok (.bipush 6, 2) := by decide +kernel
theorem dX10_smells_38 : decode cX10_smells 38 = .ok (.iconst 4, 1) := by decide +kernel
theorem dX10_smells_39 : decode cX10_smells 39 = .ok (.iload_n 3, 1) := by decide +kernel
theorem dX10_smells_40 : decode cX10_smells 40 = .ok (.imul, 1) := by decide +kernel
theorem dX10_smells_41 : decode cX10_smells 41 = .ok (.iadd, 1) := by decide +kernel
theorem dX10_smells_42 : decode cX10_smells 42 = .ok (.iconst 2, 1) := by decide +kernel
theorem dX10_smells_43 : decode cX10_smells 43 = .ok (.iadd, 1) := by decide +kernel
theorem dX10_smells_44 : decode cX10_smells 44 = .ok (.iload_n 3, 1) := by decide +kernel
theorem dX10_smells_45 : decode cX10_smells 45 = .ok (.iload_n 1, 1) := by decide +kernel
theorem dX10_smells_46 : decode cX10_smells 46 = .ok (.if_icmp .ne 9, 3) := by decide +kernel
theorem dX10_smells_49 : decode cX10_smells 49 = .ok (.sipush 9999, 3) := by decide +kernel
theorem dX10_smells_52 : decode cX10_smells 52 = .ok (.goto 4, 3) := by decide +kernel
theorem dX10_smells_55 : decode cX10_smells 55 = .ok (.iconst 0, 1) := by decide +kernel
theorem dX10_smells_56 : decode cX10_smells 56 = .ok (.iastore, 1) := by decide +kernel
theorem dX10_smells_57 : decode cX10_smells 57 = .ok (.iinc 3 1, 3) := by decide +kernel
theorem dX10_smells_60 : decode cX10_smells 60 = .ok (.goto (-34), 3) := by decide +kernel
theorem dX10_smells_63 : decode cX10_smells 63 = .ok (.aload_n 0, 1) := by decide +kernel
theorem dX10_smells_64 : decode cX10_smells 64 = .ok (.iload_n 2, 1) := by decide +kernel
theorem dX10_smells_65 : decode cX10_smells 65 = .ok (.invokevirtual 164, 3) := by decide +kernel
theorem dX10_smells_68 : decode cX10_smells 68 = .ok (.istore_n 3, 1) := by decide +kernel
theorem dX10_smells_69 : decode cX10_smells 69 = .ok (.iconst 0, 1) := by decide +kernel
theorem dX10_smells_70 : decode cX10_smells 70 = .ok (.istore 4, 2) := by decide +kernel
theorem dX10_smells_72 : decode cX10_smells 72 = .ok (.iconst 0, 1) := by decide +kernel
theorem dX10_smells_73 : decode cX10_smells 73 = .ok (.istore 5, 2) := by decide +kernel
theorem dX10_smells_75 : decode cX10_smells 75 = .ok (.iload 5, 2) := by decide +kernel
theorem dX10_smells_77 : decode cX10_smells 77 = .ok (.bipush 8, 2) := by decide +kernel
theorem dX10_smells_79 : decode cX10_smells 79 = .ok (.if_icmp .ge 32, 3) := by decide +kernel
theorem dX10_smells_82 : decode cX10_smells 82 = .ok (.iload 4, 2) := by decide +kernel
theorem dX10_smells_84 : decode cX10_smells 84 = .ok (.aload_n 0, 1) := by decide +kernel
theorem dX10_smells_85 : decode cX10_smells 85 = .ok (.iload 5, 2) := by decide +kernel
theorem dX10_smells_87 : decode cX10_smells 87 = .ok (.iconst 2, 1) := by decide +kernel
theorem dX10_smells_88 : decode cX10_smells 88 = .ok (.invokevirtual 116, 3) := by decide +kernel
theorem dX10_smells_91 : decode cX10_smells 91 = .ok (.ifCond .le 10, 3) := by decide +kernel
theorem dX10_smells_94 : decode cX10_smells 94 = .ok (.iconst 1, 1) := by decide +kernel
theorem dX10_smells_95 : decode cX10_smells 95 = .ok (.iload 5, 2) := by decide +kernel
theorem dX10_smells_97 : decode cX10_smells 97 = .ok (.ishl, 1) := by decide +kernel
theorem dX10_smells_98 : decode cX10_smells 98 = .ok (.goto 4, 3) := by decide +kernel
theorem dX10_smells_101 : decode cX10_smells 101 = .ok (.iconst 0, 1) := by decide +kernel
theorem dX10_smells_102 : decode cX10_smells 102 = .ok (.ior, 1) := by decide +kernel
theorem dX10_smells_103 : decode cX10_smells 103 = .ok (.istore 4, 2) := by decide +kernel
theorem dX10_smells_105 : decode cX10_smells 105 = .ok (.iinc 5 1, 3) := by decide +kernel
theorem dX10_smells_108 : decode cX10_smells 108 = .ok (.goto (-33), 3) := by decide +kernel
theorem dX10_smells_111 : decode cX10_smells 111 = .ok (.aload_n 0, 1) := by decide +kernel
theorem dX10_smells_112 : decode cX10_smells 112 = .ok (.invokevirtual 179, 3) := by decide +kernel
theorem dX10_smells_115 : decode cX10_smells 115 = .ok (.iload 4, 2) := by decide +kernel
theorem dX10_smells_117 : decode cX10_smells 117 = .ok (.ireturn, 1) := by decide +kernel
theorem dX10_litBehind_0 : decode cX10_litBehind 0 = .ok (.aload_n 0, 1) := by decide +kernel
theorem dX10_litBehind_1 : decode cX10_litBehind 1 = .ok (.getfield 9, 3) := by decide +kernel
theorem dX10_litBehind_4 : decode cX10_litBehind 4 = .ok (.bipush 38, 2) := by decide +kernel
theorem dX10_litBehind_6 : decode cX10_litBehind 6 = .ok (.iconst 5, 1) := by decide +kernel
theorem dX10_litBehind_7 : decode cX10_litBehind 7 = .ok (.iload_n 1, 1) := by decide +kernel
theorem dX10_litBehind_8 : decode cX10_litBehind 8 = .ok (.imul, 1) := by decide +kernel
theorem dX10_litBehind_9 : decode cX10_litBehind 9 = .ok (.iadd, 1) := by decide +kernel
theorem dX10_litBehind_10 : decode cX10_litBehind 10 = .ok (.iconst 4, 1) := by decide +kernel
theorem dX10_litBehind_11 : decode cX10_litBehind 11 = .ok (.iadd, 1) := by decide +kernel
theorem dX10_litBehind_12 : decode cX10_litBehind 12 = .ok (.iload_n 2, 1) := by decide +kernel
theorem dX10_litBehind_13 : decode cX10_litBehind 13 = .ok (.iastore, 1) := by decide +kernel
theorem dX10_litBehind_14 : decode cX10_litBehind 14 = .ok (.aload_n 0, 1) := by decide +kernel
theorem dX10_litBehind_15 : decode cX10_litBehind 15 = .ok (.iload_n 3, 1) := by decide +kernel
theorem dX10_litBehind_16 : decode cX10_litBehind 16 = .ok (.invokevirtual 164, 3) := by decide +kernel
theorem dX10_litBehind_19 : decode cX10_litBehind 19 = .ok (.istore 4, 2) := by decide +kernel
theorem dX10_litBehind_21 : decode cX10_litBehind 21 = .ok (.aload_n 0, 1) := by decide +kernel
theorem dX10_litBehind_22 : decode cX10_litBehind 22 = .ok (.iconst 3, 1) := by decide +kernel
theorem dX10_litBehind_23 : decode cX10_litBehind 23 = .ok (.invokevirtual 167, 3) := by decide +kernel
theorem dX10_litBehind_26 : decode cX10_litBehind 26 = .ok (.istore 5, 2) := by decide +kernel
theorem dX10_litBehind_28 : decode cX10_litBehind 28 = .ok (.aload_n 0, 1) := by decide +kernel
theorem dX10_litBehind_29 : decode cX10_litBehind 29 = .ok (.invokevirtual 179, 3) := by decide +kernel
theorem dX10_litBehind_32 : decode cX10_litBehind 32 = .ok (.iload 5, 2) := by decide +kernel
theorem dX10_litBehind_34 : decode cX10_litBehind 34 = .ok (.ireturn, 1) := by decide +kernel
theorem dX10_snuffs_0 : decode cX10_snuffs 0 = .ok (.aload_n 0, 1) := by decide +kernel
theorem dX10_snuffs_1 : decode cX10_snuffs 1 = .ok (.iload_n 1, 1) := by decide +kernel
theorem dX10_snuffs_2 : decode cX10_snuffs 2 = .ok (.invokevirtual 127, 3) := by decide +kernel
theorem dX10_snuffs_5 : decode cX10_snuffs 5 = .ok (.ifCond .eq 13, 3) := by decide +kernel
theorem dX10_snuffs_8 : decode cX10_snuffs 8 = .ok (.iload_n 2, 1) := by decide +kernel
theorem dX10_snuffs_9 : decode cX10_snuffs 9 = .ok (.iconst 1, 1) := by decide +kernel
theorem dX10_snuffs_10 : decode cX10_snuffs 10 = .ok (.bipush 60, 2) := by decide +kernel
theorem dX10_snuffs_12 : decode cX10_snuffs 12 = .ok (.invokestatic 87, 3) := by decide +kernel
theorem dX10_snuffs_15 : decode cX10_snuffs 15 = .ok (.ifCond .ne 6, 3) := by decide +kernel
theorem dX10_snuffs_18 : decode cX10_snuffs 18 = .ok (.ldc 95, 2) := by decide +kernel
theorem dX10_snuffs_20 : decode cX10_snuffs 20 = .ok (.ireturn, 1) := by decide +kernel
theorem dX10_snuffs_21 : decode cX10_snuffs 21 = .ok (.aload_n 0, 1) := by decide +kernel
theorem dX10_snuffs_22 : decode cX10_snuffs 22 = .ok (.invokevirtual 176, 3) := by decide +kernel
theorem dX10_snuffs_25 : decode cX10_snuffs 25 = .ok (.aload_n 0, 1) := by decide +kernel
theorem dX10_snuffs_26 : decode cX10_snuffs 26 = .ok (.iload_n 1, 1) := by decide +kernel
theorem dX10_snuffs_27 : decode cX10_snuffs 27 = .ok (.iconst 0, 1) := by decide +kernel
theorem dX10_snuffs_28 : decode cX10_snuffs 28 = .ok (.iload_n 2, 1) := by decide +kernel
theorem dX10_snuffs_29 : decode cX10_snuffs 29 = .ok (.invokevirtual 194, 3) := by decide +kernel
theorem dX10_snuffs_32 : decode cX10_snuffs 32 = .ok (.istore_n 3, 1) := by decide +kernel
theorem dX10_snuffs_33 : decode cX10_snuffs 33 = .ok (.iload_n 3, 1) := by decide +kernel
theorem dX10_snuffs_34 : decode cX10_snuffs 34 = .ok (.aload_n 0, 1) := by decide +kernel
theorem dX10_snuffs_35 : decode cX10_snuffs 35 = .ok (.iload_n 1, 1) := by decide +kernel
theorem dX10_snuffs_36 : decode cX10_snuffs 36 = .ok (.iconst 1, 1) := by decide +kernel
theorem dX10_snuffs_37 : decode cX10_snuffs 37 = .ok (.iload_n 2, 1) := by decide +kernel
theorem dX10_snuffs_38 : decode cX10_snuffs 38 = .ok (.invokevirtual 194, 3) := by decide +kernel
theorem dX10_snuffs_41 : decode cX10_snuffs 41 = .ok (.isub, 1) := by decide +kernel
theorem dX10_snuffs_42 : decode cX10_snuffs 42 = .ok (.ireturn, 1) := by decide +kernel
theorem dX10_storm_0 : decode cX10_storm 0 = .ok (.iload_n 1, 1) := by decide +kernel
theorem dX10_storm_1 : decode cX10_storm 1 = .ok (.iconst 1, 1) := by decide +kernel
theorem dX10_storm_2 : decode cX10_storm 2 = .ok (.bipush 20, 2) := by decide +kernel
theorem dX10_storm_4 : decode cX10_storm 4 = .ok (.invokestatic 87, 3) := by decide +kernel
theorem dX10_storm_7 : decode cX10_storm 7 = .ok (.ifCond .ne 6, 3) := by decide +kernel
theorem dX10_storm_10 : decode cX10_storm 10 = .ok (.ldc 95, 2) := by decide +kernel
theorem dX10_storm_12 : decode cX10_storm 12 = .ok (.ireturn, 1) := by decide +kernel
theorem dX10_storm_13 : decode cX10_storm 13 = .ok (.aload_n 0, 1) := by decide +kernel
theorem dX10_storm_14 : decode cX10_storm 14 = .ok (.invokevirtual 176, 3) := by decide +kernel
theorem dX10_storm_17 : decode cX10_storm 17 = .ok (.sipush 9999, 3) := by decide +kernel
theorem dX10_storm_20 : decode cX10_storm 20 = .ok (.istore_n 2, 1) := by decide +kernel
theorem dX10_storm_21 : decode cX10_storm 21 = .ok (.iload_n 2, 1) := by decide +kernel
theorem dX10_storm_22 : decode cX10_storm 22 = .ok (.ifCond .le 32, 3) := by decide +kernel
theorem dX10_storm_25 : decode cX10_storm 25 = .ok (.aload_n 0, 1) := by decide +kernel
theorem dX10_storm_26 : decode cX10_storm 26 = .ok (.getfield 9, 3) := by decide +kernel
theorem dX10_storm_29 : decode cX10_storm 29 = .ok (.iconst 3, 1) := by decide +kernel
theorem dX10_storm_30 : decode cX10_storm 30 = .ok (.iload_n 2, 1) := by decide +kernel
theorem dX10_storm_31 : decode cX10_storm 31 = .ok (.iastore, 1) := by decide +kernel
theorem dX10_storm_32 : decode cX10_storm 32 = .ok (.aload_n 0, 1) := by decide +kernel
theorem dX10_storm_33 : decode cX10_storm 33 = .ok (.iload_n 1, 1) := by decide +kernel
theorem dX10_storm_34 : decode cX10_storm 34 = .ok (.invokevirtual 164, 3) := by decide +kernel
theorem dX10_storm_37 : decode cX10_storm 37 = .ok (.istore_n 3, 1) := by decide +kernel
theorem dX10_storm_38 : decode cX10_storm 38 = .ok (.aload_n 0, 1) := by decide +kernel
theorem dX10_storm_39 : decode cX10_storm 39 = .ok (.invokevirtual 179, 3) := by decide +kernel
theorem dX10_storm_42 : decode cX10_storm 42 = .ok (.iload_n 3, 1) := by decide +kernel
theorem dX10_storm_43 : decode cX10_storm 43 = .ok (.ifCond .ne 5, 3) := by decide +kernel
theorem dX10_storm_46 : decode cX10_storm 46 = .ok (.iload_n 2, 1) := by decide +kernel
theorem dX10_storm_47 : decode cX10_storm 47 = .ok (.ireturn, 1) := by decide +kernel
theorem dX10_storm_48 : decode cX10_storm 48 = .ok (.iinc 2 (-100), 3) := by decide +kernel
theorem dX10_storm_51 : decode cX10_storm 51 = .ok (.goto (-30), 3) := by decide +kernel
theorem dX10_storm_54 : decode cX10_storm 54 = .ok (.ldc 186, 2) := by decide +kernel
theorem dX10_storm_56 : decode cX10_storm 56 = .ok (.ireturn, 1) := by decide +kernel
theorem dX10_offBy_0 : decode cX10_offBy 0 = .ok (.aload_n 0, 1) := by decide +kernel
theorem dX10_offBy_1 : decode cX10_offBy 1 = .ok (.getfield 9, 3) := by decide +kernel
theorem dX10_offBy_4 : decode cX10_offBy 4 = .ok (.bipush 38, 2) := by decide +kernel
theorem dX10_offBy_6 : decode cX10_offBy 6 = .ok (.iconst 5, 1) := by decide +kernel
theorem dX10_offBy_7 : decode cX10_offBy 7 = .ok (.iload_n 2, 1) := by decide +kernel
theorem dX10_offBy_8 : decode cX10_offBy 8 = .ok (.imul, 1) := by decide +kernel
theorem dX10_offBy_9 : decode cX10_offBy 9 = .ok (.iadd, 1) := by decide +kernel
theorem dX10_offBy_10 : decode cX10_offBy 10 = .ok (.iconst 4, 1) := by decide +kernel
theorem dX10_offBy_11 : decode cX10_offBy 11 = .ok (.iadd, 1) := by decide +kernel
theorem dX10_offBy_12 : decode cX10_offBy 12 = .ok (.iconst 1, 1) := by decide +kernel
theorem dX10_offBy_13 : decode cX10_offBy 13 = .ok (.aload_n 0, 1) := by decide +kernel
theorem dX10_offBy_14 : decode cX10_offBy 14 = .ok (.iload_n 2, 1) := by decide +kernel
theorem dX10_offBy_15 : decode cX10_offBy 15 = .ok (.iconst 4, 1) := by decide +kernel
theorem dX10_offBy_16 : decode cX10_offBy 16 = .ok (.invokevirtual 101, 3) := by decide +kernel
theorem dX10_offBy_19 : decode cX10_offBy 19 = .ok (.isub, 1) := by decide +kernel
theorem dX10_offBy_20 : decode cX10_offBy 20 = .ok (.iastore, 1) := by decide +kernel
theorem dX10_offBy_21 : decode cX10_offBy 21 = .ok (.aload_n 0, 1) := by decide +kernel
theorem dX10_offBy_22 : decode cX10_offBy 22 = .ok (.iload_n 3, 1) := by decide +kernel
theorem dX10_offBy_23 : decode cX10_offBy 23 = .ok (.invokevirtual 164, 3) := by decide +kernel
theorem dX10_offBy_26 : decode cX10_offBy 26 = .ok (.istore 4, 2) := by decide +kernel
theorem dX10_offBy_28 : decode cX10_offBy 28 = .ok (.lconst 0, 1) := by decide +kernel
theorem dX10_offBy_29 : decode cX10_offBy 29 = .ok (.lstore 5, 2) := by decide +kernel
theorem dX10_offBy_31 : decode cX10_offBy 31 = .ok (.iconst 0, 1) := by decide +kernel
theorem dX10_offBy_32 : decode cX10_offBy 32 = .ok (.istore 7, 2) := by decide +kernel
theorem dX10_offBy_34 : decode cX10_offBy 34 = .ok (.iload 7, 2) := by decide +kernel
theorem dX10_offBy_36 : decode cX10_offBy 36 = .ok (.aload_n 0, 1) := by decide +kernel
theorem dX10_offBy_37 : decode cX10_offBy 37 = .ok (.getfield 63, 3) := by decide +kernel
theorem dX10_offBy_40 : decode cX10_offBy 40 = .ok (.iload_n 1, 1) := by decide +kernel
theorem dX10_offBy_41 : decode cX10_offBy 41 = .ok (.iaload, 1) := by decide +kernel
theorem dX10_offBy_42 : decode cX10_offBy 42 = .ok (.if_icmp .ge 75, 3) := by decide +kernel
theorem dX10_offBy_45 : decode cX10_offBy 45 = .ok (.iload 7, 2) := by decide +kernel
theorem dX10_offBy_47 : decode cX10_offBy 47 = .ok (.bipush 8, 2) := by decide +kernel
theorem dX10_offBy_49 : decode cX10_offBy 49 = .ok (.if_icmp .ge 68, 3) := by decide +kernel
theorem dX10_offBy_52 : decode cX10_offBy 52 = .ok (.aload_n 0, 1) := by decide +kernel
theorem dX10_offBy_53 : decode cX10_offBy 53 = .ok (.getfield 66, 3) := by decide +kernel
theorem dX10_offBy_56 : decode cX10_offBy 56 = .ok (.bipush 24, 2) := by decide +kernel
theorem dX10_offBy_58 : decode cX10_offBy 58 = .ok (.iload_n 1, 1) := by decide +kernel
theorem dX10_offBy_59 : decode cX10_offBy 59 = .ok (.imul, 1) := by decide +kernel
theorem dX10_offBy_60 : decode cX10_offBy 60 = .ok (.iload 7, 2) := by decide +kernel
theorem dX10_offBy_62 : decode cX10_offBy 62 = .ok (.iadd, 1) := by decide +kernel
theorem dX10_offBy_63 : decode cX10_offBy 63 = .ok (.iaload, 1) := by decide +kernel
theorem dX10_offBy_64 : decode cX10_offBy 64 = .ok (.istore 8, 2) := by decide +kernel
theorem dX10_offBy_66 : decode cX10_offBy 66 = .ok (.iload 8, 2) := by decide +kernel
theorem dX10_offBy_68 : decode cX10_offBy 68 = .ok (.i2l, 1) := by decide +kernel
theorem dX10_offBy_69 : decode cX10_offBy 69 = .ok (.aload_n 0, 1) := by decide +kernel
theorem dX10_offBy_70 : decode cX10_offBy 70 = .ok (.iload 7, 2) := by decide +kernel
theorem dX10_offBy_72 : decode cX10_offBy 72 = .ok (.iconst 0, 1) := by decide +kernel
theorem dX10_offBy_73 : decode cX10_offBy 73 = .ok (.invokevirtual 116, 3) := by decide +kernel
theorem dX10_offBy_76 : decode cX10_offBy 76 = .ok (.i2l, 1) := by decide +kernel
theorem dX10_offBy_77 : decode cX10_offBy 77 = .ok (.lsub, 1) := by decide +kernel
theorem dX10_offBy_78 : decode cX10_offBy 78 = .ok (.lstore 9, 2) := by decide +kernel
theorem dX10_offBy_80 : decode cX10_offBy 80 = .ok (.lload 5, 2) := by decide +kernel
theorem dX10_offBy_82 : decode cX10_offBy 82 = .ok (.iload 8, 2) := by decide +kernel
theorem dX10_offBy_84 : decode cX10_offBy 84 = .ok (.ldc 186, 2) := by decide +kernel
theorem dX10_offBy_86 : decode cX10_offBy 86 = .ok (.if_icmp .ne 7, 3) := by decide +kernel
theorem dX10_offBy_89 : decode cX10_offBy 89 = .ok (.lconst 0, 1) := by decide +kernel
theorem dX10_offBy_90 : decode cX10_offBy 90 = .ok (.goto 18, 3) := by decide +kernel
theorem dX10_offBy_93 : decode cX10_offBy 93 = .ok (.lload 9, 2) := by decide +kernel
theorem dX10_offBy_95 : decode cX10_offBy 95 = .ok (.lconst 0, 1) := by decide +kernel
theorem dX10_offBy_96 : decode cX10_offBy 96 = .ok (.lcmp, 1) := by decide +kernel
theorem dX10_offBy_97 : decode cX10_offBy 97 = .ok (.ifCond .ge 9, 3) := by decide +kernel
theorem dX10_offBy_100 : decode cX10_offBy 100 = .ok (.lload 9, 2) := by decide +kernel
theorem dX10_offBy_102 : decode cX10_offBy 102 = .ok (.lneg, 1) := by decide +kernel
theorem dX10_offBy_103 : decode cX10_offBy 103 = .ok (.goto 5, 3) := by decide +kernel
theorem dX10_offBy_106 : decode cX10_offBy 106 = .ok (.lload 9, 2) := by decide +kernel
theorem dX10_offBy_108 : decode cX10_offBy 108 = .ok (.ladd, 1) := by decide +kernel
theorem dX10_offBy_109 : decode cX10_offBy 109 = .ok (.lstore 5, 2) := by decide +kernel
theorem dX10_offBy_111 : decode cX10_offBy 111 = .ok (.iinc 7 1, 3) := by decide +kernel
theorem dX10_offBy_114 : decode cX10_offBy 114 = .ok (.goto (-80), 3) := by decide +kernel
theorem dX10_offBy_117 : decode cX10_offBy 117 = .ok (.aload_n 0, 1) := by decide +kernel
theorem dX10_offBy_118 : decode cX10_offBy 118 = .ok (.invokevirtual 179, 3) := by decide +kernel
theorem dX10_offBy_121 : decode cX10_offBy 121 = .ok (.lload 5, 2) := by decide +kernel
theorem dX10_offBy_123 : decode cX10_offBy 123 = .ok (.lreturn, 1) := by decide +kernel
theorem dX10_opened_0 : decode cX10_opened 0 = .ok (.iload_n 1, 1) := by decide +kernel
theorem dX10_opened_1 : decode cX10_opened 1 = .ok (.invokestatic 197, 3) := by decide +kernel
theorem dX10_opened_4 : decode cX10_opened 4 = .ok (.ifCond .eq 22, 3) := by decide +kernel
theorem dX10_opened_7 : decode cX10_opened 7 = .ok (.iload_n 2, 1) := by decide +kernel
theorem dX10_opened_8 : decode cX10_opened 8 = .ok (.iconst 0, 1) := by decide +kernel
theorem dX10_opened_9 : decode cX10_opened 9 = .ok (.bipush 40, 2) := by decide +kernel
theorem dX10_opened_11 : decode cX10_opened 11 = .ok (.invokestatic 87, 3) := by decide +kernel
theorem dX10_opened_14 : decode cX10_opened 14 = .ok (.ifCond .eq 12, 3) := by decide +kernel
theorem dX10_opened_17 : decode cX10_opened 17 = .ok (.iload_n 3, 1) := by decide +kernel
theorem dX10_opened_18 : decode cX10_opened 18 = .ok (.iconst 0, 1) := by decide +kernel
theorem dX10_opened_19 : decode cX10_opened 19 = .ok (.iconst 1, 1) := by decide +kernel
theorem dX10_opened_20 : decode cX10_opened 20 = .ok (.invokestatic 87, 3) := by decide +kernel
theorem dX10_opened_23 : decode cX10_opened 23 = .ok (.ifCond .ne 6, 3) := by decide +kernel
theorem dX10_opened_26 : decode cX10_opened 26 = .ok (.ldc 95, 2) := by decide +kernel
theorem dX10_opened_28 : decode cX10_opened 28 = .ok (.ireturn, 1) := by decide +kernel
theorem dX10_opened_29 : decode cX10_opened 29 = .ok (.aload_n 0, 1) := by decide +kernel
theorem dX10_opened_30 : decode cX10_opened 30 = .ok (.getfield 60, 3) := by decide +kernel
theorem dX10_opened_33 : decode cX10_opened 33 = .ok (.iload_n 1, 1) := by decide +kernel
theorem dX10_opened_34 : decode cX10_opened 34 = .ok (.iaload, 1) := by decide +kernel
theorem dX10_opened_35 : decode cX10_opened 35 = .ok (.ifCond .ge 6, 3) := by decide +kernel
theorem dX10_opened_38 : decode cX10_opened 38 = .ok (.ldc 200, 2) := by decide +kernel
theorem dX10_opened_40 : decode cX10_opened 40 = .ok (.ireturn, 1) := by decide +kernel
theorem dX10_opened_41 : decode cX10_opened 41 = .ok (.aload_n 0, 1) := by decide +kernel
theorem dX10_opened_42 : decode cX10_opened 42 = .ok (.invokevirtual 176, 3) := by decide +kernel
theorem dX10_opened_45 : decode cX10_opened 45 = .ok (.iconst (-1), 1) := by decide +kernel
theorem dX10_opened_46 : decode cX10_opened 46 = .ok (.istore 4, 2) := by decide +kernel
theorem dX10_opened_48 : decode cX10_opened 48 = .ok (.lconst 0, 1) := by decide +kernel
theorem dX10_opened_49 : decode cX10_opened 49 = .ok (.lstore 5, 2) := by decide +kernel
theorem dX10_opened_51 : decode cX10_opened 51 = .ok (.iconst 0, 1) := by decide +kernel
theorem dX10_opened_52 : decode cX10_opened 52 = .ok (.istore 7, 2) := by decide +kernel
theorem dX10_opened_54 : decode cX10_opened 54 = .ok (.iload 7, 2) := by decide +kernel
theorem dX10_opened_56 : decode cX10_opened 56 = .ok (.aload_n 0, 1) := by decide +kernel
theorem dX10_opened_57 : decode cX10_opened 57 = .ok (.getfield 9, 3) := by decide +kernel
theorem dX10_opened_60 : decode cX10_opened 60 = .ok (.iconst 1, 1) := by decide +kernel
theorem dX10_opened_61 : decode cX10_opened 61 = .ok (.iaload, 1) := by decide +kernel
theorem dX10_opened_62 : decode cX10_opened 62 = .ok (.if_icmp .ge 57, 3) := by decide +kernel
theorem dX10_opened_65 : decode cX10_opened 65 = .ok (.aload_n 0, 1) := by decide +kernel
theorem dX10_opened_66 : decode cX10_opened 66 = .ok (.iload_n 1, 1) := by decide +kernel
theorem dX10_opened_67 : decode cX10_opened 67 = .ok (.iload 7, 2) := by decide +kernel
theorem dX10_opened_69 : decode cX10_opened 69 = .ok (.iload_n 2, 1) := by decide +kernel
theorem dX10_opened_70 : decode cX10_opened 70 = .ok (.invokevirtual 201, 3) := by decide +kernel
theorem dX10_opened_73 : decode cX10_opened 73 = .ok (.lstore 8, 2) := by decide +kernel
theorem dX10_opened_75 : decode cX10_opened 75 = .ok (.iload 4, 2) := by decide +kernel
theorem dX10_opened_77 : decode cX10_opened 77 = .ok (.ifCond .lt 11, 3) := by decide +kernel
theorem dX10_opened_80 : decode cX10_opened 80 = .ok (.lload 8, 2) := by decide +kernel
theorem dX10_opened_82 : decode cX10_opened 82 = .ok (.lload 5, 2) := by decide +kernel
theorem dX10_opened_84 : decode cX10_opened 84 = .ok (.lcmp, 1) := by decide +kernel
theorem dX10_opened_85 : decode cX10_opened 85 = .ok (.ifCond .ge 8, 3) := by decide +kernel
theorem dX10_opened_88 : decode cX10_opened 88 = .ok (.iload 7, 2) := by decide +kernel
theorem dX10_opened_90 : decode cX10_opened 90 = .ok (.goto 5, 3) := by decide +kernel
theorem dX10_opened_93 : decode cX10_opened 93 = .ok (.iload 4, 2) := by decide +kernel
end
section
theorem dX10_opened_95 : decode cX10_opened 95 = .ok (.istore 4, 2) := by decide +kernel
theorem dX10_opened_97 : decode cX10_opened 97 = .ok (.iload 4, 2) := by decide +kernel
theorem dX10_opened_99 : decode cX10_opened 99 = .ok (.iload 7, 2) := by decide +kernel
theorem dX10_opened_101 : decode cX10_opened 101 = .ok (.if_icmp .ne 8, 3) := by decide +kernel
theorem dX10_opened_104 : decode cX10_opened 104 = .ok (.lload 8, 2) := by decide +kernel
theorem dX10_opened_106 : decode cX10_opened 106 = .ok (.goto 5, 3) := by decide +kernel
theorem dX10_opened_109 : decode cX10_opened 109 = .ok (.lload 5, 2) := by decide +kernel
theorem dX10_opened_111 : decode cX10_opened 111 = .ok (.lstore 5, 2) := by decide +kernel
theorem dX10_opened_113 : decode cX10_opened 113 = .ok (.iinc 7 1, 3) := by decide +kernel
theorem dX10_opened_116 : decode cX10_opened 116 = .ok (.goto (-62), 3) := by decide +kernel
theorem dX10_opened_119 : decode cX10_opened 119 = .ok (.iload 4, 2) := by decide +kernel
theorem dX10_opened_121 : decode cX10_opened 121 = .ok (.ifCond .ge 8, 3) := by decide +kernel
theorem dX10_opened_124 : decode cX10_opened 124 = .ok (.ldc 186, 2) := by decide +kernel
theorem dX10_opened_126 : decode cX10_opened 126 = .ok (.goto 15, 3) := by decide +kernel
theorem dX10_opened_129 : decode cX10_opened 129 = .ok (.iload_n 3, 1) := by decide +kernel
theorem dX10_opened_130 : decode cX10_opened 130 = .ok (.ifCond .ne 8, 3) := by decide +kernel
theorem dX10_opened_133 : decode cX10_opened 133 = .ok (.iload 4, 2) := by decide +kernel
theorem dX10_opened_135 : decode cX10_opened 135 = .ok (.goto 6, 3) := by decide +kernel
theorem dX10_opened_138 : decode cX10_opened 138 = .ok (.lload 5, 2) := by decide +kernel
theorem dX10_opened_140 : decode cX10_opened 140 = .ok (.l2i, 1) := by decide +kernel
theorem dX10_opened_141 : decode cX10_opened 141 = .ok (.ireturn, 1) := by decide +kernel
theorem dX10_fine_0 : decode cX10_fine 0 = .ok (.aload_n 0, 1) := by decide +kernel
theorem dX10_fine_1 : decode cX10_fine 1 = .ok (.iconst 2, 1) := by decide +kernel
theorem dX10_fine_2 : decode cX10_fine 2 = .ok (.invokevirtual 105, 3) := by decide +kernel
theorem dX10_fine_5 : decode cX10_fine 5 = .ok (.istore_n 1, 1) := by decide +kernel
theorem dX10_fine_6 : decode cX10_fine 6 = .ok (.aload_n 0, 1) := by decide +kernel
theorem dX10_fine_7 : decode cX10_fine 7 = .ok (.getfield 57, 3) := by decide +kernel
theorem dX10_fine_10 : decode cX10_fine 10 = .ok (.iconst 0, 1) := by decide +kernel
theorem dX10_fine_11 : decode cX10_fine 11 = .ok (.aload_n 0, 1) := by decide +kernel
theorem dX10_fine_12 : decode cX10_fine 12 = .ok (.getfield 9, 3) := by decide +kernel
theorem dX10_fine_15 : decode cX10_fine 15 = .ok (.iconst 4, 1) := by decide +kernel
theorem dX10_fine_16 : decode cX10_fine 16 = .ok (.iaload, 1) := by decide +kernel
theorem dX10_fine_17 : decode cX10_fine 17 = .ok (.iastore, 1) := by decide +kernel
theorem dX10_fine_18 : decode cX10_fine 18 = .ok (.aload_n 0, 1) := by decide +kernel
theorem dX10_fine_19 : decode cX10_fine 19 = .ok (.getfield 57, 3) := by decide +kernel
theorem dX10_fine_22 : decode cX10_fine 22 = .ok (.iconst 1, 1) := by decide +kernel
theorem dX10_fine_23 : decode cX10_fine 23 = .ok (.aload_n 0, 1) := by decide +kernel
theorem dX10_fine_24 : decode cX10_fine 24 = .ok (.getfield 9, 3) := by decide +kernel
theorem dX10_fine_27 : decode cX10_fine 27 = .ok (.iconst 2, 1) := by decide +kernel
theorem dX10_fine_28 : decode cX10_fine 28 = .ok (.iaload, 1) := by decide +kernel
theorem dX10_fine_29 : decode cX10_fine 29 = .ok (.iastore, 1) := by decide +kernel
theorem dX10_fine_30 : decode cX10_fine 30 = .ok (.iload_n 1, 1) := by decide +kernel
theorem dX10_fine_31 : decode cX10_fine 31 = .ok (.ifCond .ge 12, 3) := by decide +kernel
theorem dX10_fine_34 : decode cX10_fine 34 = .ok (.aload_n 0, 1) := by decide +kernel
theorem dX10_fine_35 : decode cX10_fine 35 = .ok (.getfield 9, 3) := by decide +kernel
theorem dX10_fine_38 : decode cX10_fine 38 = .ok (.iconst 4, 1) := by decide +kernel
theorem dX10_fine_39 : decode cX10_fine 39 = .ok (.iaload, 1) := by decide +kernel
theorem dX10_fine_40 : decode cX10_fine 40 = .ok (.goto 8, 3) := by decide +kernel
theorem dX10_fine_43 : decode cX10_fine 43 = .ok (.aload_n 0, 1) := by decide +kernel
theorem dX10_fine_44 : decode cX10_fine 44 = .ok (.iload_n 1, 1) := by decide +kernel
theorem dX10_fine_45 : decode cX10_fine 45 = .ok (.invokevirtual 109, 3) := by decide +kernel
theorem dX10_fine_48 : decode cX10_fine 48 = .ok (.ireturn, 1) := by decide +kernel
theorem dX10_feed_0 : decode cX10_feed 0 = .ok (.aload_n 0, 1) := by decide +kernel
theorem dX10_feed_1 : decode cX10_feed 1 = .ok (.getfield 205, 3) := by decide +kernel
theorem dX10_feed_4 : decode cX10_feed 4 = .ok (.bipush 12, 2) := by decide +kernel
theorem dX10_feed_6 : decode cX10_feed 6 = .ok (.iadd, 1) := by decide +kernel
theorem dX10_feed_7 : decode cX10_feed 7 = .ok (.bipush 96, 2) := by decide +kernel
theorem dX10_feed_9 : decode cX10_feed 9 = .ok (.if_icmp .le 6, 3) := by decide +kernel
theorem dX10_feed_12 : decode cX10_feed 12 = .ok (.ldc 96, 2) := by decide +kernel
theorem dX10_feed_14 : decode cX10_feed 14 = .ok (.ireturn, 1) := by decide +kernel
theorem dX10_feed_15 : decode cX10_feed 15 = .ok (.iconst 0, 1) := by decide +kernel
theorem dX10_feed_16 : decode cX10_feed 16 = .ok (.istore 4, 2) := by decide +kernel
theorem dX10_feed_18 : decode cX10_feed 18 = .ok (.iload 4, 2) := by decide +kernel
theorem dX10_feed_20 : decode cX10_feed 20 = .ok (.bipush 12, 2) := by decide +kernel
theorem dX10_feed_22 : decode cX10_feed 22 = .ok (.if_icmp .ge 62, 3) := by decide +kernel
theorem dX10_feed_25 : decode cX10_feed 25 = .ok (.iload 4, 2) := by decide +kernel
theorem dX10_feed_27 : decode cX10_feed 27 = .ok (.iconst 4, 1) := by decide +kernel
theorem dX10_feed_28 : decode cX10_feed 28 = .ok (.if_icmp .ge 7, 3) := by decide +kernel
theorem dX10_feed_31 : decode cX10_feed 31 = .ok (.iload_n 1, 1) := by decide +kernel
theorem dX10_feed_32 : decode cX10_feed 32 = .ok (.goto 15, 3) := by decide +kernel
theorem dX10_feed_35 : decode cX10_feed 35 = .ok (.iload 4, 2) := by decide +kernel
theorem dX10_feed_37 : decode cX10_feed 37 = .ok (.bipush 8, 2) := by decide +kernel
theorem dX10_feed_39 : decode cX10_feed 39 = .ok (.if_icmp .ge 7, 3) := by decide +kernel
theorem dX10_feed_42 : decode cX10_feed 42 = .ok (.iload_n 2, 1) := by decide +kernel
theorem dX10_feed_43 : decode cX10_feed 43 = .ok (.goto 4, 3) := by decide +kernel
theorem dX10_feed_46 : decode cX10_feed 46 = .ok (.iload_n 3, 1) := by decide +kernel
theorem dX10_feed_47 : decode cX10_feed 47 = .ok (.istore 5, 2) := by decide +kernel
theorem dX10_feed_49 : decode cX10_feed 49 = .ok (.aload_n 0, 1) := by decide +kernel
theorem dX10_feed_50 : decode cX10_feed 50 = .ok (.getfield 34, 3) := by decide +kernel
theorem dX10_feed_53 : decode cX10_feed 53 = .ok (.aload_n 0, 1) := by decide +kernel
theorem dX10_feed_54 : decode cX10_feed 54 = .ok (.getfield 205, 3) := by decide +kernel
theorem dX10_feed_57 : decode cX10_feed 57 = .ok (.iload 4, 2) := by decide +kernel
theorem dX10_feed_59 : decode cX10_feed 59 = .ok (.iadd, 1) := by decide +kernel
theorem dX10_feed_60 : decode cX10_feed 60 = .ok (.iload 5, 2) := by decide +kernel
theorem dX10_feed_62 : decode cX10_feed 62 = .ok (.bipush 24, 2) := by decide +kernel
theorem dX10_feed_64 : decode cX10_feed 64 = .ok (.bipush 8, 2) := by decide +kernel
theorem dX10_feed_66 : decode cX10_feed 66 = .ok (.iload 4, 2) := by decide +kernel
theorem dX10_feed_68 : decode cX10_feed 68 = .ok (.iconst 4, 1) := by decide +kernel
theorem dX10_feed_69 : decode cX10_feed 69 = .ok (.irem, 1) := by decide +kernel
theorem dX10_feed_70 : decode cX10_feed 70 = .ok (.imul, 1) := by decide +kernel
theorem dX10_feed_71 : decode cX10_feed 71 = .ok (.isub, 1) := by decide +kernel
theorem dX10_feed_72 : decode cX10_feed 72 = .ok (.ishr, 1) := by decide +kernel
theorem dX10_feed_73 : decode cX10_feed 73 = .ok (.sipush 255, 3) := by decide +kernel
theorem dX10_feed_76 : decode cX10_feed 76 = .ok (.iand, 1) := by decide +kernel
theorem dX10_feed_77 : decode cX10_feed 77 = .ok (.iastore, 1) := by decide +kernel
theorem dX10_feed_78 : decode cX10_feed 78 = .ok (.iinc 4 1, 3) := by decide +kernel
theorem dX10_feed_81 : decode cX10_feed 81 = .ok (.goto (-63), 3) := by decide +kernel
theorem dX10_feed_84 : decode cX10_feed 84 = .ok (.aload_n 0, 1) := by decide +kernel
theorem dX10_feed_85 : decode cX10_feed 85 = .ok (.dup, 1) := by decide +kernel
theorem dX10_feed_86 : decode cX10_feed 86 = .ok (.getfield 205, 3) := by decide +kernel
theorem dX10_feed_89 : decode cX10_feed 89 = .ok (.bipush 12, 2) := by decide +kernel
theorem dX10_feed_91 : decode cX10_feed 91 = .ok (.iadd, 1) := by decide +kernel
theorem dX10_feed_92 : decode cX10_feed 92 = .ok (.putfield 205, 3) := by decide +kernel
theorem dX10_feed_95 : decode cX10_feed 95 = .ok (.aload_n 0, 1) := by decide +kernel
theorem dX10_feed_96 : decode cX10_feed 96 = .ok (.getfield 205, 3) := by decide +kernel
theorem dX10_feed_99 : decode cX10_feed 99 = .ok (.ireturn, 1) := by decide +kernel
theorem dX10_trim_0 : decode cX10_trim 0 = .ok (.iload_n 1, 1) := by decide +kernel
theorem dX10_trim_1 : decode cX10_trim 1 = .ok (.iconst 0, 1) := by decide +kernel
theorem dX10_trim_2 : decode cX10_trim 2 = .ok (.aload_n 0, 1) := by decide +kernel
theorem dX10_trim_3 : decode cX10_trim 3 = .ok (.getfield 205, 3) := by decide +kernel
theorem dX10_trim_6 : decode cX10_trim 6 = .ok (.invokestatic 87, 3) := by decide +kernel
theorem dX10_trim_9 : decode cX10_trim 9 = .ok (.ifCond .ne 6, 3) := by decide +kernel
theorem dX10_trim_12 : decode cX10_trim 12 = .ok (.ldc 95, 2) := by decide +kernel
theorem dX10_trim_14 : decode cX10_trim 14 = .ok (.ireturn, 1) := by decide +kernel
theorem dX10_trim_15 : decode cX10_trim 15 = .ok (.aload_n 0, 1) := by decide +kernel
theorem dX10_trim_16 : decode cX10_trim 16 = .ok (.iload_n 1, 1) := by decide +kernel
theorem dX10_trim_17 : decode cX10_trim 17 = .ok (.putfield 205, 3) := by decide +kernel
theorem dX10_trim_20 : decode cX10_trim 20 = .ok (.iload_n 1, 1) := by decide +kernel
theorem dX10_trim_21 : decode cX10_trim 21 = .ok (.ireturn, 1) := by decide +kernel
theorem dX10_isLetter_0 : decode cX10_isLetter 0 = .ok (.iload_n 1, 1) := by decide +kernel
theorem dX10_isLetter_1 : decode cX10_isLetter 1 = .ok (.aload_n 0, 1) := by decide +kernel
theorem dX10_isLetter_2 : decode cX10_isLetter 2 = .ok (.getfield 205, 3) := by decide +kernel
theorem dX10_isLetter_5 : decode cX10_isLetter 5 = .ok (.if_icmp .ge 29, 3) := by decide +kernel
theorem dX10_isLetter_8 : decode cX10_isLetter 8 = .ok (.aload_n 0, 1) := by decide +kernel
theorem dX10_isLetter_9 : decode cX10_isLetter 9 = .ok (.getfield 34, 3) := by decide +kernel
theorem dX10_isLetter_12 : decode cX10_isLetter 12 = .ok (.iload_n 1, 1) := by decide +kernel
theorem dX10_isLetter_13 : decode cX10_isLetter 13 = .ok (.iaload, 1) := by decide +kernel
theorem dX10_isLetter_14 : decode cX10_isLetter 14 = .ok (.bipush 97, 2) := by decide +kernel
theorem dX10_isLetter_16 : decode cX10_isLetter 16 = .ok (.if_icmp .lt 18, 3) := by decide +kernel
theorem dX10_isLetter_19 : decode cX10_isLetter 19 = .ok (.aload_n 0, 1) := by decide +kernel
theorem dX10_isLetter_20 : decode cX10_isLetter 20 = .ok (.getfield 34, 3) := by decide +kernel
theorem dX10_isLetter_23 : decode cX10_isLetter 23 = .ok (.iload_n 1, 1) := by decide +kernel
theorem dX10_isLetter_24 : decode cX10_isLetter 24 = .ok (.iaload, 1) := by decide +kernel
theorem dX10_isLetter_25 : decode cX10_isLetter 25 = .ok (.bipush 122, 2) := by decide +kernel
theorem dX10_isLetter_27 : decode cX10_isLetter 27 = .ok (.if_icmp .gt 7, 3) := by decide +kernel
theorem dX10_isLetter_30 : decode cX10_isLetter 30 = .ok (.iconst 1, 1) := by decide +kernel
theorem dX10_isLetter_31 : decode cX10_isLetter 31 = .ok (.goto 4, 3) := by decide +kernel
theorem dX10_isLetter_34 : decode cX10_isLetter 34 = .ok (.iconst 0, 1) := by decide +kernel
theorem dX10_isLetter_35 : decode cX10_isLetter 35 = .ok (.ireturn, 1) := by decide +kernel
theorem dX10_isFigure_0 : decode cX10_isFigure 0 = .ok (.iload_n 1, 1) := by decide +kernel
theorem dX10_isFigure_1 : decode cX10_isFigure 1 = .ok (.aload_n 0, 1) := by decide +kernel
theorem dX10_isFigure_2 : decode cX10_isFigure 2 = .ok (.getfield 205, 3) := by decide +kernel
theorem dX10_isFigure_5 : decode cX10_isFigure 5 = .ok (.if_icmp .ge 29, 3) := by decide +kernel
theorem dX10_isFigure_8 : decode cX10_isFigure 8 = .ok (.aload_n 0, 1) := by decide +kernel
theorem dX10_isFigure_9 : decode cX10_isFigure 9 = .ok (.getfield 34, 3) := by decide +kernel
theorem dX10_isFigure_12 : decode cX10_isFigure 12 = .ok (.iload_n 1, 1) := by decide +kernel
theorem dX10_isFigure_13 : decode cX10_isFigure 13 = .ok (.iaload, 1) := by decide +kernel
theorem dX10_isFigure_14 : decode cX10_isFigure 14 = .ok (.bipush 48, 2) := by decide +kernel
theorem dX10_isFigure_16 : decode cX10_isFigure 16 = .ok (.if_icmp .lt 18, 3) := by decide +kernel
theorem dX10_isFigure_19 : decode cX10_isFigure 19 = .ok (.aload_n 0, 1) := by decide +kernel
theorem dX10_isFigure_20 : decode cX10_isFigure 20 = .ok (.getfield 34, 3) := by decide +kernel
theorem dX10_isFigure_23 : decode cX10_isFigure 23 = .ok (.iload_n 1, 1) := by decide +kernel
theorem dX10_isFigure_24 : decode cX10_isFigure 24 = .ok (.iaload, 1) := by decide +kernel
theorem dX10_isFigure_25 : decode cX10_isFigure 25 = .ok (.bipush 57, 2) := by decide +kernel
theorem dX10_isFigure_27 : decode cX10_isFigure 27 = .ok (.if_icmp .gt 7, 3) := by decide +kernel
theorem dX10_isFigure_30 : decode cX10_isFigure 30 = .ok (.iconst 1, 1) := by decide +kernel
theorem dX10_isFigure_31 : decode cX10_isFigure 31 = .ok (.goto 4, 3) := by decide +kernel
theorem dX10_isFigure_34 : decode cX10_isFigure 34 = .ok (.iconst 0, 1) := by decide +kernel
theorem dX10_isFigure_35 : decode cX10_isFigure 35 = .ok (.ireturn, 1) := by decide +kernel
theorem dX10_go_0 : decode cX10_go 0 = .ok (.aload_n 0, 1) := by decide +kernel
theorem dX10_go_1 : decode cX10_go 1 = .ok (.getfield 209, 3) := by decide +kernel
theorem dX10_go_4 : decode cX10_go 4 = .ok (.aload_n 0, 1) := by decide +kernel
theorem dX10_go_5 : decode cX10_go 5 = .ok (.getfield 205, 3) := by decide +kernel
theorem dX10_go_8 : decode cX10_go 8 = .ok (.if_icmp .ge 30, 3) := by decide +kernel
theorem dX10_go_11 : decode cX10_go 11 = .ok (.aload_n 0, 1) := by decide +kernel
theorem dX10_go_12 : decode cX10_go 12 = .ok (.getfield 34, 3) := by decide +kernel
theorem dX10_go_15 : decode cX10_go 15 = .ok (.aload_n 0, 1) := by decide +kernel
theorem dX10_go_16 : decode cX10_go 16 = .ok (.getfield 209, 3) := by decide +kernel
theorem dX10_go_19 : decode cX10_go 19 = .ok (.iaload, 1) := by decide +kernel
theorem dX10_go_20 : decode cX10_go 20 = .ok (.bipush 32, 2) := by decide +kernel
theorem dX10_go_22 : decode cX10_go 22 = .ok (.if_icmp .ne 16, 3) := by decide +kernel
theorem dX10_go_25 : decode cX10_go 25 = .ok (.aload_n 0, 1) := by decide +kernel
theorem dX10_go_26 : decode cX10_go 26 = .ok (.dup, 1) := by decide +kernel
theorem dX10_go_27 : decode cX10_go 27 = .ok (.getfield 209, 3) := by decide +kernel
theorem dX10_go_30 : decode cX10_go 30 = .ok (.iconst 1, 1) := by decide +kernel
theorem dX10_go_31 : decode cX10_go 31 = .ok (.iadd, 1) := by decide +kernel
theorem dX10_go_32 : decode cX10_go 32 = .ok (.putfield 209, 3) := by decide +kernel
theorem dX10_go_35 : decode cX10_go 35 = .ok (.goto (-35), 3) := by decide +kernel
theorem dX10_go_38 : decode cX10_go 38 = .ok (.aload_n 0, 1) := by decide +kernel
theorem dX10_go_39 : decode cX10_go 39 = .ok (.aload_n 0, 1) := by decide +kernel
theorem dX10_go_40 : decode cX10_go 40 = .ok (.getfield 209, 3) := by decide +kernel
theorem dX10_go_43 : decode cX10_go 43 = .ok (.putfield 212, 3) := by decide +kernel
theorem dX10_go_46 : decode cX10_go 46 = .ok (.aload_n 0, 1) := by decide +kernel
theorem dX10_go_47 : decode cX10_go 47 = .ok (.getfield 212, 3) := by decide +kernel
theorem dX10_go_50 : decode cX10_go 50 = .ok (.aload_n 0, 1) := by decide +kernel
theorem dX10_go_51 : decode cX10_go 51 = .ok (.getfield 215, 3) := by decide +kernel
theorem dX10_go_54 : decode cX10_go 54 = .ok (.if_icmp .ne 7, 3) := by decide +kernel
theorem dX10_go_57 : decode cX10_go 57 = .ok (.iconst 1, 1) := by decide +kernel
theorem dX10_go_58 : decode cX10_go 58 = .ok (.goto 4, 3) := by decide +kernel
theorem dX10_go_61 : decode cX10_go 61 = .ok (.iconst 0, 1) := by decide +kernel
theorem dX10_go_62 : decode cX10_go 62 = .ok (.istore_n 1, 1) := by decide +kernel
theorem dX10_go_63 : decode cX10_go 63 = .ok (.aload_n 0, 1) := by decide +kernel
theorem dX10_go_64 : decode cX10_go 64 = .ok (.getfield 212, 3) := by decide +kernel
theorem dX10_go_67 : decode cX10_go 67 = .ok (.aload_n 0, 1) := by decide +kernel
theorem dX10_go_68 : decode cX10_go 68 = .ok (.getfield 205, 3) := by decide +kernel
theorem dX10_go_71 : decode cX10_go 71 = .ok (.if_icmp .ne 11, 3) := by decide +kernel
theorem dX10_go_74 : decode cX10_go 74 = .ok (.aload_n 0, 1) := by decide +kernel
theorem dX10_go_75 : decode cX10_go 75 = .ok (.iconst 0, 1) := by decide +kernel
theorem dX10_go_76 : decode cX10_go 76 = .ok (.putfield 218, 3) := by decide +kernel
theorem dX10_go_79 : decode cX10_go 79 = .ok (.goto 224, 3) := by decide +kernel
theorem dX10_go_82 : decode cX10_go 82 = .ok (.aload_n 0, 1) := by decide +kernel
theorem dX10_go_83 : decode cX10_go 83 = .ok (.aload_n 0, 1) := by decide +kernel
theorem dX10_go_84 : decode cX10_go 84 = .ok (.getfield 212, 3) := by decide +kernel
theorem dX10_go_87 : decode cX10_go 87 = .ok (.invokevirtual 221, 3) := by decide +kernel
theorem dX10_go_90 : decode cX10_go 90 = .ok (.ifCond .eq 64, 3) := by decide +kernel
theorem dX10_go_93 : decode cX10_go 93 = .ok (.aload_n 0, 1) := by decide +kernel
theorem dX10_go_94 : decode cX10_go 94 = .ok (.aload_n 0, 1) := by decide +kernel
theorem dX10_go_95 : decode cX10_go 95 = .ok (.getfield 209, 3) := by decide +kernel
theorem dX10_go_98 : decode cX10_go 98 = .ok (.invokevirtual 221, 3) := by decide +kernel
theorem dX10_go_101 : decode cX10_go 101 = .ok (.ifCond .eq 16, 3) := by decide +kernel
theorem dX10_go_104 : decode cX10_go 104 = .ok (.aload_n 0, 1) := by decide +kernel
theorem dX10_go_105 : decode cX10_go 105 = .ok (.dup, 1) := by decide +kernel
theorem dX10_go_106 : decode cX10_go 106 = .ok (.getfield 209, 3) := by decide +kernel
theorem dX10_go_109 : decode cX10_go 109 = .ok (.iconst 1, 1) := by decide +kernel
theorem dX10_go_110 : decode cX10_go 110 = .ok (.iadd, 1) := by decide +kernel
theorem dX10_go_111 : decode cX10_go 111 = .ok (.putfield 209, 3) := by decide +kernel
theorem dX10_go_114 : decode cX10_go 114 = .ok (.goto (-21), 3) := by decide +kernel
theorem dX10_go_117 : decode cX10_go 117 = .ok (.aload_n 0, 1) := by decide +kernel
theorem dX10_go_118 : decode cX10_go 118 = .ok (.iload_n 1, 1) := by decide +kernel
theorem dX10_go_119 : decode cX10_go 119 = .ok (.ifCond .eq 7, 3) := by decide +kernel
theorem dX10_go_122 : decode cX10_go 122 = .ok (.iconst 4, 1) := by decide +kernel
theorem dX10_go_123 : decode cX10_go 123 = .ok (.goto 4, 3) := by decide +kernel
theorem dX10_go_126 : decode cX10_go 126 = .ok (.iconst 1, 1) := by decide +kernel
theorem dX10_go_127 : decode cX10_go 127 = .ok (.putfield 218, 3) := by decide +kernel
theorem dX10_go_130 : decode cX10_go 130 = .ok (.aload_n 0, 1) := by decide +kernel
theorem dX10_go_131 : decode cX10_go 131 = .ok (.aload_n 0, 1) := by decide +kernel
theorem dX10_go_132 : decode cX10_go 132 = .ok (.getfield 34, 3) := by decide +kernel
theorem dX10_go_135 : decode cX10_go 135 = .ok (.aload_n 0, 1) := by decide +kernel
theorem dX10_go_136 : decode cX10_go 136 = .ok (.getfield 212, 3) := by decide +kernel
theorem dX10_go_139 : decode cX10_go 139 = .ok (.iaload, 1) := by decide +kernel
theorem dX10_go_140 : decode cX10_go 140 = .ok (.putfield 224, 3) := by decide +kernel
theorem dX10_go_143 : decode cX10_go 143 = .ok (.aload_n 0, 1) := by decide +kernel
theorem dX10_go_144 : decode cX10_go 144 = .ok (.aload_n 0, 1) := by decide +kernel
theorem dX10_go_145 : decode cX10_go 145 = .ok (.getfield 209, 3) := by decide +kernel
theorem dX10_go_148 : decode cX10_go 148 = .ok (.putfield 215, 3) := by decide +kernel
theorem dX10_go_151 : decode cX10_go 151 = .ok (.goto 152, 3) := by decide +kernel
theorem dX10_go_154 : decode cX10_go 154 = .ok (.aload_n 0, 1) := by decide +kernel
theorem dX10_go_155 : decode cX10_go 155 = .ok (.aload_n 0, 1) := by decide +kernel
theorem dX10_go_156 : decode cX10_go 156 = .ok (.getfield 212, 3) := by decide +kernel
theorem dX10_go_159 : decode cX10_go 159 = .ok (.invokevirtual 227, 3) := by decide +kernel
theorem dX10_go_162 : decode cX10_go 162 = .ok (.ifCond .eq 113, 3) := by decide +kernel
theorem dX10_go_165 : decode cX10_go 165 = .ok (.aload_n 0, 1) := by decide +kernel
theorem dX10_go_166 : decode cX10_go 166 = .ok (.iconst 0, 1) := by decide +kernel
theorem dX10_go_167 : decode cX10_go 167 = .ok (.putfield 224, 3) := by decide +kernel
theorem dX10_go_170 : decode cX10_go 170 = .ok (.aload_n 0, 1) := by decide +kernel
theorem dX10_go_171 : decode cX10_go 171 = .ok (.aload_n 0, 1) := by decide +kernel
theorem dX10_go_172 : decode cX10_go 172 = .ok (.getfield 209, 3) := by decide +kernel
theorem dX10_go_175 : decode cX10_go 175 = .ok (.invokevirtual 227, 3) := by decide +kernel
theorem dX10_go_178 : decode cX10_go 178 = .ok (.ifCond .eq 60, 3) := by decide +kernel
theorem dX10_go_181 : decode cX10_go 181 = .ok (.aload_n 0, 1) := by decide +kernel
theorem dX10_go_182 : decode cX10_go 182 = .ok (.aload_n 0, 1) := by decide +kernel
theorem dX10_go_183 : decode cX10_go 183 = .ok (.getfield 209, 3) := by decide +kernel
theorem dX10_go_186 : decode cX10_go 186 = .ok (.aload_n 0, 1) := by decide +kernel
theorem dX10_go_187 : decode cX10_go 187 = .ok (.getfield 212, 3) := by decide +kernel
theorem dX10_go_190 : decode cX10_go 190 = .ok (.isub, 1) := by decide +kernel
theorem dX10_go_191 : decode cX10_go 191 = .ok (.iconst 4, 1) := by decide +kernel
theorem dX10_go_192 : decode cX10_go 192 = .ok (.if_icmp .ge 26, 3) := by decide +kernel
theorem dX10_go_195 : decode cX10_go 195 = .ok (.bipush 10, 2) := by decide +kernel
theorem dX10_go_197 : decode cX10_go 197 = .ok (.aload_n 0, 1) := by decide +kernel
theorem dX10_go_198 : decode cX10_go 198 = .ok (.getfield 224, 3) := by decide +kernel
theorem dX10_go_201 : decode cX10_go 201 = .ok (.imul, 1) := by decide +kernel
theorem dX10_go_202 : decode cX10_go 202 = .ok (.aload_n 0, 1) := by decide +kernel
theorem dX10_go_203 : decode cX10_go 203 = .ok (.getfield 34, 3) := by decide +kernel
theorem dX10_go_206 : decode cX10_go 206 = .ok (.aload_n 0, 1) := by decide +kernel
theorem dX10_go_207 : decode cX10_go 207 = .ok (.getfield 209, 3) := by decide +kernel
theorem dX10_go_210 : decode cX10_go 210 = .ok (.iaload, 1) := by decide +kernel
theorem dX10_go_211 : decode cX10_go 211 = .ok (.iadd, 1) := by decide +kernel
theorem dX10_go_212 : decode cX10_go 212 = .ok (.bipush 48, 2) := by decide +kernel
theorem dX10_go_214 : decode cX10_go 214 = .ok (.isub, 1) := by decide +kernel
theorem dX10_go_215 : decode cX10_go 215 = .ok (.goto 7, 3) := by decide +kernel
theorem dX10_go_218 : decode cX10_go 218 = .ok (.aload_n 0, 1) := by decide +kernel
theorem dX10_go_219 : decode cX10_go 219 = .ok (.getfield 224, 3) := by decide +kernel
theorem dX10_go_222 : decode cX10_go 222 = .ok (.putfield 224, 3) := by decide +kernel
theorem dX10_go_225 : decode cX10_go 225 = .ok (.aload_n 0, 1) := by decide +kernel
theorem dX10_go_226 : decode cX10_go 226 = .ok (.dup, 1) := by decide +kernel
theorem dX10_go_227 : decode cX10_go 227 = .ok (.getfield 209, 3) := by decide +kernel
theorem dX10_go_230 : decode cX10_go 230 = .ok (.iconst 1, 1) := by decide +kernel
theorem dX10_go_231 : decode cX10_go 231 = .ok (.iadd, 1) := by decide +kernel
theorem dX10_go_232 : decode cX10_go 232 = .ok (.putfield 209, 3) := by decide +kernel
theorem dX10_go_235 : decode cX10_go 235 = .ok (.goto (-65), 3) := by decide +kernel
theorem dX10_go_238 : decode cX10_go 238 = .ok (.aload_n 0, 1) := by decide +kernel
theorem dX10_go_239 : decode cX10_go 239 = .ok (.iload_n 1, 1) := by decide +kernel
theorem dX10_go_240 : decode cX10_go 240 = .ok (.ifCond .ne 16, 3) := by decide +kernel
theorem dX10_go_243 : decode cX10_go 243 = .ok (.aload_n 0, 1) := by decide +kernel
theorem dX10_go_244 : decode cX10_go 244 = .ok (.getfield 209, 3) := by decide +kernel
theorem dX10_go_247 : decode cX10_go 247 = .ok (.aload_n 0, 1) := by decide +kernel
theorem dX10_go_248 : decode cX10_go 248 = .ok (.getfield 212, 3) := by decide +kernel
theorem dX10_go_251 : decode cX10_go 251 = .ok (.isub, 1) := by decide +kernel
theorem dX10_go_252 : decode cX10_go 252 = .ok (.iconst 4, 1) := by decide +kernel
theorem dX10_go_253 : decode cX10_go 253 = .ok (.if_icmp .le 7, 3) := by decide +kernel
theorem dX10_go_256 : decode cX10_go 256 = .ok (.iconst 4, 1) := by decide +kernel
theorem dX10_go_257 : decode cX10_go 257 = .ok (.goto 4, 3) := by decide +kernel
theorem dX10_go_260 : decode cX10_go 260 = .ok (.iconst 2, 1) := by decide +kernel
theorem dX10_go_261 : decode cX10_go 261 = .ok (.putfield 218, 3) := by decide +kernel
theorem dX10_go_264 : decode cX10_go 264 = .ok (.aload_n 0, 1) := by decide +kernel
theorem dX10_go_265 : decode cX10_go 265 = .ok (.aload_n 0, 1) := by decide +kernel
theorem dX10_go_266 : decode cX10_go 266 = .ok (.getfield 209, 3) := by decide +kernel
theorem dX10_go_269 : decode cX10_go 269 = .ok (.putfield 215, 3) := by decide +kernel
theorem dX10_go_272 : decode cX10_go 272 = .ok (.goto 31, 3) := by decide +kernel
theorem dX10_go_275 : decode cX10_go 275 = .ok (.aload_n 0, 1) := by decide +kernel
theorem dX10_go_276 : decode cX10_go 276 = .ok (.iconst 3, 1) := by decide +kernel
theorem dX10_go_277 : decode cX10_go 277 = .ok (.putfield 218, 3) := by decide +kernel
theorem dX10_go_280 : decode cX10_go 280 = .ok (.aload_n 0, 1) := by decide +kernel
theorem dX10_go_281 : decode cX10_go 281 = .ok (.aload_n 0, 1) := by decide +kernel
theorem dX10_go_282 : decode cX10_go 282 = .ok (.getfield 34, 3) := by decide +kernel
theorem dX10_go_285 : decode cX10_go 285 = .ok (.aload_n 0, 1) := by decide +kernel
theorem dX10_go_286 : decode cX10_go 286 = .ok (.getfield 212, 3) := by decide +kernel
theorem dX10_go_289 : decode cX10_go 289 = .ok (.iaload, 1) := by decide +kernel
theorem dX10_go_290 : decode cX10_go 290 = .ok (.putfield 224, 3) := by decide +kernel
theorem dX10_go_293 : decode cX10_go 293 = .ok (.aload_n 0, 1) := by decide +kernel
theorem dX10_go_294 : decode cX10_go 294 = .ok (.dup, 1) := by decide +kernel
theorem dX10_go_295 : decode cX10_go 295 = .ok (.getfield 209, 3) := by decide +kernel
theorem dX10_go_298 : decode cX10_go 298 = .ok (.iconst 1, 1) := by decide +kernel
theorem dX10_go_299 : decode cX10_go 299 = .ok (.iadd, 1) := by decide +kernel
theorem dX10_go_300 : decode cX10_go 300 = .ok (.putfield 209, 3) := by decide +kernel
theorem dX10_go_303 : decode cX10_go 303 = .ok (.return_, 1) := by decide +kernel
theorem dX10_takesKey_0 : decode cX10_takesKey 0 = .ok (.aload_n 0, 1) := by decide +kernel
theorem dX10_takesKey_1 : decode cX10_takesKey 1 = .ok (.getfield 218, 3) := by decide +kernel
theorem dX10_takesKey_4 : decode cX10_takesKey 4 = .ok (.iconst 1, 1) := by decide +kernel
theorem dX10_takesKey_5 : decode cX10_takesKey 5 = .ok (.if_icmp .eq 5, 3) := by decide +kernel
theorem dX10_takesKey_8 : decode cX10_takesKey 8 = .ok (.iconst 0, 1) := by decide +kernel
theorem dX10_takesKey_9 : decode cX10_takesKey 9 = .ok (.ireturn, 1) := by decide +kernel
theorem dX10_takesKey_10 : decode cX10_takesKey 10 = .ok (.iconst 0, 1) := by decide +kernel
theorem dX10_takesKey_11 : decode cX10_takesKey 11 = .ok (.istore_n 1, 1) := by decide +kernel
theorem dX10_takesKey_12 : decode cX10_takesKey 12 = .ok (.iload_n 1, 1) := by decide +kernel
theorem dX10_takesKey_13 : decode cX10_takesKey 13 = .ok (.iconst 3, 1) := by decide +kernel
theorem dX10_takesKey_14 : decode cX10_takesKey 14 = .ok (.if_icmp .ge 113, 3) := by decide +kernel
theorem dX10_takesKey_17 : decode cX10_takesKey 17 = .ok (.aload_n 0, 1) := by decide +kernel
theorem dX10_takesKey_18 : decode cX10_takesKey 18 = .ok (.getfield 41, 3) := by decide +kernel
theorem dX10_takesKey_21 : decode cX10_takesKey 21 = .ok (.iload_n 1, 1) := by decide +kernel
theorem dX10_takesKey_22 : decode cX10_takesKey 22 = .ok (.iconst 1, 1) := by decide +kernel
theorem dX10_takesKey_23 : decode cX10_takesKey 23 = .ok (.iadd, 1) := by decide +kernel
theorem dX10_takesKey_24 : decode cX10_takesKey 24 = .ok (.iaload, 1) := by decide +kernel
theorem dX10_takesKey_25 : decode cX10_takesKey 25 = .ok (.aload_n 0, 1) := by decide +kernel
theorem dX10_takesKey_26 : decode cX10_takesKey 26 = .ok (.getfield 41, 3) := by decide +kernel
theorem dX10_takesKey_29 : decode cX10_takesKey 29 = .ok (.iload_n 1, 1) := by decide +kernel
theorem dX10_takesKey_30 : decode cX10_takesKey 30 = .ok (.iaload, 1) := by decide +kernel
theorem dX10_takesKey_31 : decode cX10_takesKey 31 = .ok (.isub, 1) := by decide +kernel
theorem dX10_takesKey_32 : decode cX10_takesKey 32 = .ok (.istore_n 2, 1) := by decide +kernel
theorem dX10_takesKey_33 : decode cX10_takesKey 33 = .ok (.iload_n 2, 1) := by decide +kernel
theorem dX10_takesKey_34 : decode cX10_takesKey 34 = .ok (.aload_n 0, 1) := by decide +kernel
theorem dX10_takesKey_35 : decode cX10_takesKey 35 = .ok (.getfield 209, 3) := by decide +kernel
theorem dX10_takesKey_38 : decode cX10_takesKey 38 = .ok (.aload_n 0, 1) := by decide +kernel
theorem dX10_takesKey_39 : decode cX10_takesKey 39 = .ok (.getfield 212, 3) := by decide +kernel
theorem dX10_takesKey_42 : decode cX10_takesKey 42 = .ok (.isub, 1) := by decide +kernel
theorem dX10_takesKey_43 : decode cX10_takesKey 43 = .ok (.if_icmp .ne 7, 3) := by decide +kernel
theorem dX10_takesKey_46 : decode cX10_takesKey 46 = .ok (.iconst 1, 1) := by decide +kernel
theorem dX10_takesKey_47 : decode cX10_takesKey 47 = .ok (.goto 4, 3) := by decide +kernel
theorem dX10_takesKey_50 : decode cX10_takesKey 50 = .ok (.iconst 0, 1) := by decide +kernel
theorem dX10_takesKey_51 : decode cX10_takesKey 51 = .ok (.istore_n 3, 1) := by decide +kernel
theorem dX10_takesKey_52 : decode cX10_takesKey 52 = .ok (.iconst 0, 1) := by decide +kernel
theorem dX10_takesKey_53 : decode cX10_takesKey 53 = .ok (.istore 4, 2) := by decide +kernel
theorem dX10_takesKey_55 : decode cX10_takesKey 55 = .ok (.iload 4, 2) := by decide +kernel
theorem dX10_takesKey_57 : decode cX10_takesKey 57 = .ok (.iload_n 2, 1) := by decide +kernel
theorem dX10_takesKey_58 : decode cX10_takesKey 58 = .ok (.if_icmp .ge 48, 3) := by decide +kernel
theorem dX10_takesKey_61 : decode cX10_takesKey 61 = .ok (.iload_n 3, 1) := by decide +kernel
theorem dX10_takesKey_62 : decode cX10_takesKey 62 = .ok (.ifCond .eq 44, 3) := by decide +kernel
theorem dX10_takesKey_65 : decode cX10_takesKey 65 = .ok (.aload_n 0, 1) := by decide +kernel
theorem dX10_takesKey_66 : decode cX10_takesKey 66 = .ok (.getfield 34, 3) := by decide +kernel
theorem dX10_takesKey_69 : decode cX10_takesKey 69 = .ok (.aload_n 0, 1) := by decide +kernel
theorem dX10_takesKey_70 : decode cX10_takesKey 70 = .ok (.getfield 212, 3) := by decide +kernel
theorem dX10_takesKey_73 : decode cX10_takesKey 73 = .ok (.iload 4, 2) := by decide +kernel
theorem dX10_takesKey_75 : decode cX10_takesKey 75 = .ok (.iadd, 1) := by decide +kernel
theorem dX10_takesKey_76 : decode cX10_takesKey 76 = .ok (.iaload, 1) := by decide +kernel
theorem dX10_takesKey_77 : decode cX10_takesKey 77 = .ok (.aload_n 0, 1) := by decide +kernel
theorem dX10_takesKey_78 : decode cX10_takesKey 78 = .ok (.getfield 37, 3) := by decide +kernel
theorem dX10_takesKey_81 : decode cX10_takesKey 81 = .ok (.aload_n 0, 1) := by decide +kernel
theorem dX10_takesKey_82 : decode cX10_takesKey 82 = .ok (.getfield 41, 3) := by decide +kernel
theorem dX10_takesKey_85 : decode cX10_takesKey 85 = .ok (.iload_n 1, 1) := by decide +kernel
theorem dX10_takesKey_86 : decode cX10_takesKey 86 = .ok (.iaload, 1) := by decide +kernel
theorem dX10_takesKey_87 : decode cX10_takesKey 87 = .ok (.iload 4, 2) := by decide +kernel
theorem dX10_takesKey_89 : decode cX10_takesKey 89 = .ok (.iadd, 1) := by decide +kernel
theorem dX10_takesKey_90 : decode cX10_takesKey 90 = .ok (.caload, 1) := by decide +kernel
theorem dX10_takesKey_91 : decode cX10_takesKey 91 = .ok (.if_icmp .ne 7, 3) := by decide +kernel
theorem dX10_takesKey_94 : decode cX10_takesKey 94 = .ok (.iconst 1, 1) := by decide +kernel
theorem dX10_takesKey_95 : decode cX10_takesKey 95 = .ok (.goto 4, 3) := by decide +kernel
theorem dX10_takesKey_98 : decode cX10_takesKey 98 = .ok (.iconst 0, 1) := by decide +kernel
theorem dX10_takesKey_99 : decode cX10_takesKey 99 = .ok (.istore_n 3, 1) := by decide +kernel
theorem dX10_takesKey_100 : decode cX10_takesKey 100 = .ok (.iinc 4 1, 3) := by decide +kernel
theorem dX10_takesKey_103 : decode cX10_takesKey 103 = .ok (.goto (-48), 3) := by decide +kernel
theorem dX10_takesKey_106 : decode cX10_takesKey 106 = .ok (.iload_n 3, 1) := by decide +kernel
theorem dX10_takesKey_107 : decode cX10_takesKey 107 = .ok (.ifCond .eq 14, 3) := by decide +kernel
theorem dX10_takesKey_110 : decode cX10_takesKey 110 = .ok (.aload_n 0, 1) := by decide +kernel
theorem dX10_takesKey_111 : decode cX10_takesKey 111 = .ok (.iload_n 1, 1) := by decide +kernel
theorem dX10_takesKey_112 : decode cX10_takesKey 112 = .ok (.putfield 230, 3) := by decide +kernel
theorem dX10_takesKey_115 : decode cX10_takesKey 115 = .ok (.aload_n 0, 1) := by decide +kernel
theorem dX10_takesKey_116 : decode cX10_takesKey 116 = .ok (.invokevirtual 233, 3) := by decide +kernel
theorem dX10_takesKey_119 : decode cX10_takesKey 119 = .ok (.iconst 1, 1) := by decide +kernel
theorem dX10_takesKey_120 : decode cX10_takesKey 120 = .ok (.ireturn, 1) := by decide +kernel
theorem dX10_takesKey_121 : decode cX10_takesKey 121 = .ok (.iinc 1 1, 3) := by decide +kernel
theorem dX10_takesKey_124 : decode cX10_takesKey 124 = .ok (.goto (-112), 3) := by decide +kernel
theorem dX10_takesKey_127 : decode cX10_takesKey 127 = .ok (.iconst 0, 1) := by decide +kernel
theorem dX10_takesKey_128 : decode cX10_takesKey 128 = .ok (.ireturn, 1) := by decide +kernel
theorem dX10_nameOf_0 : decode cX10_nameOf 0 = .ok (.aload_n 0, 1) := by decide +kernel
theorem dX10_nameOf_1 : decode cX10_nameOf 1 = .ok (.getfield 230, 3) := by decide +kernel
theorem dX10_nameOf_4 : decode cX10_nameOf 4 = .ok (.lookupswitch 72 #[(0, 28), (1, 50)], 28) := by decide +kernel
theorem dX10_nameOf_32 : decode cX10_nameOf 32 = .ok (.iload_n 1, 1) := by decide +kernel
theorem dX10_nameOf_33 : decode cX10_nameOf 33 = .ok (.bipush 119, 2) := by decide +kernel
theorem dX10_nameOf_35 : decode cX10_nameOf 35 = .ok (.if_icmp .ne 7, 3) := by decide +kernel
theorem dX10_nameOf_38 : decode cX10_nameOf 38 = .ok (.iconst 0, 1) := by decide +kernel
theorem dX10_nameOf_39 : decode cX10_nameOf 39 = .ok (.goto 14, 3) := by decide +kernel
theorem dX10_nameOf_42 : decode cX10_nameOf 42 = .ok (.iload_n 1, 1) := by decide +kernel
theorem dX10_nameOf_43 : decode cX10_nameOf 43 = .ok (.bipush 111, 2) := by decide +kernel
theorem dX10_nameOf_45 : decode cX10_nameOf 45 = .ok (.if_icmp .ne 7, 3) := by decide +kernel
theorem dX10_nameOf_48 : decode cX10_nameOf 48 = .ok (.iconst 1, 1) := by decide +kernel
theorem dX10_nameOf_49 : decode cX10_nameOf 49 = .ok (.goto 4, 3) := by decide +kernel
theorem dX10_nameOf_52 : decode cX10_nameOf 52 = .ok (.iconst (-1), 1) := by decide +kernel
theorem dX10_nameOf_53 : decode cX10_nameOf 53 = .ok (.ireturn, 1) := by decide +kernel
theorem dX10_nameOf_54 : decode cX10_nameOf 54 = .ok (.iload_n 1, 1) := by decide +kernel
theorem dX10_nameOf_55 : decode cX10_nameOf 55 = .ok (.bipush 102, 2) := by decide +kernel
theorem dX10_nameOf_57 : decode cX10_nameOf 57 = .ok (.if_icmp .ne 7, 3) := by decide +kernel
theorem dX10_nameOf_60 : decode cX10_nameOf 60 = .ok (.iconst 0, 1) := by decide +kernel
theorem dX10_nameOf_61 : decode cX10_nameOf 61 = .ok (.goto 14, 3) := by decide +kernel
theorem dX10_nameOf_64 : decode cX10_nameOf 64 = .ok (.iload_n 1, 1) := by decide +kernel
theorem dX10_nameOf_65 : decode cX10_nameOf 65 = .ok (.bipush 115, 2) := by decide +kernel
theorem dX10_nameOf_67 : decode cX10_nameOf 67 = .ok (.if_icmp .ne 7, 3) := by decide +kernel
theorem dX10_nameOf_70 : decode cX10_nameOf 70 = .ok (.iconst 1, 1) := by decide +kernel
theorem dX10_nameOf_71 : decode cX10_nameOf 71 = .ok (.goto 4, 3) := by decide +kernel
theorem dX10_nameOf_74 : decode cX10_nameOf 74 = .ok (.iconst (-1), 1) := by decide +kernel
theorem dX10_nameOf_75 : decode cX10_nameOf 75 = .ok (.ireturn, 1) := by decide +kernel
theorem dX10_nameOf_76 : decode cX10_nameOf 76 = .ok (.iload_n 1, 1) := by decide +kernel
theorem dX10_nameOf_77 : decode cX10_nameOf 77 = .ok (.bipush 103, 2) := by decide +kernel
theorem dX10_nameOf_79 : decode cX10_nameOf 79 = .ok (.if_icmp .ne 7, 3) := by decide +kernel
theorem dX10_nameOf_82 : decode cX10_nameOf 82 = .ok (.iconst 0, 1) := by decide +kernel
theorem dX10_nameOf_83 : decode cX10_nameOf 83 = .ok (.goto 14, 3) := by decide +kernel
theorem dX10_nameOf_86 : decode cX10_nameOf 86 = .ok (.iload_n 1, 1) := by decide +kernel
theorem dX10_nameOf_87 : decode cX10_nameOf 87 = .ok (.bipush 109, 2) := by decide +kernel
theorem dX10_nameOf_89 : decode cX10_nameOf 89 = .ok (.if_icmp .ne 7, 3) := by decide +kernel
theorem dX10_nameOf_92 : decode cX10_nameOf 92 = .ok (.iconst 1, 1) := by decide +kernel
theorem dX10_nameOf_93 : decode cX10_nameOf 93 = .ok (.goto 4, 3) := by decide +kernel
theorem dX10_nameOf_96 : decode cX10_nameOf 96 = .ok (.iconst (-1), 1) := by decide +kernel
theorem dX10_nameOf_97 : decode cX10_nameOf 97 = .ok (.ireturn, 1) := by decide +kernel
theorem dX10_rank_0 : decode cX10_rank 0 = .ok (.iload_n 0, 1) := by decide +kernel
theorem dX10_rank_1 : decode cX10_rank 1 = .ok (.iconst (-1), 1) := by decide +kernel
theorem dX10_rank_2 : decode cX10_rank 2 = .ok (.if_icmp .ne 7, 3) := by decide +kernel
theorem dX10_rank_5 : decode cX10_rank 5 = .ok (.iconst 1, 1) := by decide +kernel
theorem dX10_rank_6 : decode cX10_rank 6 = .ok (.goto 45, 3) := by decide +kernel
theorem dX10_rank_9 : decode cX10_rank 9 = .ok (.iload_n 0, 1) := by decide +kernel
theorem dX10_rank_10 : decode cX10_rank 10 = .ok (.bipush (-2), 2) := by decide +kernel
theorem dX10_rank_12 : decode cX10_rank 12 = .ok (.if_icmp .ne 7, 3) := by decide +kernel
theorem dX10_rank_15 : decode cX10_rank 15 = .ok (.iconst 2, 1) := by decide +kernel
theorem dX10_rank_16 : decode cX10_rank 16 = .ok (.goto 35, 3) := by decide +kernel
theorem dX10_rank_19 : decode cX10_rank 19 = .ok (.iload_n 0, 1) := by decide +kernel
theorem dX10_rank_20 : decode cX10_rank 20 = .ok (.bipush (-5), 2) := by decide +kernel
theorem dX10_rank_22 : decode cX10_rank 22 = .ok (.if_icmp .lt 7, 3) := by decide +kernel
theorem dX10_rank_25 : decode cX10_rank 25 = .ok (.iconst 3, 1) := by decide +kernel
theorem dX10_rank_26 : decode cX10_rank 26 = .ok (.goto 25, 3) := by decide +kernel
theorem dX10_rank_29 : decode cX10_rank 29 = .ok (.iload_n 0, 1) := by decide +kernel
theorem dX10_rank_30 : decode cX10_rank 30 = .ok (.bipush (-7), 2) := by decide +kernel
theorem dX10_rank_32 : decode cX10_rank 32 = .ok (.if_icmp .lt 7, 3) := by decide +kernel
theorem dX10_rank_35 : decode cX10_rank 35 = .ok (.iconst 4, 1) := by decide +kernel
theorem dX10_rank_36 : decode cX10_rank 36 = .ok (.goto 15, 3) := by decide +kernel
theorem dX10_rank_39 : decode cX10_rank 39 = .ok (.iload_n 0, 1) := by decide +kernel
theorem dX10_rank_40 : decode cX10_rank 40 = .ok (.bipush (-9), 2) := by decide +kernel
theorem dX10_rank_42 : decode cX10_rank 42 = .ok (.if_icmp .lt 7, 3) := by decide +kernel
theorem dX10_rank_45 : decode cX10_rank 45 = .ok (.iconst 5, 1) := by decide +kernel
theorem dX10_rank_46 : decode cX10_rank 46 = .ok (.goto 5, 3) := by decide +kernel
theorem dX10_rank_49 : decode cX10_rank 49 = .ok (.bipush 6, 2) := by decide +kernel
theorem dX10_rank_51 : decode cX10_rank 51 = .ok (.ireturn, 1) := by decide +kernel
theorem dX10_settle_0 : decode cX10_settle 0 = .ok (.aload_n 0, 1) := by decide +kernel
theorem dX10_settle_1 : decode cX10_settle 1 = .ok (.getfield 236, 3) := by decide +kernel
theorem dX10_settle_4 : decode cX10_settle 4 = .ok (.ifCond .le 78, 3) := by decide +kernel
theorem dX10_settle_7 : decode cX10_settle 7 = .ok (.aload_n 0, 1) := by decide +kernel
theorem dX10_settle_8 : decode cX10_settle 8 = .ok (.getfield 47, 3) := by decide +kernel
theorem dX10_settle_11 : decode cX10_settle 11 = .ok (.aload_n 0, 1) := by decide +kernel
theorem dX10_settle_12 : decode cX10_settle 12 = .ok (.getfield 236, 3) := by decide +kernel
theorem dX10_settle_15 : decode cX10_settle 15 = .ok (.iconst 1, 1) := by decide +kernel
theorem dX10_settle_16 : decode cX10_settle 16 = .ok (.isub, 1) := by decide +kernel
theorem dX10_settle_17 : decode cX10_settle 17 = .ok (.iaload, 1) := by decide +kernel
theorem dX10_settle_18 : decode cX10_settle 18 = .ok (.bipush (-11), 2) := by decide +kernel
theorem dX10_settle_20 : decode cX10_settle 20 = .ok (.if_icmp .eq 62, 3) := by decide +kernel
theorem dX10_settle_23 : decode cX10_settle 23 = .ok (.aload_n 0, 1) := by decide +kernel
theorem dX10_settle_24 : decode cX10_settle 24 = .ok (.getfield 47, 3) := by decide +kernel
theorem dX10_settle_27 : decode cX10_settle 27 = .ok (.aload_n 0, 1) := by decide +kernel
theorem dX10_settle_28 : decode cX10_settle 28 = .ok (.getfield 236, 3) := by decide +kernel
theorem dX10_settle_31 : decode cX10_settle 31 = .ok (.iconst 1, 1) := by decide +kernel
theorem dX10_settle_32 : decode cX10_settle 32 = .ok (.isub, 1) := by decide +kernel
theorem dX10_settle_33 : decode cX10_settle 33 = .ok (.iaload, 1) := by decide +kernel
theorem dX10_settle_34 : decode cX10_settle 34 = .ok (.invokestatic 239, 3) := by decide +kernel
theorem dX10_settle_37 : decode cX10_settle 37 = .ok (.iload_n 1, 1) := by decide +kernel
theorem dX10_settle_38 : decode cX10_settle 38 = .ok (.if_icmp .lt 44, 3) := by decide +kernel
theorem dX10_settle_41 : decode cX10_settle 41 = .ok (.aload_n 0, 1) := by decide +kernel
theorem dX10_settle_42 : decode cX10_settle 42 = .ok (.dup, 1) := by decide +kernel
theorem dX10_settle_43 : decode cX10_settle 43 = .ok (.getfield 236, 3) := by decide +kernel
theorem dX10_settle_46 : decode cX10_settle 46 = .ok (.iconst 1, 1) := by decide +kernel
theorem dX10_settle_47 : decode cX10_settle 47 = .ok (.isub, 1) := by decide +kernel
theorem dX10_settle_48 : decode cX10_settle 48 = .ok (.putfield 236, 3) := by decide +kernel
theorem dX10_settle_51 : decode cX10_settle 51 = .ok (.aload_n 0, 1) := by decide +kernel
theorem dX10_settle_52 : decode cX10_settle 52 = .ok (.getfield 44, 3) := by decide +kernel
theorem dX10_settle_55 : decode cX10_settle 55 = .ok (.aload_n 0, 1) := by decide +kernel
theorem dX10_settle_56 : decode cX10_settle 56 = .ok (.getfield 242, 3) := by decide +kernel
theorem dX10_settle_59 : decode cX10_settle 59 = .ok (.aload_n 0, 1) := by decide +kernel
theorem dX10_settle_60 : decode cX10_settle 60 = .ok (.getfield 47, 3) := by decide +kernel
theorem dX10_settle_63 : decode cX10_settle 63 = .ok (.aload_n 0, 1) := by decide +kernel
theorem dX10_settle_64 : decode cX10_settle 64 = .ok (.getfield 236, 3) := by decide +kernel
theorem dX10_settle_67 : decode cX10_settle 67 = .ok (.iaload, 1) := by decide +kernel
theorem dX10_settle_68 : decode cX10_settle 68 = .ok (.iastore, 1) := by decide +kernel
theorem dX10_settle_69 : decode cX10_settle 69 = .ok (.aload_n 0, 1) := by decide +kernel
theorem dX10_settle_70 : decode cX10_settle 70 = .ok (.dup, 1) := by decide +kernel
theorem dX10_settle_71 : decode cX10_settle 71 = .ok (.getfield 242, 3) := by decide +kernel
theorem dX10_settle_74 : decode cX10_settle 74 = .ok (.iconst 1, 1) := by decide +kernel
theorem dX10_settle_75 : decode cX10_settle 75 = .ok (.iadd, 1) := by decide +kernel
theorem dX10_settle_76 : decode cX10_settle 76 = .ok (.putfield 242, 3) := by decide +kernel
theorem dX10_settle_79 : decode cX10_settle 79 = .ok (.goto (-79), 3) := by decide +kernel
theorem dX10_settle_82 : decode cX10_settle 82 = .ok (.return_, 1) := by decide +kernel
theorem dX10_signHere_0 : decode cX10_signHere 0 = .ok (.aload_n 0, 1) := by decide +kernel
theorem dX10_signHere_1 : decode cX10_signHere 1 = .ok (.getfield 218, 3) := by decide +kernel
theorem dX10_signHere_4 : decode cX10_signHere 4 = .ok (.iconst 3, 1) := by decide +kernel
theorem dX10_signHere_5 : decode cX10_signHere 5 = .ok (.if_icmp .eq 5, 3) := by decide +kernel
theorem dX10_signHere_8 : decode cX10_signHere 8 = .ok (.iconst 0, 1) := by decide +kernel
theorem dX10_signHere_9 : decode cX10_signHere 9 = .ok (.ireturn, 1) := by decide +kernel
theorem dX10_signHere_10 : decode cX10_signHere 10 = .ok (.aload_n 0, 1) := by decide +kernel
theorem dX10_signHere_11 : decode cX10_signHere 11 = .ok (.getfield 224, 3) := by decide +kernel
theorem dX10_signHere_14 : decode cX10_signHere 14 = .ok (.lookupswitch 108 #[(38, 84), (42, 102), (43, 96), (45, 99), (47, 105), (60, 87), (61, 90), (62, 93), (124, 82)], 82) := by decide +kernel
theorem dX10_signHere_96 : decode cX10_signHere 96 = .ok (.iconst (-1), 1) := by decide +kernel
theorem dX10_signHere_97 : decode cX10_signHere 97 = .ok (.ireturn, 1) := by decide +kernel
theorem dX10_signHere_98 : decode cX10_signHere 98 = .ok (.bipush (-2), 2) := by decide +kernel
theorem dX10_signHere_100 : decode cX10_signHere 100 = .ok (.ireturn, 1) := by decide +kernel
theorem dX10_signHere_101 : decode cX10_signHere 101 = .ok (.bipush (-3), 2) := by decide +kernel
theorem dX10_signHere_103 : decode cX10_signHere 103 = .ok (.ireturn, 1) := by decide +kernel
theorem dX10_signHere_104 : decode cX10_signHere 104 = .ok (.bipush (-4), 2) := by decide +kernel
theorem dX10_signHere_106 : decode cX10_signHere 106 = .ok (.ireturn, 1) := by decide +kernel
theorem dX10_signHere_107 : decode cX10_signHere 107 = .ok (.bipush (-5), 2) := by decide +kernel
theorem dX10_signHere_109 : decode cX10_signHere 109 = .ok (.ireturn, 1) := by decide +kernel
theorem dX10_signHere_110 : decode cX10_signHere 110 = .ok (.bipush (-6), 2) := by decide +kernel
theorem dX10_signHere_112 : decode cX10_signHere 112 = .ok (.ireturn, 1) := by decide +kernel
theorem dX10_signHere_113 : decode cX10_signHere 113 = .ok (.bipush (-7), 2) := by decide +kernel
theorem dX10_signHere_115 : decode cX10_signHere 115 = .ok (.ireturn, 1) := by decide +kernel
theorem dX10_signHere_116 : decode cX10_signHere 116 = .ok (.bipush (-8), 2) := by decide +kernel
theorem dX10_signHere_118 : decode cX10_signHere 118 = .ok (.ireturn, 1) := by decide +kernel
theorem dX10_signHere_119 : decode cX10_signHere 119 = .ok (.bipush (-9), 2) := by decide +kernel
theorem dX10_signHere_121 : decode cX10_signHere 121 = .ok (.ireturn, 1) := by decide +kernel
theorem dX10_signHere_122 : decode cX10_signHere 122 = .ok (.iconst 0, 1) := by decide +kernel
theorem dX10_signHere_123 : decode cX10_signHere 123 = .ok (.ireturn, 1) := by decide +kernel
theorem dX10_takesPart_0 : decode cX10_takesPart 0 = .ok (.aload_n 0, 1) := by decide +kernel
theorem dX10_takesPart_1 : decode cX10_takesPart 1 = .ok (.getfield 218, 3) := by decide +kernel
theorem dX10_takesPart_4 : decode cX10_takesPart 4 = .ok (.iconst 1, 1) := by decide +kernel
theorem dX10_takesPart_5 : decode cX10_takesPart 5 = .ok (.if_icmp .ne 31, 3) := by decide +kernel
theorem dX10_takesPart_8 : decode cX10_takesPart 8 = .ok (.aload_n 0, 1) := by decide +kernel
theorem dX10_takesPart_9 : decode cX10_takesPart 9 = .ok (.getfield 209, 3) := by decide +kernel
theorem dX10_takesPart_12 : decode cX10_takesPart 12 = .ok (.aload_n 0, 1) := by decide +kernel
theorem dX10_takesPart_13 : decode cX10_takesPart 13 = .ok (.getfield 212, 3) := by decide +kernel
theorem dX10_takesPart_16 : decode cX10_takesPart 16 = .ok (.isub, 1) := by decide +kernel
theorem dX10_takesPart_17 : decode cX10_takesPart 17 = .ok (.iconst 1, 1) := by decide +kernel
theorem dX10_takesPart_18 : decode cX10_takesPart 18 = .ok (.if_icmp .ne 18, 3) := by decide +kernel
theorem dX10_takesPart_21 : decode cX10_takesPart 21 = .ok (.aload_n 0, 1) := by decide +kernel
theorem dX10_takesPart_22 : decode cX10_takesPart 22 = .ok (.aload_n 0, 1) := by decide +kernel
theorem dX10_takesPart_23 : decode cX10_takesPart 23 = .ok (.getfield 224, 3) := by decide +kernel
theorem dX10_takesPart_26 : decode cX10_takesPart 26 = .ok (.invokevirtual 245, 3) := by decide +kernel
theorem dX10_takesPart_29 : decode cX10_takesPart 29 = .ok (.ifCond .lt 7, 3) := by decide +kernel
theorem dX10_takesPart_32 : decode cX10_takesPart 32 = .ok (.iconst 1, 1) := by decide +kernel
theorem dX10_takesPart_33 : decode cX10_takesPart 33 = .ok (.goto 4, 3) := by decide +kernel
theorem dX10_takesPart_36 : decode cX10_takesPart 36 = .ok (.iconst 0, 1) := by decide +kernel
theorem dX10_takesPart_37 : decode cX10_takesPart 37 = .ok (.istore_n 1, 1) := by decide +kernel
theorem dX10_takesPart_38 : decode cX10_takesPart 38 = .ok (.aload_n 0, 1) := by decide +kernel
theorem dX10_takesPart_39 : decode cX10_takesPart 39 = .ok (.getfield 218, 3) := by decide +kernel
theorem dX10_takesPart_42 : decode cX10_takesPart 42 = .ok (.iconst 2, 1) := by decide +kernel
theorem dX10_takesPart_43 : decode cX10_takesPart 43 = .ok (.if_icmp .eq 9, 3) := by decide +kernel
theorem dX10_takesPart_46 : decode cX10_takesPart 46 = .ok (.iload_n 1, 1) := by decide +kernel
theorem dX10_takesPart_47 : decode cX10_takesPart 47 = .ok (.ifCond .ne 5, 3) := by decide +kernel
theorem dX10_takesPart_50 : decode cX10_takesPart 50 = .ok (.iconst 0, 1) := by decide +kernel
theorem dX10_takesPart_51 : decode cX10_takesPart 51 = .ok (.ireturn, 1) := by decide +kernel
theorem dX10_takesPart_52 : decode cX10_takesPart 52 = .ok (.aload_n 0, 1) := by decide +kernel
theorem dX10_takesPart_53 : decode cX10_takesPart 53 = .ok (.getfield 44, 3) := by decide +kernel
theorem dX10_takesPart_56 : decode cX10_takesPart 56 = .ok (.aload_n 0, 1) := by decide +kernel
theorem dX10_takesPart_57 : decode cX10_takesPart 57 = .ok (.getfield 242, 3) := by decide +kernel
theorem dX10_takesPart_60 : decode cX10_takesPart 60 = .ok (.aload_n 0, 1) := by decide +kernel
theorem dX10_takesPart_61 : decode cX10_takesPart 61 = .ok (.getfield 218, 3) := by decide +kernel
theorem dX10_takesPart_64 : decode cX10_takesPart 64 = .ok (.iconst 2, 1) := by decide +kernel
theorem dX10_takesPart_65 : decode cX10_takesPart 65 = .ok (.if_icmp .ne 10, 3) := by decide +kernel
theorem dX10_takesPart_68 : decode cX10_takesPart 68 = .ok (.aload_n 0, 1) := by decide +kernel
theorem dX10_takesPart_69 : decode cX10_takesPart 69 = .ok (.getfield 224, 3) := by decide +kernel
theorem dX10_takesPart_72 : decode cX10_takesPart 72 = .ok (.goto 15, 3) := by decide +kernel
theorem dX10_takesPart_75 : decode cX10_takesPart 75 = .ok (.sipush 10000, 3) := by decide +kernel
theorem dX10_takesPart_78 : decode cX10_takesPart 78 = .ok (.aload_n 0, 1) := by decide +kernel
theorem dX10_takesPart_79 : decode cX10_takesPart 79 = .ok (.aload_n 0, 1) := by decide +kernel
theorem dX10_takesPart_80 : decode cX10_takesPart 80 = .ok (.getfield 224, 3) := by decide +kernel
theorem dX10_takesPart_83 : decode cX10_takesPart 83 = .ok (.invokevirtual 245, 3) := by decide +kernel
theorem dX10_takesPart_86 : decode cX10_takesPart 86 = .ok (.iadd, 1) := by decide +kernel
theorem dX10_takesPart_87 : decode cX10_takesPart 87 = .ok (.iastore, 1) := by decide +kernel
theorem dX10_takesPart_88 : decode cX10_takesPart 88 = .ok (.aload_n 0, 1) := by decide +kernel
theorem dX10_takesPart_89 : decode cX10_takesPart 89 = .ok (.dup, 1) := by decide +kernel
theorem dX10_takesPart_90 : decode cX10_takesPart 90 = .ok (.getfield 242, 3) := by decide +kernel
theorem dX10_takesPart_93 : decode cX10_takesPart 93 = .ok (.iconst 1, 1) := by decide +kernel
theorem dX10_takesPart_94 : decode cX10_takesPart 94 = .ok (.iadd, 1) := by decide +kernel
theorem dX10_takesPart_95 : decode cX10_takesPart 95 = .ok (.putfield 242, 3) := by decide +kernel
theorem dX10_takesPart_98 : decode cX10_takesPart 98 = .ok (.aload_n 0, 1) := by decide +kernel
theorem dX10_takesPart_99 : decode cX10_takesPart 99 = .ok (.dup, 1) := by decide +kernel
theorem dX10_takesPart_100 : decode cX10_takesPart 100 = .ok (.getfield 248, 3) := by decide +kernel
theorem dX10_takesPart_103 : decode cX10_takesPart 103 = .ok (.iconst 1, 1) := by decide +kernel
theorem dX10_takesPart_104 : decode cX10_takesPart 104 = .ok (.iadd, 1) := by decide +kernel
theorem dX10_takesPart_105 : decode cX10_takesPart 105 = .ok (.putfield 248, 3) := by decide +kernel
theorem dX10_takesPart_108 : decode cX10_takesPart 108 = .ok (.aload_n 0, 1) := by decide +kernel
theorem dX10_takesPart_109 : decode cX10_takesPart 109 = .ok (.bipush 6, 2) := by decide +kernel
theorem dX10_takesPart_111 : decode cX10_takesPart 111 = .ok (.invokevirtual 251, 3) := by decide +kernel
theorem dX10_takesPart_114 : decode cX10_takesPart 114 = .ok (.aload_n 0, 1) := by decide +kernel
theorem dX10_takesPart_115 : decode cX10_takesPart 115 = .ok (.invokevirtual 233, 3) := by decide +kernel
theorem dX10_takesPart_118 : decode cX10_takesPart 118 = .ok (.iconst 1, 1) := by decide +kernel
theorem dX10_takesPart_119 : decode cX10_takesPart 119 = .ok (.ireturn, 1) := by decide +kernel
theorem dX10_takesE_0 : decode cX10_takesE 0 = .ok (.iconst 0, 1) := by decide +kernel
theorem dX10_takesE_1 : decode cX10_takesE 1 = .ok (.istore_n 1, 1) := by decide +kernel
theorem dX10_takesE_2 : decode cX10_takesE 2 = .ok (.iconst 0, 1) := by decide +kernel
theorem dX10_takesE_3 : decode cX10_takesE 3 = .ok (.istore_n 2, 1) := by decide +kernel
theorem dX10_takesE_4 : decode cX10_takesE 4 = .ok (.iconst 1, 1) := by decide +kernel
theorem dX10_takesE_5 : decode cX10_takesE 5 = .ok (.istore_n 3, 1) := by decide +kernel
theorem dX10_takesE_6 : decode cX10_takesE 6 = .ok (.aload_n 0, 1) := by decide +kernel
theorem dX10_takesE_7 : decode cX10_takesE 7 = .ok (.iconst 0, 1) := by decide +kernel
theorem dX10_takesE_8 : decode cX10_takesE 8 = .ok (.putfield 242, 3) := by decide +kernel
theorem dX10_takesE_11 : decode cX10_takesE 11 = .ok (.aload_n 0, 1) := by decide +kernel
theorem dX10_takesE_12 : decode cX10_takesE 12 = .ok (.iconst 0, 1) := by decide +kernel
theorem dX10_takesE_13 : decode cX10_takesE 13 = .ok (.putfield 248, 3) := by decide +kernel
theorem dX10_takesE_16 : decode cX10_takesE 16 = .ok (.aload_n 0, 1) := by decide +kernel
theorem dX10_takesE_17 : decode cX10_takesE 17 = .ok (.iconst 0, 1) := by decide +kernel
theorem dX10_takesE_18 : decode cX10_takesE 18 = .ok (.putfield 236, 3) := by decide +kernel
theorem dX10_takesE_21 : decode cX10_takesE 21 = .ok (.aload_n 0, 1) := by decide +kernel
theorem dX10_takesE_22 : decode cX10_takesE 22 = .ok (.getfield 50, 3) := by decide +kernel
theorem dX10_takesE_25 : decode cX10_takesE 25 = .ok (.iconst 0, 1) := by decide +kernel
theorem dX10_takesE_26 : decode cX10_takesE 26 = .ok (.iconst 0, 1) := by decide +kernel
theorem dX10_takesE_27 : decode cX10_takesE 27 = .ok (.bastore, 1) := by decide +kernel
theorem dX10_takesE_28 : decode cX10_takesE 28 = .ok (.iload_n 3, 1) := by decide +kernel
theorem dX10_takesE_29 : decode cX10_takesE 29 = .ok (.ifCond .ne 10, 3) := by decide +kernel
theorem dX10_takesE_32 : decode cX10_takesE 32 = .ok (.aload_n 0, 1) := by decide +kernel
theorem dX10_takesE_33 : decode cX10_takesE 33 = .ok (.getfield 218, 3) := by decide +kernel
theorem dX10_takesE_36 : decode cX10_takesE 36 = .ok (.ifCond .eq 309, 3) := by decide +kernel
theorem dX10_takesE_39 : decode cX10_takesE 39 = .ok (.iload_n 3, 1) := by decide +kernel
theorem dX10_takesE_40 : decode cX10_takesE 40 = .ok (.ifCond .eq 140, 3) := by decide +kernel
theorem dX10_takesE_43 : decode cX10_takesE 43 = .ok (.aload_n 0, 1) := by decide +kernel
theorem dX10_takesE_44 : decode cX10_takesE 44 = .ok (.getfield 218, 3) := by decide +kernel
theorem dX10_takesE_47 : decode cX10_takesE 47 = .ok (.iconst 3, 1) := by decide +kernel
theorem dX10_takesE_48 : decode cX10_takesE 48 = .ok (.if_icmp .ne 49, 3) := by decide +kernel
theorem dX10_takesE_51 : decode cX10_takesE 51 = .ok (.aload_n 0, 1) := by decide +kernel
theorem dX10_takesE_52 : decode cX10_takesE 52 = .ok (.getfield 224, 3) := by decide +kernel
theorem dX10_takesE_55 : decode cX10_takesE 55 = .ok (.bipush 33, 2) := by decide +kernel
theorem dX10_takesE_57 : decode cX10_takesE 57 = .ok (.if_icmp .ne 40, 3) := by decide +kernel
theorem dX10_takesE_60 : decode cX10_takesE 60 = .ok (.iload_n 2, 1) := by decide +kernel
theorem dX10_takesE_61 : decode cX10_takesE 61 = .ok (.bipush 8, 2) := by decide +kernel
theorem dX10_takesE_63 : decode cX10_takesE 63 = .ok (.if_icmp .ge 34, 3) := by decide +kernel
theorem dX10_takesE_66 : decode cX10_takesE 66 = .ok (.aload_n 0, 1) := by decide +kernel
theorem dX10_takesE_67 : decode cX10_takesE 67 = .ok (.getfield 47, 3) := by decide +kernel
theorem dX10_takesE_70 : decode cX10_takesE 70 = .ok (.aload_n 0, 1) := by decide +kernel
theorem dX10_takesE_71 : decode cX10_takesE 71 = .ok (.getfield 236, 3) := by decide +kernel
theorem dX10_takesE_74 : decode cX10_takesE 74 = .ok (.bipush (-10), 2) := by decide +kernel
theorem dX10_takesE_76 : decode cX10_takesE 76 = .ok (.iastore, 1) := by decide +kernel
theorem dX10_takesE_77 : decode cX10_takesE 77 = .ok (.aload_n 0, 1) := by decide +kernel
theorem dX10_takesE_78 : decode cX10_takesE 78 = .ok (.dup, 1) := by decide +kernel
theorem dX10_takesE_79 : decode cX10_takesE 79 = .ok (.getfield 236, 3) := by decide +kernel
theorem dX10_takesE_82 : decode cX10_takesE 82 = .ok (.iconst 1, 1) := by decide +kernel
theorem dX10_takesE_83 : decode cX10_takesE 83 = .ok (.iadd, 1) := by decide +kernel
theorem dX10_takesE_84 : decode cX10_takesE 84 = .ok (.putfield 236, 3) := by decide +kernel
theorem dX10_takesE_87 : decode cX10_takesE 87 = .ok (.iinc 2 1, 3) := by decide +kernel
theorem dX10_takesE_90 : decode cX10_takesE 90 = .ok (.aload_n 0, 1) := by decide +kernel
theorem dX10_takesE_91 : decode cX10_takesE 91 = .ok (.invokevirtual 233, 3) := by decide +kernel
theorem dX10_takesE_94 : decode cX10_takesE 94 = .ok (.goto 78, 3) := by decide +kernel
theorem dX10_takesE_97 : decode cX10_takesE 97 = .ok (.aload_n 0, 1) := by decide +kernel
theorem dX10_takesE_98 : decode cX10_takesE 98 = .ok (.getfield 218, 3) := by decide +kernel
theorem dX10_takesE_101 : decode cX10_takesE 101 = .ok (.iconst 3, 1) := by decide +kernel
theorem dX10_takesE_102 : decode cX10_takesE 102 = .ok (.if_icmp .ne 56, 3) := by decide +kernel
theorem dX10_takesE_105 : decode cX10_takesE 105 = .ok (.aload_n 0, 1) := by decide +kernel
theorem dX10_takesE_106 : decode cX10_takesE 106 = .ok (.getfield 224, 3) := by decide +kernel
theorem dX10_takesE_109 : decode cX10_takesE 109 = .ok (.bipush 40, 2) := by decide +kernel
theorem dX10_takesE_111 : decode cX10_takesE 111 = .ok (.if_icmp .ne 47, 3) := by decide +kernel
theorem dX10_takesE_114 : decode cX10_takesE 114 = .ok (.iload_n 1, 1) := by decide +kernel
theorem dX10_takesE_115 : decode cX10_takesE 115 = .ok (.bipush 8, 2) := by decide +kernel
theorem dX10_takesE_117 : decode cX10_takesE 117 = .ok (.if_icmp .ge 41, 3) := by decide +kernel
theorem dX10_takesE_120 : decode cX10_takesE 120 = .ok (.aload_n 0, 1) := by decide +kernel
theorem dX10_takesE_121 : decode cX10_takesE 121 = .ok (.getfield 47, 3) := by decide +kernel
theorem dX10_takesE_124 : decode cX10_takesE 124 = .ok (.aload_n 0, 1) := by decide +kernel
theorem dX10_takesE_125 : decode cX10_takesE 125 = .ok (.getfield 236, 3) := by decide +kernel
theorem dX10_takesE_128 : decode cX10_takesE 128 = .ok (.bipush (-11), 2) := by decide +kernel
theorem dX10_takesE_130 : decode cX10_takesE 130 = .ok (.iastore, 1) := by decide +kernel
theorem dX10_takesE_131 : decode cX10_takesE 131 = .ok (.aload_n 0, 1) := by decide +kernel
theorem dX10_takesE_132 : decode cX10_takesE 132 = .ok (.dup, 1) := by decide +kernel
theorem dX10_takesE_133 : decode cX10_takesE 133 = .ok (.getfield 236, 3) := by decide +kernel
theorem dX10_takesE_136 : decode cX10_takesE 136 = .ok (.iconst 1, 1) := by decide +kernel
theorem dX10_takesE_137 : decode cX10_takesE 137 = .ok (.iadd, 1) := by decide +kernel
theorem dX10_takesE_138 : decode cX10_takesE 138 = .ok (.putfield 236, 3) := by decide +kernel
theorem dX10_takesE_141 : decode cX10_takesE 141 = .ok (.iinc 1 1, 3) := by decide +kernel
theorem dX10_takesE_144 : decode cX10_takesE 144 = .ok (.aload_n 0, 1) := by decide +kernel
theorem dX10_takesE_145 : decode cX10_takesE 145 = .ok (.getfield 50, 3) := by decide +kernel
theorem dX10_takesE_148 : decode cX10_takesE 148 = .ok (.iload_n 1, 1) := by decide +kernel
theorem dX10_takesE_149 : decode cX10_takesE 149 = .ok (.iconst 0, 1) := by decide +kernel
theorem dX10_takesE_150 : decode cX10_takesE 150 = .ok (.bastore, 1) := by decide +kernel
theorem dX10_takesE_151 : decode cX10_takesE 151 = .ok (.aload_n 0, 1) := by decide +kernel
theorem dX10_takesE_152 : decode cX10_takesE 152 = .ok (.invokevirtual 233, 3) := by decide +kernel
theorem dX10_takesE_155 : decode cX10_takesE 155 = .ok (.goto 17, 3) := by decide +kernel
theorem dX10_takesE_158 : decode cX10_takesE 158 = .ok (.aload_n 0, 1) := by decide +kernel
theorem dX10_takesE_159 : decode cX10_takesE 159 = .ok (.invokevirtual 255, 3) := by decide +kernel
theorem dX10_takesE_162 : decode cX10_takesE 162 = .ok (.ifCond .eq 8, 3) := by decide +kernel
theorem dX10_takesE_165 : decode cX10_takesE 165 = .ok (.iconst 0, 1) := by decide +kernel
theorem dX10_takesE_166 : decode cX10_takesE 166 = .ok (.istore_n 3, 1) := by decide +kernel
theorem dX10_takesE_167 : decode cX10_takesE 167 = .ok (.goto 5, 3) := by decide +kernel
theorem dX10_takesE_170 : decode cX10_takesE 170 = .ok (.iconst 0, 1) := by decide +kernel
theorem dX10_takesE_171 : decode cX10_takesE 171 = .ok (.ireturn, 1) := by decide +kernel
theorem dX10_takesE_172 : decode cX10_takesE 172 = .ok (.aload_n 0, 1) := by decide +kernel
theorem dX10_takesE_173 : decode cX10_takesE 173 = .ok (.invokevirtual 258, 3) := by decide +kernel
theorem dX10_takesE_176 : decode cX10_takesE 176 = .ok (.istore_n 2, 1) := by decide +kernel
theorem dX10_takesE_177 : decode cX10_takesE 177 = .ok (.goto (-149), 3) := by decide +kernel
theorem dX10_takesE_180 : decode cX10_takesE 180 = .ok (.aload_n 0, 1) := by decide +kernel
theorem dX10_takesE_181 : decode cX10_takesE 181 = .ok (.getfield 218, 3) := by decide +kernel
theorem dX10_takesE_184 : decode cX10_takesE 184 = .ok (.iconst 3, 1) := by decide +kernel
theorem dX10_takesE_185 : decode cX10_takesE 185 = .ok (.if_icmp .ne 52, 3) := by decide +kernel
theorem dX10_takesE_188 : decode cX10_takesE 188 = .ok (.aload_n 0, 1) := by decide +kernel
theorem dX10_takesE_189 : decode cX10_takesE 189 = .ok (.getfield 224, 3) := by decide +kernel
theorem dX10_takesE_192 : decode cX10_takesE 192 = .ok (.bipush 41, 2) := by decide +kernel
theorem dX10_takesE_194 : decode cX10_takesE 194 = .ok (.if_icmp .ne 43, 3) := by decide +kernel
theorem dX10_takesE_197 : decode cX10_takesE 197 = .ok (.iload_n 1, 1) := by decide +kernel
theorem dX10_takesE_198 : decode cX10_takesE 198 = .ok (.ifCond .le 39, 3) := by decide +kernel
theorem dX10_takesE_201 : decode cX10_takesE 201 = .ok (.aload_n 0, 1) := by decide +kernel
theorem dX10_takesE_202 : decode cX10_takesE 202 = .ok (.iconst 0, 1) := by decide +kernel
theorem dX10_takesE_203 : decode cX10_takesE 203 = .ok (.invokevirtual 251, 3) := by decide +kernel
theorem dX10_takesE_206 : decode cX10_takesE 206 = .ok (.aload_n 0, 1) := by decide +kernel
theorem dX10_takesE_207 : decode cX10_takesE 207 = .ok (.dup, 1) := by decide +kernel
theorem dX10_takesE_208 : decode cX10_takesE 208 = .ok (.getfield 236, 3) := by decide +kernel
theorem dX10_takesE_211 : decode cX10_takesE 211 = .ok (.iconst 1, 1) := by decide +kernel
theorem dX10_takesE_212 : decode cX10_takesE 212 = .ok (.isub, 1) := by decide +kernel
theorem dX10_takesE_213 : decode cX10_takesE 213 = .ok (.putfield 236, 3) := by decide +kernel
theorem dX10_takesE_216 : decode cX10_takesE 216 = .ok (.iinc 1 (-1), 3) := by decide +kernel
theorem dX10_takesE_219 : decode cX10_takesE 219 = .ok (.aload_n 0, 1) := by decide +kernel
theorem dX10_takesE_220 : decode cX10_takesE 220 = .ok (.bipush 6, 2) := by decide +kernel
theorem dX10_takesE_222 : decode cX10_takesE 222 = .ok (.invokevirtual 251, 3) := by decide +kernel
theorem dX10_takesE_225 : decode cX10_takesE 225 = .ok (.aload_n 0, 1) := by decide +kernel
theorem dX10_takesE_226 : decode cX10_takesE 226 = .ok (.invokevirtual 258, 3) := by decide +kernel
theorem dX10_takesE_229 : decode cX10_takesE 229 = .ok (.istore_n 2, 1) := by decide +kernel
theorem dX10_takesE_230 : decode cX10_takesE 230 = .ok (.aload_n 0, 1) := by decide +kernel
theorem dX10_takesE_231 : decode cX10_takesE 231 = .ok (.invokevirtual 233, 3) := by decide +kernel
theorem dX10_takesE_234 : decode cX10_takesE 234 = .ok (.goto (-206), 3) := by decide +kernel
theorem dX10_takesE_237 : decode cX10_takesE 237 = .ok (.aload_n 0, 1) := by decide +kernel
theorem dX10_takesE_238 : decode cX10_takesE 238 = .ok (.invokevirtual 261, 3) := by decide +kernel
theorem dX10_takesE_241 : decode cX10_takesE 241 = .ok (.istore 4, 2) := by decide +kernel
theorem dX10_takesE_243 : decode cX10_takesE 243 = .ok (.iload 4, 2) := by decide +kernel
theorem dX10_takesE_245 : decode cX10_takesE 245 = .ok (.ifCond .eq 21, 3) := by decide +kernel
theorem dX10_takesE_248 : decode cX10_takesE 248 = .ok (.iload 4, 2) := by decide +kernel
theorem dX10_takesE_250 : decode cX10_takesE 250 = .ok (.invokestatic 239, 3) := by decide +kernel
theorem dX10_takesE_253 : decode cX10_takesE 253 = .ok (.iconst 3, 1) := by decide +kernel
theorem dX10_takesE_254 : decode cX10_takesE 254 = .ok (.if_icmp .ne 14, 3) := by decide +kernel
theorem dX10_takesE_257 : decode cX10_takesE 257 = .ok (.aload_n 0, 1) := by decide +kernel
theorem dX10_takesE_258 : decode cX10_takesE 258 = .ok (.getfield 50, 3) := by decide +kernel
theorem dX10_takesE_261 : decode cX10_takesE 261 = .ok (.iload_n 1, 1) := by decide +kernel
theorem dX10_takesE_262 : decode cX10_takesE 262 = .ok (.baload, 1) := by decide +kernel
theorem dX10_takesE_263 : decode cX10_takesE 263 = .ok (.ifCond .eq 5, 3) := by decide +kernel
theorem dX10_takesE_266 : decode cX10_takesE 266 = .ok (.iconst 0, 1) := by decide +kernel
theorem dX10_takesE_267 : decode cX10_takesE 267 = .ok (.ireturn, 1) := by decide +kernel
theorem dX10_takesE_268 : decode cX10_takesE 268 = .ok (.aload_n 0, 1) := by decide +kernel
theorem dX10_takesE_269 : decode cX10_takesE 269 = .ok (.getfield 50, 3) := by decide +kernel
theorem dX10_takesE_272 : decode cX10_takesE 272 = .ok (.iload_n 1, 1) := by decide +kernel
theorem dX10_takesE_273 : decode cX10_takesE 273 = .ok (.iload 4, 2) := by decide +kernel
theorem dX10_takesE_275 : decode cX10_takesE 275 = .ok (.invokestatic 239, 3) := by decide +kernel
theorem dX10_takesE_278 : decode cX10_takesE 278 = .ok (.iconst 3, 1) := by decide +kernel
theorem dX10_takesE_279 : decode cX10_takesE 279 = .ok (.if_icmp .eq 21, 3) := by decide +kernel
theorem dX10_takesE_282 : decode cX10_takesE 282 = .ok (.iload 4, 2) := by decide +kernel
theorem dX10_takesE_284 : decode cX10_takesE 284 = .ok (.invokestatic 239, 3) := by decide +kernel
theorem dX10_takesE_287 : decode cX10_takesE 287 = .ok (.iconst 3, 1) := by decide +kernel
theorem dX10_takesE_288 : decode cX10_takesE 288 = .ok (.if_icmp .le 16, 3) := by decide +kernel
theorem dX10_takesE_291 : decode cX10_takesE 291 = .ok (.aload_n 0, 1) := by decide +kernel
theorem dX10_takesE_292 : decode cX10_takesE 292 = .ok (.getfield 50, 3) := by decide +kernel
theorem dX10_takesE_295 : decode cX10_takesE 295 = .ok (.iload_n 1, 1) := by decide +kernel
theorem dX10_takesE_296 : decode cX10_takesE 296 = .ok (.baload, 1) := by decide +kernel
theorem dX10_takesE_297 : decode cX10_takesE 297 = .ok (.ifCond .eq 7, 3) := by decide +kernel
theorem dX10_takesE_300 : decode cX10_takesE 300 = .ok (.iconst 1, 1) := by decide +kernel
theorem dX10_takesE_301 : decode cX10_takesE 301 = .ok (.goto 4, 3) := by decide +kernel
theorem dX10_takesE_304 : decode cX10_takesE 304 = .ok (.iconst 0, 1) := by decide +kernel
theorem dX10_takesE_305 : decode cX10_takesE 305 = .ok (.bastore, 1) := by decide +kernel
theorem dX10_takesE_306 : decode cX10_takesE 306 = .ok (.aload_n 0, 1) := by decide +kernel
theorem dX10_takesE_307 : decode cX10_takesE 307 = .ok (.iload 4, 2) := by decide +kernel
theorem dX10_takesE_309 : decode cX10_takesE 309 = .ok (.invokestatic 239, 3) := by decide +kernel
theorem dX10_takesE_312 : decode cX10_takesE 312 = .ok (.invokevirtual 251, 3) := by decide +kernel
theorem dX10_takesE_315 : decode cX10_takesE 315 = .ok (.aload_n 0, 1) := by decide +kernel
theorem dX10_takesE_316 : decode cX10_takesE 316 = .ok (.getfield 47, 3) := by decide +kernel
theorem dX10_takesE_319 : decode cX10_takesE 319 = .ok (.aload_n 0, 1) := by decide +kernel
theorem dX10_takesE_320 : decode cX10_takesE 320 = .ok (.getfield 236, 3) := by decide +kernel
theorem dX10_takesE_323 : decode cX10_takesE 323 = .ok (.iload 4, 2) := by decide +kernel
theorem dX10_takesE_325 : decode cX10_takesE 325 = .ok (.iastore, 1) := by decide +kernel
theorem dX10_takesE_326 : decode cX10_takesE 326 = .ok (.aload_n 0, 1) := by decide +kernel
theorem dX10_takesE_327 : decode cX10_takesE 327 = .ok (.dup, 1) := by decide +kernel
theorem dX10_takesE_328 : decode cX10_takesE 328 = .ok (.getfield 236, 3) := by decide +kernel
theorem dX10_takesE_331 : decode cX10_takesE 331 = .ok (.iconst 1, 1) := by decide +kernel
theorem dX10_takesE_332 : decode cX10_takesE 332 = .ok (.iadd, 1) := by decide +kernel
theorem dX10_takesE_333 : decode cX10_takesE 333 = .ok (.putfield 236, 3) := by decide +kernel
theorem dX10_takesE_336 : decode cX10_takesE 336 = .ok (.iconst 1, 1) := by decide +kernel
theorem dX10_takesE_337 : decode cX10_takesE 337 = .ok (.istore_n 3, 1) := by decide +kernel
theorem dX10_takesE_338 : decode cX10_takesE 338 = .ok (.aload_n 0, 1) := by decide +kernel
theorem dX10_takesE_339 : decode cX10_takesE 339 = .ok (.invokevirtual 233, 3) := by decide +kernel
theorem dX10_takesE_342 : decode cX10_takesE 342 = .ok (.goto (-314), 3) := by decide +kernel
theorem dX10_takesE_345 : decode cX10_takesE 345 = .ok (.aload_n 0, 1) := by decide +kernel
theorem dX10_takesE_346 : decode cX10_takesE 346 = .ok (.iconst 0, 1) := by decide +kernel
theorem dX10_takesE_347 : decode cX10_takesE 347 = .ok (.invokevirtual 251, 3) := by decide +kernel
theorem dX10_takesE_350 : decode cX10_takesE 350 = .ok (.iload_n 1, 1) := by decide +kernel
theorem dX10_takesE_351 : decode cX10_takesE 351 = .ok (.ifCond .ne 7, 3) := by decide +kernel
theorem dX10_takesE_354 : decode cX10_takesE 354 = .ok (.iconst 1, 1) := by decide +kernel
theorem dX10_takesE_355 : decode cX10_takesE 355 = .ok (.goto 4, 3) := by decide +kernel
theorem dX10_takesE_358 : decode cX10_takesE 358 = .ok (.iconst 0, 1) := by decide +kernel
theorem dX10_takesE_359 : decode cX10_takesE 359 = .ok (.ireturn, 1) := by decide +kernel
theorem dX10_notsOpen_0 : decode cX10_notsOpen 0 = .ok (.iconst 0, 1) := by decide +kernel
theorem dX10_notsOpen_1 : decode cX10_notsOpen 1 = .ok (.istore_n 1, 1) := by decide +kernel
theorem dX10_notsOpen_2 : decode cX10_notsOpen 2 = .ok (.iconst 0, 1) := by decide +kernel
theorem dX10_notsOpen_3 : decode cX10_notsOpen 3 = .ok (.istore_n 2, 1) := by decide +kernel
theorem dX10_notsOpen_4 : decode cX10_notsOpen 4 = .ok (.iload_n 2, 1) := by decide +kernel
theorem dX10_notsOpen_5 : decode cX10_notsOpen 5 = .ok (.aload_n 0, 1) := by decide +kernel
theorem dX10_notsOpen_6 : decode cX10_notsOpen 6 = .ok (.getfield 236, 3) := by decide +kernel
theorem dX10_notsOpen_9 : decode cX10_notsOpen 9 = .ok (.if_icmp .ge 28, 3) := by decide +kernel
theorem dX10_notsOpen_12 : decode cX10_notsOpen 12 = .ok (.iload_n 1, 1) := by decide +kernel
theorem dX10_notsOpen_13 : decode cX10_notsOpen 13 = .ok (.aload_n 0, 1) := by decide +kernel
theorem dX10_notsOpen_14 : decode cX10_notsOpen 14 = .ok (.getfield 47, 3) := by decide +kernel
theorem dX10_notsOpen_17 : decode cX10_notsOpen 17 = .ok (.iload_n 2, 1) := by decide +kernel
theorem dX10_notsOpen_18 : decode cX10_notsOpen 18 = .ok (.iaload, 1) := by decide +kernel
theorem dX10_notsOpen_19 : decode cX10_notsOpen 19 = .ok (.bipush (-10), 2) := by decide +kernel
theorem dX10_notsOpen_21 : decode cX10_notsOpen 21 = .ok (.if_icmp .ne 7, 3) := by decide +kernel
theorem dX10_notsOpen_24 : decode cX10_notsOpen 24 = .ok (.iconst 1, 1) := by decide +kernel
theorem dX10_notsOpen_25 : decode cX10_notsOpen 25 = .ok (.goto 4, 3) := by decide +kernel
theorem dX10_notsOpen_28 : decode cX10_notsOpen 28 = .ok (.iconst 0, 1) := by decide +kernel
theorem dX10_notsOpen_29 : decode cX10_notsOpen 29 = .ok (.iadd, 1) := by decide +kernel
theorem dX10_notsOpen_30 : decode cX10_notsOpen 30 = .ok (.istore_n 1, 1) := by decide +kernel
theorem dX10_notsOpen_31 : decode cX10_notsOpen 31 = .ok (.iinc 2 1, 3) := by decide +kernel
theorem dX10_notsOpen_34 : decode cX10_notsOpen 34 = .ok (.goto (-30), 3) := by decide +kernel
theorem dX10_notsOpen_37 : decode cX10_notsOpen 37 = .ok (.iload_n 1, 1) := by decide +kernel
theorem dX10_notsOpen_38 : decode cX10_notsOpen 38 = .ok (.ireturn, 1) := by decide +kernel
theorem dX10_text_0 : decode cX10_text 0 = .ok (.aload_n 0, 1) := by decide +kernel
theorem dX10_text_1 : decode cX10_text 1 = .ok (.iconst 0, 1) := by decide +kernel
theorem dX10_text_2 : decode cX10_text 2 = .ok (.putfield 209, 3) := by decide +kernel
theorem dX10_text_5 : decode cX10_text 5 = .ok (.aload_n 0, 1) := by decide +kernel
theorem dX10_text_6 : decode cX10_text 6 = .ok (.iconst (-1), 1) := by decide +kernel
theorem dX10_text_7 : decode cX10_text 7 = .ok (.putfield 215, 3) := by decide +kernel
theorem dX10_text_10 : decode cX10_text 10 = .ok (.aload_n 0, 1) := by decide +kernel
theorem dX10_text_11 : decode cX10_text 11 = .ok (.invokevirtual 233, 3) := by decide +kernel
theorem dX10_text_14 : decode cX10_text 14 = .ok (.aload_n 0, 1) := by decide +kernel
theorem dX10_text_15 : decode cX10_text 15 = .ok (.invokevirtual 264, 3) := by decide +kernel
theorem dX10_text_18 : decode cX10_text 18 = .ok (.ifCond .eq 14, 3) := by decide +kernel
theorem dX10_text_21 : decode cX10_text 21 = .ok (.aload_n 0, 1) := by decide +kernel
theorem dX10_text_22 : decode cX10_text 22 = .ok (.invokevirtual 267, 3) := by decide +kernel
theorem dX10_text_25 : decode cX10_text 25 = .ok (.ifCond .eq 7, 3) := by decide +kernel
theorem dX10_text_28 : decode cX10_text 28 = .ok (.iconst 1, 1) := by decide +kernel
theorem dX10_text_29 : decode cX10_text 29 = .ok (.goto 4, 3) := by decide +kernel
theorem dX10_text_32 : decode cX10_text 32 = .ok (.iconst 0, 1) := by decide +kernel
theorem dX10_text_33 : decode cX10_text 33 = .ok (.istore_n 1, 1) := by decide +kernel
theorem dX10_text_34 : decode cX10_text 34 = .ok (.aload_n 0, 1) := by decide +kernel
theorem dX10_text_35 : decode cX10_text 35 = .ok (.iconst 0, 1) := by decide +kernel
theorem dX10_text_36 : decode cX10_text 36 = .ok (.putfield 205, 3) := by decide +kernel
theorem dX10_text_39 : decode cX10_text 39 = .ok (.iload_n 1, 1) := by decide +kernel
theorem dX10_text_40 : decode cX10_text 40 = .ok (.ifCond .ne 11, 3) := by decide +kernel
theorem dX10_text_43 : decode cX10_text 43 = .ok (.bipush (-100), 2) := by decide +kernel
theorem dX10_text_45 : decode cX10_text 45 = .ok (.aload_n 0, 1) := by decide +kernel
theorem dX10_text_46 : decode cX10_text 46 = .ok (.getfield 212, 3) := by decide +kernel
theorem dX10_text_49 : decode cX10_text 49 = .ok (.isub, 1) := by decide +kernel
theorem dX10_text_50 : decode cX10_text 50 = .ok (.ireturn, 1) := by decide +kernel
theorem dX10_text_51 : decode cX10_text 51 = .ok (.aload_n 0, 1) := by decide +kernel
theorem dX10_text_52 : decode cX10_text 52 = .ok (.getfield 9, 3) := by decide +kernel
theorem dX10_text_55 : decode cX10_text 55 = .ok (.iconst 5, 1) := by decide +kernel
theorem dX10_text_56 : decode cX10_text 56 = .ok (.iaload, 1) := by decide +kernel
theorem dX10_text_57 : decode cX10_text 57 = .ok (.bipush 14, 2) := by decide +kernel
theorem dX10_text_59 : decode cX10_text 59 = .ok (.if_icmp .ne 6, 3) := by decide +kernel
theorem dX10_text_62 : decode cX10_text 62 = .ok (.ldc 96, 2) := by decide +kernel
theorem dX10_text_64 : decode cX10_text 64 = .ok (.ireturn, 1) := by decide +kernel
theorem dX10_text_65 : decode cX10_text 65 = .ok (.aload_n 0, 1) := by decide +kernel
theorem dX10_text_66 : decode cX10_text 66 = .ok (.getfield 9, 3) := by decide +kernel
theorem dX10_text_69 : decode cX10_text 69 = .ok (.iconst 5, 1) := by decide +kernel
theorem dX10_text_70 : decode cX10_text 70 = .ok (.iaload, 1) := by decide +kernel
theorem dX10_text_71 : decode cX10_text 71 = .ok (.istore_n 2, 1) := by decide +kernel
theorem dX10_text_72 : decode cX10_text 72 = .ok (.aload_n 0, 1) := by decide +kernel
theorem dX10_text_73 : decode cX10_text 73 = .ok (.getfield 9, 3) := by decide +kernel
theorem dX10_text_76 : decode cX10_text 76 = .ok (.bipush 88, 2) := by decide +kernel
theorem dX10_text_78 : decode cX10_text 78 = .ok (.iconst 2, 1) := by decide +kernel
theorem dX10_text_79 : decode cX10_text 79 = .ok (.iload_n 2, 1) := by decide +kernel
theorem dX10_text_80 : decode cX10_text 80 = .ok (.imul, 1) := by decide +kernel
theorem dX10_text_81 : decode cX10_text 81 = .ok (.iadd, 1) := by decide +kernel
theorem dX10_text_82 : decode cX10_text 82 = .ok (.sipush 1000, 3) := by decide +kernel
theorem dX10_text_85 : decode cX10_text 85 = .ok (.aload_n 0, 1) := by decide +kernel
theorem dX10_text_86 : decode cX10_text 86 = .ok (.getfield 230, 3) := by decide +kernel
theorem dX10_text_89 : decode cX10_text 89 = .ok (.imul, 1) := by decide +kernel
theorem dX10_text_90 : decode cX10_text 90 = .ok (.aload_n 0, 1) := by decide +kernel
theorem dX10_text_91 : decode cX10_text 91 = .ok (.getfield 242, 3) := by decide +kernel
theorem dX10_text_94 : decode cX10_text 94 = .ok (.iadd, 1) := by decide +kernel
theorem dX10_text_95 : decode cX10_text 95 = .ok (.iastore, 1) := by decide +kernel
theorem dX10_text_96 : decode cX10_text 96 = .ok (.aload_n 0, 1) := by decide +kernel
theorem dX10_text_97 : decode cX10_text 97 = .ok (.getfield 9, 3) := by decide +kernel
theorem dX10_text_100 : decode cX10_text 100 = .ok (.bipush 88, 2) := by decide +kernel
theorem dX10_text_102 : decode cX10_text 102 = .ok (.iconst 2, 1) := by decide +kernel
theorem dX10_text_103 : decode cX10_text 103 = .ok (.iload_n 2, 1) := by decide +kernel
theorem dX10_text_104 : decode cX10_text 104 = .ok (.imul, 1) := by decide +kernel
theorem dX10_text_105 : decode cX10_text 105 = .ok (.iadd, 1) := by decide +kernel
theorem dX10_text_106 : decode cX10_text 106 = .ok (.iconst 1, 1) := by decide +kernel
theorem dX10_text_107 : decode cX10_text 107 = .ok (.iadd, 1) := by decide +kernel
theorem dX10_text_108 : decode cX10_text 108 = .ok (.aload_n 0, 1) := by decide +kernel
theorem dX10_text_109 : decode cX10_text 109 = .ok (.getfield 248, 3) := by decide +kernel
theorem dX10_text_112 : decode cX10_text 112 = .ok (.iastore, 1) := by decide +kernel
theorem dX10_text_113 : decode cX10_text 113 = .ok (.iconst 0, 1) := by decide +kernel
theorem dX10_text_114 : decode cX10_text 114 = .ok (.istore_n 3, 1) := by decide +kernel
theorem dX10_text_115 : decode cX10_text 115 = .ok (.iload_n 3, 1) := by decide +kernel
theorem dX10_text_116 : decode cX10_text 116 = .ok (.aload_n 0, 1) := by decide +kernel
theorem dX10_text_117 : decode cX10_text 117 = .ok (.getfield 242, 3) := by decide +kernel
theorem dX10_text_120 : decode cX10_text 120 = .ok (.if_icmp .ge 29, 3) := by decide +kernel
theorem dX10_text_123 : decode cX10_text 123 = .ok (.aload_n 0, 1) := by decide +kernel
theorem dX10_text_124 : decode cX10_text 124 = .ok (.getfield 9, 3) := by decide +kernel
theorem dX10_text_127 : decode cX10_text 127 = .ok (.bipush 116, 2) := by decide +kernel
theorem dX10_text_129 : decode cX10_text 129 = .ok (.bipush 96, 2) := by decide +kernel
theorem dX10_text_131 : decode cX10_text 131 = .ok (.iload_n 2, 1) := by decide +kernel
theorem dX10_text_132 : decode cX10_text 132 = .ok (.imul, 1) := by decide +kernel
theorem dX10_text_133 : decode cX10_text 133 = .ok (.iadd, 1) := by decide +kernel
theorem dX10_text_134 : decode cX10_text 134 = .ok (.iload_n 3, 1) := by decide +kernel
theorem dX10_text_135 : decode cX10_text 135 = .ok (.iadd, 1) := by decide +kernel
theorem dX10_text_136 : decode cX10_text 136 = .ok (.aload_n 0, 1) := by decide +kernel
theorem dX10_text_137 : decode cX10_text 137 = .ok (.getfield 44, 3) := by decide +kernel
theorem dX10_text_140 : decode cX10_text 140 = .ok (.iload_n 3, 1) := by decide +kernel
theorem dX10_text_141 : decode cX10_text 141 = .ok (.iaload, 1) := by decide +kernel
theorem dX10_text_142 : decode cX10_text 142 = .ok (.iastore, 1) := by decide +kernel
theorem dX10_text_143 : decode cX10_text 143 = .ok (.iinc 3 1, 3) := by decide +kernel
theorem dX10_text_146 : decode cX10_text 146 = .ok (.goto (-31), 3) := by decide +kernel
theorem dX10_text_149 : decode cX10_text 149 = .ok (.aload_n 0, 1) := by decide +kernel
theorem dX10_text_150 : decode cX10_text 150 = .ok (.getfield 9, 3) := by decide +kernel
theorem dX10_text_153 : decode cX10_text 153 = .ok (.iconst 5, 1) := by decide +kernel
theorem dX10_text_154 : decode cX10_text 154 = .ok (.dup2, 1) := by decide +kernel
theorem dX10_text_155 : decode cX10_text 155 = .ok (.iaload, 1) := by decide +kernel
theorem dX10_text_156 : decode cX10_text 156 = .ok (.iconst 1, 1) := by decide +kernel
theorem dX10_text_157 : decode cX10_text 157 = .ok (.iadd, 1) := by decide +kernel
theorem dX10_text_158 : decode cX10_text 158 = .ok (.iastore, 1) := by decide +kernel
theorem dX10_text_159 : decode cX10_text 159 = .ok (.iload_n 2, 1) := by decide +kernel
theorem dX10_text_160 : decode cX10_text 160 = .ok (.ireturn, 1) := by decide +kernel
theorem dX10_textTold_0 : decode cX10_textTold 0 = .ok (.iload_n 1, 1) := by decide +kernel
theorem dX10_textTold_1 : decode cX10_textTold 1 = .ok (.iconst 0, 1) := by decide +kernel
theorem dX10_textTold_2 : decode cX10_textTold 2 = .ok (.aload_n 0, 1) := by decide +kernel
theorem dX10_textTold_3 : decode cX10_textTold 3 = .ok (.getfield 9, 3) := by decide +kernel
theorem dX10_textTold_6 : decode cX10_textTold 6 = .ok (.iconst 5, 1) := by decide +kernel
theorem dX10_textTold_7 : decode cX10_textTold 7 = .ok (.iaload, 1) := by decide +kernel
theorem dX10_textTold_8 : decode cX10_textTold 8 = .ok (.iconst 1, 1) := by decide +kernel
theorem dX10_textTold_9 : decode cX10_textTold 9 = .ok (.isub, 1) := by decide +kernel
theorem dX10_textTold_10 : decode cX10_textTold 10 = .ok (.invokestatic 87, 3) := by decide +kernel
theorem dX10_textTold_13 : decode cX10_textTold 13 = .ok (.ifCond .eq 12, 3) := by decide +kernel
theorem dX10_textTold_16 : decode cX10_textTold 16 = .ok (.iload_n 2, 1) := by decide +kernel
theorem dX10_textTold_17 : decode cX10_textTold 17 = .ok (.iconst 0, 1) := by decide +kernel
theorem dX10_textTold_18 : decode cX10_textTold 18 = .ok (.iconst 1, 1) := by decide +kernel
theorem dX10_textTold_19 : decode cX10_textTold 19 = .ok (.invokestatic 87, 3) := by decide +kernel
theorem dX10_textTold_22 : decode cX10_textTold 22 = .ok (.ifCond .ne 6, 3) := by decide +kernel
theorem dX10_textTold_25 : decode cX10_textTold 25 = .ok (.ldc 95, 2) := by decide +kernel
theorem dX10_textTold_27 : decode cX10_textTold 27 = .ok (.ireturn, 1) := by decide +kernel
theorem dX10_textTold_28 : decode cX10_textTold 28 = .ok (.iload_n 2, 1) := by decide +kernel
theorem dX10_textTold_29 : decode cX10_textTold 29 = .ok (.ifCond .ne 21, 3) := by decide +kernel
theorem dX10_textTold_32 : decode cX10_textTold 32 = .ok (.aload_n 0, 1) := by decide +kernel
theorem dX10_textTold_33 : decode cX10_textTold 33 = .ok (.getfield 9, 3) := by decide +kernel
theorem dX10_textTold_36 : decode cX10_textTold 36 = .ok (.bipush 88, 2) := by decide +kernel
theorem dX10_textTold_38 : decode cX10_textTold 38 = .ok (.iconst 2, 1) := by decide +kernel
theorem dX10_textTold_39 : decode cX10_textTold 39 = .ok (.iload_n 1, 1) := by decide +kernel
theorem dX10_textTold_40 : decode cX10_textTold 40 = .ok (.imul, 1) := by decide +kernel
theorem dX10_textTold_41 : decode cX10_textTold 41 = .ok (.iadd, 1) := by decide +kernel
theorem dX10_textTold_42 : decode cX10_textTold 42 = .ok (.iaload, 1) := by decide +kernel
theorem dX10_textTold_43 : decode cX10_textTold 43 = .ok (.sipush 1000, 3) := by decide +kernel
theorem dX10_textTold_46 : decode cX10_textTold 46 = .ok (.idiv, 1) := by decide +kernel
theorem dX10_textTold_47 : decode cX10_textTold 47 = .ok (.goto 16, 3) := by decide +kernel
theorem dX10_textTold_50 : decode cX10_textTold 50 = .ok (.aload_n 0, 1) := by decide +kernel
theorem dX10_textTold_51 : decode cX10_textTold 51 = .ok (.getfield 9, 3) := by decide +kernel
theorem dX10_textTold_54 : decode cX10_textTold 54 = .ok (.bipush 88, 2) := by decide +kernel
theorem dX10_textTold_56 : decode cX10_textTold 56 = .ok (.iconst 2, 1) := by decide +kernel
theorem dX10_textTold_57 : decode cX10_textTold 57 = .ok (.iload_n 1, 1) := by decide +kernel
theorem dX10_textTold_58 : decode cX10_textTold 58 = .ok (.imul, 1) := by decide +kernel
theorem dX10_textTold_59 : decode cX10_textTold 59 = .ok (.iadd, 1) := by decide +kernel
theorem dX10_textTold_60 : decode cX10_textTold 60 = .ok (.iconst 1, 1) := by decide +kernel
theorem dX10_textTold_61 : decode cX10_textTold 61 = .ok (.iadd, 1) := by decide +kernel
theorem dX10_textTold_62 : decode cX10_textTold 62 = .ok (.iaload, 1) := by decide +kernel
theorem dX10_textTold_63 : decode cX10_textTold 63 = .ok (.ireturn, 1) := by decide +kernel
theorem dX10_counts_0 : decode cX10_counts 0 = .ok (.aload_n 0, 1) := by decide +kernel
theorem dX10_counts_1 : decode cX10_counts 1 = .ok (.getfield 9, 3) := by decide +kernel
theorem dX10_counts_4 : decode cX10_counts 4 = .ok (.iconst 5, 1) := by decide +kernel
theorem dX10_counts_5 : decode cX10_counts 5 = .ok (.iaload, 1) := by decide +kernel
theorem dX10_counts_6 : decode cX10_counts 6 = .ok (.iconst 1, 1) := by decide +kernel
theorem dX10_counts_7 : decode cX10_counts 7 = .ok (.isub, 1) := by decide +kernel
theorem dX10_counts_8 : decode cX10_counts 8 = .ok (.istore_n 2, 1) := by decide +kernel
theorem dX10_counts_9 : decode cX10_counts 9 = .ok (.iload_n 2, 1) := by decide +kernel
theorem dX10_counts_10 : decode cX10_counts 10 = .ok (.ifCond .lt 30, 3) := by decide +kernel
theorem dX10_counts_13 : decode cX10_counts 13 = .ok (.aload_n 0, 1) := by decide +kernel
theorem dX10_counts_14 : decode cX10_counts 14 = .ok (.getfield 9, 3) := by decide +kernel
theorem dX10_counts_17 : decode cX10_counts 17 = .ok (.bipush 88, 2) := by decide +kernel
theorem dX10_counts_19 : decode cX10_counts 19 = .ok (.iconst 2, 1) := by decide +kernel
theorem dX10_counts_20 : decode cX10_counts 20 = .ok (.iload_n 2, 1) := by decide +kernel
theorem dX10_counts_21 : decode cX10_counts 21 = .ok (.imul, 1) := by decide +kernel
theorem dX10_counts_22 : decode cX10_counts 22 = .ok (.iadd, 1) := by decide +kernel
theorem dX10_counts_23 : decode cX10_counts 23 = .ok (.iaload, 1) := by decide +kernel
theorem dX10_counts_24 : decode cX10_counts 24 = .ok (.sipush 1000, 3) := by decide +kernel
theorem dX10_counts_27 : decode cX10_counts 27 = .ok (.idiv, 1) := by decide +kernel
theorem dX10_counts_28 : decode cX10_counts 28 = .ok (.iload_n 1, 1) := by decide +kernel
theorem dX10_counts_29 : decode cX10_counts 29 = .ok (.if_icmp .ne 5, 3) := by decide +kernel
theorem dX10_counts_32 : decode cX10_counts 32 = .ok (.iload_n 2, 1) := by decide +kernel
theorem dX10_counts_33 : decode cX10_counts 33 = .ok (.ireturn, 1) := by decide +kernel
theorem dX10_counts_34 : decode cX10_counts 34 = .ok (.iinc 2 (-1), 3) := by decide +kernel
theorem dX10_counts_37 : decode cX10_counts 37 = .ok (.goto (-28), 3) := by decide +kernel
theorem dX10_counts_40 : decode cX10_counts 40 = .ok (.iconst (-1), 1) := by decide +kernel
theorem dX10_counts_41 : decode cX10_counts 41 = .ok (.ireturn, 1) := by decide +kernel
theorem dX10_why_0 : decode cX10_why 0 = .ok (.iload_n 1, 1) := by decide +kernel
theorem dX10_why_1 : decode cX10_why 1 = .ok (.iconst 0, 1) := by decide +kernel
theorem dX10_why_2 : decode cX10_why 2 = .ok (.iconst 2, 1) := by decide +kernel
theorem dX10_why_3 : decode cX10_why 3 = .ok (.invokestatic 87, 3) := by decide +kernel
theorem dX10_why_6 : decode cX10_why 6 = .ok (.ifCond .ne 6, 3) := by decide +kernel
theorem dX10_why_9 : decode cX10_why 9 = .ok (.ldc 95, 2) := by decide +kernel
theorem dX10_why_11 : decode cX10_why 11 = .ok (.ireturn, 1) := by decide +kernel
theorem dX10_why_12 : decode cX10_why 12 = .ok (.aload_n 0, 1) := by decide +kernel
theorem dX10_why_13 : decode cX10_why 13 = .ok (.iload_n 1, 1) := by decide +kernel
theorem dX10_why_14 : decode cX10_why 14 = .ok (.invokevirtual 105, 3) := by decide +kernel
theorem dX10_why_17 : decode cX10_why 17 = .ok (.istore_n 2, 1) := by decide +kernel
theorem dX10_why_18 : decode cX10_why 18 = .ok (.iload_n 2, 1) := by decide +kernel
theorem dX10_why_19 : decode cX10_why 19 = .ok (.ifCond .ge 8, 3) := by decide +kernel
theorem dX10_why_22 : decode cX10_why 22 = .ok (.ldc 186, 2) := by decide +kernel
theorem dX10_why_24 : decode cX10_why 24 = .ok (.goto 4, 3) := by decide +kernel
theorem dX10_why_27 : decode cX10_why 27 = .ok (.iload_n 2, 1) := by decide +kernel
theorem dX10_why_28 : decode cX10_why 28 = .ok (.ireturn, 1) := by decide +kernel
theorem dX10_two_0 : decode cX10_two 0 = .ok (.iload_n 0, 1) := by decide +kernel
theorem dX10_two_1 : decode cX10_two 1 = .ok (.tableswitch 120 (-8) (-1) #[116, 112, 108, 97, 86, 75, 61, 47], 47) := by decide +kernel
theorem dX10_two_48 : decode cX10_two 48 = .ok (.iload_n 1, 1) := by decide +kernel
theorem dX10_two_49 : decode cX10_two 49 = .ok (.ifCond .ne 7, 3) := by decide +kernel
theorem dX10_two_52 : decode cX10_two 52 = .ok (.iload_n 2, 1) := by decide +kernel
theorem dX10_two_53 : decode cX10_two 53 = .ok (.ifCond .eq 7, 3) := by decide +kernel
theorem dX10_two_56 : decode cX10_two 56 = .ok (.iconst 1, 1) := by decide +kernel
theorem dX10_two_57 : decode cX10_two 57 = .ok (.goto 4, 3) := by decide +kernel
theorem dX10_two_60 : decode cX10_two 60 = .ok (.iconst 0, 1) := by decide +kernel
theorem dX10_two_61 : decode cX10_two 61 = .ok (.ireturn, 1) := by decide +kernel
theorem dX10_two_62 : decode cX10_two 62 = .ok (.iload_n 1, 1) := by decide +kernel
theorem dX10_two_63 : decode cX10_two 63 = .ok (.ifCond .eq 11, 3) := by decide +kernel
theorem dX10_two_66 : decode cX10_two 66 = .ok (.iload_n 2, 1) := by decide +kernel
theorem dX10_two_67 : decode cX10_two 67 = .ok (.ifCond .eq 7, 3) := by decide +kernel
theorem dX10_two_70 : decode cX10_two 70 = .ok (.iconst 1, 1) := by decide +kernel
theorem dX10_two_71 : decode cX10_two 71 = .ok (.goto 4, 3) := by decide +kernel
theorem dX10_two_74 : decode cX10_two 74 = .ok (.iconst 0, 1) := by decide +kernel
theorem dX10_two_75 : decode cX10_two 75 = .ok (.ireturn, 1) := by decide +kernel
theorem dX10_two_76 : decode cX10_two 76 = .ok (.iload_n 1, 1) := by decide +kernel
theorem dX10_two_77 : decode cX10_two 77 = .ok (.iload_n 2, 1) := by decide +kernel
theorem dX10_two_78 : decode cX10_two 78 = .ok (.if_icmp .ge 7, 3) := by decide +kernel
theorem dX10_two_81 : decode cX10_two 81 = .ok (.iconst 1, 1) := by decide +kernel
theorem dX10_two_82 : decode cX10_two 82 = .ok (.goto 4, 3) := by decide +kernel
theorem dX10_two_85 : decode cX10_two 85 = .ok (.iconst 0, 1) := by decide +kernel
theorem dX10_two_86 : decode cX10_two 86 = .ok (.ireturn, 1) := by decide +kernel
theorem dX10_two_87 : decode cX10_two 87 = .ok (.iload_n 1, 1) := by decide +kernel
theorem dX10_two_88 : decode cX10_two 88 = .ok (.iload_n 2, 1) := by decide +kernel
theorem dX10_two_89 : decode cX10_two 89 = .ok (.if_icmp .ne 7, 3) := by decide +kernel
theorem dX10_two_92 : decode cX10_two 92 = .ok (.iconst 1, 1) := by decide +kernel
theorem dX10_two_93 : decode cX10_two 93 = .ok (.goto 4, 3) := by decide +kernel
theorem dX10_two_96 : decode cX10_two 96 = .ok (.iconst 0, 1) := by decide +kernel
theorem dX10_two_97 : decode cX10_two 97 = .ok (.ireturn, 1) := by decide +kernel
theorem dX10_two_98 : decode cX10_two 98 = .ok (.iload_n 1, 1) := by decide +kernel
theorem dX10_two_99 : decode cX10_two 99 = .ok (.iload_n 2, 1) := by decide +kernel
theorem dX10_two_100 : decode cX10_two 100 = .ok (.if_icmp .le 7, 3) := by decide +kernel
theorem dX10_two_103 : decode cX10_two 103 = .ok (.iconst 1, 1) := by decide +kernel
theorem dX10_two_104 : decode cX10_two 104 = .ok (.goto 4, 3) := by decide +kernel
theorem dX10_two_107 : decode cX10_two 107 = .ok (.iconst 0, 1) := by decide +kernel
theorem dX10_two_108 : decode cX10_two 108 = .ok (.ireturn, 1) := by decide +kernel
theorem dX10_two_109 : decode cX10_two 109 = .ok (.iload_n 1, 1) := by decide +kernel
theorem dX10_two_110 : decode cX10_two 110 = .ok (.iload_n 2, 1) := by decide +kernel
theorem dX10_two_111 : decode cX10_two 111 = .ok (.iadd, 1) := by decide +kernel
theorem dX10_two_112 : decode cX10_two 112 = .ok (.ireturn, 1) := by decide +kernel
theorem dX10_two_113 : decode cX10_two 113 = .ok (.iload_n 1, 1) := by decide +kernel
theorem dX10_two_114 : decode cX10_two 114 = .ok (.iload_n 2, 1) := by decide +kernel
theorem dX10_two_115 : decode cX10_two 115 = .ok (.isub, 1) := by decide +kernel
theorem dX10_two_116 : decode cX10_two 116 = .ok (.ireturn, 1) := by decide +kernel
theorem dX10_two_117 : decode cX10_two 117 = .ok (.iload_n 1, 1) := by decide +kernel
theorem dX10_two_118 : decode cX10_two 118 = .ok (.iload_n 2, 1) := by decide +kernel
theorem dX10_two_119 : decode cX10_two 119 = .ok (.imul, 1) := by decide +kernel
theorem dX10_two_120 : decode cX10_two 120 = .ok (.ireturn, 1) := by decide +kernel
theorem dX10_two_121 : decode cX10_two 121 = .ok (.iload_n 2, 1) := by decide +kernel
theorem dX10_two_122 : decode cX10_two 122 = .ok (.ifCond .ne 7, 3) := by decide +kernel
theorem dX10_two_125 : decode cX10_two 125 = .ok (.iconst 0, 1) := by decide +kernel
theorem dX10_two_126 : decode cX10_two 126 = .ok (.goto 6, 3) := by decide +kernel
theorem dX10_two_129 : decode cX10_two 129 = .ok (.iload_n 1, 1) := by decide +kernel
theorem dX10_two_130 : decode cX10_two 130 = .ok (.iload_n 2, 1) := by decide +kernel
theorem dX10_two_131 : decode cX10_two 131 = .ok (.idiv, 1) := by decide +kernel
theorem dX10_two_132 : decode cX10_two 132 = .ok (.ireturn, 1) := by decide +kernel
theorem dX10_worksOut_0 : decode cX10_worksOut 0 = .ok (.iconst 0, 1) := by decide +kernel
theorem dX10_worksOut_1 : decode cX10_worksOut 1 = .ok (.istore_n 2, 1) := by decide +kernel
theorem dX10_worksOut_2 : decode cX10_worksOut 2 = .ok (.aload_n 0, 1) := by decide +kernel
theorem dX10_worksOut_3 : decode cX10_worksOut 3 = .ok (.getfield 9, 3) := by decide +kernel
theorem dX10_worksOut_6 : decode cX10_worksOut 6 = .ok (.bipush 88, 2) := by decide +kernel
theorem dX10_worksOut_8 : decode cX10_worksOut 8 = .ok (.iconst 2, 1) := by decide +kernel
theorem dX10_worksOut_9 : decode cX10_worksOut 9 = .ok (.iload_n 1, 1) := by decide +kernel
theorem dX10_worksOut_10 : decode cX10_worksOut 10 = .ok (.imul, 1) := by decide +kernel
theorem dX10_worksOut_11 : decode cX10_worksOut 11 = .ok (.iadd, 1) := by decide +kernel
theorem dX10_worksOut_12 : decode cX10_worksOut 12 = .ok (.iaload, 1) := by decide +kernel
theorem dX10_worksOut_13 : decode cX10_worksOut 13 = .ok (.sipush 1000, 3) := by decide +kernel
theorem dX10_worksOut_16 : decode cX10_worksOut 16 = .ok (.irem, 1) := by decide +kernel
theorem dX10_worksOut_17 : decode cX10_worksOut 17 = .ok (.istore_n 3, 1) := by decide +kernel
theorem dX10_worksOut_18 : decode cX10_worksOut 18 = .ok (.iconst 0, 1) := by decide +kernel
theorem dX10_worksOut_19 : decode cX10_worksOut 19 = .ok (.istore 4, 2) := by decide +kernel
theorem dX10_worksOut_21 : decode cX10_worksOut 21 = .ok (.iload 4, 2) := by decide +kernel
theorem dX10_worksOut_23 : decode cX10_worksOut 23 = .ok (.iload_n 3, 1) := by decide +kernel
theorem dX10_worksOut_24 : decode cX10_worksOut 24 = .ok (.if_icmp .ge 131, 3) := by decide +kernel
theorem dX10_worksOut_27 : decode cX10_worksOut 27 = .ok (.aload_n 0, 1) := by decide +kernel
theorem dX10_worksOut_28 : decode cX10_worksOut 28 = .ok (.getfield 9, 3) := by decide +kernel
theorem dX10_worksOut_31 : decode cX10_worksOut 31 = .ok (.bipush 116, 2) := by decide +kernel
theorem dX10_worksOut_33 : decode cX10_worksOut 33 = .ok (.bipush 96, 2) := by decide +kernel
theorem dX10_worksOut_35 : decode cX10_worksOut 35 = .ok (.iload_n 1, 1) := by decide +kernel
theorem dX10_worksOut_36 : decode cX10_worksOut 36 = .ok (.imul, 1) := by decide +kernel
theorem dX10_worksOut_37 : decode cX10_worksOut 37 = .ok (.iadd, 1) := by decide +kernel
theorem dX10_worksOut_38 : decode cX10_worksOut 38 = .ok (.iload 4, 2) := by decide +kernel
theorem dX10_worksOut_40 : decode cX10_worksOut 40 = .ok (.iadd, 1) := by decide +kernel
theorem dX10_worksOut_41 : decode cX10_worksOut 41 = .ok (.iaload, 1) := by decide +kernel
theorem dX10_worksOut_42 : decode cX10_worksOut 42 = .ok (.istore 5, 2) := by decide +kernel
theorem dX10_worksOut_44 : decode cX10_worksOut 44 = .ok (.iload 5, 2) := by decide +kernel
theorem dX10_worksOut_46 : decode cX10_worksOut 46 = .ok (.ifCond .lt 39, 3) := by decide +kernel
theorem dX10_worksOut_49 : decode cX10_worksOut 49 = .ok (.aload_n 0, 1) := by decide +kernel
theorem dX10_worksOut_50 : decode cX10_worksOut 50 = .ok (.getfield 54, 3) := by decide +kernel
theorem dX10_worksOut_53 : decode cX10_worksOut 53 = .ok (.iload_n 2, 1) := by decide +kernel
theorem dX10_worksOut_54 : decode cX10_worksOut 54 = .ok (.iload 5, 2) := by decide +kernel
theorem dX10_worksOut_56 : decode cX10_worksOut 56 = .ok (.sipush 10000, 3) := by decide +kernel
theorem dX10_worksOut_59 : decode cX10_worksOut 59 = .ok (.if_icmp .ge 8, 3) := by decide +kernel
theorem dX10_worksOut_62 : decode cX10_worksOut 62 = .ok (.iload 5, 2) := by decide +kernel
theorem dX10_worksOut_64 : decode cX10_worksOut 64 = .ok (.goto 14, 3) := by decide +kernel
theorem dX10_worksOut_67 : decode cX10_worksOut 67 = .ok (.aload_n 0, 1) := by decide +kernel
theorem dX10_worksOut_68 : decode cX10_worksOut 68 = .ok (.getfield 57, 3) := by decide +kernel
theorem dX10_worksOut_71 : decode cX10_worksOut 71 = .ok (.iload 5, 2) := by decide +kernel
theorem dX10_worksOut_73 : decode cX10_worksOut 73 = .ok (.sipush 10000, 3) := by decide +kernel
theorem dX10_worksOut_76 : decode cX10_worksOut 76 = .ok (.isub, 1) := by decide +kernel
theorem dX10_worksOut_77 : decode cX10_worksOut 77 = .ok (.iaload, 1) := by decide +kernel
theorem dX10_worksOut_78 : decode cX10_worksOut 78 = .ok (.iastore, 1) := by decide +kernel
theorem dX10_worksOut_79 : decode cX10_worksOut 79 = .ok (.iinc 2 1, 3) := by decide +kernel
theorem dX10_worksOut_82 : decode cX10_worksOut 82 = .ok (.goto 67, 3) := by decide +kernel
theorem dX10_worksOut_85 : decode cX10_worksOut 85 = .ok (.iload 5, 2) := by decide +kernel
theorem dX10_worksOut_87 : decode cX10_worksOut 87 = .ok (.bipush (-10), 2) := by decide +kernel
theorem dX10_worksOut_89 : decode cX10_worksOut 89 = .ok (.if_icmp .ne 30, 3) := by decide +kernel
theorem dX10_worksOut_92 : decode cX10_worksOut 92 = .ok (.aload_n 0, 1) := by decide +kernel
theorem dX10_worksOut_93 : decode cX10_worksOut 93 = .ok (.getfield 54, 3) := by decide +kernel
theorem dX10_worksOut_96 : decode cX10_worksOut 96 = .ok (.iload_n 2, 1) := by decide +kernel
theorem dX10_worksOut_97 : decode cX10_worksOut 97 = .ok (.iconst 1, 1) := by decide +kernel
theorem dX10_worksOut_98 : decode cX10_worksOut 98 = .ok (.isub, 1) := by decide +kernel
theorem dX10_worksOut_99 : decode cX10_worksOut 99 = .ok (.aload_n 0, 1) := by decide +kernel
theorem dX10_worksOut_100 : decode cX10_worksOut 100 = .ok (.getfield 54, 3) := by decide +kernel
theorem dX10_worksOut_103 : decode cX10_worksOut 103 = .ok (.iload_n 2, 1) := by decide +kernel
theorem dX10_worksOut_104 : decode cX10_worksOut 104 = .ok (.iconst 1, 1) := by decide +kernel
theorem dX10_worksOut_105 : decode cX10_worksOut 105 = .ok (.isub, 1) := by decide +kernel
theorem dX10_worksOut_106 : decode cX10_worksOut 106 = .ok (.iaload, 1) := by decide +kernel
theorem dX10_worksOut_107 : decode cX10_worksOut 107 = .ok (.ifCond .ne 7, 3) := by decide +kernel
theorem dX10_worksOut_110 : decode cX10_worksOut 110 = .ok (.iconst 1, 1) := by decide +kernel
theorem dX10_worksOut_111 : decode cX10_worksOut 111 = .ok (.goto 4, 3) := by decide +kernel
theorem dX10_worksOut_114 : decode cX10_worksOut 114 = .ok (.iconst 0, 1) := by decide +kernel
theorem dX10_worksOut_115 : decode cX10_worksOut 115 = .ok (.iastore, 1) := by decide +kernel
theorem dX10_worksOut_116 : decode cX10_worksOut 116 = .ok (.goto 33, 3) := by decide +kernel
theorem dX10_worksOut_119 : decode cX10_worksOut 119 = .ok (.iinc 2 (-1), 3) := by decide +kernel
theorem dX10_worksOut_122 : decode cX10_worksOut 122 = .ok (.aload_n 0, 1) := by decide +kernel
theorem dX10_worksOut_123 : decode cX10_worksOut 123 = .ok (.getfield 54, 3) := by decide +kernel
theorem dX10_worksOut_126 : decode cX10_worksOut 126 = .ok (.iload_n 2, 1) := by decide +kernel
theorem dX10_worksOut_127 : decode cX10_worksOut 127 = .ok (.iconst 1, 1) := by decide +kernel
theorem dX10_worksOut_128 : decode cX10_worksOut 128 = .ok (.isub, 1) := by decide +kernel
theorem dX10_worksOut_129 : decode cX10_worksOut 129 = .ok (.iload 5, 2) := by decide +kernel
theorem dX10_worksOut_131 : decode cX10_worksOut 131 = .ok (.aload_n 0, 1) := by decide +kernel
theorem dX10_worksOut_132 : decode cX10_worksOut 132 = .ok (.getfield 54, 3) := by decide +kernel
theorem dX10_worksOut_135 : decode cX10_worksOut 135 = .ok (.iload_n 2, 1) := by decide +kernel
theorem dX10_worksOut_136 : decode cX10_worksOut 136 = .ok (.iconst 1, 1) := by decide +kernel
theorem dX10_worksOut_137 : decode cX10_worksOut 137 = .ok (.isub, 1) := by decide +kernel
theorem dX10_worksOut_138 : decode cX10_worksOut 138 = .ok (.iaload, 1) := by decide +kernel
theorem dX10_worksOut_139 : decode cX10_worksOut 139 = .ok (.aload_n 0, 1) := by decide +kernel
theorem dX10_worksOut_140 : decode cX10_worksOut 140 = .ok (.getfield 54, 3) := by decide +kernel
theorem dX10_worksOut_143 : decode cX10_worksOut 143 = .ok (.iload_n 2, 1) := by decide +kernel
theorem dX10_worksOut_144 : decode cX10_worksOut 144 = .ok (.iaload, 1) := by decide +kernel
theorem dX10_worksOut_145 : decode cX10_worksOut 145 = .ok (.invokestatic 270, 3) := by decide +kernel
theorem dX10_worksOut_148 : decode cX10_worksOut 148 = .ok (.iastore, 1) := by decide +kernel
theorem dX10_worksOut_149 : decode cX10_worksOut 149 = .ok (.iinc 4 1, 3) := by decide +kernel
theorem dX10_worksOut_152 : decode cX10_worksOut 152 = .ok (.goto (-131), 3) := by decide +kernel
theorem dX10_worksOut_155 : decode cX10_worksOut 155 = .ok (.aload_n 0, 1) := by decide +kernel
theorem dX10_worksOut_156 : decode cX10_worksOut 156 = .ok (.getfield 54, 3) := by decide +kernel
theorem dX10_worksOut_159 : decode cX10_worksOut 159 = .ok (.iconst 0, 1) := by decide +kernel
theorem dX10_worksOut_160 : decode cX10_worksOut 160 = .ok (.iaload, 1) := by decide +kernel
theorem dX10_worksOut_161 : decode cX10_worksOut 161 = .ok (.ireturn, 1) := by decide +kernel
theorem dX10_isSheet_0 : decode cX10_isSheet 0 = .ok (.iload_n 0, 1) := by decide +kernel
theorem dX10_isSheet_1 : decode cX10_isSheet 1 = .ok (.iconst 0, 1) := by decide +kernel
theorem dX10_isSheet_2 : decode cX10_isSheet 2 = .ok (.iconst 3, 1) := by decide +kernel
theorem dX10_isSheet_3 : decode cX10_isSheet 3 = .ok (.invokestatic 87, 3) := by decide +kernel
theorem dX10_isSheet_6 : decode cX10_isSheet 6 = .ok (.ireturn, 1) := by decide +kernel
theorem dX10_isSlot_0 : decode cX10_isSlot 0 = .ok (.iload_n 0, 1) := by decide +kernel
theorem dX10_isSlot_1 : decode cX10_isSlot 1 = .ok (.iconst 0, 1) := by decide +kernel
theorem dX10_isSlot_2 : decode cX10_isSlot 2 = .ok (.iconst 4, 1) := by decide +kernel
theorem dX10_isSlot_3 : decode cX10_isSlot 3 = .ok (.invokestatic 87, 3) := by decide +kernel
theorem dX10_isSlot_6 : decode cX10_isSlot 6 = .ok (.ireturn, 1) := by decide +kernel
theorem dX10_sheet_0 : decode cX10_sheet 0 = .ok (.iload_n 1, 1) := by decide +kernel
theorem dX10_sheet_1 : decode cX10_sheet 1 = .ok (.invokestatic 197, 3) := by decide +kernel
theorem dX10_sheet_4 : decode cX10_sheet 4 = .ok (.ifCond .eq 22, 3) := by decide +kernel
theorem dX10_sheet_7 : decode cX10_sheet 7 = .ok (.iload_n 2, 1) := by decide +kernel
theorem dX10_sheet_8 : decode cX10_sheet 8 = .ok (.iconst (-1), 1) := by decide +kernel
theorem dX10_sheet_9 : decode cX10_sheet 9 = .ok (.iconst 1, 1) := by decide +kernel
theorem dX10_sheet_10 : decode cX10_sheet 10 = .ok (.invokestatic 87, 3) := by decide +kernel
theorem dX10_sheet_13 : decode cX10_sheet 13 = .ok (.ifCond .eq 13, 3) := by decide +kernel
theorem dX10_sheet_16 : decode cX10_sheet 16 = .ok (.iload_n 2, 1) := by decide +kernel
theorem dX10_sheet_17 : decode cX10_sheet 17 = .ok (.ifCond .lt 12, 3) := by decide +kernel
theorem dX10_sheet_20 : decode cX10_sheet 20 = .ok (.iload_n 3, 1) := by decide +kernel
theorem dX10_sheet_21 : decode cX10_sheet 21 = .ok (.bipush 24, 2) := by decide +kernel
theorem dX10_sheet_23 : decode cX10_sheet 23 = .ok (.if_icmp .le 6, 3) := by decide +kernel
theorem dX10_sheet_26 : decode cX10_sheet 26 = .ok (.ldc 95, 2) := by decide +kernel
theorem dX10_sheet_28 : decode cX10_sheet 28 = .ok (.ireturn, 1) := by decide +kernel
theorem dX10_sheet_29 : decode cX10_sheet 29 = .ok (.iload_n 2, 1) := by decide +kernel
theorem dX10_sheet_30 : decode cX10_sheet 30 = .ok (.ifCond .lt 11, 3) := by decide +kernel
theorem dX10_sheet_33 : decode cX10_sheet 33 = .ok (.iload_n 3, 1) := by decide +kernel
theorem dX10_sheet_34 : decode cX10_sheet 34 = .ok (.ifCond .ge 7, 3) := by decide +kernel
theorem dX10_sheet_37 : decode cX10_sheet 37 = .ok (.ldc_w 273, 3) := by decide +kernel
theorem dX10_sheet_40 : decode cX10_sheet 40 = .ok (.ireturn, 1) := by decide +kernel
theorem dX10_sheet_41 : decode cX10_sheet 41 = .ok (.aload_n 0, 1) := by decide +kernel
theorem dX10_sheet_42 : decode cX10_sheet 42 = .ok (.getfield 60, 3) := by decide +kernel
theorem dX10_sheet_45 : decode cX10_sheet 45 = .ok (.iload_n 1, 1) := by decide +kernel
theorem dX10_sheet_46 : decode cX10_sheet 46 = .ok (.iload_n 2, 1) := by decide +kernel
theorem dX10_sheet_47 : decode cX10_sheet 47 = .ok (.iastore, 1) := by decide +kernel
theorem dX10_sheet_48 : decode cX10_sheet 48 = .ok (.aload_n 0, 1) := by decide +kernel
theorem dX10_sheet_49 : decode cX10_sheet 49 = .ok (.getfield 63, 3) := by decide +kernel
theorem dX10_sheet_52 : decode cX10_sheet 52 = .ok (.iload_n 1, 1) := by decide +kernel
theorem dX10_sheet_53 : decode cX10_sheet 53 = .ok (.iload_n 2, 1) := by decide +kernel
theorem dX10_sheet_54 : decode cX10_sheet 54 = .ok (.ifCond .ge 7, 3) := by decide +kernel
theorem dX10_sheet_57 : decode cX10_sheet 57 = .ok (.iconst 0, 1) := by decide +kernel
theorem dX10_sheet_58 : decode cX10_sheet 58 = .ok (.goto 4, 3) := by decide +kernel
theorem dX10_sheet_61 : decode cX10_sheet 61 = .ok (.iload_n 3, 1) := by decide +kernel
theorem dX10_sheet_62 : decode cX10_sheet 62 = .ok (.iastore, 1) := by decide +kernel
theorem dX10_sheet_63 : decode cX10_sheet 63 = .ok (.iconst 0, 1) := by decide +kernel
theorem dX10_sheet_64 : decode cX10_sheet 64 = .ok (.istore 4, 2) := by decide +kernel
theorem dX10_sheet_66 : decode cX10_sheet 66 = .ok (.iload 4, 2) := by decide +kernel
theorem dX10_sheet_68 : decode cX10_sheet 68 = .ok (.bipush 24, 2) := by decide +kernel
theorem dX10_sheet_70 : decode cX10_sheet 70 = .ok (.if_icmp .ge 22, 3) := by decide +kernel
theorem dX10_sheet_73 : decode cX10_sheet 73 = .ok (.aload_n 0, 1) := by decide +kernel
theorem dX10_sheet_74 : decode cX10_sheet 74 = .ok (.getfield 66, 3) := by decide +kernel
theorem dX10_sheet_77 : decode cX10_sheet 77 = .ok (.bipush 24, 2) := by decide +kernel
theorem dX10_sheet_79 : decode cX10_sheet 79 = .ok (.iload_n 1, 1) := by decide +kernel
theorem dX10_sheet_80 : decode cX10_sheet 80 = .ok (.imul, 1) := by decide +kernel
theorem dX10_sheet_81 : decode cX10_sheet 81 = .ok (.iload 4, 2) := by decide +kernel
theorem dX10_sheet_83 : decode cX10_sheet 83 = .ok (.iadd, 1) := by decide +kernel
theorem dX10_sheet_84 : decode cX10_sheet 84 = .ok (.iconst 0, 1) := by decide +kernel
theorem dX10_sheet_85 : decode cX10_sheet 85 = .ok (.iastore, 1) := by decide +kernel
theorem dX10_sheet_86 : decode cX10_sheet 86 = .ok (.iinc 4 1, 3) := by decide +kernel
theorem dX10_sheet_89 : decode cX10_sheet 89 = .ok (.goto (-23), 3) := by decide +kernel
theorem dX10_sheet_92 : decode cX10_sheet 92 = .ok (.aload_n 0, 1) := by decide +kernel
theorem dX10_sheet_93 : decode cX10_sheet 93 = .ok (.getfield 63, 3) := by decide +kernel
theorem dX10_sheet_96 : decode cX10_sheet 96 = .ok (.iload_n 1, 1) := by decide +kernel
theorem dX10_sheet_97 : decode cX10_sheet 97 = .ok (.iaload, 1) := by decide +kernel
theorem dX10_sheet_98 : decode cX10_sheet 98 = .ok (.ireturn, 1) := by decide +kernel
theorem dX10_mark_0 : decode cX10_mark 0 = .ok (.iload_n 1, 1) := by decide +kernel
theorem dX10_mark_1 : decode cX10_mark 1 = .ok (.invokestatic 197, 3) := by decide +kernel
theorem dX10_mark_4 : decode cX10_mark 4 = .ok (.ifCond .ne 6, 3) := by decide +kernel
theorem dX10_mark_7 : decode cX10_mark 7 = .ok (.ldc 95, 2) := by decide +kernel
theorem dX10_mark_9 : decode cX10_mark 9 = .ok (.ireturn, 1) := by decide +kernel
theorem dX10_mark_10 : decode cX10_mark 10 = .ok (.aload_n 0, 1) := by decide +kernel
theorem dX10_mark_11 : decode cX10_mark 11 = .ok (.getfield 60, 3) := by decide +kernel
theorem dX10_mark_14 : decode cX10_mark 14 = .ok (.iload_n 1, 1) := by decide +kernel
theorem dX10_mark_15 : decode cX10_mark 15 = .ok (.iaload, 1) := by decide +kernel
theorem dX10_mark_16 : decode cX10_mark 16 = .ok (.ifCond .ge 6, 3) := by decide +kernel
theorem dX10_mark_19 : decode cX10_mark 19 = .ok (.ldc 200, 2) := by decide +kernel
theorem dX10_mark_21 : decode cX10_mark 21 = .ok (.ireturn, 1) := by decide +kernel
theorem dX10_mark_22 : decode cX10_mark 22 = .ok (.iload_n 2, 1) := by decide +kernel
theorem dX10_mark_23 : decode cX10_mark 23 = .ok (.iconst 0, 1) := by decide +kernel
theorem dX10_mark_24 : decode cX10_mark 24 = .ok (.aload_n 0, 1) := by decide +kernel
theorem dX10_mark_25 : decode cX10_mark 25 = .ok (.getfield 63, 3) := by decide +kernel
theorem dX10_mark_28 : decode cX10_mark 28 = .ok (.iload_n 1, 1) := by decide +kernel
theorem dX10_mark_29 : decode cX10_mark 29 = .ok (.iaload, 1) := by decide +kernel
theorem dX10_mark_30 : decode cX10_mark 30 = .ok (.iconst 1, 1) := by decide +kernel
theorem dX10_mark_31 : decode cX10_mark 31 = .ok (.isub, 1) := by decide +kernel
theorem dX10_mark_32 : decode cX10_mark 32 = .ok (.invokestatic 87, 3) := by decide +kernel
theorem dX10_mark_35 : decode cX10_mark 35 = .ok (.ifCond .ne 7, 3) := by decide +kernel
theorem dX10_mark_38 : decode cX10_mark 38 = .ok (.ldc_w 274, 3) := by decide +kernel
theorem dX10_mark_41 : decode cX10_mark 41 = .ok (.ireturn, 1) := by decide +kernel
theorem dX10_mark_42 : decode cX10_mark 42 = .ok (.aload_n 0, 1) := by decide +kernel
theorem dX10_mark_43 : decode cX10_mark 43 = .ok (.getfield 60, 3) := by decide +kernel
theorem dX10_mark_46 : decode cX10_mark 46 = .ok (.iload_n 1, 1) := by decide +kernel
theorem dX10_mark_47 : decode cX10_mark 47 = .ok (.iaload, 1) := by decide +kernel
theorem dX10_mark_48 : decode cX10_mark 48 = .ok (.ifCond .ne 12, 3) := by decide +kernel
theorem dX10_mark_51 : decode cX10_mark 51 = .ok (.iload_n 3, 1) := by decide +kernel
theorem dX10_mark_52 : decode cX10_mark 52 = .ok (.ldc 186, 2) := by decide +kernel
theorem dX10_mark_54 : decode cX10_mark 54 = .ok (.if_icmp .ne 6, 3) := by decide +kernel
theorem dX10_mark_57 : decode cX10_mark 57 = .ok (.ldc 140, 2) := by decide +kernel
theorem dX10_mark_59 : decode cX10_mark 59 = .ok (.ireturn, 1) := by decide +kernel
theorem dX10_mark_60 : decode cX10_mark 60 = .ok (.aload_n 0, 1) := by decide +kernel
theorem dX10_mark_61 : decode cX10_mark 61 = .ok (.getfield 60, 3) := by decide +kernel
theorem dX10_mark_64 : decode cX10_mark 64 = .ok (.iload_n 1, 1) := by decide +kernel
theorem dX10_mark_65 : decode cX10_mark 65 = .ok (.iaload, 1) := by decide +kernel
theorem dX10_mark_66 : decode cX10_mark 66 = .ok (.iconst 1, 1) := by decide +kernel
theorem dX10_mark_67 : decode cX10_mark 67 = .ok (.if_icmp .ne 25, 3) := by decide +kernel
theorem dX10_mark_70 : decode cX10_mark 70 = .ok (.iload_n 3, 1) := by decide +kernel
theorem dX10_mark_71 : decode cX10_mark 71 = .ok (.ldc 186, 2) := by decide +kernel
theorem dX10_mark_73 : decode cX10_mark 73 = .ok (.if_icmp .eq 19, 3) := by decide +kernel
theorem dX10_mark_76 : decode cX10_mark 76 = .ok (.iload_n 3, 1) := by decide +kernel
theorem dX10_mark_77 : decode cX10_mark 77 = .ok (.ldc_w 275, 3) := by decide +kernel
theorem dX10_mark_80 : decode cX10_mark 80 = .ok (.ldc_w 276, 3) := by decide +kernel
theorem dX10_mark_83 : decode cX10_mark 83 = .ok (.invokestatic 87, 3) := by decide +kernel
theorem dX10_mark_86 : decode cX10_mark 86 = .ok (.ifCond .ne 6, 3) := by decide +kernel
theorem dX10_mark_89 : decode cX10_mark 89 = .ok (.ldc 95, 2) := by decide +kernel
theorem dX10_mark_91 : decode cX10_mark 91 = .ok (.ireturn, 1) := by decide +kernel
theorem dX10_mark_92 : decode cX10_mark 92 = .ok (.aload_n 0, 1) := by decide +kernel
theorem dX10_mark_93 : decode cX10_mark 93 = .ok (.getfield 66, 3) := by decide +kernel
theorem dX10_mark_96 : decode cX10_mark 96 = .ok (.bipush 24, 2) := by decide +kernel
theorem dX10_mark_98 : decode cX10_mark 98 = .ok (.iload_n 1, 1) := by decide +kernel
theorem dX10_mark_99 : decode cX10_mark 99 = .ok (.imul, 1) := by decide +kernel
theorem dX10_mark_100 : decode cX10_mark 100 = .ok (.iload_n 2, 1) := by decide +kernel
theorem dX10_mark_101 : decode cX10_mark 101 = .ok (.iadd, 1) := by decide +kernel
theorem dX10_mark_102 : decode cX10_mark 102 = .ok (.aload_n 0, 1) := by decide +kernel
theorem dX10_mark_103 : decode cX10_mark 103 = .ok (.getfield 60, 3) := by decide +kernel
theorem dX10_mark_106 : decode cX10_mark 106 = .ok (.iload_n 1, 1) := by decide +kernel
theorem dX10_mark_107 : decode cX10_mark 107 = .ok (.iaload, 1) := by decide +kernel
theorem dX10_mark_108 : decode cX10_mark 108 = .ok (.ifCond .ne 8, 3) := by decide +kernel
theorem dX10_mark_111 : decode cX10_mark 111 = .ok (.iload_n 3, 1) := by decide +kernel
theorem dX10_mark_112 : decode cX10_mark 112 = .ok (.i2s, 1) := by decide +kernel
theorem dX10_mark_113 : decode cX10_mark 113 = .ok (.goto 4, 3) := by decide +kernel
theorem dX10_mark_116 : decode cX10_mark 116 = .ok (.iload_n 3, 1) := by decide +kernel
theorem dX10_mark_117 : decode cX10_mark 117 = .ok (.iastore, 1) := by decide +kernel
theorem dX10_mark_118 : decode cX10_mark 118 = .ok (.iconst 1, 1) := by decide +kernel
theorem dX10_mark_119 : decode cX10_mark 119 = .ok (.ireturn, 1) := by decide +kernel
theorem dX10_pour_0 : decode cX10_pour 0 = .ok (.iload_n 1, 1) := by decide +kernel
theorem dX10_pour_1 : decode cX10_pour 1 = .ok (.invokestatic 197, 3) := by decide +kernel
theorem dX10_pour_4 : decode cX10_pour 4 = .ok (.ifCond .ne 6, 3) := by decide +kernel
theorem dX10_pour_7 : decode cX10_pour 7 = .ok (.ldc 95, 2) := by decide +kernel
theorem dX10_pour_9 : decode cX10_pour 9 = .ok (.ireturn, 1) := by decide +kernel
theorem dX10_pour_10 : decode cX10_pour 10 = .ok (.aload_n 0, 1) := by decide +kernel
theorem dX10_pour_11 : decode cX10_pour 11 = .ok (.getfield 60, 3) := by decide +kernel
theorem dX10_pour_14 : decode cX10_pour 14 = .ok (.iload_n 1, 1) := by decide +kernel
theorem dX10_pour_15 : decode cX10_pour 15 = .ok (.iaload, 1) := by decide +kernel
theorem dX10_pour_16 : decode cX10_pour 16 = .ok (.ifCond .ge 6, 3) := by decide +kernel
theorem dX10_pour_19 : decode cX10_pour 19 = .ok (.ldc 200, 2) := by decide +kernel
theorem dX10_pour_21 : decode cX10_pour 21 = .ok (.ireturn, 1) := by decide +kernel
theorem dX10_pour_22 : decode cX10_pour 22 = .ok (.iconst 0, 1) := by decide +kernel
theorem dX10_pour_23 : decode cX10_pour 23 = .ok (.istore_n 2, 1) := by decide +kernel
theorem dX10_pour_24 : decode cX10_pour 24 = .ok (.iconst 0, 1) := by decide +kernel
theorem dX10_pour_25 : decode cX10_pour 25 = .ok (.istore_n 3, 1) := by decide +kernel
theorem dX10_pour_26 : decode cX10_pour 26 = .ok (.iload_n 3, 1) := by decide +kernel
theorem dX10_pour_27 : decode cX10_pour 27 = .ok (.aload_n 0, 1) := by decide +kernel
theorem dX10_pour_28 : decode cX10_pour 28 = .ok (.getfield 63, 3) := by decide +kernel
theorem dX10_pour_31 : decode cX10_pour 31 = .ok (.iload_n 1, 1) := by decide +kernel
theorem dX10_pour_32 : decode cX10_pour 32 = .ok (.iaload, 1) := by decide +kernel
theorem dX10_pour_33 : decode cX10_pour 33 = .ok (.if_icmp .ge 82, 3) := by decide +kernel
theorem dX10_pour_36 : decode cX10_pour 36 = .ok (.iload_n 3, 1) := by decide +kernel
theorem dX10_pour_37 : decode cX10_pour 37 = .ok (.bipush 8, 2) := by decide +kernel
theorem dX10_pour_39 : decode cX10_pour 39 = .ok (.if_icmp .ge 76, 3) := by decide +kernel
theorem dX10_pour_42 : decode cX10_pour 42 = .ok (.aload_n 0, 1) := by decide +kernel
theorem dX10_pour_43 : decode cX10_pour 43 = .ok (.getfield 66, 3) := by decide +kernel
theorem dX10_pour_46 : decode cX10_pour 46 = .ok (.bipush 24, 2) := by decide +kernel
theorem dX10_pour_48 : decode cX10_pour 48 = .ok (.iload_n 1, 1) := by decide +kernel
theorem dX10_pour_49 : decode cX10_pour 49 = .ok (.imul, 1) := by decide +kernel
theorem dX10_pour_50 : decode cX10_pour 50 = .ok (.iload_n 3, 1) := by decide +kernel
theorem dX10_pour_51 : decode cX10_pour 51 = .ok (.iadd, 1) := by decide +kernel
theorem dX10_pour_52 : decode cX10_pour 52 = .ok (.iaload, 1) := by decide +kernel
theorem dX10_pour_53 : decode cX10_pour 53 = .ok (.istore 4, 2) := by decide +kernel
theorem dX10_pour_55 : decode cX10_pour 55 = .ok (.iload 4, 2) := by decide +kernel
theorem dX10_pour_57 : decode cX10_pour 57 = .ok (.ldc 186, 2) := by decide +kernel
theorem dX10_pour_59 : decode cX10_pour 59 = .ok (.if_icmp .ne 12, 3) := by decide +kernel
theorem dX10_pour_62 : decode cX10_pour 62 = .ok (.aload_n 0, 1) := by decide +kernel
theorem dX10_pour_63 : decode cX10_pour 63 = .ok (.iload_n 3, 1) := by decide +kernel
theorem dX10_pour_64 : decode cX10_pour 64 = .ok (.iconst 2, 1) := by decide +kernel
theorem dX10_pour_65 : decode cX10_pour 65 = .ok (.invokevirtual 116, 3) := by decide +kernel
theorem dX10_pour_68 : decode cX10_pour 68 = .ok (.goto 12, 3) := by decide +kernel
theorem dX10_pour_71 : decode cX10_pour 71 = .ok (.iload 4, 2) := by decide +kernel
theorem dX10_pour_73 : decode cX10_pour 73 = .ok (.iconst 0, 1) := by decide +kernel
theorem dX10_pour_74 : decode cX10_pour 74 = .ok (.sipush 9999, 3) := by decide +kernel
theorem dX10_pour_77 : decode cX10_pour 77 = .ok (.invokestatic 112, 3) := by decide +kernel
theorem dX10_pour_80 : decode cX10_pour 80 = .ok (.istore 5, 2) := by decide +kernel
theorem dX10_pour_82 : decode cX10_pour 82 = .ok (.iload_n 2, 1) := by decide +kernel
theorem dX10_pour_83 : decode cX10_pour 83 = .ok (.aload_n 0, 1) := by decide +kernel
theorem dX10_pour_84 : decode cX10_pour 84 = .ok (.bipush 6, 2) := by decide +kernel
theorem dX10_pour_86 : decode cX10_pour 86 = .ok (.iconst 4, 1) := by decide +kernel
theorem dX10_pour_87 : decode cX10_pour 87 = .ok (.iload_n 3, 1) := by decide +kernel
theorem dX10_pour_88 : decode cX10_pour 88 = .ok (.imul, 1) := by decide +kernel
theorem dX10_pour_89 : decode cX10_pour 89 = .ok (.iadd, 1) := by decide +kernel
theorem dX10_pour_90 : decode cX10_pour 90 = .ok (.iconst 2, 1) := by decide +kernel
theorem dX10_pour_91 : decode cX10_pour 91 = .ok (.iadd, 1) := by decide +kernel
theorem dX10_pour_92 : decode cX10_pour 92 = .ok (.iload 5, 2) := by decide +kernel
theorem dX10_pour_94 : decode cX10_pour 94 = .ok (.invokevirtual 141, 3) := by decide +kernel
theorem dX10_pour_97 : decode cX10_pour 97 = .ok (.iload 5, 2) := by decide +kernel
theorem dX10_pour_99 : decode cX10_pour 99 = .ok (.if_icmp .ne 7, 3) := by decide +kernel
theorem dX10_pour_102 : decode cX10_pour 102 = .ok (.iconst 0, 1) := by decide +kernel
theorem dX10_pour_103 : decode cX10_pour 103 = .ok (.goto 4, 3) := by decide +kernel
theorem dX10_pour_106 : decode cX10_pour 106 = .ok (.iconst 1, 1) := by decide +kernel
theorem dX10_pour_107 : decode cX10_pour 107 = .ok (.iadd, 1) := by decide +kernel
theorem dX10_pour_108 : decode cX10_pour 108 = .ok (.istore_n 2, 1) := by decide +kernel
theorem dX10_pour_109 : decode cX10_pour 109 = .ok (.iinc 3 1, 3) := by decide +kernel
theorem dX10_pour_112 : decode cX10_pour 112 = .ok (.goto (-86), 3) := by decide +kernel
theorem dX10_pour_115 : decode cX10_pour 115 = .ok (.iload_n 2, 1) := by decide +kernel
theorem dX10_pour_116 : decode cX10_pour 116 = .ok (.ireturn, 1) := by decide +kernel
theorem dX10_reads_0 : decode cX10_reads 0 = .ok (.iload_n 1, 1) := by decide +kernel
theorem dX10_reads_1 : decode cX10_reads 1 = .ok (.invokestatic 197, 3) := by decide +kernel
theorem dX10_reads_4 : decode cX10_reads 4 = .ok (.ifCond .ne 6, 3) := by decide +kernel
theorem dX10_reads_7 : decode cX10_reads 7 = .ok (.ldc 95, 2) := by decide +kernel
theorem dX10_reads_9 : decode cX10_reads 9 = .ok (.ireturn, 1) := by decide +kernel
theorem dX10_reads_10 : decode cX10_reads 10 = .ok (.aload_n 0, 1) := by decide +kernel
theorem dX10_reads_11 : decode cX10_reads 11 = .ok (.getfield 60, 3) := by decide +kernel
theorem dX10_reads_14 : decode cX10_reads 14 = .ok (.iload_n 1, 1) := by decide +kernel
theorem dX10_reads_15 : decode cX10_reads 15 = .ok (.iaload, 1) := by decide +kernel
theorem dX10_reads_16 : decode cX10_reads 16 = .ok (.ifCond .ge 6, 3) := by decide +kernel
theorem dX10_reads_19 : decode cX10_reads 19 = .ok (.ldc 200, 2) := by decide +kernel
theorem dX10_reads_21 : decode cX10_reads 21 = .ok (.ireturn, 1) := by decide +kernel
theorem dX10_reads_22 : decode cX10_reads 22 = .ok (.iconst 0, 1) := by decide +kernel
theorem dX10_reads_23 : decode cX10_reads 23 = .ok (.istore_n 2, 1) := by decide +kernel
theorem dX10_reads_24 : decode cX10_reads 24 = .ok (.iload_n 2, 1) := by decide +kernel
theorem dX10_reads_25 : decode cX10_reads 25 = .ok (.aload_n 0, 1) := by decide +kernel
theorem dX10_reads_26 : decode cX10_reads 26 = .ok (.getfield 63, 3) := by decide +kernel
theorem dX10_reads_29 : decode cX10_reads 29 = .ok (.iload_n 1, 1) := by decide +kernel
theorem dX10_reads_30 : decode cX10_reads 30 = .ok (.iaload, 1) := by decide +kernel
theorem dX10_reads_31 : decode cX10_reads 31 = .ok (.if_icmp .ge 46, 3) := by decide +kernel
theorem dX10_reads_34 : decode cX10_reads 34 = .ok (.aload_n 0, 1) := by decide +kernel
theorem dX10_reads_35 : decode cX10_reads 35 = .ok (.getfield 66, 3) := by decide +kernel
theorem dX10_reads_38 : decode cX10_reads 38 = .ok (.bipush 24, 2) := by decide +kernel
theorem dX10_reads_40 : decode cX10_reads 40 = .ok (.iload_n 1, 1) := by decide +kernel
theorem dX10_reads_41 : decode cX10_reads 41 = .ok (.imul, 1) := by decide +kernel
theorem dX10_reads_42 : decode cX10_reads 42 = .ok (.iload_n 2, 1) := by decide +kernel
theorem dX10_reads_43 : decode cX10_reads 43 = .ok (.iadd, 1) := by decide +kernel
theorem dX10_reads_44 : decode cX10_reads 44 = .ok (.iaload, 1) := by decide +kernel
theorem dX10_reads_45 : decode cX10_reads 45 = .ok (.istore_n 3, 1) := by decide +kernel
theorem dX10_reads_46 : decode cX10_reads 46 = .ok (.iload_n 3, 1) := by decide +kernel
theorem dX10_reads_47 : decode cX10_reads 47 = .ok (.ldc 186, 2) := by decide +kernel
theorem dX10_reads_49 : decode cX10_reads 49 = .ok (.if_icmp .eq 22, 3) := by decide +kernel
theorem dX10_reads_52 : decode cX10_reads 52 = .ok (.iload_n 2, 1) := by decide +kernel
theorem dX10_reads_53 : decode cX10_reads 53 = .ok (.invokestatic 91, 3) := by decide +kernel
theorem dX10_reads_56 : decode cX10_reads 56 = .ok (.ifCond .eq 13, 3) := by decide +kernel
theorem dX10_reads_59 : decode cX10_reads 59 = .ok (.iload_n 3, 1) := by decide +kernel
theorem dX10_reads_60 : decode cX10_reads 60 = .ok (.aload_n 0, 1) := by decide +kernel
theorem dX10_reads_61 : decode cX10_reads 61 = .ok (.iload_n 2, 1) := by decide +kernel
theorem dX10_reads_62 : decode cX10_reads 62 = .ok (.iconst 0, 1) := by decide +kernel
theorem dX10_reads_63 : decode cX10_reads 63 = .ok (.invokevirtual 116, 3) := by decide +kernel
theorem dX10_reads_66 : decode cX10_reads 66 = .ok (.if_icmp .eq 5, 3) := by decide +kernel
theorem dX10_reads_69 : decode cX10_reads 69 = .ok (.iload_n 2, 1) := by decide +kernel
theorem dX10_reads_70 : decode cX10_reads 70 = .ok (.ireturn, 1) := by decide +kernel
theorem dX10_reads_71 : decode cX10_reads 71 = .ok (.iinc 2 1, 3) := by decide +kernel
theorem dX10_reads_74 : decode cX10_reads 74 = .ok (.goto (-50), 3) := by decide +kernel
theorem dX10_reads_77 : decode cX10_reads 77 = .ok (.ldc 186, 2) := by decide +kernel
theorem dX10_reads_79 : decode cX10_reads 79 = .ok (.ireturn, 1) := by decide +kernel
theorem dX10_copy_0 : decode cX10_copy 0 = .ok (.iload_n 1, 1) := by decide +kernel
theorem dX10_copy_1 : decode cX10_copy 1 = .ok (.invokestatic 197, 3) := by decide +kernel
theorem dX10_copy_4 : decode cX10_copy 4 = .ok (.ifCond .eq 10, 3) := by decide +kernel
theorem dX10_copy_7 : decode cX10_copy 7 = .ok (.iload_n 3, 1) := by decide +kernel
theorem dX10_copy_8 : decode cX10_copy 8 = .ok (.invokestatic 197, 3) := by decide +kernel
theorem dX10_copy_11 : decode cX10_copy 11 = .ok (.ifCond .ne 6, 3) := by decide +kernel
theorem dX10_copy_14 : decode cX10_copy 14 = .ok (.ldc 95, 2) := by decide +kernel
theorem dX10_copy_16 : decode cX10_copy 16 = .ok (.ireturn, 1) := by decide +kernel
theorem dX10_copy_17 : decode cX10_copy 17 = .ok (.aload_n 0, 1) := by decide +kernel
theorem dX10_copy_18 : decode cX10_copy 18 = .ok (.getfield 60, 3) := by decide +kernel
theorem dX10_copy_21 : decode cX10_copy 21 = .ok (.iload_n 1, 1) := by decide +kernel
theorem dX10_copy_22 : decode cX10_copy 22 = .ok (.iaload, 1) := by decide +kernel
theorem dX10_copy_23 : decode cX10_copy 23 = .ok (.ifCond .lt 12, 3) := by decide +kernel
theorem dX10_copy_26 : decode cX10_copy 26 = .ok (.aload_n 0, 1) := by decide +kernel
theorem dX10_copy_27 : decode cX10_copy 27 = .ok (.getfield 60, 3) := by decide +kernel
theorem dX10_copy_30 : decode cX10_copy 30 = .ok (.iload_n 3, 1) := by decide +kernel
theorem dX10_copy_31 : decode cX10_copy 31 = .ok (.iaload, 1) := by decide +kernel
theorem dX10_copy_32 : decode cX10_copy 32 = .ok (.ifCond .ge 6, 3) := by decide +kernel
theorem dX10_copy_35 : decode cX10_copy 35 = .ok (.ldc 200, 2) := by decide +kernel
theorem dX10_copy_37 : decode cX10_copy 37 = .ok (.ireturn, 1) := by decide +kernel
theorem dX10_copy_38 : decode cX10_copy 38 = .ok (.aload_n 0, 1) := by decide +kernel
theorem dX10_copy_39 : decode cX10_copy 39 = .ok (.getfield 60, 3) := by decide +kernel
theorem dX10_copy_42 : decode cX10_copy 42 = .ok (.iload_n 1, 1) := by decide +kernel
theorem dX10_copy_43 : decode cX10_copy 43 = .ok (.iaload, 1) := by decide +kernel
theorem dX10_copy_44 : decode cX10_copy 44 = .ok (.aload_n 0, 1) := by decide +kernel
theorem dX10_copy_45 : decode cX10_copy 45 = .ok (.getfield 60, 3) := by decide +kernel
theorem dX10_copy_48 : decode cX10_copy 48 = .ok (.iload_n 3, 1) := by decide +kernel
theorem dX10_copy_49 : decode cX10_copy 49 = .ok (.iaload, 1) := by decide +kernel
theorem dX10_copy_50 : decode cX10_copy 50 = .ok (.if_icmp .eq 6, 3) := by decide +kernel
theorem dX10_copy_53 : decode cX10_copy 53 = .ok (.ldc 140, 2) := by decide +kernel
theorem dX10_copy_55 : decode cX10_copy 55 = .ok (.ireturn, 1) := by decide +kernel
theorem dX10_copy_56 : decode cX10_copy 56 = .ok (.iload_n 2, 1) := by decide +kernel
theorem dX10_copy_57 : decode cX10_copy 57 = .ok (.ifCond .lt 40, 3) := by decide +kernel
theorem dX10_copy_60 : decode cX10_copy 60 = .ok (.iload 4, 2) := by decide +kernel
theorem dX10_copy_62 : decode cX10_copy 62 = .ok (.ifCond .lt 35, 3) := by decide +kernel
theorem dX10_copy_65 : decode cX10_copy 65 = .ok (.iload 5, 2) := by decide +kernel
theorem dX10_copy_67 : decode cX10_copy 67 = .ok (.ifCond .lt 30, 3) := by decide +kernel
theorem dX10_copy_70 : decode cX10_copy 70 = .ok (.iload_n 2, 1) := by decide +kernel
theorem dX10_copy_71 : decode cX10_copy 71 = .ok (.aload_n 0, 1) := by decide +kernel
theorem dX10_copy_72 : decode cX10_copy 72 = .ok (.getfield 63, 3) := by decide +kernel
theorem dX10_copy_75 : decode cX10_copy 75 = .ok (.iload_n 1, 1) := by decide +kernel
theorem dX10_copy_76 : decode cX10_copy 76 = .ok (.iaload, 1) := by decide +kernel
theorem dX10_copy_77 : decode cX10_copy 77 = .ok (.iload 5, 2) := by decide +kernel
theorem dX10_copy_79 : decode cX10_copy 79 = .ok (.isub, 1) := by decide +kernel
theorem dX10_copy_80 : decode cX10_copy 80 = .ok (.if_icmp .gt 17, 3) := by decide +kernel
theorem dX10_copy_83 : decode cX10_copy 83 = .ok (.iload 4, 2) := by decide +kernel
theorem dX10_copy_85 : decode cX10_copy 85 = .ok (.aload_n 0, 1) := by decide +kernel
theorem dX10_copy_86 : decode cX10_copy 86 = .ok (.getfield 63, 3) := by decide +kernel
theorem dX10_copy_89 : decode cX10_copy 89 = .ok (.iload_n 3, 1) := by decide +kernel
theorem dX10_copy_90 : decode cX10_copy 90 = .ok (.iaload, 1) := by decide +kernel
theorem dX10_copy_91 : decode cX10_copy 91 = .ok (.iload 5, 2) := by decide +kernel
theorem dX10_copy_93 : decode cX10_copy 93 = .ok (.isub, 1) := by decide +kernel
theorem dX10_copy_94 : decode cX10_copy 94 = .ok (.if_icmp .le 7, 3) := by decide +kernel
theorem dX10_copy_97 : decode cX10_copy 97 = .ok (.ldc_w 274, 3) := by decide +kernel
theorem dX10_copy_100 : decode cX10_copy 100 = .ok (.ireturn, 1) := by decide +kernel
theorem dX10_copy_101 : decode cX10_copy 101 = .ok (.iconst 0, 1) := by decide +kernel
theorem dX10_copy_102 : decode cX10_copy 102 = .ok (.istore 6, 2) := by decide +kernel
theorem dX10_copy_104 : decode cX10_copy 104 = .ok (.iload 6, 2) := by decide +kernel
theorem dX10_copy_106 : decode cX10_copy 106 = .ok (.iload 5, 2) := by decide +kernel
theorem dX10_copy_108 : decode cX10_copy 108 = .ok (.if_icmp .ge 30, 3) := by decide +kernel
theorem dX10_copy_111 : decode cX10_copy 111 = .ok (.aload_n 0, 1) := by decide +kernel
theorem dX10_copy_112 : decode cX10_copy 112 = .ok (.getfield 81, 3) := by decide +kernel
theorem dX10_copy_115 : decode cX10_copy 115 = .ok (.iload 6, 2) := by decide +kernel
theorem dX10_copy_117 : decode cX10_copy 117 = .ok (.aload_n 0, 1) := by decide +kernel
theorem dX10_copy_118 : decode cX10_copy 118 = .ok (.getfield 66, 3) := by decide +kernel
theorem dX10_copy_121 : decode cX10_copy 121 = .ok (.bipush 24, 2) := by decide +kernel
theorem dX10_copy_123 : decode cX10_copy 123 = .ok (.iload_n 1, 1) := by decide +kernel
theorem dX10_copy_124 : decode cX10_copy 124 = .ok (.imul, 1) := by decide +kernel
theorem dX10_copy_125 : decode cX10_copy 125 = .ok (.iload_n 2, 1) := by decide +kernel
theorem dX10_copy_126 : decode cX10_copy 126 = .ok (.iadd, 1) := by decide +kernel
theorem dX10_copy_127 : decode cX10_copy 127 = .ok (.iload 6, 2) := by decide +kernel
theorem dX10_copy_129 : decode cX10_copy 129 = .ok (.iadd, 1) := by decide +kernel
theorem dX10_copy_130 : decode cX10_copy 130 = .ok (.iaload, 1) := by decide +kernel
theorem dX10_copy_131 : decode cX10_copy 131 = .ok (.iastore, 1) := by decide +kernel
theorem dX10_copy_132 : decode cX10_copy 132 = .ok (.iinc 6 1, 3) := by decide +kernel
theorem dX10_copy_135 : decode cX10_copy 135 = .ok (.goto (-31), 3) := by decide +kernel
theorem dX10_copy_138 : decode cX10_copy 138 = .ok (.iconst 0, 1) := by decide +kernel
theorem dX10_copy_139 : decode cX10_copy 139 = .ok (.istore 6, 2) := by decide +kernel
theorem dX10_copy_141 : decode cX10_copy 141 = .ok (.iload 6, 2) := by decide +kernel
theorem dX10_copy_143 : decode cX10_copy 143 = .ok (.iload 5, 2) := by decide +kernel
theorem dX10_copy_145 : decode cX10_copy 145 = .ok (.if_icmp .ge 31, 3) := by decide +kernel
theorem dX10_copy_148 : decode cX10_copy 148 = .ok (.aload_n 0, 1) := by decide +kernel
theorem dX10_copy_149 : decode cX10_copy 149 = .ok (.getfield 66, 3) := by decide +kernel
theorem dX10_copy_152 : decode cX10_copy 152 = .ok (.bipush 24, 2) := by decide +kernel
theorem dX10_copy_154 : decode cX10_copy 154 = .ok (.iload_n 3, 1) := by decide +kernel
theorem dX10_copy_155 : decode cX10_copy 155 = .ok (.imul, 1) := by decide +kernel
theorem dX10_copy_156 : decode cX10_copy 156 = .ok (.iload 4, 2) := by decide +kernel
theorem dX10_copy_158 : decode cX10_copy 158 = .ok (.iadd, 1) := by decide +kernel
theorem dX10_copy_159 : decode cX10_copy 159 = .ok (.iload 6, 2) := by decide +kernel
theorem dX10_copy_161 : decode cX10_copy 161 = .ok (.iadd, 1) := by decide +kernel
theorem dX10_copy_162 : decode cX10_copy 162 = .ok (.aload_n 0, 1) := by decide +kernel
theorem dX10_copy_163 : decode cX10_copy 163 = .ok (.getfield 81, 3) := by decide +kernel
theorem dX10_copy_166 : decode cX10_copy 166 = .ok (.iload 6, 2) := by decide +kernel
theorem dX10_copy_168 : decode cX10_copy 168 = .ok (.iaload, 1) := by decide +kernel
theorem dX10_copy_169 : decode cX10_copy 169 = .ok (.iastore, 1) := by decide +kernel
theorem dX10_copy_170 : decode cX10_copy 170 = .ok (.iinc 6 1, 3) := by decide +kernel
theorem dX10_copy_173 : decode cX10_copy 173 = .ok (.goto (-32), 3) := by decide +kernel
theorem dX10_copy_176 : decode cX10_copy 176 = .ok (.iload 5, 2) := by decide +kernel
theorem dX10_copy_178 : decode cX10_copy 178 = .ok (.ireturn, 1) := by decide +kernel
theorem dX10_lay_0 : decode cX10_lay 0 = .ok (.iload_n 1, 1) := by decide +kernel
theorem dX10_lay_1 : decode cX10_lay 1 = .ok (.invokestatic 277, 3) := by decide +kernel
theorem dX10_lay_4 : decode cX10_lay 4 = .ok (.ifCond .eq 37, 3) := by decide +kernel
theorem dX10_lay_7 : decode cX10_lay 7 = .ok (.iload_n 2, 1) := by decide +kernel
theorem dX10_lay_8 : decode cX10_lay 8 = .ok (.iconst 0, 1) := by decide +kernel
theorem dX10_lay_9 : decode cX10_lay 9 = .ok (.iconst 3, 1) := by decide +kernel
theorem dX10_lay_10 : decode cX10_lay 10 = .ok (.invokestatic 87, 3) := by decide +kernel
theorem dX10_lay_13 : decode cX10_lay 13 = .ok (.ifCond .eq 28, 3) := by decide +kernel
theorem dX10_lay_16 : decode cX10_lay 16 = .ok (.iload_n 2, 1) := by decide +kernel
theorem dX10_lay_17 : decode cX10_lay 17 = .ok (.iconst 1, 1) := by decide +kernel
theorem dX10_lay_18 : decode cX10_lay 18 = .ok (.if_icmp .ne 11, 3) := by decide +kernel
theorem dX10_lay_21 : decode cX10_lay 21 = .ok (.aload_n 0, 1) := by decide +kernel
theorem dX10_lay_22 : decode cX10_lay 22 = .ok (.iload_n 3, 1) := by decide +kernel
theorem dX10_lay_23 : decode cX10_lay 23 = .ok (.invokevirtual 127, 3) := by decide +kernel
theorem dX10_lay_26 : decode cX10_lay 26 = .ok (.ifCond .eq 15, 3) := by decide +kernel
theorem dX10_lay_29 : decode cX10_lay 29 = .ok (.iload_n 2, 1) := by decide +kernel
theorem dX10_lay_30 : decode cX10_lay 30 = .ok (.iconst 2, 1) := by decide +kernel
theorem dX10_lay_31 : decode cX10_lay 31 = .ok (.if_icmp .ne 13, 3) := by decide +kernel
theorem dX10_lay_34 : decode cX10_lay 34 = .ok (.iload_n 3, 1) := by decide +kernel
theorem dX10_lay_35 : decode cX10_lay 35 = .ok (.invokestatic 197, 3) := by decide +kernel
theorem dX10_lay_38 : decode cX10_lay 38 = .ok (.ifCond .ne 6, 3) := by decide +kernel
theorem dX10_lay_41 : decode cX10_lay 41 = .ok (.ldc 95, 2) := by decide +kernel
theorem dX10_lay_43 : decode cX10_lay 43 = .ok (.ireturn, 1) := by decide +kernel
theorem dX10_lay_44 : decode cX10_lay 44 = .ok (.iload_n 2, 1) := by decide +kernel
theorem dX10_lay_45 : decode cX10_lay 45 = .ok (.iconst 2, 1) := by decide +kernel
theorem dX10_lay_46 : decode cX10_lay 46 = .ok (.if_icmp .ne 15, 3) := by decide +kernel
theorem dX10_lay_49 : decode cX10_lay 49 = .ok (.aload_n 0, 1) := by decide +kernel
theorem dX10_lay_50 : decode cX10_lay 50 = .ok (.getfield 60, 3) := by decide +kernel
theorem dX10_lay_53 : decode cX10_lay 53 = .ok (.iload_n 3, 1) := by decide +kernel
theorem dX10_lay_54 : decode cX10_lay 54 = .ok (.iaload, 1) := by decide +kernel
theorem dX10_lay_55 : decode cX10_lay 55 = .ok (.ifCond .ge 6, 3) := by decide +kernel
theorem dX10_lay_58 : decode cX10_lay 58 = .ok (.ldc 200, 2) := by decide +kernel
theorem dX10_lay_60 : decode cX10_lay 60 = .ok (.ireturn, 1) := by decide +kernel
theorem dX10_lay_61 : decode cX10_lay 61 = .ok (.aload_n 0, 1) := by decide +kernel
theorem dX10_lay_62 : decode cX10_lay 62 = .ok (.getfield 69, 3) := by decide +kernel
theorem dX10_lay_65 : decode cX10_lay 65 = .ok (.iload_n 1, 1) := by decide +kernel
theorem dX10_lay_66 : decode cX10_lay 66 = .ok (.iaload, 1) := by decide +kernel
theorem dX10_lay_67 : decode cX10_lay 67 = .ok (.istore 4, 2) := by decide +kernel
theorem dX10_lay_69 : decode cX10_lay 69 = .ok (.aload_n 0, 1) := by decide +kernel
theorem dX10_lay_70 : decode cX10_lay 70 = .ok (.getfield 69, 3) := by decide +kernel
theorem dX10_lay_73 : decode cX10_lay 73 = .ok (.iload_n 1, 1) := by decide +kernel
theorem dX10_lay_74 : decode cX10_lay 74 = .ok (.iload_n 2, 1) := by decide +kernel
theorem dX10_lay_75 : decode cX10_lay 75 = .ok (.iastore, 1) := by decide +kernel
theorem dX10_lay_76 : decode cX10_lay 76 = .ok (.aload_n 0, 1) := by decide +kernel
theorem dX10_lay_77 : decode cX10_lay 77 = .ok (.getfield 72, 3) := by decide +kernel
theorem dX10_lay_80 : decode cX10_lay 80 = .ok (.iload_n 1, 1) := by decide +kernel
theorem dX10_lay_81 : decode cX10_lay 81 = .ok (.iload_n 2, 1) := by decide +kernel
theorem dX10_lay_82 : decode cX10_lay 82 = .ok (.iconst 1, 1) := by decide +kernel
theorem dX10_lay_83 : decode cX10_lay 83 = .ok (.if_icmp .ne 12, 3) := by decide +kernel
theorem dX10_lay_86 : decode cX10_lay 86 = .ok (.aload_n 0, 1) := by decide +kernel
theorem dX10_lay_87 : decode cX10_lay 87 = .ok (.iload_n 3, 1) := by decide +kernel
theorem dX10_lay_88 : decode cX10_lay 88 = .ok (.iconst 0, 1) := by decide +kernel
theorem dX10_lay_89 : decode cX10_lay 89 = .ok (.invokevirtual 101, 3) := by decide +kernel
theorem dX10_lay_92 : decode cX10_lay 92 = .ok (.goto 18, 3) := by decide +kernel
theorem dX10_lay_95 : decode cX10_lay 95 = .ok (.iload_n 2, 1) := by decide +kernel
theorem dX10_lay_96 : decode cX10_lay 96 = .ok (.iconst 2, 1) := by decide +kernel
theorem dX10_lay_97 : decode cX10_lay 97 = .ok (.if_icmp .ne 12, 3) := by decide +kernel
theorem dX10_lay_100 : decode cX10_lay 100 = .ok (.aload_n 0, 1) := by decide +kernel
theorem dX10_lay_101 : decode cX10_lay 101 = .ok (.getfield 63, 3) := by decide +kernel
theorem dX10_lay_104 : decode cX10_lay 104 = .ok (.iload_n 3, 1) := by decide +kernel
theorem dX10_lay_105 : decode cX10_lay 105 = .ok (.iaload, 1) := by decide +kernel
theorem dX10_lay_106 : decode cX10_lay 106 = .ok (.goto 4, 3) := by decide +kernel
theorem dX10_lay_109 : decode cX10_lay 109 = .ok (.iload_n 3, 1) := by decide +kernel
theorem dX10_lay_110 : decode cX10_lay 110 = .ok (.iastore, 1) := by decide +kernel
theorem dX10_lay_111 : decode cX10_lay 111 = .ok (.aload_n 0, 1) := by decide +kernel
theorem dX10_lay_112 : decode cX10_lay 112 = .ok (.getfield 75, 3) := by decide +kernel
theorem dX10_lay_115 : decode cX10_lay 115 = .ok (.iload_n 1, 1) := by decide +kernel
theorem dX10_lay_116 : decode cX10_lay 116 = .ok (.iload_n 2, 1) := by decide +kernel
theorem dX10_lay_117 : decode cX10_lay 117 = .ok (.iconst 1, 1) := by decide +kernel
theorem dX10_lay_118 : decode cX10_lay 118 = .ok (.if_icmp .ne 11, 3) := by decide +kernel
theorem dX10_lay_121 : decode cX10_lay 121 = .ok (.aload_n 0, 1) := by decide +kernel
theorem dX10_lay_122 : decode cX10_lay 122 = .ok (.iload_n 3, 1) := by decide +kernel
theorem dX10_lay_123 : decode cX10_lay 123 = .ok (.invokevirtual 133, 3) := by decide +kernel
theorem dX10_lay_126 : decode cX10_lay 126 = .ok (.goto 4, 3) := by decide +kernel
theorem dX10_lay_129 : decode cX10_lay 129 = .ok (.iconst 0, 1) := by decide +kernel
theorem dX10_lay_130 : decode cX10_lay 130 = .ok (.iastore, 1) := by decide +kernel
theorem dX10_lay_131 : decode cX10_lay 131 = .ok (.iconst 0, 1) := by decide +kernel
theorem dX10_lay_132 : decode cX10_lay 132 = .ok (.istore 5, 2) := by decide +kernel
theorem dX10_lay_134 : decode cX10_lay 134 = .ok (.iload 5, 2) := by decide +kernel
theorem dX10_lay_136 : decode cX10_lay 136 = .ok (.bipush 24, 2) := by decide +kernel
theorem dX10_lay_138 : decode cX10_lay 138 = .ok (.if_icmp .ge 38, 3) := by decide +kernel
theorem dX10_lay_141 : decode cX10_lay 141 = .ok (.iload_n 2, 1) := by decide +kernel
theorem dX10_lay_142 : decode cX10_lay 142 = .ok (.iconst 2, 1) := by decide +kernel
theorem dX10_lay_143 : decode cX10_lay 143 = .ok (.if_icmp .ne 33, 3) := by decide +kernel
theorem dX10_lay_146 : decode cX10_lay 146 = .ok (.aload_n 0, 1) := by decide +kernel
theorem dX10_lay_147 : decode cX10_lay 147 = .ok (.getfield 78, 3) := by decide +kernel
theorem dX10_lay_150 : decode cX10_lay 150 = .ok (.bipush 24, 2) := by decide +kernel
theorem dX10_lay_152 : decode cX10_lay 152 = .ok (.iload_n 1, 1) := by decide +kernel
theorem dX10_lay_153 : decode cX10_lay 153 = .ok (.imul, 1) := by decide +kernel
theorem dX10_lay_154 : decode cX10_lay 154 = .ok (.iload 5, 2) := by decide +kernel
theorem dX10_lay_156 : decode cX10_lay 156 = .ok (.iadd, 1) := by decide +kernel
theorem dX10_lay_157 : decode cX10_lay 157 = .ok (.aload_n 0, 1) := by decide +kernel
theorem dX10_lay_158 : decode cX10_lay 158 = .ok (.getfield 66, 3) := by decide +kernel
theorem dX10_lay_161 : decode cX10_lay 161 = .ok (.bipush 24, 2) := by decide +kernel
theorem dX10_lay_163 : decode cX10_lay 163 = .ok (.iload_n 3, 1) := by decide +kernel
theorem dX10_lay_164 : decode cX10_lay 164 = .ok (.imul, 1) := by decide +kernel
theorem dX10_lay_165 : decode cX10_lay 165 = .ok (.iload 5, 2) := by decide +kernel
theorem dX10_lay_167 : decode cX10_lay 167 = .ok (.iadd, 1) := by decide +kernel
theorem dX10_lay_168 : decode cX10_lay 168 = .ok (.iaload, 1) := by decide +kernel
theorem dX10_lay_169 : decode cX10_lay 169 = .ok (.iastore, 1) := by decide +kernel
theorem dX10_lay_170 : decode cX10_lay 170 = .ok (.iinc 5 1, 3) := by decide +kernel
theorem dX10_lay_173 : decode cX10_lay 173 = .ok (.goto (-39), 3) := by decide +kernel
theorem dX10_lay_176 : decode cX10_lay 176 = .ok (.iload 4, 2) := by decide +kernel
theorem dX10_lay_178 : decode cX10_lay 178 = .ok (.ireturn, 1) := by decide +kernel
theorem dX10_ask_0 : decode cX10_ask 0 = .ok (.iload_n 1, 1) := by decide +kernel
theorem dX10_ask_1 : decode cX10_ask 1 = .ok (.invokestatic 277, 3) := by decide +kernel
theorem dX10_ask_4 : decode cX10_ask 4 = .ok (.ifCond .eq 12, 3) := by decide +kernel
theorem dX10_ask_7 : decode cX10_ask 7 = .ok (.iload_n 2, 1) := by decide +kernel
theorem dX10_ask_8 : decode cX10_ask 8 = .ok (.iconst 0, 1) := by decide +kernel
theorem dX10_ask_9 : decode cX10_ask 9 = .ok (.iconst 5, 1) := by decide +kernel
theorem dX10_ask_10 : decode cX10_ask 10 = .ok (.invokestatic 87, 3) := by decide +kernel
theorem dX10_ask_13 : decode cX10_ask 13 = .ok (.ifCond .ne 6, 3) := by decide +kernel
theorem dX10_ask_16 : decode cX10_ask 16 = .ok (.ldc 95, 2) := by decide +kernel
theorem dX10_ask_18 : decode cX10_ask 18 = .ok (.ireturn, 1) := by decide +kernel
theorem dX10_ask_19 : decode cX10_ask 19 = .ok (.aload_n 0, 1) := by decide +kernel
theorem dX10_ask_20 : decode cX10_ask 20 = .ok (.getfield 69, 3) := by decide +kernel
theorem dX10_ask_23 : decode cX10_ask 23 = .ok (.iload_n 1, 1) := by decide +kernel
theorem dX10_ask_24 : decode cX10_ask 24 = .ok (.iaload, 1) := by decide +kernel
theorem dX10_ask_25 : decode cX10_ask 25 = .ok (.ifCond .ne 6, 3) := by decide +kernel
theorem dX10_ask_28 : decode cX10_ask 28 = .ok (.ldc 200, 2) := by decide +kernel
theorem dX10_ask_30 : decode cX10_ask 30 = .ok (.ireturn, 1) := by decide +kernel
theorem dX10_ask_31 : decode cX10_ask 31 = .ok (.aload_n 0, 1) := by decide +kernel
theorem dX10_ask_32 : decode cX10_ask 32 = .ok (.getfield 69, 3) := by decide +kernel
theorem dX10_ask_35 : decode cX10_ask 35 = .ok (.iload_n 1, 1) := by decide +kernel
theorem dX10_ask_36 : decode cX10_ask 36 = .ok (.iaload, 1) := by decide +kernel
theorem dX10_ask_37 : decode cX10_ask 37 = .ok (.iconst 1, 1) := by decide +kernel
theorem dX10_ask_38 : decode cX10_ask 38 = .ok (.if_icmp .ne 25, 3) := by decide +kernel
theorem dX10_ask_41 : decode cX10_ask 41 = .ok (.aload_n 0, 1) := by decide +kernel
theorem dX10_ask_42 : decode cX10_ask 42 = .ok (.getfield 72, 3) := by decide +kernel
theorem dX10_ask_45 : decode cX10_ask 45 = .ok (.iload_n 1, 1) := by decide +kernel
theorem dX10_ask_46 : decode cX10_ask 46 = .ok (.iaload, 1) := by decide +kernel
theorem dX10_ask_47 : decode cX10_ask 47 = .ok (.iload_n 2, 1) := by decide +kernel
theorem dX10_ask_48 : decode cX10_ask 48 = .ok (.invokestatic 136, 3) := by decide +kernel
theorem dX10_ask_51 : decode cX10_ask 51 = .ok (.ifCond .eq 12, 3) := by decide +kernel
theorem dX10_ask_54 : decode cX10_ask 54 = .ok (.aload_n 0, 1) := by decide +kernel
theorem dX10_ask_55 : decode cX10_ask 55 = .ok (.getfield 75, 3) := by decide +kernel
theorem dX10_ask_58 : decode cX10_ask 58 = .ok (.iload_n 1, 1) := by decide +kernel
theorem dX10_ask_59 : decode cX10_ask 59 = .ok (.iaload, 1) := by decide +kernel
theorem dX10_ask_60 : decode cX10_ask 60 = .ok (.goto 5, 3) := by decide +kernel
theorem dX10_ask_63 : decode cX10_ask 63 = .ok (.ldc 140, 2) := by decide +kernel
theorem dX10_ask_65 : decode cX10_ask 65 = .ok (.ireturn, 1) := by decide +kernel
theorem dX10_item_0 : decode cX10_item 0 = .ok (.iload_n 1, 1) := by decide +kernel
theorem dX10_item_1 : decode cX10_item 1 = .ok (.invokestatic 277, 3) := by decide +kernel
theorem dX10_item_4 : decode cX10_item 4 = .ok (.ifCond .ne 6, 3) := by decide +kernel
theorem dX10_item_7 : decode cX10_item 7 = .ok (.ldc 95, 2) := by decide +kernel
theorem dX10_item_9 : decode cX10_item 9 = .ok (.ireturn, 1) := by decide +kernel
theorem dX10_item_10 : decode cX10_item 10 = .ok (.aload_n 0, 1) := by decide +kernel
theorem dX10_item_11 : decode cX10_item 11 = .ok (.getfield 69, 3) := by decide +kernel
theorem dX10_item_14 : decode cX10_item 14 = .ok (.iload_n 1, 1) := by decide +kernel
theorem dX10_item_15 : decode cX10_item 15 = .ok (.iaload, 1) := by decide +kernel
theorem dX10_item_16 : decode cX10_item 16 = .ok (.ifCond .ne 6, 3) := by decide +kernel
theorem dX10_item_19 : decode cX10_item 19 = .ok (.ldc 200, 2) := by decide +kernel
theorem dX10_item_21 : decode cX10_item 21 = .ok (.ireturn, 1) := by decide +kernel
theorem dX10_item_22 : decode cX10_item 22 = .ok (.aload_n 0, 1) := by decide +kernel
theorem dX10_item_23 : decode cX10_item 23 = .ok (.getfield 69, 3) := by decide +kernel
theorem dX10_item_26 : decode cX10_item 26 = .ok (.iload_n 1, 1) := by decide +kernel
theorem dX10_item_27 : decode cX10_item 27 = .ok (.iaload, 1) := by decide +kernel
theorem dX10_item_28 : decode cX10_item 28 = .ok (.iconst 2, 1) := by decide +kernel
theorem dX10_item_29 : decode cX10_item 29 = .ok (.if_icmp .eq 6, 3) := by decide +kernel
theorem dX10_item_32 : decode cX10_item 32 = .ok (.ldc 140, 2) := by decide +kernel
theorem dX10_item_34 : decode cX10_item 34 = .ok (.ireturn, 1) := by decide +kernel
theorem dX10_item_35 : decode cX10_item 35 = .ok (.iload_n 2, 1) := by decide +kernel
theorem dX10_item_36 : decode cX10_item 36 = .ok (.iconst 0, 1) := by decide +kernel
theorem dX10_item_37 : decode cX10_item 37 = .ok (.aload_n 0, 1) := by decide +kernel
theorem dX10_item_38 : decode cX10_item 38 = .ok (.getfield 72, 3) := by decide +kernel
theorem dX10_item_41 : decode cX10_item 41 = .ok (.iload_n 1, 1) := by decide +kernel
theorem dX10_item_42 : decode cX10_item 42 = .ok (.iaload, 1) := by decide +kernel
theorem dX10_item_43 : decode cX10_item 43 = .ok (.iconst 1, 1) := by decide +kernel
theorem dX10_item_44 : decode cX10_item 44 = .ok (.isub, 1) := by decide +kernel
theorem dX10_item_45 : decode cX10_item 45 = .ok (.invokestatic 87, 3) := by decide +kernel
theorem dX10_item_48 : decode cX10_item 48 = .ok (.ifCond .ne 7, 3) := by decide +kernel
theorem dX10_item_51 : decode cX10_item 51 = .ok (.ldc_w 274, 3) := by decide +kernel
theorem dX10_item_54 : decode cX10_item 54 = .ok (.ireturn, 1) := by decide +kernel
theorem dX10_item_55 : decode cX10_item 55 = .ok (.aload_n 0, 1) := by decide +kernel
theorem dX10_item_56 : decode cX10_item 56 = .ok (.getfield 78, 3) := by decide +kernel
theorem dX10_item_59 : decode cX10_item 59 = .ok (.bipush 24, 2) := by decide +kernel
theorem dX10_item_61 : decode cX10_item 61 = .ok (.iload_n 1, 1) := by decide +kernel
theorem dX10_item_62 : decode cX10_item 62 = .ok (.imul, 1) := by decide +kernel
theorem dX10_item_63 : decode cX10_item 63 = .ok (.iload_n 2, 1) := by decide +kernel
theorem dX10_item_64 : decode cX10_item 64 = .ok (.iadd, 1) := by decide +kernel
theorem dX10_item_65 : decode cX10_item 65 = .ok (.iaload, 1) := by decide +kernel
theorem dX10_item_66 : decode cX10_item 66 = .ok (.istore_n 3, 1) := by decide +kernel
theorem dX10_item_67 : decode cX10_item 67 = .ok (.iload_n 3, 1) := by decide +kernel
theorem dX10_item_68 : decode cX10_item 68 = .ok (.ldc 186, 2) := by decide +kernel
theorem dX10_item_70 : decode cX10_item 70 = .ok (.if_icmp .ne 8, 3) := by decide +kernel
theorem dX10_item_73 : decode cX10_item 73 = .ok (.ldc 140, 2) := by decide +kernel
theorem dX10_item_75 : decode cX10_item 75 = .ok (.goto 4, 3) := by decide +kernel
theorem dX10_item_78 : decode cX10_item 78 = .ok (.iload_n 3, 1) := by decide +kernel
theorem dX10_item_79 : decode cX10_item 79 = .ok (.ireturn, 1) := by decide +kernel
theorem dX10_rest_0 : decode cX10_rest 0 = .ok (.iload_n 1, 1) := by decide +kernel
theorem dX10_rest_1 : decode cX10_rest 1 = .ok (.invokestatic 277, 3) := by decide +kernel
theorem dX10_rest_4 : decode cX10_rest 4 = .ok (.ifCond .ne 6, 3) := by decide +kernel
theorem dX10_rest_7 : decode cX10_rest 7 = .ok (.ldc 95, 2) := by decide +kernel
theorem dX10_rest_9 : decode cX10_rest 9 = .ok (.ireturn, 1) := by decide +kernel
theorem dX10_rest_10 : decode cX10_rest 10 = .ok (.aload_n 0, 1) := by decide +kernel
theorem dX10_rest_11 : decode cX10_rest 11 = .ok (.getfield 69, 3) := by decide +kernel
theorem dX10_rest_14 : decode cX10_rest 14 = .ok (.iload_n 1, 1) := by decide +kernel
theorem dX10_rest_15 : decode cX10_rest 15 = .ok (.iaload, 1) := by decide +kernel
theorem dX10_rest_16 : decode cX10_rest 16 = .ok (.ifCond .ne 6, 3) := by decide +kernel
theorem dX10_rest_19 : decode cX10_rest 19 = .ok (.ldc 200, 2) := by decide +kernel
theorem dX10_rest_21 : decode cX10_rest 21 = .ok (.ireturn, 1) := by decide +kernel
theorem dX10_rest_22 : decode cX10_rest 22 = .ok (.aload_n 0, 1) := by decide +kernel
theorem dX10_rest_23 : decode cX10_rest 23 = .ok (.getfield 69, 3) := by decide +kernel
theorem dX10_rest_26 : decode cX10_rest 26 = .ok (.iload_n 1, 1) := by decide +kernel
theorem dX10_rest_27 : decode cX10_rest 27 = .ok (.iaload, 1) := by decide +kernel
theorem dX10_rest_28 : decode cX10_rest 28 = .ok (.iconst 3, 1) := by decide +kernel
theorem dX10_rest_29 : decode cX10_rest 29 = .ok (.if_icmp .eq 6, 3) := by decide +kernel
theorem dX10_rest_32 : decode cX10_rest 32 = .ok (.ldc 140, 2) := by decide +kernel
theorem dX10_rest_34 : decode cX10_rest 34 = .ok (.ireturn, 1) := by decide +kernel
theorem dX10_rest_35 : decode cX10_rest 35 = .ok (.iload_n 2, 1) := by decide +kernel
theorem dX10_rest_36 : decode cX10_rest 36 = .ok (.ifCond .ne 9, 3) := by decide +kernel
theorem dX10_rest_39 : decode cX10_rest 39 = .ok (.ldc_w 280, 3) := by decide +kernel
theorem dX10_rest_42 : decode cX10_rest 42 = .ok (.goto 20, 3) := by decide +kernel
theorem dX10_rest_45 : decode cX10_rest 45 = .ok (.iload_n 2, 1) := by decide +kernel
theorem dX10_rest_46 : decode cX10_rest 46 = .ok (.iconst (-1), 1) := by decide +kernel
theorem dX10_rest_47 : decode cX10_rest 47 = .ok (.if_icmp .ne 7, 3) := by decide +kernel
theorem dX10_rest_50 : decode cX10_rest 50 = .ok (.iconst 0, 1) := by decide +kernel
theorem dX10_rest_51 : decode cX10_rest 51 = .ok (.goto 11, 3) := by decide +kernel
theorem dX10_rest_54 : decode cX10_rest 54 = .ok (.aload_n 0, 1) := by decide +kernel
theorem dX10_rest_55 : decode cX10_rest 55 = .ok (.getfield 72, 3) := by decide +kernel
theorem dX10_rest_58 : decode cX10_rest 58 = .ok (.iload_n 1, 1) := by decide +kernel
theorem dX10_rest_59 : decode cX10_rest 59 = .ok (.iaload, 1) := by decide +kernel
theorem dX10_rest_60 : decode cX10_rest 60 = .ok (.iload_n 2, 1) := by decide +kernel
theorem dX10_rest_61 : decode cX10_rest 61 = .ok (.irem, 1) := by decide +kernel
theorem dX10_rest_62 : decode cX10_rest 62 = .ok (.ireturn, 1) := by decide +kernel
theorem dX10_tell_0 : decode cX10_tell 0 = .ok (.aload_n 0, 1) := by decide +kernel
theorem dX10_tell_1 : decode cX10_tell 1 = .ok (.getfield 281, 3) := by decide +kernel
theorem dX10_tell_4 : decode cX10_tell 4 = .ok (.bipush 60, 2) := by decide +kernel
theorem dX10_tell_6 : decode cX10_tell 6 = .ok (.if_icmp .ne 6, 3) := by decide +kernel
theorem dX10_tell_9 : decode cX10_tell 9 = .ok (.ldc 96, 2) := by decide +kernel
theorem dX10_tell_11 : decode cX10_tell 11 = .ok (.ireturn, 1) := by decide +kernel
theorem dX10_tell_12 : decode cX10_tell 12 = .ok (.aload_n 0, 1) := by decide +kernel
theorem dX10_tell_13 : decode cX10_tell 13 = .ok (.getfield 84, 3) := by decide +kernel
theorem dX10_tell_16 : decode cX10_tell 16 = .ok (.aload_n 0, 1) := by decide +kernel
theorem dX10_tell_17 : decode cX10_tell 17 = .ok (.getfield 281, 3) := by decide +kernel
theorem dX10_tell_20 : decode cX10_tell 20 = .ok (.iload_n 1, 1) := by decide +kernel
theorem dX10_tell_21 : decode cX10_tell 21 = .ok (.iastore, 1) := by decide +kernel
theorem dX10_tell_22 : decode cX10_tell 22 = .ok (.aload_n 0, 1) := by decide +kernel
theorem dX10_tell_23 : decode cX10_tell 23 = .ok (.dup, 1) := by decide +kernel
theorem dX10_tell_24 : decode cX10_tell 24 = .ok (.getfield 281, 3) := by decide +kernel
theorem dX10_tell_27 : decode cX10_tell 27 = .ok (.iconst 1, 1) := by decide +kernel
theorem dX10_tell_28 : decode cX10_tell 28 = .ok (.iadd, 1) := by decide +kernel
theorem dX10_tell_29 : decode cX10_tell 29 = .ok (.putfield 281, 3) := by decide +kernel
theorem dX10_tell_32 : decode cX10_tell 32 = .ok (.aload_n 0, 1) := by decide +kernel
theorem dX10_tell_33 : decode cX10_tell 33 = .ok (.getfield 281, 3) := by decide +kernel
theorem dX10_tell_36 : decode cX10_tell 36 = .ok (.ireturn, 1) := by decide +kernel
theorem dX10_check_0 : decode cX10_check 0 = .ok (.aload_n 0, 1) := by decide +kernel
theorem dX10_check_1 : decode cX10_check 1 = .ok (.getfield 281, 3) := by decide +kernel
theorem dX10_check_4 : decode cX10_check 4 = .ok (.istore_n 2, 1) := by decide +kernel
theorem dX10_check_5 : decode cX10_check 5 = .ok (.aload_n 0, 1) := by decide +kernel
theorem dX10_check_6 : decode cX10_check 6 = .ok (.iconst 0, 1) := by decide +kernel
theorem dX10_check_7 : decode cX10_check 7 = .ok (.putfield 281, 3) := by decide +kernel
theorem dX10_check_10 : decode cX10_check 10 = .ok (.iload_n 1, 1) := by decide +kernel
theorem dX10_check_11 : decode cX10_check 11 = .ok (.iconst 1, 1) := by decide +kernel
theorem dX10_check_12 : decode cX10_check 12 = .ok (.bipush 30, 2) := by decide +kernel
theorem dX10_check_14 : decode cX10_check 14 = .ok (.invokestatic 87, 3) := by decide +kernel
theorem dX10_check_17 : decode cX10_check 17 = .ok (.ifCond .ne 6, 3) := by decide +kernel
theorem dX10_check_20 : decode cX10_check 20 = .ok (.ldc 95, 2) := by decide +kernel
theorem dX10_check_22 : decode cX10_check 22 = .ok (.ireturn, 1) := by decide +kernel
theorem dX10_check_23 : decode cX10_check 23 = .ok (.aload_n 0, 1) := by decide +kernel
theorem dX10_check_24 : decode cX10_check 24 = .ok (.getfield 284, 3) := by decide +kernel
theorem dX10_check_27 : decode cX10_check 27 = .ok (.ifCond .ne 7, 3) := by decide +kernel
theorem dX10_check_30 : decode cX10_check 30 = .ok (.ldc_w 280, 3) := by decide +kernel
theorem dX10_check_33 : decode cX10_check 33 = .ok (.ireturn, 1) := by decide +kernel
theorem dX10_check_34 : decode cX10_check 34 = .ok (.aload_n 0, 1) := by decide +kernel
theorem dX10_check_35 : decode cX10_check 35 = .ok (.getfield 9, 3) := by decide +kernel
theorem dX10_check_38 : decode cX10_check 38 = .ok (.aload_n 0, 1) := by decide +kernel
theorem dX10_check_39 : decode cX10_check 39 = .ok (.getfield 16, 3) := by decide +kernel
theorem dX10_check_42 : decode cX10_check 42 = .ok (.invokestatic 288, 3) := by decide +kernel
theorem dX10_check_45 : decode cX10_check 45 = .ok (.aload_n 0, 1) := by decide +kernel
theorem dX10_check_46 : decode cX10_check 46 = .ok (.getfield 13, 3) := by decide +kernel
theorem dX10_check_49 : decode cX10_check 49 = .ok (.aload_n 0, 1) := by decide +kernel
theorem dX10_check_50 : decode cX10_check 50 = .ok (.getfield 9, 3) := by decide +kernel
theorem dX10_check_53 : decode cX10_check 53 = .ok (.invokestatic 288, 3) := by decide +kernel
theorem dX10_check_56 : decode cX10_check 56 = .ok (.iconst 2, 1) := by decide +kernel
theorem dX10_check_57 : decode cX10_check 57 = .ok (.sipush 9999, 3) := by decide +kernel
theorem dX10_check_60 : decode cX10_check 60 = .ok (.aload_n 0, 1) := by decide +kernel
theorem dX10_check_61 : decode cX10_check 61 = .ok (.getfield 9, 3) := by decide +kernel
theorem dX10_check_64 : decode cX10_check 64 = .ok (.iconst 2, 1) := by decide +kernel
theorem dX10_check_65 : decode cX10_check 65 = .ok (.iaload, 1) := by decide +kernel
theorem dX10_check_66 : decode cX10_check 66 = .ok (.isub, 1) := by decide +kernel
theorem dX10_check_67 : decode cX10_check 67 = .ok (.iconst 0, 1) := by decide +kernel
theorem dX10_check_68 : decode cX10_check 68 = .ok (.iload_n 1, 1) := by decide +kernel
theorem dX10_check_69 : decode cX10_check 69 = .ok (.invokestatic 112, 3) := by decide +kernel
theorem dX10_check_72 : decode cX10_check 72 = .ok (.imul, 1) := by decide +kernel
theorem dX10_check_73 : decode cX10_check 73 = .ok (.istore_n 3, 1) := by decide +kernel
theorem dX10_check_74 : decode cX10_check 74 = .ok (.iconst 0, 1) := by decide +kernel
theorem dX10_check_75 : decode cX10_check 75 = .ok (.istore 4, 2) := by decide +kernel
theorem dX10_check_77 : decode cX10_check 77 = .ok (.iconst 0, 1) := by decide +kernel
theorem dX10_check_78 : decode cX10_check 78 = .ok (.istore 5, 2) := by decide +kernel
theorem dX10_check_80 : decode cX10_check 80 = .ok (.iconst 2, 1) := by decide +kernel
theorem dX10_check_81 : decode cX10_check 81 = .ok (.iload 5, 2) := by decide +kernel
theorem dX10_check_83 : decode cX10_check 83 = .ok (.imul, 1) := by decide +kernel
theorem dX10_check_84 : decode cX10_check 84 = .ok (.iload_n 3, 1) := by decide +kernel
theorem dX10_check_85 : decode cX10_check 85 = .ok (.if_icmp .ge 96, 3) := by decide +kernel
theorem dX10_check_88 : decode cX10_check 88 = .ok (.iload 4, 2) := by decide +kernel
theorem dX10_check_90 : decode cX10_check 90 = .ok (.iconst 2, 1) := by decide +kernel
theorem dX10_check_91 : decode cX10_check 91 = .ok (.iload 5, 2) := by decide +kernel
theorem dX10_check_93 : decode cX10_check 93 = .ok (.imul, 1) := by decide +kernel
theorem dX10_check_94 : decode cX10_check 94 = .ok (.if_icmp .ne 87, 3) := by decide +kernel
theorem dX10_check_97 : decode cX10_check 97 = .ok (.aload_n 0, 1) := by decide +kernel
theorem dX10_check_98 : decode cX10_check 98 = .ok (.invokevirtual 161, 3) := by decide +kernel
theorem dX10_check_101 : decode cX10_check 101 = .ok (.istore 6, 2) := by decide +kernel
theorem dX10_check_103 : decode cX10_check 103 = .ok (.iload 4, 2) := by decide +kernel
theorem dX10_check_105 : decode cX10_check 105 = .ok (.iload 4, 2) := by decide +kernel
theorem dX10_check_107 : decode cX10_check 107 = .ok (.iload_n 2, 1) := by decide +kernel
theorem dX10_check_108 : decode cX10_check 108 = .ok (.if_icmp .ge 22, 3) := by decide +kernel
theorem dX10_check_111 : decode cX10_check 111 = .ok (.aload_n 0, 1) := by decide +kernel
theorem dX10_check_112 : decode cX10_check 112 = .ok (.getfield 84, 3) := by decide +kernel
theorem dX10_check_115 : decode cX10_check 115 = .ok (.iload 4, 2) := by decide +kernel
theorem dX10_check_117 : decode cX10_check 117 = .ok (.iaload, 1) := by decide +kernel
theorem dX10_check_118 : decode cX10_check 118 = .ok (.aload_n 0, 1) := by decide +kernel
theorem dX10_check_119 : decode cX10_check 119 = .ok (.iconst 0, 1) := by decide +kernel
theorem dX10_check_120 : decode cX10_check 120 = .ok (.invokevirtual 167, 3) := by decide +kernel
theorem dX10_check_123 : decode cX10_check 123 = .ok (.if_icmp .ne 7, 3) := by decide +kernel
theorem dX10_check_126 : decode cX10_check 126 = .ok (.iconst 1, 1) := by decide +kernel
theorem dX10_check_127 : decode cX10_check 127 = .ok (.goto 4, 3) := by decide +kernel
theorem dX10_check_130 : decode cX10_check 130 = .ok (.iconst 0, 1) := by decide +kernel
theorem dX10_check_131 : decode cX10_check 131 = .ok (.iadd, 1) := by decide +kernel
theorem dX10_check_132 : decode cX10_check 132 = .ok (.istore 4, 2) := by decide +kernel
theorem dX10_check_134 : decode cX10_check 134 = .ok (.iload 4, 2) := by decide +kernel
theorem dX10_check_136 : decode cX10_check 136 = .ok (.iload 4, 2) := by decide +kernel
theorem dX10_check_138 : decode cX10_check 138 = .ok (.iconst 2, 1) := by decide +kernel
theorem dX10_check_139 : decode cX10_check 139 = .ok (.iload 5, 2) := by decide +kernel
theorem dX10_check_141 : decode cX10_check 141 = .ok (.imul, 1) := by decide +kernel
theorem dX10_check_142 : decode cX10_check 142 = .ok (.iconst 1, 1) := by decide +kernel
theorem dX10_check_143 : decode cX10_check 143 = .ok (.iadd, 1) := by decide +kernel
theorem dX10_check_144 : decode cX10_check 144 = .ok (.if_icmp .ne 27, 3) := by decide +kernel
theorem dX10_check_147 : decode cX10_check 147 = .ok (.iload 4, 2) := by decide +kernel
theorem dX10_check_149 : decode cX10_check 149 = .ok (.iload_n 2, 1) := by decide +kernel
theorem dX10_check_150 : decode cX10_check 150 = .ok (.if_icmp .ge 21, 3) := by decide +kernel
theorem dX10_check_153 : decode cX10_check 153 = .ok (.aload_n 0, 1) := by decide +kernel
theorem dX10_check_154 : decode cX10_check 154 = .ok (.getfield 84, 3) := by decide +kernel
theorem dX10_check_157 : decode cX10_check 157 = .ok (.iload 4, 2) := by decide +kernel
theorem dX10_check_159 : decode cX10_check 159 = .ok (.iaload, 1) := by decide +kernel
theorem dX10_check_160 : decode cX10_check 160 = .ok (.aload_n 0, 1) := by decide +kernel
theorem dX10_check_161 : decode cX10_check 161 = .ok (.invokevirtual 170, 3) := by decide +kernel
theorem dX10_check_164 : decode cX10_check 164 = .ok (.if_icmp .ne 7, 3) := by decide +kernel
theorem dX10_check_167 : decode cX10_check 167 = .ok (.iconst 1, 1) := by decide +kernel
theorem dX10_check_168 : decode cX10_check 168 = .ok (.goto 4, 3) := by decide +kernel
theorem dX10_check_171 : decode cX10_check 171 = .ok (.iconst 0, 1) := by decide +kernel
theorem dX10_check_172 : decode cX10_check 172 = .ok (.iadd, 1) := by decide +kernel
theorem dX10_check_173 : decode cX10_check 173 = .ok (.istore 4, 2) := by decide +kernel
theorem dX10_check_175 : decode cX10_check 175 = .ok (.iinc 5 1, 3) := by decide +kernel
theorem dX10_check_178 : decode cX10_check 178 = .ok (.goto (-98), 3) := by decide +kernel
theorem dX10_check_181 : decode cX10_check 181 = .ok (.aload_n 0, 1) := by decide +kernel
theorem dX10_check_182 : decode cX10_check 182 = .ok (.getfield 16, 3) := by decide +kernel
theorem dX10_check_185 : decode cX10_check 185 = .ok (.aload_n 0, 1) := by decide +kernel
theorem dX10_check_186 : decode cX10_check 186 = .ok (.getfield 9, 3) := by decide +kernel
theorem dX10_check_189 : decode cX10_check 189 = .ok (.invokestatic 288, 3) := by decide +kernel
theorem dX10_check_192 : decode cX10_check 192 = .ok (.iload 4, 2) := by decide +kernel
theorem dX10_check_194 : decode cX10_check 194 = .ok (.iload_n 2, 1) := by decide +kernel
theorem dX10_check_195 : decode cX10_check 195 = .ok (.if_icmp .ne 13, 3) := by decide +kernel
theorem dX10_check_198 : decode cX10_check 198 = .ok (.iload 4, 2) := by decide +kernel
theorem dX10_check_200 : decode cX10_check 200 = .ok (.iload_n 3, 1) := by decide +kernel
theorem dX10_check_201 : decode cX10_check 201 = .ok (.if_icmp .ne 7, 3) := by decide +kernel
theorem dX10_check_204 : decode cX10_check 204 = .ok (.iconst 0, 1) := by decide +kernel
theorem dX10_check_205 : decode cX10_check 205 = .ok (.goto 7, 3) := by decide +kernel
theorem dX10_check_208 : decode cX10_check 208 = .ok (.iconst 1, 1) := by decide +kernel
theorem dX10_check_209 : decode cX10_check 209 = .ok (.iload 4, 2) := by decide +kernel
theorem dX10_check_211 : decode cX10_check 211 = .ok (.iadd, 1) := by decide +kernel
theorem dX10_check_212 : decode cX10_check 212 = .ok (.ireturn, 1) := by decide +kernel
theorem dX10_keep_0 : decode cX10_keep 0 = .ok (.aload_n 0, 1) := by decide +kernel
theorem dX10_keep_1 : decode cX10_keep 1 = .ok (.getfield 9, 3) := by decide +kernel
theorem dX10_keep_4 : decode cX10_keep 4 = .ok (.aload_n 0, 1) := by decide +kernel
theorem dX10_keep_5 : decode cX10_keep 5 = .ok (.getfield 13, 3) := by decide +kernel
theorem dX10_keep_8 : decode cX10_keep 8 = .ok (.invokestatic 288, 3) := by decide +kernel
theorem dX10_keep_11 : decode cX10_keep 11 = .ok (.aload_n 0, 1) := by decide +kernel
theorem dX10_keep_12 : decode cX10_keep 12 = .ok (.iconst 1, 1) := by decide +kernel
theorem dX10_keep_13 : decode cX10_keep 13 = .ok (.putfield 284, 3) := by decide +kernel
theorem dX10_keep_16 : decode cX10_keep 16 = .ok (.aload_n 0, 1) := by decide +kernel
theorem dX10_keep_17 : decode cX10_keep 17 = .ok (.getfield 9, 3) := by decide +kernel
theorem dX10_keep_20 : decode cX10_keep 20 = .ok (.iconst 1, 1) := by decide +kernel
theorem dX10_keep_21 : decode cX10_keep 21 = .ok (.iaload, 1) := by decide +kernel
theorem dX10_keep_22 : decode cX10_keep 22 = .ok (.ireturn, 1) := by decide +kernel
theorem dX10_back_0 : decode cX10_back 0 = .ok (.aload_n 0, 1) := by decide +kernel
theorem dX10_back_1 : decode cX10_back 1 = .ok (.getfield 284, 3) := by decide +kernel
theorem dX10_back_4 : decode cX10_back 4 = .ok (.ifCond .ne 7, 3) := by decide +kernel
theorem dX10_back_7 : decode cX10_back 7 = .ok (.ldc_w 280, 3) := by decide +kernel
theorem dX10_back_10 : decode cX10_back 10 = .ok (.ireturn, 1) := by decide +kernel
theorem dX10_back_11 : decode cX10_back 11 = .ok (.aload_n 0, 1) := by decide +kernel
theorem dX10_back_12 : decode cX10_back 12 = .ok (.getfield 13, 3) := by decide +kernel
theorem dX10_back_15 : decode cX10_back 15 = .ok (.aload_n 0, 1) := by decide +kernel
theorem dX10_back_16 : decode cX10_back 16 = .ok (.getfield 9, 3) := by decide +kernel
theorem dX10_back_19 : decode cX10_back 19 = .ok (.invokestatic 288, 3) := by decide +kernel
theorem dX10_back_22 : decode cX10_back 22 = .ok (.aload_n 0, 1) := by decide +kernel
theorem dX10_back_23 : decode cX10_back 23 = .ok (.getfield 9, 3) := by decide +kernel
theorem dX10_back_26 : decode cX10_back 26 = .ok (.iconst 1, 1) := by decide +kernel
theorem dX10_back_27 : decode cX10_back 27 = .ok (.iaload, 1) := by decide +kernel
theorem dX10_back_28 : decode cX10_back 28 = .ok (.ireturn, 1) := by decide +kernel
theorem dX10_count_0 : decode cX10_count 0 = .ok (.iload_n 1, 1) := by decide +kernel
theorem dX10_count_1 : decode cX10_count 1 = .ok (.tableswitch 103 0 8 #[51, 58, 66, 66, 73, 79, 86, 91, 96], 51) := by decide +kernel
theorem dX10_count_52 : decode cX10_count 52 = .ok (.aload_n 0, 1) := by decide +kernel
theorem dX10_count_53 : decode cX10_count 53 = .ok (.getfield 9, 3) := by decide +kernel
theorem dX10_count_56 : decode cX10_count 56 = .ok (.iconst 1, 1) := by decide +kernel
theorem dX10_count_57 : decode cX10_count 57 = .ok (.iaload, 1) := by decide +kernel
theorem dX10_count_58 : decode cX10_count 58 = .ok (.ireturn, 1) := by decide +kernel
theorem dX10_count_59 : decode cX10_count 59 = .ok (.aload_n 0, 1) := by decide +kernel
theorem dX10_count_60 : decode cX10_count 60 = .ok (.invokevirtual 173, 3) := by decide +kernel
theorem dX10_count_63 : decode cX10_count 63 = .ok (.invokestatic 187, 3) := by decide +kernel
theorem dX10_count_66 : decode cX10_count 66 = .ok (.ireturn, 1) := by decide +kernel
theorem dX10_count_67 : decode cX10_count 67 = .ok (.aload_n 0, 1) := by decide +kernel
theorem dX10_count_68 : decode cX10_count 68 = .ok (.getfield 9, 3) := by decide +kernel
theorem dX10_count_71 : decode cX10_count 71 = .ok (.iload_n 1, 1) := by decide +kernel
theorem dX10_count_72 : decode cX10_count 72 = .ok (.iaload, 1) := by decide +kernel
theorem dX10_count_73 : decode cX10_count 73 = .ok (.ireturn, 1) := by decide +kernel
theorem dX10_count_74 : decode cX10_count 74 = .ok (.aload_n 0, 1) := by decide +kernel
theorem dX10_count_75 : decode cX10_count 75 = .ok (.iconst 3, 1) := by decide +kernel
theorem dX10_count_76 : decode cX10_count 76 = .ok (.invokevirtual 167, 3) := by decide +kernel
theorem dX10_count_79 : decode cX10_count 79 = .ok (.ireturn, 1) := by decide +kernel
theorem dX10_count_80 : decode cX10_count 80 = .ok (.aload_n 0, 1) := by decide +kernel
theorem dX10_count_81 : decode cX10_count 81 = .ok (.getfield 9, 3) := by decide +kernel
theorem dX10_count_84 : decode cX10_count 84 = .ok (.iconst 5, 1) := by decide +kernel
theorem dX10_count_85 : decode cX10_count 85 = .ok (.iaload, 1) := by decide +kernel
theorem dX10_count_86 : decode cX10_count 86 = .ok (.ireturn, 1) := by decide +kernel
theorem dX10_count_87 : decode cX10_count 87 = .ok (.aload_n 0, 1) := by decide +kernel
theorem dX10_count_88 : decode cX10_count 88 = .ok (.getfield 281, 3) := by decide +kernel
theorem dX10_count_91 : decode cX10_count 91 = .ok (.ireturn, 1) := by decide +kernel
theorem dX10_count_92 : decode cX10_count 92 = .ok (.aload_n 0, 1) := by decide +kernel
theorem dX10_count_93 : decode cX10_count 93 = .ok (.getfield 205, 3) := by decide +kernel
theorem dX10_count_96 : decode cX10_count 96 = .ok (.ireturn, 1) := by decide +kernel
theorem dX10_count_97 : decode cX10_count 97 = .ok (.aload_n 0, 1) := by decide +kernel
theorem dX10_count_98 : decode cX10_count 98 = .ok (.getfield 9, 3) := by decide +kernel
theorem dX10_count_101 : decode cX10_count 101 = .ok (.iconst 0, 1) := by decide +kernel
theorem dX10_count_102 : decode cX10_count 102 = .ok (.iaload, 1) := by decide +kernel
theorem dX10_count_103 : decode cX10_count 103 = .ok (.ireturn, 1) := by decide +kernel
theorem dX10_count_104 : decode cX10_count 104 = .ok (.ldc 95, 2) := by decide +kernel
theorem dX10_count_106 : decode cX10_count 106 = .ok (.ireturn, 1) := by decide +kernel
end
section
theorem dL_law_0 : decode cL_law 0 = .ok (.new 7, 3) := by decide +kernel
theorem dL_law_3 : decode cL_law 3 = .ok (.dup, 1) := by decide +kernel
theorem dL_law_4 : decode cL_law 4 = .ok (.invokespecial 9, 3) := by decide +kernel
theorem dL_law_7 : decode cL_law 7 = .ok (.astore_n 1, 1) := by decide +kernel
theorem dL_law_8 : decode cL_law 8 = .ok (.new 10, 3) := by decide +kernel
theorem dL_law_11 : decode cL_law 11 = .ok (.dup, 1) := by decide +kernel
theorem dL_law_12 : decode cL_law 12 = .ok (.invokespecial 12, 3) := by decide +kernel
theorem dL_law_15 : decode cL_law 15 = .ok (.astore_n 2, 1) := by decide +kernel
theorem dL_law_16 : decode cL_law 16 = .ok (.iconst 0, 1) := by decide +kernel
theorem dL_law_17 : decode cL_law 17 = .ok (.istore_n 3, 1) := by decide +kernel
theorem dL_law_18 : decode cL_law 18 = .ok (.iload_n 3, 1) := by decide +kernel
theorem dL_law_19 : decode cL_law 19 = .ok (.aload_n 0, 1) := by decide +kernel
theorem dL_law_20 : decode cL_law 20 = .ok (.arraylength, 1) := by decide +kernel
theorem dL_law_21 : decode cL_law 21 = .ok (.bipush 6, 2) := by decide +kernel
theorem dL_law_23 : decode cL_law 23 = .ok (.isub, 1) := by decide +kernel
theorem dL_law_24 : decode cL_law 24 = .ok (.if_icmp .gt 1400, 3) := by decide +kernel
theorem dL_law_27 : decode cL_law 27 = .ok (.aload_n 0, 1) := by decide +kernel
theorem dL_law_28 : decode cL_law 28 = .ok (.iload_n 3, 1) := by decide +kernel
theorem dL_law_29 : decode cL_law 29 = .ok (.iaload, 1) := by decide +kernel
theorem dL_law_30 : decode cL_law 30 = .ok (.bipush 63, 2) := by decide +kernel
theorem dL_law_32 : decode cL_law 32 = .ok (.iand, 1) := by decide +kernel
theorem dL_law_33 : decode cL_law 33 = .ok (.tableswitch 1385 0 39 #[175, 228, 261, 294, 327, 360, 393, 436, 459, 482, 505, 528, 551, 574, 617, 630, 673, 706, 739, 762, 805, 818, 861, 884, 897, 930, 953, 996, 1039, 1062, 1085, 1148, 1191, 1224, 1257, 1290, 1313, 1336, 1349, 1362], 175) := by decide +kernel
theorem dL_law_208 : decode cL_law 208 = .ok (.aload_n 1, 1) := by decide +kernel
theorem dL_law_209 : decode cL_law 209 = .ok (.aload_n 0, 1) := by decide +kernel
theorem dL_law_210 : decode cL_law 210 = .ok (.iload_n 3, 1) := by decide +kernel
theorem dL_law_211 : decode cL_law 211 = .ok (.iconst 1, 1) := by decide +kernel
theorem dL_law_212 : decode cL_law 212 = .ok (.iadd, 1) := by decide +kernel
theorem dL_law_213 : decode cL_law 213 = .ok (.iaload, 1) := by decide +kernel
theorem dL_law_214 : decode cL_law 214 = .ok (.aload_n 0, 1) := by decide +kernel
theorem dL_law_215 : decode cL_law 215 = .ok (.iload_n 3, 1) := by decide +kernel
theorem dL_law_216 : decode cL_law 216 = .ok (.iconst 2, 1) := by decide +kernel
theorem dL_law_217 : decode cL_law 217 = .ok (.iadd, 1) := by decide +kernel
theorem dL_law_218 : decode cL_law 218 = .ok (.iaload, 1) := by decide +kernel
theorem dL_law_219 : decode cL_law 219 = .ok (.aload_n 0, 1) := by decide +kernel
theorem dL_law_220 : decode cL_law 220 = .ok (.iload_n 3, 1) := by decide +kernel
theorem dL_law_221 : decode cL_law 221 = .ok (.iconst 3, 1) := by decide +kernel
theorem dL_law_222 : decode cL_law 222 = .ok (.iadd, 1) := by decide +kernel
theorem dL_law_223 : decode cL_law 223 = .ok (.iaload, 1) := by decide +kernel
theorem dL_law_224 : decode cL_law 224 = .ok (.aload_n 0, 1) := by decide +kernel
theorem dL_law_225 : decode cL_law 225 = .ok (.iload_n 3, 1) := by decide +kernel
theorem dL_law_226 : decode cL_law 226 = .ok (.iconst 4, 1) := by decide +kernel
theorem dL_law_227 : decode cL_law 227 = .ok (.iadd, 1) := by decide +kernel
theorem dL_law_228 : decode cL_law 228 = .ok (.iaload, 1) := by decide +kernel
theorem dL_law_229 : decode cL_law 229 = .ok (.invokevirtual 13, 3) := by decide +kernel
theorem dL_law_232 : decode cL_law 232 = .ok (.aload_n 2, 1) := by decide +kernel
theorem dL_law_233 : decode cL_law 233 = .ok (.aload_n 0, 1) := by decide +kernel
theorem dL_law_234 : decode cL_law 234 = .ok (.iload_n 3, 1) := by decide +kernel
theorem dL_law_235 : decode cL_law 235 = .ok (.iconst 1, 1) := by decide +kernel
theorem dL_law_236 : decode cL_law 236 = .ok (.iadd, 1) := by decide +kernel
theorem dL_law_237 : decode cL_law 237 = .ok (.iaload, 1) := by decide +kernel
theorem dL_law_238 : decode cL_law 238 = .ok (.aload_n 0, 1) := by decide +kernel
theorem dL_law_239 : decode cL_law 239 = .ok (.iload_n 3, 1) := by decide +kernel
theorem dL_law_240 : decode cL_law 240 = .ok (.iconst 2, 1) := by decide +kernel
theorem dL_law_241 : decode cL_law 241 = .ok (.iadd, 1) := by decide +kernel
theorem dL_law_242 : decode cL_law 242 = .ok (.iaload, 1) := by decide +kernel
theorem dL_law_243 : decode cL_law 243 = .ok (.aload_n 0, 1) := by decide +kernel
theorem dL_law_244 : decode cL_law 244 = .ok (.iload_n 3, 1) := by decide +kernel
theorem dL_law_245 : decode cL_law 245 = .ok (.iconst 3, 1) := by decide +kernel
theorem dL_law_246 : decode cL_law 246 = .ok (.iadd, 1) := by decide +kernel
theorem dL_law_247 : decode cL_law 247 = .ok (.iaload, 1) := by decide +kernel
theorem dL_law_248 : decode cL_law 248 = .ok (.aload_n 0, 1) := by decide +kernel
theorem dL_law_249 : decode cL_law 249 = .ok (.iload_n 3, 1) := by decide +kernel
theorem dL_law_250 : decode cL_law 250 = .ok (.iconst 4, 1) := by decide +kernel
theorem dL_law_251 : decode cL_law 251 = .ok (.iadd, 1) := by decide +kernel
theorem dL_law_252 : decode cL_law 252 = .ok (.iaload, 1) := by decide +kernel
theorem dL_law_253 : decode cL_law 253 = .ok (.invokevirtual 17, 3) := by decide +kernel
theorem dL_law_256 : decode cL_law 256 = .ok (.if_icmp .eq 1162, 3) := by decide +kernel
theorem dL_law_259 : decode cL_law 259 = .ok (.iconst 0, 1) := by decide +kernel
theorem dL_law_260 : decode cL_law 260 = .ok (.ireturn, 1) := by decide +kernel
theorem dL_law_261 : decode cL_law 261 = .ok (.aload_n 1, 1) := by decide +kernel
theorem dL_law_262 : decode cL_law 262 = .ok (.aload_n 0, 1) := by decide +kernel
theorem dL_law_263 : decode cL_law 263 = .ok (.iload_n 3, 1) := by decide +kernel
theorem dL_law_264 : decode cL_law 264 = .ok (.iconst 1, 1) := by decide +kernel
theorem dL_law_265 : decode cL_law 265 = .ok (.iadd, 1) := by decide +kernel
theorem dL_law_266 : decode cL_law 266 = .ok (.iaload, 1) := by decide +kernel
theorem dL_law_267 : decode cL_law 267 = .ok (.aload_n 0, 1) := by decide +kernel
theorem dL_law_268 : decode cL_law 268 = .ok (.iload_n 3, 1) := by decide +kernel
theorem dL_law_269 : decode cL_law 269 = .ok (.iconst 2, 1) := by decide +kernel
theorem dL_law_270 : decode cL_law 270 = .ok (.iadd, 1) := by decide +kernel
theorem dL_law_271 : decode cL_law 271 = .ok (.iaload, 1) := by decide +kernel
theorem dL_law_272 : decode cL_law 272 = .ok (.invokevirtual 18, 3) := by decide +kernel
theorem dL_law_275 : decode cL_law 275 = .ok (.aload_n 2, 1) := by decide +kernel
theorem dL_law_276 : decode cL_law 276 = .ok (.aload_n 0, 1) := by decide +kernel
theorem dL_law_277 : decode cL_law 277 = .ok (.iload_n 3, 1) := by decide +kernel
theorem dL_law_278 : decode cL_law 278 = .ok (.iconst 1, 1) := by decide +kernel
theorem dL_law_279 : decode cL_law 279 = .ok (.iadd, 1) := by decide +kernel
theorem dL_law_280 : decode cL_law 280 = .ok (.iaload, 1) := by decide +kernel
theorem dL_law_281 : decode cL_law 281 = .ok (.aload_n 0, 1) := by decide +kernel
theorem dL_law_282 : decode cL_law 282 = .ok (.iload_n 3, 1) := by decide +kernel
theorem dL_law_283 : decode cL_law 283 = .ok (.iconst 2, 1) := by decide +kernel
theorem dL_law_284 : decode cL_law 284 = .ok (.iadd, 1) := by decide +kernel
theorem dL_law_285 : decode cL_law 285 = .ok (.iaload, 1) := by decide +kernel
theorem dL_law_286 : decode cL_law 286 = .ok (.invokevirtual 22, 3) := by decide +kernel
theorem dL_law_289 : decode cL_law 289 = .ok (.if_icmp .eq 1129, 3) := by decide +kernel
theorem dL_law_292 : decode cL_law 292 = .ok (.iconst 0, 1) := by decide +kernel
theorem dL_law_293 : decode cL_law 293 = .ok (.ireturn, 1) := by decide +kernel
theorem dL_law_294 : decode cL_law 294 = .ok (.aload_n 1, 1) := by decide +kernel
theorem dL_law_295 : decode cL_law 295 = .ok (.aload_n 0, 1) := by decide +kernel
theorem dL_law_296 : decode cL_law 296 = .ok (.iload_n 3, 1) := by decide +kernel
theorem dL_law_297 : decode cL_law 297 = .ok (.iconst 1, 1) := by decide +kernel
theorem dL_law_298 : decode cL_law 298 = .ok (.iadd, 1) := by decide +kernel
theorem dL_law_299 : decode cL_law 299 = .ok (.iaload, 1) := by decide +kernel
theorem dL_law_300 : decode cL_law 300 = .ok (.aload_n 0, 1) := by decide +kernel
theorem dL_law_301 : decode cL_law 301 = .ok (.iload_n 3, 1) := by decide +kernel
theorem dL_law_302 : decode cL_law 302 = .ok (.iconst 2, 1) := by decide +kernel
theorem dL_law_303 : decode cL_law 303 = .ok (.iadd, 1) := by decide +kernel
theorem dL_law_304 : decode cL_law 304 = .ok (.iaload, 1) := by decide +kernel
theorem dL_law_305 : decode cL_law 305 = .ok (.invokevirtual 23, 3) := by decide +kernel
theorem dL_law_308 : decode cL_law 308 = .ok (.aload_n 2, 1) := by decide +kernel
theorem dL_law_309 : decode cL_law 309 = .ok (.aload_n 0, 1) := by decide +kernel
theorem dL_law_310 : decode cL_law 310 = .ok (.iload_n 3, 1) := by decide +kernel
theorem dL_law_311 : decode cL_law 311 = .ok (.iconst 1, 1) := by decide +kernel
theorem dL_law_312 : decode cL_law 312 = .ok (.iadd, 1) := by decide +kernel
theorem dL_law_313 : decode cL_law 313 = .ok (.iaload, 1) := by decide +kernel
theorem dL_law_314 : decode cL_law 314 = .ok (.aload_n 0, 1) := by decide +kernel
theorem dL_law_315 : decode cL_law 315 = .ok (.iload_n 3, 1) := by decide +kernel
theorem dL_law_316 : decode cL_law 316 = .ok (.iconst 2, 1) := by decide +kernel
theorem dL_law_317 : decode cL_law 317 = .ok (.iadd, 1) := by decide +kernel
theorem dL_law_318 : decode cL_law 318 = .ok (.iaload, 1) := by decide +kernel
theorem dL_law_319 : decode cL_law 319 = .ok (.invokevirtual 26, 3) := by decide +kernel
theorem dL_law_322 : decode cL_law 322 = .ok (.if_icmp .eq 1096, 3) := by decide +kernel
theorem dL_law_325 : decode cL_law 325 = .ok (.iconst 0, 1) := by decide +kernel
theorem dL_law_326 : decode cL_law 326 = .ok (.ireturn, 1) := by decide +kernel
theorem dL_law_327 : decode cL_law 327 = .ok (.aload_n 1, 1) := by decide +kernel
theorem dL_law_328 : decode cL_law 328 = .ok (.aload_n 0, 1) := by decide +kernel
theorem dL_law_329 : decode cL_law 329 = .ok (.iload_n 3, 1) := by decide +kernel
theorem dL_law_330 : decode cL_law 330 = .ok (.iconst 1, 1) := by decide +kernel
theorem dL_law_331 : decode cL_law 331 = .ok (.iadd, 1) := by decide +kernel
theorem dL_law_332 : decode cL_law 332 = .ok (.iaload, 1) := by decide +kernel
theorem dL_law_333 : decode cL_law 333 = .ok (.aload_n 0, 1) := by decide +kernel
theorem dL_law_334 : decode cL_law 334 = .ok (.iload_n 3, 1) := by decide +kernel
theorem dL_law_335 : decode cL_law 335 = .ok (.iconst 2, 1) := by decide +kernel
theorem dL_law_336 : decode cL_law 336 = .ok (.iadd, 1) := by decide +kernel
theorem dL_law_337 : decode cL_law 337 = .ok (.iaload, 1) := by decide +kernel
theorem dL_law_338 : decode cL_law 338 = .ok (.invokevirtual 27, 3) := by decide +kernel
theorem dL_law_341 : decode cL_law 341 = .ok (.aload_n 2, 1) := by decide +kernel
theorem dL_law_342 : decode cL_law 342 = .ok (.aload_n 0, 1) := by decide +kernel
theorem dL_law_343 : decode cL_law 343 = .ok (.iload_n 3, 1) := by decide +kernel
theorem dL_law_344 : decode cL_law 344 = .ok (.iconst 1, 1) := by decide +kernel
theorem dL_law_345 : decode cL_law 345 = .ok (.iadd, 1) := by decide +kernel
theorem dL_law_346 : decode cL_law 346 = .ok (.iaload, 1) := by decide +kernel
theorem dL_law_347 : decode cL_law 347 = .ok (.aload_n 0, 1) := by decide +kernel
theorem dL_law_348 : decode cL_law 348 = .ok (.iload_n 3, 1) := by decide +kernel
theorem dL_law_349 : decode cL_law 349 = .ok (.iconst 2, 1) := by decide +kernel
theorem dL_law_350 : decode cL_law 350 = .ok (.iadd, 1) := by decide +kernel
theorem dL_law_351 : decode cL_law 351 = .ok (.iaload, 1) := by decide +kernel
theorem dL_law_352 : decode cL_law 352 = .ok (.invokevirtual 30, 3) := by decide +kernel
theorem dL_law_355 : decode cL_law 355 = .ok (.if_icmp .eq 1063, 3) := by decide +kernel
theorem dL_law_358 : decode cL_law 358 = .ok (.iconst 0, 1) := by decide +kernel
theorem dL_law_359 : decode cL_law 359 = .ok (.ireturn, 1) := by decide +kernel
theorem dL_law_360 : decode cL_law 360 = .ok (.aload_n 1, 1) := by decide +kernel
theorem dL_law_361 : decode cL_law 361 = .ok (.aload_n 0, 1) := by decide +kernel
theorem dL_law_362 : decode cL_law 362 = .ok (.iload_n 3, 1) := by decide +kernel
theorem dL_law_363 : decode cL_law 363 = .ok (.iconst 1, 1) := by decide +kernel
theorem dL_law_364 : decode cL_law 364 = .ok (.iadd, 1) := by decide +kernel
theorem dL_law_365 : decode cL_law 365 = .ok (.iaload, 1) := by decide +kernel
theorem dL_law_366 : decode cL_law 366 = .ok (.aload_n 0, 1) := by decide +kernel
theorem dL_law_367 : decode cL_law 367 = .ok (.iload_n 3, 1) := by decide +kernel
theorem dL_law_368 : decode cL_law 368 = .ok (.iconst 2, 1) := by decide +kernel
theorem dL_law_369 : decode cL_law 369 = .ok (.iadd, 1) := by decide +kernel
theorem dL_law_370 : decode cL_law 370 = .ok (.iaload, 1) := by decide +kernel
theorem dL_law_371 : decode cL_law 371 = .ok (.invokevirtual 31, 3) := by decide +kernel
theorem dL_law_374 : decode cL_law 374 = .ok (.aload_n 2, 1) := by decide +kernel
theorem dL_law_375 : decode cL_law 375 = .ok (.aload_n 0, 1) := by decide +kernel
theorem dL_law_376 : decode cL_law 376 = .ok (.iload_n 3, 1) := by decide +kernel
theorem dL_law_377 : decode cL_law 377 = .ok (.iconst 1, 1) := by decide +kernel
theorem dL_law_378 : decode cL_law 378 = .ok (.iadd, 1) := by decide +kernel
theorem dL_law_379 : decode cL_law 379 = .ok (.iaload, 1) := by decide +kernel
theorem dL_law_380 : decode cL_law 380 = .ok (.aload_n 0, 1) := by decide +kernel
theorem dL_law_381 : decode cL_law 381 = .ok (.iload_n 3, 1) := by decide +kernel
theorem dL_law_382 : decode cL_law 382 = .ok (.iconst 2, 1) := by decide +kernel
theorem dL_law_383 : decode cL_law 383 = .ok (.iadd, 1) := by decide +kernel
theorem dL_law_384 : decode cL_law 384 = .ok (.iaload, 1) := by decide +kernel
theorem dL_law_385 : decode cL_law 385 = .ok (.invokevirtual 34, 3) := by decide +kernel
theorem dL_law_388 : decode cL_law 388 = .ok (.if_icmp .eq 1030, 3) := by decide +kernel
theorem dL_law_391 : decode cL_law 391 = .ok (.iconst 0, 1) := by decide +kernel
theorem dL_law_392 : decode cL_law 392 = .ok (.ireturn, 1) := by decide +kernel
theorem dL_law_393 : decode cL_law 393 = .ok (.aload_n 1, 1) := by decide +kernel
theorem dL_law_394 : decode cL_law 394 = .ok (.aload_n 0, 1) := by decide +kernel
theorem dL_law_395 : decode cL_law 395 = .ok (.iload_n 3, 1) := by decide +kernel
theorem dL_law_396 : decode cL_law 396 = .ok (.iconst 1, 1) := by decide +kernel
theorem dL_law_397 : decode cL_law 397 = .ok (.iadd, 1) := by decide +kernel
theorem dL_law_398 : decode cL_law 398 = .ok (.iaload, 1) := by decide +kernel
theorem dL_law_399 : decode cL_law 399 = .ok (.aload_n 0, 1) := by decide +kernel
theorem dL_law_400 : decode cL_law 400 = .ok (.iload_n 3, 1) := by decide +kernel
theorem dL_law_401 : decode cL_law 401 = .ok (.iconst 2, 1) := by decide +kernel
theorem dL_law_402 : decode cL_law 402 = .ok (.iadd, 1) := by decide +kernel
theorem dL_law_403 : decode cL_law 403 = .ok (.iaload, 1) := by decide +kernel
theorem dL_law_404 : decode cL_law 404 = .ok (.invokevirtual 35, 3) := by decide +kernel
theorem dL_law_407 : decode cL_law 407 = .ok (.aload_n 2, 1) := by decide +kernel
theorem dL_law_408 : decode cL_law 408 = .ok (.aload_n 0, 1) := by decide +kernel
theorem dL_law_409 : decode cL_law 409 = .ok (.iload_n 3, 1) := by decide +kernel
theorem dL_law_410 : decode cL_law 410 = .ok (.iconst 1, 1) := by decide +kernel
theorem dL_law_411 : decode cL_law 411 = .ok (.iadd, 1) := by decide +kernel
theorem dL_law_412 : decode cL_law 412 = .ok (.iaload, 1) := by decide +kernel
theorem dL_law_413 : decode cL_law 413 = .ok (.aload_n 0, 1) := by decide +kernel
theorem dL_law_414 : decode cL_law 414 = .ok (.iload_n 3, 1) := by decide +kernel
theorem dL_law_415 : decode cL_law 415 = .ok (.iconst 2, 1) := by decide +kernel
theorem dL_law_416 : decode cL_law 416 = .ok (.iadd, 1) := by decide +kernel
theorem dL_law_417 : decode cL_law 417 = .ok (.iaload, 1) := by decide +kernel
theorem dL_law_418 : decode cL_law 418 = .ok (.invokevirtual 38, 3) := by decide +kernel
theorem dL_law_421 : decode cL_law 421 = .ok (.if_icmp .eq 997, 3) := by decide +kernel
theorem dL_law_424 : decode cL_law 424 = .ok (.iconst 0, 1) := by decide +kernel
theorem dL_law_425 : decode cL_law 425 = .ok (.ireturn, 1) := by decide +kernel
theorem dL_law_426 : decode cL_law 426 = .ok (.aload_n 1, 1) := by decide +kernel
theorem dL_law_427 : decode cL_law 427 = .ok (.aload_n 0, 1) := by decide +kernel
theorem dL_law_428 : decode cL_law 428 = .ok (.iload_n 3, 1) := by decide +kernel
theorem dL_law_429 : decode cL_law 429 = .ok (.iconst 1, 1) := by decide +kernel
theorem dL_law_430 : decode cL_law 430 = .ok (.iadd, 1) := by decide +kernel
theorem dL_law_431 : decode cL_law 431 = .ok (.iaload, 1) := by decide +kernel
theorem dL_law_432 : decode cL_law 432 = .ok (.aload_n 0, 1) := by decide +kernel
theorem dL_law_433 : decode cL_law 433 = .ok (.iload_n 3, 1) := by decide +kernel
theorem dL_law_434 : decode cL_law 434 = .ok (.iconst 2, 1) := by decide +kernel
theorem dL_law_435 : decode cL_law 435 = .ok (.iadd, 1) := by decide +kernel
theorem dL_law_436 : decode cL_law 436 = .ok (.iaload, 1) := by decide +kernel
theorem dL_law_437 : decode cL_law 437 = .ok (.aload_n 0, 1) := by decide +kernel
theorem dL_law_438 : decode cL_law 438 = .ok (.iload_n 3, 1) := by decide +kernel
theorem dL_law_439 : decode cL_law 439 = .ok (.iconst 3, 1) := by decide +kernel
theorem dL_law_440 : decode cL_law 440 = .ok (.iadd, 1) := by decide +kernel
theorem dL_law_441 : decode cL_law 441 = .ok (.iaload, 1) := by decide +kernel
theorem dL_law_442 : decode cL_law 442 = .ok (.invokevirtual 39, 3) := by decide +kernel
theorem dL_law_445 : decode cL_law 445 = .ok (.aload_n 2, 1) := by decide +kernel
theorem dL_law_446 : decode cL_law 446 = .ok (.aload_n 0, 1) := by decide +kernel
theorem dL_law_447 : decode cL_law 447 = .ok (.iload_n 3, 1) := by decide +kernel
theorem dL_law_448 : decode cL_law 448 = .ok (.iconst 1, 1) := by decide +kernel
theorem dL_law_449 : decode cL_law 449 = .ok (.iadd, 1) := by decide +kernel
theorem dL_law_450 : decode cL_law 450 = .ok (.iaload, 1) := by decide +kernel
theorem dL_law_451 : decode cL_law 451 = .ok (.aload_n 0, 1) := by decide +kernel
theorem dL_law_452 : decode cL_law 452 = .ok (.iload_n 3, 1) := by decide +kernel
theorem dL_law_453 : decode cL_law 453 = .ok (.iconst 2, 1) := by decide +kernel
theorem dL_law_454 : decode cL_law 454 = .ok (.iadd, 1) := by decide +kernel
theorem dL_law_455 : decode cL_law 455 = .ok (.iaload, 1) := by decide +kernel
theorem dL_law_456 : decode cL_law 456 = .ok (.aload_n 0, 1) := by decide +kernel
theorem dL_law_457 : decode cL_law 457 = .ok (.iload_n 3, 1) := by decide +kernel
theorem dL_law_458 : decode cL_law 458 = .ok (.iconst 3, 1) := by decide +kernel
theorem dL_law_459 : decode cL_law 459 = .ok (.iadd, 1) := by decide +kernel
theorem dL_law_460 : decode cL_law 460 = .ok (.iaload, 1) := by decide +kernel
theorem dL_law_461 : decode cL_law 461 = .ok (.invokevirtual 43, 3) := by decide +kernel
theorem dL_law_464 : decode cL_law 464 = .ok (.if_icmp .eq 954, 3) := by decide +kernel
theorem dL_law_467 : decode cL_law 467 = .ok (.iconst 0, 1) := by decide +kernel
theorem dL_law_468 : decode cL_law 468 = .ok (.ireturn, 1) := by decide +kernel
theorem dL_law_469 : decode cL_law 469 = .ok (.aload_n 1, 1) := by decide +kernel
theorem dL_law_470 : decode cL_law 470 = .ok (.aload_n 0, 1) := by decide +kernel
theorem dL_law_471 : decode cL_law 471 = .ok (.iload_n 3, 1) := by decide +kernel
theorem dL_law_472 : decode cL_law 472 = .ok (.iconst 1, 1) := by decide +kernel
theorem dL_law_473 : decode cL_law 473 = .ok (.iadd, 1) := by decide +kernel
theorem dL_law_474 : decode cL_law 474 = .ok (.iaload, 1) := by decide +kernel
theorem dL_law_475 : decode cL_law 475 = .ok (.invokevirtual 44, 3) := by decide +kernel
theorem dL_law_478 : decode cL_law 478 = .ok (.aload_n 2, 1) := by decide +kernel
theorem dL_law_479 : decode cL_law 479 = .ok (.aload_n 0, 1) := by decide +kernel
theorem dL_law_480 : decode cL_law 480 = .ok (.iload_n 3, 1) := by decide +kernel
theorem dL_law_481 : decode cL_law 481 = .ok (.iconst 1, 1) := by decide +kernel
theorem dL_law_482 : decode cL_law 482 = .ok (.iadd, 1) := by decide +kernel
theorem dL_law_483 : decode cL_law 483 = .ok (.iaload, 1) := by decide +kernel
theorem dL_law_484 : decode cL_law 484 = .ok (.invokevirtual 48, 3) := by decide +kernel
theorem dL_law_487 : decode cL_law 487 = .ok (.if_icmp .eq 931, 3) := by decide +kernel
theorem dL_law_490 : decode cL_law 490 = .ok (.iconst 0, 1) := by decide +kernel
theorem dL_law_491 : decode cL_law 491 = .ok (.ireturn, 1) := by decide +kernel
theorem dL_law_492 : decode cL_law 492 = .ok (.aload_n 1, 1) := by decide +kernel
theorem dL_law_493 : decode cL_law 493 = .ok (.aload_n 0, 1) := by decide +kernel
theorem dL_law_494 : decode cL_law 494 = .ok (.iload_n 3, 1) := by decide +kernel
theorem dL_law_495 : decode cL_law 495 = .ok (.iconst 1, 1) := by decide +kernel
theorem dL_law_496 : decode cL_law 496 = .ok (.iadd, 1) := by decide +kernel
theorem dL_law_497 : decode cL_law 497 = .ok (.iaload, 1) := by decide +kernel
theorem dL_law_498 : decode cL_law 498 = .ok (.invokevirtual 49, 3) := by decide +kernel
theorem dL_law_501 : decode cL_law 501 = .ok (.aload_n 2, 1) := by decide +kernel
theorem dL_law_502 : decode cL_law 502 = .ok (.aload_n 0, 1) := by decide +kernel
theorem dL_law_503 : decode cL_law 503 = .ok (.iload_n 3, 1) := by decide +kernel
theorem dL_law_504 : decode cL_law 504 = .ok (.iconst 1, 1) := by decide +kernel
theorem dL_law_505 : decode cL_law 505 = .ok (.iadd, 1) := by decide +kernel
theorem dL_law_506 : decode cL_law 506 = .ok (.iaload, 1) := by decide +kernel
theorem dL_law_507 : decode cL_law 507 = .ok (.invokevirtual 52, 3) := by decide +kernel
theorem dL_law_510 : decode cL_law 510 = .ok (.if_icmp .eq 908, 3) := by decide +kernel
theorem dL_law_513 : decode cL_law 513 = .ok (.iconst 0, 1) := by decide +kernel
theorem dL_law_514 : decode cL_law 514 = .ok (.ireturn, 1) := by decide +kernel
theorem dL_law_515 : decode cL_law 515 = .ok (.aload_n 1, 1) := by decide +kernel
theorem dL_law_516 : decode cL_law 516 = .ok (.aload_n 0, 1) := by decide +kernel
theorem dL_law_517 : decode cL_law 517 = .ok (.iload_n 3, 1) := by decide +kernel
theorem dL_law_518 : decode cL_law 518 = .ok (.iconst 1, 1) := by decide +kernel
theorem dL_law_519 : decode cL_law 519 = .ok (.iadd, 1) := by decide +kernel
theorem dL_law_520 : decode cL_law 520 = .ok (.iaload, 1) := by decide +kernel
theorem dL_law_521 : decode cL_law 521 = .ok (.invokevirtual 53, 3) := by decide +kernel
theorem dL_law_524 : decode cL_law 524 = .ok (.aload_n 2, 1) := by decide +kernel
theorem dL_law_525 : decode cL_law 525 = .ok (.aload_n 0, 1) := by decide +kernel
theorem dL_law_526 : decode cL_law 526 = .ok (.iload_n 3, 1) := by decide +kernel
theorem dL_law_527 : decode cL_law 527 = .ok (.iconst 1, 1) := by decide +kernel
theorem dL_law_528 : decode cL_law 528 = .ok (.iadd, 1) := by decide +kernel
theorem dL_law_529 : decode cL_law 529 = .ok (.iaload, 1) := by decide +kernel
theorem dL_law_530 : decode cL_law 530 = .ok (.invokevirtual 56, 3) := by decide +kernel
theorem dL_law_533 : decode cL_law 533 = .ok (.if_icmp .eq 885, 3) := by decide +kernel
theorem dL_law_536 : decode cL_law 536 = .ok (.iconst 0, 1) := by decide +kernel
theorem dL_law_537 : decode cL_law 537 = .ok (.ireturn, 1) := by decide +kernel
theorem dL_law_538 : decode cL_law 538 = .ok (.aload_n 1, 1) := by decide +kernel
theorem dL_law_539 : decode cL_law 539 = .ok (.aload_n 0, 1) := by decide +kernel
theorem dL_law_540 : decode cL_law 540 = .ok (.iload_n 3, 1) := by decide +kernel
theorem dL_law_541 : decode cL_law 541 = .ok (.iconst 1, 1) := by decide +kernel
theorem dL_law_542 : decode cL_law 542 = .ok (.iadd, 1) := by decide +kernel
theorem dL_law_543 : decode cL_law 543 = .ok (.iaload, 1) := by decide +kernel
theorem dL_law_544 : decode cL_law 544 = .ok (.invokevirtual 57, 3) := by decide +kernel
theorem dL_law_547 : decode cL_law 547 = .ok (.aload_n 2, 1) := by decide +kernel
theorem dL_law_548 : decode cL_law 548 = .ok (.aload_n 0, 1) := by decide +kernel
theorem dL_law_549 : decode cL_law 549 = .ok (.iload_n 3, 1) := by decide +kernel
theorem dL_law_550 : decode cL_law 550 = .ok (.iconst 1, 1) := by decide +kernel
theorem dL_law_551 : decode cL_law 551 = .ok (.iadd, 1) := by decide +kernel
theorem dL_law_552 : decode cL_law 552 = .ok (.iaload, 1) := by decide +kernel
theorem dL_law_553 : decode cL_law 553 = .ok (.invokevirtual 60, 3) := by decide +kernel
theorem dL_law_556 : decode cL_law 556 = .ok (.if_icmp .eq 862, 3) := by decide +kernel
theorem dL_law_559 : decode cL_law 559 = .ok (.iconst 0, 1) := by decide +kernel
theorem dL_law_560 : decode cL_law 560 = .ok (.ireturn, 1) := by decide +kernel
theorem dL_law_561 : decode cL_law 561 = .ok (.aload_n 1, 1) := by decide +kernel
theorem dL_law_562 : decode cL_law 562 = .ok (.aload_n 0, 1) := by decide +kernel
theorem dL_law_563 : decode cL_law 563 = .ok (.iload_n 3, 1) := by decide +kernel
theorem dL_law_564 : decode cL_law 564 = .ok (.iconst 1, 1) := by decide +kernel
theorem dL_law_565 : decode cL_law 565 = .ok (.iadd, 1) := by decide +kernel
theorem dL_law_566 : decode cL_law 566 = .ok (.iaload, 1) := by decide +kernel
theorem dL_law_567 : decode cL_law 567 = .ok (.invokevirtual 61, 3) := by decide +kernel
theorem dL_law_570 : decode cL_law 570 = .ok (.aload_n 2, 1) := by decide +kernel
theorem dL_law_571 : decode cL_law 571 = .ok (.aload_n 0, 1) := by decide +kernel
theorem dL_law_572 : decode cL_law 572 = .ok (.iload_n 3, 1) := by decide +kernel
theorem dL_law_573 : decode cL_law 573 = .ok (.iconst 1, 1) := by decide +kernel
theorem dL_law_574 : decode cL_law 574 = .ok (.iadd, 1) := by decide +kernel
theorem dL_law_575 : decode cL_law 575 = .ok (.iaload, 1) := by decide +kernel
theorem dL_law_576 : decode cL_law 576 = .ok (.invokevirtual 64, 3) := by decide +kernel
theorem dL_law_579 : decode cL_law 579 = .ok (.if_icmp .eq 839, 3) := by decide +kernel
theorem dL_law_582 : decode cL_law 582 = .ok (.iconst 0, 1) := by decide +kernel
theorem dL_law_583 : decode cL_law 583 = .ok (.ireturn, 1) := by decide +kernel
theorem dL_law_584 : decode cL_law 584 = .ok (.aload_n 1, 1) := by decide +kernel
theorem dL_law_585 : decode cL_law 585 = .ok (.aload_n 0, 1) := by decide +kernel
theorem dL_law_586 : decode cL_law 586 = .ok (.iload_n 3, 1) := by decide +kernel
theorem dL_law_587 : decode cL_law 587 = .ok (.iconst 1, 1) := by decide +kernel
theorem dL_law_588 : decode cL_law 588 = .ok (.iadd, 1) := by decide +kernel
theorem dL_law_589 : decode cL_law 589 = .ok (.iaload, 1) := by decide +kernel
theorem dL_law_590 : decode cL_law 590 = .ok (.invokevirtual 65, 3) := by decide +kernel
theorem dL_law_593 : decode cL_law 593 = .ok (.aload_n 2, 1) := by decide +kernel
theorem dL_law_594 : decode cL_law 594 = .ok (.aload_n 0, 1) := by decide +kernel
theorem dL_law_595 : decode cL_law 595 = .ok (.iload_n 3, 1) := by decide +kernel
theorem dL_law_596 : decode cL_law 596 = .ok (.iconst 1, 1) := by decide +kernel
theorem dL_law_597 : decode cL_law 597 = .ok (.iadd, 1) := by decide +kernel
theorem dL_law_598 : decode cL_law 598 = .ok (.iaload, 1) := by decide +kernel
theorem dL_law_599 : decode cL_law 599 = .ok (.invokevirtual 68, 3) := by decide +kernel
theorem dL_law_602 : decode cL_law 602 = .ok (.if_icmp .eq 816, 3) := by decide +kernel
theorem dL_law_605 : decode cL_law 605 = .ok (.iconst 0, 1) := by decide +kernel
theorem dL_law_606 : decode cL_law 606 = .ok (.ireturn, 1) := by decide +kernel
theorem dL_law_607 : decode cL_law 607 = .ok (.aload_n 1, 1) := by decide +kernel
theorem dL_law_608 : decode cL_law 608 = .ok (.aload_n 0, 1) := by decide +kernel
theorem dL_law_609 : decode cL_law 609 = .ok (.iload_n 3, 1) := by decide +kernel
theorem dL_law_610 : decode cL_law 610 = .ok (.iconst 1, 1) := by decide +kernel
theorem dL_law_611 : decode cL_law 611 = .ok (.iadd, 1) := by decide +kernel
theorem dL_law_612 : decode cL_law 612 = .ok (.iaload, 1) := by decide +kernel
theorem dL_law_613 : decode cL_law 613 = .ok (.aload_n 0, 1) := by decide +kernel
theorem dL_law_614 : decode cL_law 614 = .ok (.iload_n 3, 1) := by decide +kernel
theorem dL_law_615 : decode cL_law 615 = .ok (.iconst 2, 1) := by decide +kernel
theorem dL_law_616 : decode cL_law 616 = .ok (.iadd, 1) := by decide +kernel
theorem dL_law_617 : decode cL_law 617 = .ok (.iaload, 1) := by decide +kernel
theorem dL_law_618 : decode cL_law 618 = .ok (.aload_n 0, 1) := by decide +kernel
theorem dL_law_619 : decode cL_law 619 = .ok (.iload_n 3, 1) := by decide +kernel
theorem dL_law_620 : decode cL_law 620 = .ok (.iconst 3, 1) := by decide +kernel
theorem dL_law_621 : decode cL_law 621 = .ok (.iadd, 1) := by decide +kernel
theorem dL_law_622 : decode cL_law 622 = .ok (.iaload, 1) := by decide +kernel
theorem dL_law_623 : decode cL_law 623 = .ok (.invokevirtual 69, 3) := by decide +kernel
theorem dL_law_626 : decode cL_law 626 = .ok (.aload_n 2, 1) := by decide +kernel
theorem dL_law_627 : decode cL_law 627 = .ok (.aload_n 0, 1) := by decide +kernel
theorem dL_law_628 : decode cL_law 628 = .ok (.iload_n 3, 1) := by decide +kernel
theorem dL_law_629 : decode cL_law 629 = .ok (.iconst 1, 1) := by decide +kernel
theorem dL_law_630 : decode cL_law 630 = .ok (.iadd, 1) := by decide +kernel
theorem dL_law_631 : decode cL_law 631 = .ok (.iaload, 1) := by decide +kernel
theorem dL_law_632 : decode cL_law 632 = .ok (.aload_n 0, 1) := by decide +kernel
theorem dL_law_633 : decode cL_law 633 = .ok (.iload_n 3, 1) := by decide +kernel
theorem dL_law_634 : decode cL_law 634 = .ok (.iconst 2, 1) := by decide +kernel
theorem dL_law_635 : decode cL_law 635 = .ok (.iadd, 1) := by decide +kernel
theorem dL_law_636 : decode cL_law 636 = .ok (.iaload, 1) := by decide +kernel
theorem dL_law_637 : decode cL_law 637 = .ok (.aload_n 0, 1) := by decide +kernel
theorem dL_law_638 : decode cL_law 638 = .ok (.iload_n 3, 1) := by decide +kernel
theorem dL_law_639 : decode cL_law 639 = .ok (.iconst 3, 1) := by decide +kernel
theorem dL_law_640 : decode cL_law 640 = .ok (.iadd, 1) := by decide +kernel
theorem dL_law_641 : decode cL_law 641 = .ok (.iaload, 1) := by decide +kernel
theorem dL_law_642 : decode cL_law 642 = .ok (.invokevirtual 72, 3) := by decide +kernel
theorem dL_law_645 : decode cL_law 645 = .ok (.if_icmp .eq 773, 3) := by decide +kernel
theorem dL_law_648 : decode cL_law 648 = .ok (.iconst 0, 1) := by decide +kernel
theorem dL_law_649 : decode cL_law 649 = .ok (.ireturn, 1) := by decide +kernel
theorem dL_law_650 : decode cL_law 650 = .ok (.aload_n 1, 1) := by decide +kernel
theorem dL_law_651 : decode cL_law 651 = .ok (.invokevirtual 73, 3) := by decide +kernel
theorem dL_law_654 : decode cL_law 654 = .ok (.aload_n 2, 1) := by decide +kernel
theorem dL_law_655 : decode cL_law 655 = .ok (.invokevirtual 77, 3) := by decide +kernel
theorem dL_law_658 : decode cL_law 658 = .ok (.if_icmp .eq 760, 3) := by decide +kernel
theorem dL_law_661 : decode cL_law 661 = .ok (.iconst 0, 1) := by decide +kernel
theorem dL_law_662 : decode cL_law 662 = .ok (.ireturn, 1) := by decide +kernel
theorem dL_law_663 : decode cL_law 663 = .ok (.aload_n 1, 1) := by decide +kernel
theorem dL_law_664 : decode cL_law 664 = .ok (.aload_n 0, 1) := by decide +kernel
theorem dL_law_665 : decode cL_law 665 = .ok (.iload_n 3, 1) := by decide +kernel
theorem dL_law_666 : decode cL_law 666 = .ok (.iconst 1, 1) := by decide +kernel
theorem dL_law_667 : decode cL_law 667 = .ok (.iadd, 1) := by decide +kernel
theorem dL_law_668 : decode cL_law 668 = .ok (.iaload, 1) := by decide +kernel
theorem dL_law_669 : decode cL_law 669 = .ok (.aload_n 0, 1) := by decide +kernel
theorem dL_law_670 : decode cL_law 670 = .ok (.iload_n 3, 1) := by decide +kernel
theorem dL_law_671 : decode cL_law 671 = .ok (.iconst 2, 1) := by decide +kernel
theorem dL_law_672 : decode cL_law 672 = .ok (.iadd, 1) := by decide +kernel
theorem dL_law_673 : decode cL_law 673 = .ok (.iaload, 1) := by decide +kernel
theorem dL_law_674 : decode cL_law 674 = .ok (.aload_n 0, 1) := by decide +kernel
theorem dL_law_675 : decode cL_law 675 = .ok (.iload_n 3, 1) := by decide +kernel
theorem dL_law_676 : decode cL_law 676 = .ok (.iconst 3, 1) := by decide +kernel
theorem dL_law_677 : decode cL_law 677 = .ok (.iadd, 1) := by decide +kernel
theorem dL_law_678 : decode cL_law 678 = .ok (.iaload, 1) := by decide +kernel
theorem dL_law_679 : decode cL_law 679 = .ok (.invokevirtual 78, 3) := by decide +kernel
theorem dL_law_682 : decode cL_law 682 = .ok (.aload_n 2, 1) := by decide +kernel
theorem dL_law_683 : decode cL_law 683 = .ok (.aload_n 0, 1) := by decide +kernel
theorem dL_law_684 : decode cL_law 684 = .ok (.iload_n 3, 1) := by decide +kernel
theorem dL_law_685 : decode cL_law 685 = .ok (.iconst 1, 1) := by decide +kernel
theorem dL_law_686 : decode cL_law 686 = .ok (.iadd, 1) := by decide +kernel
theorem dL_law_687 : decode cL_law 687 = .ok (.iaload, 1) := by decide +kernel
theorem dL_law_688 : decode cL_law 688 = .ok (.aload_n 0, 1) := by decide +kernel
theorem dL_law_689 : decode cL_law 689 = .ok (.iload_n 3, 1) := by decide +kernel
theorem dL_law_690 : decode cL_law 690 = .ok (.iconst 2, 1) := by decide +kernel
theorem dL_law_691 : decode cL_law 691 = .ok (.iadd, 1) := by decide +kernel
theorem dL_law_692 : decode cL_law 692 = .ok (.iaload, 1) := by decide +kernel
theorem dL_law_693 : decode cL_law 693 = .ok (.aload_n 0, 1) := by decide +kernel
theorem dL_law_694 : decode cL_law 694 = .ok (.iload_n 3, 1) := by decide +kernel
theorem dL_law_695 : decode cL_law 695 = .ok (.iconst 3, 1) := by decide +kernel
theorem dL_law_696 : decode cL_law 696 = .ok (.iadd, 1) := by decide +kernel
theorem dL_law_697 : decode cL_law 697 = .ok (.iaload, 1) := by decide +kernel
theorem dL_law_698 : decode cL_law 698 = .ok (.invokevirtual 81, 3) := by decide +kernel
theorem dL_law_701 : decode cL_law 701 = .ok (.if_icmp .eq 717, 3) := by decide +kernel
theorem dL_law_704 : decode cL_law 704 = .ok (.iconst 0, 1) := by decide +kernel
theorem dL_law_705 : decode cL_law 705 = .ok (.ireturn, 1) := by decide +kernel
theorem dL_law_706 : decode cL_law 706 = .ok (.aload_n 1, 1) := by decide +kernel
theorem dL_law_707 : decode cL_law 707 = .ok (.aload_n 0, 1) := by decide +kernel
theorem dL_law_708 : decode cL_law 708 = .ok (.iload_n 3, 1) := by decide +kernel
theorem dL_law_709 : decode cL_law 709 = .ok (.iconst 1, 1) := by decide +kernel
theorem dL_law_710 : decode cL_law 710 = .ok (.iadd, 1) := by decide +kernel
theorem dL_law_711 : decode cL_law 711 = .ok (.iaload, 1) := by decide +kernel
theorem dL_law_712 : decode cL_law 712 = .ok (.aload_n 0, 1) := by decide +kernel
theorem dL_law_713 : decode cL_law 713 = .ok (.iload_n 3, 1) := by decide +kernel
theorem dL_law_714 : decode cL_law 714 = .ok (.iconst 2, 1) := by decide +kernel
theorem dL_law_715 : decode cL_law 715 = .ok (.iadd, 1) := by decide +kernel
theorem dL_law_716 : decode cL_law 716 = .ok (.iaload, 1) := by decide +kernel
theorem dL_law_717 : decode cL_law 717 = .ok (.invokevirtual 82, 3) := by decide +kernel
theorem dL_law_720 : decode cL_law 720 = .ok (.aload_n 2, 1) := by decide +kernel
theorem dL_law_721 : decode cL_law 721 = .ok (.aload_n 0, 1) := by decide +kernel
theorem dL_law_722 : decode cL_law 722 = .ok (.iload_n 3, 1) := by decide +kernel
theorem dL_law_723 : decode cL_law 723 = .ok (.iconst 1, 1) := by decide +kernel
theorem dL_law_724 : decode cL_law 724 = .ok (.iadd, 1) := by decide +kernel
theorem dL_law_725 : decode cL_law 725 = .ok (.iaload, 1) := by decide +kernel
theorem dL_law_726 : decode cL_law 726 = .ok (.aload_n 0, 1) := by decide +kernel
theorem dL_law_727 : decode cL_law 727 = .ok (.iload_n 3, 1) := by decide +kernel
theorem dL_law_728 : decode cL_law 728 = .ok (.iconst 2, 1) := by decide +kernel
theorem dL_law_729 : decode cL_law 729 = .ok (.iadd, 1) := by decide +kernel
theorem dL_law_730 : decode cL_law 730 = .ok (.iaload, 1) := by decide +kernel
theorem dL_law_731 : decode cL_law 731 = .ok (.invokevirtual 85, 3) := by decide +kernel
theorem dL_law_734 : decode cL_law 734 = .ok (.if_icmp .eq 684, 3) := by decide +kernel
theorem dL_law_737 : decode cL_law 737 = .ok (.iconst 0, 1) := by decide +kernel
theorem dL_law_738 : decode cL_law 738 = .ok (.ireturn, 1) := by decide +kernel
theorem dL_law_739 : decode cL_law 739 = .ok (.aload_n 1, 1) := by decide +kernel
theorem dL_law_740 : decode cL_law 740 = .ok (.aload_n 0, 1) := by decide +kernel
theorem dL_law_741 : decode cL_law 741 = .ok (.iload_n 3, 1) := by decide +kernel
theorem dL_law_742 : decode cL_law 742 = .ok (.iconst 1, 1) := by decide +kernel
theorem dL_law_743 : decode cL_law 743 = .ok (.iadd, 1) := by decide +kernel
theorem dL_law_744 : decode cL_law 744 = .ok (.iaload, 1) := by decide +kernel
theorem dL_law_745 : decode cL_law 745 = .ok (.aload_n 0, 1) := by decide +kernel
theorem dL_law_746 : decode cL_law 746 = .ok (.iload_n 3, 1) := by decide +kernel
theorem dL_law_747 : decode cL_law 747 = .ok (.iconst 2, 1) := by decide +kernel
theorem dL_law_748 : decode cL_law 748 = .ok (.iadd, 1) := by decide +kernel
theorem dL_law_749 : decode cL_law 749 = .ok (.iaload, 1) := by decide +kernel
theorem dL_law_750 : decode cL_law 750 = .ok (.invokevirtual 86, 3) := by decide +kernel
theorem dL_law_753 : decode cL_law 753 = .ok (.aload_n 2, 1) := by decide +kernel
theorem dL_law_754 : decode cL_law 754 = .ok (.aload_n 0, 1) := by decide +kernel
theorem dL_law_755 : decode cL_law 755 = .ok (.iload_n 3, 1) := by decide +kernel
theorem dL_law_756 : decode cL_law 756 = .ok (.iconst 1, 1) := by decide +kernel
theorem dL_law_757 : decode cL_law 757 = .ok (.iadd, 1) := by decide +kernel
theorem dL_law_758 : decode cL_law 758 = .ok (.iaload, 1) := by decide +kernel
theorem dL_law_759 : decode cL_law 759 = .ok (.aload_n 0, 1) := by decide +kernel
theorem dL_law_760 : decode cL_law 760 = .ok (.iload_n 3, 1) := by decide +kernel
theorem dL_law_761 : decode cL_law 761 = .ok (.iconst 2, 1) := by decide +kernel
theorem dL_law_762 : decode cL_law 762 = .ok (.iadd, 1) := by decide +kernel
theorem dL_law_763 : decode cL_law 763 = .ok (.iaload, 1) := by decide +kernel
theorem dL_law_764 : decode cL_law 764 = .ok (.invokevirtual 89, 3) := by decide +kernel
theorem dL_law_767 : decode cL_law 767 = .ok (.if_icmp .eq 651, 3) := by decide +kernel
theorem dL_law_770 : decode cL_law 770 = .ok (.iconst 0, 1) := by decide +kernel
theorem dL_law_771 : decode cL_law 771 = .ok (.ireturn, 1) := by decide +kernel
theorem dL_law_772 : decode cL_law 772 = .ok (.aload_n 1, 1) := by decide +kernel
theorem dL_law_773 : decode cL_law 773 = .ok (.aload_n 0, 1) := by decide +kernel
theorem dL_law_774 : decode cL_law 774 = .ok (.iload_n 3, 1) := by decide +kernel
theorem dL_law_775 : decode cL_law 775 = .ok (.iconst 1, 1) := by decide +kernel
theorem dL_law_776 : decode cL_law 776 = .ok (.iadd, 1) := by decide +kernel
theorem dL_law_777 : decode cL_law 777 = .ok (.iaload, 1) := by decide +kernel
theorem dL_law_778 : decode cL_law 778 = .ok (.invokevirtual 90, 3) := by decide +kernel
theorem dL_law_781 : decode cL_law 781 = .ok (.aload_n 2, 1) := by decide +kernel
theorem dL_law_782 : decode cL_law 782 = .ok (.aload_n 0, 1) := by decide +kernel
theorem dL_law_783 : decode cL_law 783 = .ok (.iload_n 3, 1) := by decide +kernel
theorem dL_law_784 : decode cL_law 784 = .ok (.iconst 1, 1) := by decide +kernel
theorem dL_law_785 : decode cL_law 785 = .ok (.iadd, 1) := by decide +kernel
theorem dL_law_786 : decode cL_law 786 = .ok (.iaload, 1) := by decide +kernel
theorem dL_law_787 : decode cL_law 787 = .ok (.invokevirtual 93, 3) := by decide +kernel
theorem dL_law_790 : decode cL_law 790 = .ok (.if_icmp .eq 628, 3) := by decide +kernel
theorem dL_law_793 : decode cL_law 793 = .ok (.iconst 0, 1) := by decide +kernel
theorem dL_law_794 : decode cL_law 794 = .ok (.ireturn, 1) := by decide +kernel
theorem dL_law_795 : decode cL_law 795 = .ok (.aload_n 1, 1) := by decide +kernel
theorem dL_law_796 : decode cL_law 796 = .ok (.aload_n 0, 1) := by decide +kernel
theorem dL_law_797 : decode cL_law 797 = .ok (.iload_n 3, 1) := by decide +kernel
theorem dL_law_798 : decode cL_law 798 = .ok (.iconst 1, 1) := by decide +kernel
theorem dL_law_799 : decode cL_law 799 = .ok (.iadd, 1) := by decide +kernel
theorem dL_law_800 : decode cL_law 800 = .ok (.iaload, 1) := by decide +kernel
theorem dL_law_801 : decode cL_law 801 = .ok (.aload_n 0, 1) := by decide +kernel
theorem dL_law_802 : decode cL_law 802 = .ok (.iload_n 3, 1) := by decide +kernel
theorem dL_law_803 : decode cL_law 803 = .ok (.iconst 2, 1) := by decide +kernel
theorem dL_law_804 : decode cL_law 804 = .ok (.iadd, 1) := by decide +kernel
theorem dL_law_805 : decode cL_law 805 = .ok (.iaload, 1) := by decide +kernel
theorem dL_law_806 : decode cL_law 806 = .ok (.aload_n 0, 1) := by decide +kernel
theorem dL_law_807 : decode cL_law 807 = .ok (.iload_n 3, 1) := by decide +kernel
theorem dL_law_808 : decode cL_law 808 = .ok (.iconst 3, 1) := by decide +kernel
theorem dL_law_809 : decode cL_law 809 = .ok (.iadd, 1) := by decide +kernel
theorem dL_law_810 : decode cL_law 810 = .ok (.iaload, 1) := by decide +kernel
theorem dL_law_811 : decode cL_law 811 = .ok (.invokevirtual 94, 3) := by decide +kernel
theorem dL_law_814 : decode cL_law 814 = .ok (.aload_n 2, 1) := by decide +kernel
theorem dL_law_815 : decode cL_law 815 = .ok (.aload_n 0, 1) := by decide +kernel
theorem dL_law_816 : decode cL_law 816 = .ok (.iload_n 3, 1) := by decide +kernel
theorem dL_law_817 : decode cL_law 817 = .ok (.iconst 1, 1) := by decide +kernel
theorem dL_law_818 : decode cL_law 818 = .ok (.iadd, 1) := by decide +kernel
theorem dL_law_819 : decode cL_law 819 = .ok (.iaload, 1) := by decide +kernel
theorem dL_law_820 : decode cL_law 820 = .ok (.aload_n 0, 1) := by decide +kernel
theorem dL_law_821 : decode cL_law 821 = .ok (.iload_n 3, 1) := by decide +kernel
theorem dL_law_822 : decode cL_law 822 = .ok (.iconst 2, 1) := by decide +kernel
theorem dL_law_823 : decode cL_law 823 = .ok (.iadd, 1) := by decide +kernel
theorem dL_law_824 : decode cL_law 824 = .ok (.iaload, 1) := by decide +kernel
theorem dL_law_825 : decode cL_law 825 = .ok (.aload_n 0, 1) := by decide +kernel
theorem dL_law_826 : decode cL_law 826 = .ok (.iload_n 3, 1) := by decide +kernel
theorem dL_law_827 : decode cL_law 827 = .ok (.iconst 3, 1) := by decide +kernel
theorem dL_law_828 : decode cL_law 828 = .ok (.iadd, 1) := by decide +kernel
theorem dL_law_829 : decode cL_law 829 = .ok (.iaload, 1) := by decide +kernel
theorem dL_law_830 : decode cL_law 830 = .ok (.invokevirtual 97, 3) := by decide +kernel
theorem dL_law_833 : decode cL_law 833 = .ok (.if_icmp .eq 585, 3) := by decide +kernel
theorem dL_law_836 : decode cL_law 836 = .ok (.iconst 0, 1) := by decide +kernel
theorem dL_law_837 : decode cL_law 837 = .ok (.ireturn, 1) := by decide +kernel
theorem dL_law_838 : decode cL_law 838 = .ok (.aload_n 1, 1) := by decide +kernel
theorem dL_law_839 : decode cL_law 839 = .ok (.invokevirtual 98, 3) := by decide +kernel
theorem dL_law_842 : decode cL_law 842 = .ok (.aload_n 2, 1) := by decide +kernel
theorem dL_law_843 : decode cL_law 843 = .ok (.invokevirtual 101, 3) := by decide +kernel
theorem dL_law_846 : decode cL_law 846 = .ok (.if_icmp .eq 572, 3) := by decide +kernel
theorem dL_law_849 : decode cL_law 849 = .ok (.iconst 0, 1) := by decide +kernel
theorem dL_law_850 : decode cL_law 850 = .ok (.ireturn, 1) := by decide +kernel
theorem dL_law_851 : decode cL_law 851 = .ok (.aload_n 1, 1) := by decide +kernel
theorem dL_law_852 : decode cL_law 852 = .ok (.aload_n 0, 1) := by decide +kernel
theorem dL_law_853 : decode cL_law 853 = .ok (.iload_n 3, 1) := by decide +kernel
theorem dL_law_854 : decode cL_law 854 = .ok (.iconst 1, 1) := by decide +kernel
theorem dL_law_855 : decode cL_law 855 = .ok (.iadd, 1) := by decide +kernel
theorem dL_law_856 : decode cL_law 856 = .ok (.iaload, 1) := by decide +kernel
theorem dL_law_857 : decode cL_law 857 = .ok (.aload_n 0, 1) := by decide +kernel
theorem dL_law_858 : decode cL_law 858 = .ok (.iload_n 3, 1) := by decide +kernel
theorem dL_law_859 : decode cL_law 859 = .ok (.iconst 2, 1) := by decide +kernel
theorem dL_law_860 : decode cL_law 860 = .ok (.iadd, 1) := by decide +kernel
theorem dL_law_861 : decode cL_law 861 = .ok (.iaload, 1) := by decide +kernel
theorem dL_law_862 : decode cL_law 862 = .ok (.aload_n 0, 1) := by decide +kernel
theorem dL_law_863 : decode cL_law 863 = .ok (.iload_n 3, 1) := by decide +kernel
theorem dL_law_864 : decode cL_law 864 = .ok (.iconst 3, 1) := by decide +kernel
theorem dL_law_865 : decode cL_law 865 = .ok (.iadd, 1) := by decide +kernel
theorem dL_law_866 : decode cL_law 866 = .ok (.iaload, 1) := by decide +kernel
theorem dL_law_867 : decode cL_law 867 = .ok (.invokevirtual 102, 3) := by decide +kernel
theorem dL_law_870 : decode cL_law 870 = .ok (.aload_n 2, 1) := by decide +kernel
theorem dL_law_871 : decode cL_law 871 = .ok (.aload_n 0, 1) := by decide +kernel
theorem dL_law_872 : decode cL_law 872 = .ok (.iload_n 3, 1) := by decide +kernel
theorem dL_law_873 : decode cL_law 873 = .ok (.iconst 1, 1) := by decide +kernel
theorem dL_law_874 : decode cL_law 874 = .ok (.iadd, 1) := by decide +kernel
theorem dL_law_875 : decode cL_law 875 = .ok (.iaload, 1) := by decide +kernel
theorem dL_law_876 : decode cL_law 876 = .ok (.aload_n 0, 1) := by decide +kernel
theorem dL_law_877 : decode cL_law 877 = .ok (.iload_n 3, 1) := by decide +kernel
theorem dL_law_878 : decode cL_law 878 = .ok (.iconst 2, 1) := by decide +kernel
theorem dL_law_879 : decode cL_law 879 = .ok (.iadd, 1) := by decide +kernel
theorem dL_law_880 : decode cL_law 880 = .ok (.iaload, 1) := by decide +kernel
theorem dL_law_881 : decode cL_law 881 = .ok (.aload_n 0, 1) := by decide +kernel
theorem dL_law_882 : decode cL_law 882 = .ok (.iload_n 3, 1) := by decide +kernel
theorem dL_law_883 : decode cL_law 883 = .ok (.iconst 3, 1) := by decide +kernel
theorem dL_law_884 : decode cL_law 884 = .ok (.iadd, 1) := by decide +kernel
theorem dL_law_885 : decode cL_law 885 = .ok (.iaload, 1) := by decide +kernel
theorem dL_law_886 : decode cL_law 886 = .ok (.invokevirtual 105, 3) := by decide +kernel
theorem dL_law_889 : decode cL_law 889 = .ok (.if_icmp .eq 529, 3) := by decide +kernel
theorem dL_law_892 : decode cL_law 892 = .ok (.iconst 0, 1) := by decide +kernel
theorem dL_law_893 : decode cL_law 893 = .ok (.ireturn, 1) := by decide +kernel
theorem dL_law_894 : decode cL_law 894 = .ok (.aload_n 1, 1) := by decide +kernel
theorem dL_law_895 : decode cL_law 895 = .ok (.aload_n 0, 1) := by decide +kernel
theorem dL_law_896 : decode cL_law 896 = .ok (.iload_n 3, 1) := by decide +kernel
theorem dL_law_897 : decode cL_law 897 = .ok (.iconst 1, 1) := by decide +kernel
theorem dL_law_898 : decode cL_law 898 = .ok (.iadd, 1) := by decide +kernel
theorem dL_law_899 : decode cL_law 899 = .ok (.iaload, 1) := by decide +kernel
theorem dL_law_900 : decode cL_law 900 = .ok (.invokevirtual 106, 3) := by decide +kernel
theorem dL_law_903 : decode cL_law 903 = .ok (.aload_n 2, 1) := by decide +kernel
theorem dL_law_904 : decode cL_law 904 = .ok (.aload_n 0, 1) := by decide +kernel
theorem dL_law_905 : decode cL_law 905 = .ok (.iload_n 3, 1) := by decide +kernel
theorem dL_law_906 : decode cL_law 906 = .ok (.iconst 1, 1) := by decide +kernel
theorem dL_law_907 : decode cL_law 907 = .ok (.iadd, 1) := by decide +kernel
theorem dL_law_908 : decode cL_law 908 = .ok (.iaload, 1) := by decide +kernel
theorem dL_law_909 : decode cL_law 909 = .ok (.invokevirtual 109, 3) := by decide +kernel
theorem dL_law_912 : decode cL_law 912 = .ok (.if_icmp .eq 506, 3) := by decide +kernel
theorem dL_law_915 : decode cL_law 915 = .ok (.iconst 0, 1) := by decide +kernel
theorem dL_law_916 : decode cL_law 916 = .ok (.ireturn, 1) := by decide +kernel
theorem dL_law_917 : decode cL_law 917 = .ok (.aload_n 1, 1) := by decide +kernel
theorem dL_law_918 : decode cL_law 918 = .ok (.invokevirtual 110, 3) := by decide +kernel
theorem dL_law_921 : decode cL_law 921 = .ok (.aload_n 2, 1) := by decide +kernel
theorem dL_law_922 : decode cL_law 922 = .ok (.invokevirtual 113, 3) := by decide +kernel
theorem dL_law_925 : decode cL_law 925 = .ok (.if_icmp .eq 493, 3) := by decide +kernel
theorem dL_law_928 : decode cL_law 928 = .ok (.iconst 0, 1) := by decide +kernel
theorem dL_law_929 : decode cL_law 929 = .ok (.ireturn, 1) := by decide +kernel
theorem dL_law_930 : decode cL_law 930 = .ok (.aload_n 1, 1) := by decide +kernel
theorem dL_law_931 : decode cL_law 931 = .ok (.aload_n 0, 1) := by decide +kernel
theorem dL_law_932 : decode cL_law 932 = .ok (.iload_n 3, 1) := by decide +kernel
theorem dL_law_933 : decode cL_law 933 = .ok (.iconst 1, 1) := by decide +kernel
theorem dL_law_934 : decode cL_law 934 = .ok (.iadd, 1) := by decide +kernel
theorem dL_law_935 : decode cL_law 935 = .ok (.iaload, 1) := by decide +kernel
theorem dL_law_936 : decode cL_law 936 = .ok (.aload_n 0, 1) := by decide +kernel
theorem dL_law_937 : decode cL_law 937 = .ok (.iload_n 3, 1) := by decide +kernel
theorem dL_law_938 : decode cL_law 938 = .ok (.iconst 2, 1) := by decide +kernel
theorem dL_law_939 : decode cL_law 939 = .ok (.iadd, 1) := by decide +kernel
theorem dL_law_940 : decode cL_law 940 = .ok (.iaload, 1) := by decide +kernel
theorem dL_law_941 : decode cL_law 941 = .ok (.invokevirtual 114, 3) := by decide +kernel
theorem dL_law_944 : decode cL_law 944 = .ok (.aload_n 2, 1) := by decide +kernel
theorem dL_law_945 : decode cL_law 945 = .ok (.aload_n 0, 1) := by decide +kernel
theorem dL_law_946 : decode cL_law 946 = .ok (.iload_n 3, 1) := by decide +kernel
theorem dL_law_947 : decode cL_law 947 = .ok (.iconst 1, 1) := by decide +kernel
theorem dL_law_948 : decode cL_law 948 = .ok (.iadd, 1) := by decide +kernel
theorem dL_law_949 : decode cL_law 949 = .ok (.iaload, 1) := by decide +kernel
theorem dL_law_950 : decode cL_law 950 = .ok (.aload_n 0, 1) := by decide +kernel
theorem dL_law_951 : decode cL_law 951 = .ok (.iload_n 3, 1) := by decide +kernel
theorem dL_law_952 : decode cL_law 952 = .ok (.iconst 2, 1) := by decide +kernel
theorem dL_law_953 : decode cL_law 953 = .ok (.iadd, 1) := by decide +kernel
theorem dL_law_954 : decode cL_law 954 = .ok (.iaload, 1) := by decide +kernel
theorem dL_law_955 : decode cL_law 955 = .ok (.invokevirtual 117, 3) := by decide +kernel
theorem dL_law_958 : decode cL_law 958 = .ok (.if_icmp .eq 460, 3) := by decide +kernel
theorem dL_law_961 : decode cL_law 961 = .ok (.iconst 0, 1) := by decide +kernel
theorem dL_law_962 : decode cL_law 962 = .ok (.ireturn, 1) := by decide +kernel
theorem dL_law_963 : decode cL_law 963 = .ok (.aload_n 1, 1) := by decide +kernel
theorem dL_law_964 : decode cL_law 964 = .ok (.aload_n 0, 1) := by decide +kernel
theorem dL_law_965 : decode cL_law 965 = .ok (.iload_n 3, 1) := by decide +kernel
theorem dL_law_966 : decode cL_law 966 = .ok (.iconst 1, 1) := by decide +kernel
theorem dL_law_967 : decode cL_law 967 = .ok (.iadd, 1) := by decide +kernel
theorem dL_law_968 : decode cL_law 968 = .ok (.iaload, 1) := by decide +kernel
theorem dL_law_969 : decode cL_law 969 = .ok (.invokevirtual 118, 3) := by decide +kernel
theorem dL_law_972 : decode cL_law 972 = .ok (.aload_n 2, 1) := by decide +kernel
theorem dL_law_973 : decode cL_law 973 = .ok (.aload_n 0, 1) := by decide +kernel
theorem dL_law_974 : decode cL_law 974 = .ok (.iload_n 3, 1) := by decide +kernel
theorem dL_law_975 : decode cL_law 975 = .ok (.iconst 1, 1) := by decide +kernel
theorem dL_law_976 : decode cL_law 976 = .ok (.iadd, 1) := by decide +kernel
theorem dL_law_977 : decode cL_law 977 = .ok (.iaload, 1) := by decide +kernel
theorem dL_law_978 : decode cL_law 978 = .ok (.invokevirtual 121, 3) := by decide +kernel
theorem dL_law_981 : decode cL_law 981 = .ok (.if_icmp .eq 437, 3) := by decide +kernel
theorem dL_law_984 : decode cL_law 984 = .ok (.iconst 0, 1) := by decide +kernel
theorem dL_law_985 : decode cL_law 985 = .ok (.ireturn, 1) := by decide +kernel
theorem dL_law_986 : decode cL_law 986 = .ok (.aload_n 1, 1) := by decide +kernel
theorem dL_law_987 : decode cL_law 987 = .ok (.aload_n 0, 1) := by decide +kernel
theorem dL_law_988 : decode cL_law 988 = .ok (.iload_n 3, 1) := by decide +kernel
theorem dL_law_989 : decode cL_law 989 = .ok (.iconst 1, 1) := by decide +kernel
theorem dL_law_990 : decode cL_law 990 = .ok (.iadd, 1) := by decide +kernel
theorem dL_law_991 : decode cL_law 991 = .ok (.iaload, 1) := by decide +kernel
theorem dL_law_992 : decode cL_law 992 = .ok (.aload_n 0, 1) := by decide +kernel
theorem dL_law_993 : decode cL_law 993 = .ok (.iload_n 3, 1) := by decide +kernel
theorem dL_law_994 : decode cL_law 994 = .ok (.iconst 2, 1) := by decide +kernel
theorem dL_law_995 : decode cL_law 995 = .ok (.iadd, 1) := by decide +kernel
theorem dL_law_996 : decode cL_law 996 = .ok (.iaload, 1) := by decide +kernel
theorem dL_law_997 : decode cL_law 997 = .ok (.aload_n 0, 1) := by decide +kernel
theorem dL_law_998 : decode cL_law 998 = .ok (.iload_n 3, 1) := by decide +kernel
theorem dL_law_999 : decode cL_law 999 = .ok (.iconst 3, 1) := by decide +kernel
theorem dL_law_1000 : decode cL_law 1000 = .ok (.iadd, 1) := by decide +kernel
theorem dL_law_1001 : decode cL_law 1001 = .ok (.iaload, 1) := by decide +kernel
theorem dL_law_1002 : decode cL_law 1002 = .ok (.invokevirtual 122, 3) := by decide +kernel
theorem dL_law_1005 : decode cL_law 1005 = .ok (.aload_n 2, 1) := by decide +kernel
theorem dL_law_1006 : decode cL_law 1006 = .ok (.aload_n 0, 1) := by decide +kernel
theorem dL_law_1007 : decode cL_law 1007 = .ok (.iload_n 3, 1) := by decide +kernel
theorem dL_law_1008 : decode cL_law 1008 = .ok (.iconst 1, 1) := by decide +kernel
theorem dL_law_1009 : decode cL_law 1009 = .ok (.iadd, 1) := by decide +kernel
theorem dL_law_1010 : decode cL_law 1010 = .ok (.iaload, 1) := by decide +kernel
theorem dL_law_1011 : decode cL_law 1011 = .ok (.aload_n 0, 1) := by decide +kernel
theorem dL_law_1012 : decode cL_law 1012 = .ok (.iload_n 3, 1) := by decide +kernel
theorem dL_law_1013 : decode cL_law 1013 = .ok (.iconst 2, 1) := by decide +kernel
theorem dL_law_1014 : decode cL_law 1014 = .ok (.iadd, 1) := by decide +kernel
theorem dL_law_1015 : decode cL_law 1015 = .ok (.iaload, 1) := by decide +kernel
theorem dL_law_1016 : decode cL_law 1016 = .ok (.aload_n 0, 1) := by decide +kernel
theorem dL_law_1017 : decode cL_law 1017 = .ok (.iload_n 3, 1) := by decide +kernel
theorem dL_law_1018 : decode cL_law 1018 = .ok (.iconst 3, 1) := by decide +kernel
theorem dL_law_1019 : decode cL_law 1019 = .ok (.iadd, 1) := by decide +kernel
theorem dL_law_1020 : decode cL_law 1020 = .ok (.iaload, 1) := by decide +kernel
theorem dL_law_1021 : decode cL_law 1021 = .ok (.invokevirtual 125, 3) := by decide +kernel
theorem dL_law_1024 : decode cL_law 1024 = .ok (.if_icmp .eq 394, 3) := by decide +kernel
theorem dL_law_1027 : decode cL_law 1027 = .ok (.iconst 0, 1) := by decide +kernel
theorem dL_law_1028 : decode cL_law 1028 = .ok (.ireturn, 1) := by decide +kernel
theorem dL_law_1029 : decode cL_law 1029 = .ok (.aload_n 1, 1) := by decide +kernel
theorem dL_law_1030 : decode cL_law 1030 = .ok (.aload_n 0, 1) := by decide +kernel
theorem dL_law_1031 : decode cL_law 1031 = .ok (.iload_n 3, 1) := by decide +kernel
theorem dL_law_1032 : decode cL_law 1032 = .ok (.iconst 1, 1) := by decide +kernel
theorem dL_law_1033 : decode cL_law 1033 = .ok (.iadd, 1) := by decide +kernel
theorem dL_law_1034 : decode cL_law 1034 = .ok (.iaload, 1) := by decide +kernel
theorem dL_law_1035 : decode cL_law 1035 = .ok (.aload_n 0, 1) := by decide +kernel
theorem dL_law_1036 : decode cL_law 1036 = .ok (.iload_n 3, 1) := by decide +kernel
theorem dL_law_1037 : decode cL_law 1037 = .ok (.iconst 2, 1) := by decide +kernel
theorem dL_law_1038 : decode cL_law 1038 = .ok (.iadd, 1) := by decide +kernel
theorem dL_law_1039 : decode cL_law 1039 = .ok (.iaload, 1) := by decide +kernel
theorem dL_law_1040 : decode cL_law 1040 = .ok (.aload_n 0, 1) := by decide +kernel
theorem dL_law_1041 : decode cL_law 1041 = .ok (.iload_n 3, 1) := by decide +kernel
theorem dL_law_1042 : decode cL_law 1042 = .ok (.iconst 3, 1) := by decide +kernel
theorem dL_law_1043 : decode cL_law 1043 = .ok (.iadd, 1) := by decide +kernel
theorem dL_law_1044 : decode cL_law 1044 = .ok (.iaload, 1) := by decide +kernel
theorem dL_law_1045 : decode cL_law 1045 = .ok (.invokevirtual 126, 3) := by decide +kernel
theorem dL_law_1048 : decode cL_law 1048 = .ok (.aload_n 2, 1) := by decide +kernel
theorem dL_law_1049 : decode cL_law 1049 = .ok (.aload_n 0, 1) := by decide +kernel
theorem dL_law_1050 : decode cL_law 1050 = .ok (.iload_n 3, 1) := by decide +kernel
theorem dL_law_1051 : decode cL_law 1051 = .ok (.iconst 1, 1) := by decide +kernel
theorem dL_law_1052 : decode cL_law 1052 = .ok (.iadd, 1) := by decide +kernel
theorem dL_law_1053 : decode cL_law 1053 = .ok (.iaload, 1) := by decide +kernel
theorem dL_law_1054 : decode cL_law 1054 = .ok (.aload_n 0, 1) := by decide +kernel
theorem dL_law_1055 : decode cL_law 1055 = .ok (.iload_n 3, 1) := by decide +kernel
theorem dL_law_1056 : decode cL_law 1056 = .ok (.iconst 2, 1) := by decide +kernel
theorem dL_law_1057 : decode cL_law 1057 = .ok (.iadd, 1) := by decide +kernel
theorem dL_law_1058 : decode cL_law 1058 = .ok (.iaload, 1) := by decide +kernel
theorem dL_law_1059 : decode cL_law 1059 = .ok (.aload_n 0, 1) := by decide +kernel
theorem dL_law_1060 : decode cL_law 1060 = .ok (.iload_n 3, 1) := by decide +kernel
theorem dL_law_1061 : decode cL_law 1061 = .ok (.iconst 3, 1) := by decide +kernel
theorem dL_law_1062 : decode cL_law 1062 = .ok (.iadd, 1) := by decide +kernel
theorem dL_law_1063 : decode cL_law 1063 = .ok (.iaload, 1) := by decide +kernel
theorem dL_law_1064 : decode cL_law 1064 = .ok (.invokevirtual 129, 3) := by decide +kernel
theorem dL_law_1067 : decode cL_law 1067 = .ok (.if_icmp .eq 351, 3) := by decide +kernel
theorem dL_law_1070 : decode cL_law 1070 = .ok (.iconst 0, 1) := by decide +kernel
theorem dL_law_1071 : decode cL_law 1071 = .ok (.ireturn, 1) := by decide +kernel
theorem dL_law_1072 : decode cL_law 1072 = .ok (.aload_n 1, 1) := by decide +kernel
theorem dL_law_1073 : decode cL_law 1073 = .ok (.aload_n 0, 1) := by decide +kernel
theorem dL_law_1074 : decode cL_law 1074 = .ok (.iload_n 3, 1) := by decide +kernel
theorem dL_law_1075 : decode cL_law 1075 = .ok (.iconst 1, 1) := by decide +kernel
theorem dL_law_1076 : decode cL_law 1076 = .ok (.iadd, 1) := by decide +kernel
theorem dL_law_1077 : decode cL_law 1077 = .ok (.iaload, 1) := by decide +kernel
theorem dL_law_1078 : decode cL_law 1078 = .ok (.invokevirtual 130, 3) := by decide +kernel
theorem dL_law_1081 : decode cL_law 1081 = .ok (.aload_n 2, 1) := by decide +kernel
theorem dL_law_1082 : decode cL_law 1082 = .ok (.aload_n 0, 1) := by decide +kernel
theorem dL_law_1083 : decode cL_law 1083 = .ok (.iload_n 3, 1) := by decide +kernel
theorem dL_law_1084 : decode cL_law 1084 = .ok (.iconst 1, 1) := by decide +kernel
theorem dL_law_1085 : decode cL_law 1085 = .ok (.iadd, 1) := by decide +kernel
theorem dL_law_1086 : decode cL_law 1086 = .ok (.iaload, 1) := by decide +kernel
theorem dL_law_1087 : decode cL_law 1087 = .ok (.invokevirtual 133, 3) := by decide +kernel
theorem dL_law_1090 : decode cL_law 1090 = .ok (.if_icmp .eq 328, 3) := by decide +kernel
theorem dL_law_1093 : decode cL_law 1093 = .ok (.iconst 0, 1) := by decide +kernel
theorem dL_law_1094 : decode cL_law 1094 = .ok (.ireturn, 1) := by decide +kernel
theorem dL_law_1095 : decode cL_law 1095 = .ok (.aload_n 1, 1) := by decide +kernel
theorem dL_law_1096 : decode cL_law 1096 = .ok (.aload_n 0, 1) := by decide +kernel
theorem dL_law_1097 : decode cL_law 1097 = .ok (.iload_n 3, 1) := by decide +kernel
theorem dL_law_1098 : decode cL_law 1098 = .ok (.iconst 1, 1) := by decide +kernel
theorem dL_law_1099 : decode cL_law 1099 = .ok (.iadd, 1) := by decide +kernel
theorem dL_law_1100 : decode cL_law 1100 = .ok (.iaload, 1) := by decide +kernel
theorem dL_law_1101 : decode cL_law 1101 = .ok (.invokevirtual 134, 3) := by decide +kernel
theorem dL_law_1104 : decode cL_law 1104 = .ok (.aload_n 2, 1) := by decide +kernel
theorem dL_law_1105 : decode cL_law 1105 = .ok (.aload_n 0, 1) := by decide +kernel
theorem dL_law_1106 : decode cL_law 1106 = .ok (.iload_n 3, 1) := by decide +kernel
theorem dL_law_1107 : decode cL_law 1107 = .ok (.iconst 1, 1) := by decide +kernel
theorem dL_law_1108 : decode cL_law 1108 = .ok (.iadd, 1) := by decide +kernel
theorem dL_law_1109 : decode cL_law 1109 = .ok (.iaload, 1) := by decide +kernel
theorem dL_law_1110 : decode cL_law 1110 = .ok (.invokevirtual 137, 3) := by decide +kernel
theorem dL_law_1113 : decode cL_law 1113 = .ok (.if_icmp .eq 305, 3) := by decide +kernel
theorem dL_law_1116 : decode cL_law 1116 = .ok (.iconst 0, 1) := by decide +kernel
theorem dL_law_1117 : decode cL_law 1117 = .ok (.ireturn, 1) := by decide +kernel
theorem dL_law_1118 : decode cL_law 1118 = .ok (.aload_n 1, 1) := by decide +kernel
theorem dL_law_1119 : decode cL_law 1119 = .ok (.aload_n 0, 1) := by decide +kernel
theorem dL_law_1120 : decode cL_law 1120 = .ok (.iload_n 3, 1) := by decide +kernel
theorem dL_law_1121 : decode cL_law 1121 = .ok (.iconst 1, 1) := by decide +kernel
theorem dL_law_1122 : decode cL_law 1122 = .ok (.iadd, 1) := by decide +kernel
theorem dL_law_1123 : decode cL_law 1123 = .ok (.iaload, 1) := by decide +kernel
theorem dL_law_1124 : decode cL_law 1124 = .ok (.aload_n 0, 1) := by decide +kernel
theorem dL_law_1125 : decode cL_law 1125 = .ok (.iload_n 3, 1) := by decide +kernel
theorem dL_law_1126 : decode cL_law 1126 = .ok (.iconst 2, 1) := by decide +kernel
theorem dL_law_1127 : decode cL_law 1127 = .ok (.iadd, 1) := by decide +kernel
theorem dL_law_1128 : decode cL_law 1128 = .ok (.iaload, 1) := by decide +kernel
theorem dL_law_1129 : decode cL_law 1129 = .ok (.aload_n 0, 1) := by decide +kernel
theorem dL_law_1130 : decode cL_law 1130 = .ok (.iload_n 3, 1) := by decide +kernel
theorem dL_law_1131 : decode cL_law 1131 = .ok (.iconst 3, 1) := by decide +kernel
theorem dL_law_1132 : decode cL_law 1132 = .ok (.iadd, 1) := by decide +kernel
theorem dL_law_1133 : decode cL_law 1133 = .ok (.iaload, 1) := by decide +kernel
theorem dL_law_1134 : decode cL_law 1134 = .ok (.aload_n 0, 1) := by decide +kernel
theorem dL_law_1135 : decode cL_law 1135 = .ok (.iload_n 3, 1) := by decide +kernel
theorem dL_law_1136 : decode cL_law 1136 = .ok (.iconst 4, 1) := by decide +kernel
theorem dL_law_1137 : decode cL_law 1137 = .ok (.iadd, 1) := by decide +kernel
theorem dL_law_1138 : decode cL_law 1138 = .ok (.iaload, 1) := by decide +kernel
theorem dL_law_1139 : decode cL_law 1139 = .ok (.aload_n 0, 1) := by decide +kernel
theorem dL_law_1140 : decode cL_law 1140 = .ok (.iload_n 3, 1) := by decide +kernel
theorem dL_law_1141 : decode cL_law 1141 = .ok (.iconst 5, 1) := by decide +kernel
theorem dL_law_1142 : decode cL_law 1142 = .ok (.iadd, 1) := by decide +kernel
theorem dL_law_1143 : decode cL_law 1143 = .ok (.iaload, 1) := by decide +kernel
theorem dL_law_1144 : decode cL_law 1144 = .ok (.invokevirtual 138, 3) := by decide +kernel
theorem dL_law_1147 : decode cL_law 1147 = .ok (.aload_n 2, 1) := by decide +kernel
theorem dL_law_1148 : decode cL_law 1148 = .ok (.aload_n 0, 1) := by decide +kernel
theorem dL_law_1149 : decode cL_law 1149 = .ok (.iload_n 3, 1) := by decide +kernel
theorem dL_law_1150 : decode cL_law 1150 = .ok (.iconst 1, 1) := by decide +kernel
theorem dL_law_1151 : decode cL_law 1151 = .ok (.iadd, 1) := by decide +kernel
theorem dL_law_1152 : decode cL_law 1152 = .ok (.iaload, 1) := by decide +kernel
theorem dL_law_1153 : decode cL_law 1153 = .ok (.aload_n 0, 1) := by decide +kernel
theorem dL_law_1154 : decode cL_law 1154 = .ok (.iload_n 3, 1) := by decide +kernel
theorem dL_law_1155 : decode cL_law 1155 = .ok (.iconst 2, 1) := by decide +kernel
theorem dL_law_1156 : decode cL_law 1156 = .ok (.iadd, 1) := by decide +kernel
theorem dL_law_1157 : decode cL_law 1157 = .ok (.iaload, 1) := by decide +kernel
theorem dL_law_1158 : decode cL_law 1158 = .ok (.aload_n 0, 1) := by decide +kernel
theorem dL_law_1159 : decode cL_law 1159 = .ok (.iload_n 3, 1) := by decide +kernel
theorem dL_law_1160 : decode cL_law 1160 = .ok (.iconst 3, 1) := by decide +kernel
theorem dL_law_1161 : decode cL_law 1161 = .ok (.iadd, 1) := by decide +kernel
theorem dL_law_1162 : decode cL_law 1162 = .ok (.iaload, 1) := by decide +kernel
theorem dL_law_1163 : decode cL_law 1163 = .ok (.aload_n 0, 1) := by decide +kernel
theorem dL_law_1164 : decode cL_law 1164 = .ok (.iload_n 3, 1) := by decide +kernel
theorem dL_law_1165 : decode cL_law 1165 = .ok (.iconst 4, 1) := by decide +kernel
theorem dL_law_1166 : decode cL_law 1166 = .ok (.iadd, 1) := by decide +kernel
theorem dL_law_1167 : decode cL_law 1167 = .ok (.iaload, 1) := by decide +kernel
theorem dL_law_1168 : decode cL_law 1168 = .ok (.aload_n 0, 1) := by decide +kernel
theorem dL_law_1169 : decode cL_law 1169 = .ok (.iload_n 3, 1) := by decide +kernel
theorem dL_law_1170 : decode cL_law 1170 = .ok (.iconst 5, 1) := by decide +kernel
theorem dL_law_1171 : decode cL_law 1171 = .ok (.iadd, 1) := by decide +kernel
theorem dL_law_1172 : decode cL_law 1172 = .ok (.iaload, 1) := by decide +kernel
theorem dL_law_1173 : decode cL_law 1173 = .ok (.invokevirtual 142, 3) := by decide +kernel
theorem dL_law_1176 : decode cL_law 1176 = .ok (.if_icmp .eq 242, 3) := by decide +kernel
theorem dL_law_1179 : decode cL_law 1179 = .ok (.iconst 0, 1) := by decide +kernel
theorem dL_law_1180 : decode cL_law 1180 = .ok (.ireturn, 1) := by decide +kernel
theorem dL_law_1181 : decode cL_law 1181 = .ok (.aload_n 1, 1) := by decide +kernel
theorem dL_law_1182 : decode cL_law 1182 = .ok (.aload_n 0, 1) := by decide +kernel
theorem dL_law_1183 : decode cL_law 1183 = .ok (.iload_n 3, 1) := by decide +kernel
theorem dL_law_1184 : decode cL_law 1184 = .ok (.iconst 1, 1) := by decide +kernel
theorem dL_law_1185 : decode cL_law 1185 = .ok (.iadd, 1) := by decide +kernel
theorem dL_law_1186 : decode cL_law 1186 = .ok (.iaload, 1) := by decide +kernel
theorem dL_law_1187 : decode cL_law 1187 = .ok (.aload_n 0, 1) := by decide +kernel
theorem dL_law_1188 : decode cL_law 1188 = .ok (.iload_n 3, 1) := by decide +kernel
theorem dL_law_1189 : decode cL_law 1189 = .ok (.iconst 2, 1) := by decide +kernel
theorem dL_law_1190 : decode cL_law 1190 = .ok (.iadd, 1) := by decide +kernel
theorem dL_law_1191 : decode cL_law 1191 = .ok (.iaload, 1) := by decide +kernel
theorem dL_law_1192 : decode cL_law 1192 = .ok (.aload_n 0, 1) := by decide +kernel
theorem dL_law_1193 : decode cL_law 1193 = .ok (.iload_n 3, 1) := by decide +kernel
theorem dL_law_1194 : decode cL_law 1194 = .ok (.iconst 3, 1) := by decide +kernel
theorem dL_law_1195 : decode cL_law 1195 = .ok (.iadd, 1) := by decide +kernel
theorem dL_law_1196 : decode cL_law 1196 = .ok (.iaload, 1) := by decide +kernel
theorem dL_law_1197 : decode cL_law 1197 = .ok (.invokevirtual 143, 3) := by decide +kernel
theorem dL_law_1200 : decode cL_law 1200 = .ok (.aload_n 2, 1) := by decide +kernel
theorem dL_law_1201 : decode cL_law 1201 = .ok (.aload_n 0, 1) := by decide +kernel
theorem dL_law_1202 : decode cL_law 1202 = .ok (.iload_n 3, 1) := by decide +kernel
theorem dL_law_1203 : decode cL_law 1203 = .ok (.iconst 1, 1) := by decide +kernel
theorem dL_law_1204 : decode cL_law 1204 = .ok (.iadd, 1) := by decide +kernel
theorem dL_law_1205 : decode cL_law 1205 = .ok (.iaload, 1) := by decide +kernel
theorem dL_law_1206 : decode cL_law 1206 = .ok (.aload_n 0, 1) := by decide +kernel
theorem dL_law_1207 : decode cL_law 1207 = .ok (.iload_n 3, 1) := by decide +kernel
theorem dL_law_1208 : decode cL_law 1208 = .ok (.iconst 2, 1) := by decide +kernel
theorem dL_law_1209 : decode cL_law 1209 = .ok (.iadd, 1) := by decide +kernel
theorem dL_law_1210 : decode cL_law 1210 = .ok (.iaload, 1) := by decide +kernel
theorem dL_law_1211 : decode cL_law 1211 = .ok (.aload_n 0, 1) := by decide +kernel
theorem dL_law_1212 : decode cL_law 1212 = .ok (.iload_n 3, 1) := by decide +kernel
theorem dL_law_1213 : decode cL_law 1213 = .ok (.iconst 3, 1) := by decide +kernel
theorem dL_law_1214 : decode cL_law 1214 = .ok (.iadd, 1) := by decide +kernel
theorem dL_law_1215 : decode cL_law 1215 = .ok (.iaload, 1) := by decide +kernel
theorem dL_law_1216 : decode cL_law 1216 = .ok (.invokevirtual 146, 3) := by decide +kernel
theorem dL_law_1219 : decode cL_law 1219 = .ok (.if_icmp .eq 199, 3) := by decide +kernel
theorem dL_law_1222 : decode cL_law 1222 = .ok (.iconst 0, 1) := by decide +kernel
theorem dL_law_1223 : decode cL_law 1223 = .ok (.ireturn, 1) := by decide +kernel
theorem dL_law_1224 : decode cL_law 1224 = .ok (.aload_n 1, 1) := by decide +kernel
theorem dL_law_1225 : decode cL_law 1225 = .ok (.aload_n 0, 1) := by decide +kernel
theorem dL_law_1226 : decode cL_law 1226 = .ok (.iload_n 3, 1) := by decide +kernel
theorem dL_law_1227 : decode cL_law 1227 = .ok (.iconst 1, 1) := by decide +kernel
theorem dL_law_1228 : decode cL_law 1228 = .ok (.iadd, 1) := by decide +kernel
theorem dL_law_1229 : decode cL_law 1229 = .ok (.iaload, 1) := by decide +kernel
theorem dL_law_1230 : decode cL_law 1230 = .ok (.aload_n 0, 1) := by decide +kernel
theorem dL_law_1231 : decode cL_law 1231 = .ok (.iload_n 3, 1) := by decide +kernel
theorem dL_law_1232 : decode cL_law 1232 = .ok (.iconst 2, 1) := by decide +kernel
theorem dL_law_1233 : decode cL_law 1233 = .ok (.iadd, 1) := by decide +kernel
theorem dL_law_1234 : decode cL_law 1234 = .ok (.iaload, 1) := by decide +kernel
theorem dL_law_1235 : decode cL_law 1235 = .ok (.invokevirtual 147, 3) := by decide +kernel
theorem dL_law_1238 : decode cL_law 1238 = .ok (.aload_n 2, 1) := by decide +kernel
theorem dL_law_1239 : decode cL_law 1239 = .ok (.aload_n 0, 1) := by decide +kernel
theorem dL_law_1240 : decode cL_law 1240 = .ok (.iload_n 3, 1) := by decide +kernel
theorem dL_law_1241 : decode cL_law 1241 = .ok (.iconst 1, 1) := by decide +kernel
theorem dL_law_1242 : decode cL_law 1242 = .ok (.iadd, 1) := by decide +kernel
theorem dL_law_1243 : decode cL_law 1243 = .ok (.iaload, 1) := by decide +kernel
theorem dL_law_1244 : decode cL_law 1244 = .ok (.aload_n 0, 1) := by decide +kernel
theorem dL_law_1245 : decode cL_law 1245 = .ok (.iload_n 3, 1) := by decide +kernel
theorem dL_law_1246 : decode cL_law 1246 = .ok (.iconst 2, 1) := by decide +kernel
theorem dL_law_1247 : decode cL_law 1247 = .ok (.iadd, 1) := by decide +kernel
theorem dL_law_1248 : decode cL_law 1248 = .ok (.iaload, 1) := by decide +kernel
theorem dL_law_1249 : decode cL_law 1249 = .ok (.invokevirtual 150, 3) := by decide +kernel
theorem dL_law_1252 : decode cL_law 1252 = .ok (.if_icmp .eq 166, 3) := by decide +kernel
theorem dL_law_1255 : decode cL_law 1255 = .ok (.iconst 0, 1) := by decide +kernel
theorem dL_law_1256 : decode cL_law 1256 = .ok (.ireturn, 1) := by decide +kernel
theorem dL_law_1257 : decode cL_law 1257 = .ok (.aload_n 1, 1) := by decide +kernel
theorem dL_law_1258 : decode cL_law 1258 = .ok (.aload_n 0, 1) := by decide +kernel
theorem dL_law_1259 : decode cL_law 1259 = .ok (.iload_n 3, 1) := by decide +kernel
theorem dL_law_1260 : decode cL_law 1260 = .ok (.iconst 1, 1) := by decide +kernel
theorem dL_law_1261 : decode cL_law 1261 = .ok (.iadd, 1) := by decide +kernel
theorem dL_law_1262 : decode cL_law 1262 = .ok (.iaload, 1) := by decide +kernel
theorem dL_law_1263 : decode cL_law 1263 = .ok (.aload_n 0, 1) := by decide +kernel
theorem dL_law_1264 : decode cL_law 1264 = .ok (.iload_n 3, 1) := by decide +kernel
theorem dL_law_1265 : decode cL_law 1265 = .ok (.iconst 2, 1) := by decide +kernel
theorem dL_law_1266 : decode cL_law 1266 = .ok (.iadd, 1) := by decide +kernel
theorem dL_law_1267 : decode cL_law 1267 = .ok (.iaload, 1) := by decide +kernel
theorem dL_law_1268 : decode cL_law 1268 = .ok (.invokevirtual 151, 3) := by decide +kernel
theorem dL_law_1271 : decode cL_law 1271 = .ok (.aload_n 2, 1) := by decide +kernel
theorem dL_law_1272 : decode cL_law 1272 = .ok (.aload_n 0, 1) := by decide +kernel
theorem dL_law_1273 : decode cL_law 1273 = .ok (.iload_n 3, 1) := by decide +kernel
theorem dL_law_1274 : decode cL_law 1274 = .ok (.iconst 1, 1) := by decide +kernel
theorem dL_law_1275 : decode cL_law 1275 = .ok (.iadd, 1) := by decide +kernel
theorem dL_law_1276 : decode cL_law 1276 = .ok (.iaload, 1) := by decide +kernel
theorem dL_law_1277 : decode cL_law 1277 = .ok (.aload_n 0, 1) := by decide +kernel
theorem dL_law_1278 : decode cL_law 1278 = .ok (.iload_n 3, 1) := by decide +kernel
theorem dL_law_1279 : decode cL_law 1279 = .ok (.iconst 2, 1) := by decide +kernel
theorem dL_law_1280 : decode cL_law 1280 = .ok (.iadd, 1) := by decide +kernel
theorem dL_law_1281 : decode cL_law 1281 = .ok (.iaload, 1) := by decide +kernel
theorem dL_law_1282 : decode cL_law 1282 = .ok (.invokevirtual 154, 3) := by decide +kernel
theorem dL_law_1285 : decode cL_law 1285 = .ok (.if_icmp .eq 133, 3) := by decide +kernel
theorem dL_law_1288 : decode cL_law 1288 = .ok (.iconst 0, 1) := by decide +kernel
theorem dL_law_1289 : decode cL_law 1289 = .ok (.ireturn, 1) := by decide +kernel
theorem dL_law_1290 : decode cL_law 1290 = .ok (.aload_n 1, 1) := by decide +kernel
theorem dL_law_1291 : decode cL_law 1291 = .ok (.aload_n 0, 1) := by decide +kernel
theorem dL_law_1292 : decode cL_law 1292 = .ok (.iload_n 3, 1) := by decide +kernel
theorem dL_law_1293 : decode cL_law 1293 = .ok (.iconst 1, 1) := by decide +kernel
theorem dL_law_1294 : decode cL_law 1294 = .ok (.iadd, 1) := by decide +kernel
theorem dL_law_1295 : decode cL_law 1295 = .ok (.iaload, 1) := by decide +kernel
theorem dL_law_1296 : decode cL_law 1296 = .ok (.aload_n 0, 1) := by decide +kernel
theorem dL_law_1297 : decode cL_law 1297 = .ok (.iload_n 3, 1) := by decide +kernel
theorem dL_law_1298 : decode cL_law 1298 = .ok (.iconst 2, 1) := by decide +kernel
theorem dL_law_1299 : decode cL_law 1299 = .ok (.iadd, 1) := by decide +kernel
theorem dL_law_1300 : decode cL_law 1300 = .ok (.iaload, 1) := by decide +kernel
theorem dL_law_1301 : decode cL_law 1301 = .ok (.invokevirtual 155, 3) := by decide +kernel
theorem dL_law_1304 : decode cL_law 1304 = .ok (.aload_n 2, 1) := by decide +kernel
theorem dL_law_1305 : decode cL_law 1305 = .ok (.aload_n 0, 1) := by decide +kernel
theorem dL_law_1306 : decode cL_law 1306 = .ok (.iload_n 3, 1) := by decide +kernel
theorem dL_law_1307 : decode cL_law 1307 = .ok (.iconst 1, 1) := by decide +kernel
theorem dL_law_1308 : decode cL_law 1308 = .ok (.iadd, 1) := by decide +kernel
theorem dL_law_1309 : decode cL_law 1309 = .ok (.iaload, 1) := by decide +kernel
theorem dL_law_1310 : decode cL_law 1310 = .ok (.aload_n 0, 1) := by decide +kernel
theorem dL_law_1311 : decode cL_law 1311 = .ok (.iload_n 3, 1) := by decide +kernel
theorem dL_law_1312 : decode cL_law 1312 = .ok (.iconst 2, 1) := by decide +kernel
theorem dL_law_1313 : decode cL_law 1313 = .ok (.iadd, 1) := by decide +kernel
theorem dL_law_1314 : decode cL_law 1314 = .ok (.iaload, 1) := by decide +kernel
theorem dL_law_1315 : decode cL_law 1315 = .ok (.invokevirtual 158, 3) := by decide +kernel
theorem dL_law_1318 : decode cL_law 1318 = .ok (.if_icmp .eq 100, 3) := by decide +kernel
theorem dL_law_1321 : decode cL_law 1321 = .ok (.iconst 0, 1) := by decide +kernel
theorem dL_law_1322 : decode cL_law 1322 = .ok (.ireturn, 1) := by decide +kernel
theorem dL_law_1323 : decode cL_law 1323 = .ok (.aload_n 1, 1) := by decide +kernel
theorem dL_law_1324 : decode cL_law 1324 = .ok (.aload_n 0, 1) := by decide +kernel
theorem dL_law_1325 : decode cL_law 1325 = .ok (.iload_n 3, 1) := by decide +kernel
theorem dL_law_1326 : decode cL_law 1326 = .ok (.iconst 1, 1) := by decide +kernel
theorem dL_law_1327 : decode cL_law 1327 = .ok (.iadd, 1) := by decide +kernel
theorem dL_law_1328 : decode cL_law 1328 = .ok (.iaload, 1) := by decide +kernel
theorem dL_law_1329 : decode cL_law 1329 = .ok (.invokevirtual 159, 3) := by decide +kernel
theorem dL_law_1332 : decode cL_law 1332 = .ok (.aload_n 2, 1) := by decide +kernel
theorem dL_law_1333 : decode cL_law 1333 = .ok (.aload_n 0, 1) := by decide +kernel
theorem dL_law_1334 : decode cL_law 1334 = .ok (.iload_n 3, 1) := by decide +kernel
theorem dL_law_1335 : decode cL_law 1335 = .ok (.iconst 1, 1) := by decide +kernel
theorem dL_law_1336 : decode cL_law 1336 = .ok (.iadd, 1) := by decide +kernel
theorem dL_law_1337 : decode cL_law 1337 = .ok (.iaload, 1) := by decide +kernel
theorem dL_law_1338 : decode cL_law 1338 = .ok (.invokevirtual 162, 3) := by decide +kernel
theorem dL_law_1341 : decode cL_law 1341 = .ok (.if_icmp .eq 77, 3) := by decide +kernel
theorem dL_law_1344 : decode cL_law 1344 = .ok (.iconst 0, 1) := by decide +kernel
theorem dL_law_1345 : decode cL_law 1345 = .ok (.ireturn, 1) := by decide +kernel
theorem dL_law_1346 : decode cL_law 1346 = .ok (.aload_n 1, 1) := by decide +kernel
theorem dL_law_1347 : decode cL_law 1347 = .ok (.aload_n 0, 1) := by decide +kernel
theorem dL_law_1348 : decode cL_law 1348 = .ok (.iload_n 3, 1) := by decide +kernel
theorem dL_law_1349 : decode cL_law 1349 = .ok (.iconst 1, 1) := by decide +kernel
theorem dL_law_1350 : decode cL_law 1350 = .ok (.iadd, 1) := by decide +kernel
theorem dL_law_1351 : decode cL_law 1351 = .ok (.iaload, 1) := by decide +kernel
theorem dL_law_1352 : decode cL_law 1352 = .ok (.invokevirtual 163, 3) := by decide +kernel
theorem dL_law_1355 : decode cL_law 1355 = .ok (.aload_n 2, 1) := by decide +kernel
theorem dL_law_1356 : decode cL_law 1356 = .ok (.aload_n 0, 1) := by decide +kernel
theorem dL_law_1357 : decode cL_law 1357 = .ok (.iload_n 3, 1) := by decide +kernel
theorem dL_law_1358 : decode cL_law 1358 = .ok (.iconst 1, 1) := by decide +kernel
theorem dL_law_1359 : decode cL_law 1359 = .ok (.iadd, 1) := by decide +kernel
theorem dL_law_1360 : decode cL_law 1360 = .ok (.iaload, 1) := by decide +kernel
theorem dL_law_1361 : decode cL_law 1361 = .ok (.invokevirtual 166, 3) := by decide +kernel
theorem dL_law_1364 : decode cL_law 1364 = .ok (.if_icmp .eq 54, 3) := by decide +kernel
theorem dL_law_1367 : decode cL_law 1367 = .ok (.iconst 0, 1) := by decide +kernel
theorem dL_law_1368 : decode cL_law 1368 = .ok (.ireturn, 1) := by decide +kernel
theorem dL_law_1369 : decode cL_law 1369 = .ok (.aload_n 1, 1) := by decide +kernel
theorem dL_law_1370 : decode cL_law 1370 = .ok (.invokevirtual 167, 3) := by decide +kernel
theorem dL_law_1373 : decode cL_law 1373 = .ok (.aload_n 2, 1) := by decide +kernel
theorem dL_law_1374 : decode cL_law 1374 = .ok (.invokevirtual 170, 3) := by decide +kernel
theorem dL_law_1377 : decode cL_law 1377 = .ok (.if_icmp .eq 41, 3) := by decide +kernel
theorem dL_law_1380 : decode cL_law 1380 = .ok (.iconst 0, 1) := by decide +kernel
theorem dL_law_1381 : decode cL_law 1381 = .ok (.ireturn, 1) := by decide +kernel
theorem dL_law_1382 : decode cL_law 1382 = .ok (.aload_n 1, 1) := by decide +kernel
theorem dL_law_1383 : decode cL_law 1383 = .ok (.invokevirtual 171, 3) := by decide +kernel
theorem dL_law_1386 : decode cL_law 1386 = .ok (.aload_n 2, 1) := by decide +kernel
theorem dL_law_1387 : decode cL_law 1387 = .ok (.invokevirtual 174, 3) := by decide +kernel
theorem dL_law_1390 : decode cL_law 1390 = .ok (.if_icmp .eq 28, 3) := by decide +kernel
theorem dL_law_1393 : decode cL_law 1393 = .ok (.iconst 0, 1) := by decide +kernel
theorem dL_law_1394 : decode cL_law 1394 = .ok (.ireturn, 1) := by decide +kernel
theorem dL_law_1395 : decode cL_law 1395 = .ok (.aload_n 1, 1) := by decide +kernel
theorem dL_law_1396 : decode cL_law 1396 = .ok (.aload_n 0, 1) := by decide +kernel
theorem dL_law_1397 : decode cL_law 1397 = .ok (.iload_n 3, 1) := by decide +kernel
theorem dL_law_1398 : decode cL_law 1398 = .ok (.iconst 1, 1) := by decide +kernel
theorem dL_law_1399 : decode cL_law 1399 = .ok (.iadd, 1) := by decide +kernel
theorem dL_law_1400 : decode cL_law 1400 = .ok (.iaload, 1) := by decide +kernel
theorem dL_law_1401 : decode cL_law 1401 = .ok (.invokevirtual 175, 3) := by decide +kernel
theorem dL_law_1404 : decode cL_law 1404 = .ok (.aload_n 2, 1) := by decide +kernel
theorem dL_law_1405 : decode cL_law 1405 = .ok (.aload_n 0, 1) := by decide +kernel
theorem dL_law_1406 : decode cL_law 1406 = .ok (.iload_n 3, 1) := by decide +kernel
theorem dL_law_1407 : decode cL_law 1407 = .ok (.iconst 1, 1) := by decide +kernel
theorem dL_law_1408 : decode cL_law 1408 = .ok (.iadd, 1) := by decide +kernel
theorem dL_law_1409 : decode cL_law 1409 = .ok (.iaload, 1) := by decide +kernel
theorem dL_law_1410 : decode cL_law 1410 = .ok (.invokevirtual 178, 3) := by decide +kernel
theorem dL_law_1413 : decode cL_law 1413 = .ok (.if_icmp .eq 5, 3) := by decide +kernel
theorem dL_law_1416 : decode cL_law 1416 = .ok (.iconst 0, 1) := by decide +kernel
theorem dL_law_1417 : decode cL_law 1417 = .ok (.ireturn, 1) := by decide +kernel
theorem dL_law_1418 : decode cL_law 1418 = .ok (.iinc 3 6, 3) := by decide +kernel
theorem dL_law_1421 : decode cL_law 1421 = .ok (.goto (-1403), 3) := by decide +kernel
theorem dL_law_1424 : decode cL_law 1424 = .ok (.iconst 1, 1) := by decide +kernel
theorem dL_law_1425 : decode cL_law 1425 = .ok (.ireturn, 1) := by decide +kernel
theorem dJ11_isValidCodePoint_9a6ad_0 : decode cJ11_isValidCodePoint_9a6ad 0 = .ok (.iload_n 0, 1) := by decide +kernel
theorem dJ11_isValidCodePoint_9a6ad_1 : decode cJ11_isValidCodePoint_9a6ad 1 = .ok (.bipush 16, 2) := by decide +kernel
theorem dJ11_isValidCodePoint_9a6ad_3 : decode cJ11_isValidCodePoint_9a6ad 3 = .ok (.iushr, 1) := by decide +kernel
theorem dJ11_isValidCodePoint_9a6ad_4 : decode cJ11_isValidCodePoint_9a6ad 4 = .ok (.istore_n 1, 1) := by decide +kernel
theorem dJ11_isValidCodePoint_9a6ad_5 : decode cJ11_isValidCodePoint_9a6ad 5 = .ok (.iload_n 1, 1) := by decide +kernel
theorem dJ11_isValidCodePoint_9a6ad_6 : decode cJ11_isValidCodePoint_9a6ad 6 = .ok (.bipush 17, 2) := by decide +kernel
theorem dJ11_isValidCodePoint_9a6ad_8 : decode cJ11_isValidCodePoint_9a6ad 8 = .ok (.if_icmp .ge 7, 3) := by decide +kernel
theorem dJ11_isValidCodePoint_9a6ad_11 : decode cJ11_isValidCodePoint_9a6ad 11 = .ok (.iconst 1, 1) := by decide +kernel
theorem dJ11_isValidCodePoint_9a6ad_12 : decode cJ11_isValidCodePoint_9a6ad 12 = .ok (.goto 4, 3) := by decide +kernel
theorem dJ11_isValidCodePoint_9a6ad_15 : decode cJ11_isValidCodePoint_9a6ad 15 = .ok (.iconst 0, 1) := by decide +kernel
theorem dJ11_isValidCodePoint_9a6ad_16 : decode cJ11_isValidCodePoint_9a6ad 16 = .ok (.ireturn, 1) := by decide +kernel
theorem dJ11_highSurrogate_5068e_0 : decode cJ11_highSurrogate_5068e 0 = .ok (.iload_n 0, 1) := by decide +kernel
theorem dJ11_highSurrogate_5068e_1 : decode cJ11_highSurrogate_5068e 1 = .ok (.bipush 10, 2) := by decide +kernel
theorem dJ11_highSurrogate_5068e_3 : decode cJ11_highSurrogate_5068e 3 = .ok (.iushr, 1) := by decide +kernel
theorem dJ11_highSurrogate_5068e_4 : decode cJ11_highSurrogate_5068e 4 = .ok (.ldc 110, 2) := by decide +kernel
theorem dJ11_highSurrogate_5068e_6 : decode cJ11_highSurrogate_5068e 6 = .ok (.iadd, 1) := by decide +kernel
theorem dJ11_highSurrogate_5068e_7 : decode cJ11_highSurrogate_5068e 7 = .ok (.i2c, 1) := by decide +kernel
theorem dJ11_highSurrogate_5068e_8 : decode cJ11_highSurrogate_5068e 8 = .ok (.ireturn, 1) := by decide +kernel
theorem dJ11_lowSurrogate_5068e_0 : decode cJ11_lowSurrogate_5068e 0 = .ok (.iload_n 0, 1) := by decide +kernel
theorem dJ11_lowSurrogate_5068e_1 : decode cJ11_lowSurrogate_5068e 1 = .ok (.sipush 1023, 3) := by decide +kernel
theorem dJ11_lowSurrogate_5068e_4 : decode cJ11_lowSurrogate_5068e 4 = .ok (.iand, 1) := by decide +kernel
theorem dJ11_lowSurrogate_5068e_5 : decode cJ11_lowSurrogate_5068e 5 = .ok (.ldc 76, 2) := by decide +kernel
theorem dJ11_lowSurrogate_5068e_7 : decode cJ11_lowSurrogate_5068e 7 = .ok (.iadd, 1) := by decide +kernel
theorem dJ11_lowSurrogate_5068e_8 : decode cJ11_lowSurrogate_5068e 8 = .ok (.i2c, 1) := by decide +kernel
theorem dJ11_lowSurrogate_5068e_9 : decode cJ11_lowSurrogate_5068e 9 = .ok (.ireturn, 1) := by decide +kernel
theorem dJ6_bitCount_0f7a4_0 : decode cJ6_bitCount_0f7a4 0 = .ok (.iload_n 0, 1) := by decide +kernel
theorem dJ6_bitCount_0f7a4_1 : decode cJ6_bitCount_0f7a4 1 = .ok (.iload_n 0, 1) := by decide +kernel
theorem dJ6_bitCount_0f7a4_2 : decode cJ6_bitCount_0f7a4 2 = .ok (.iconst 1, 1) := by decide +kernel
theorem dJ6_bitCount_0f7a4_3 : decode cJ6_bitCount_0f7a4 3 = .ok (.iushr, 1) := by decide +kernel
theorem dJ6_bitCount_0f7a4_4 : decode cJ6_bitCount_0f7a4 4 = .ok (.ldc_w 265, 3) := by decide +kernel
theorem dJ6_bitCount_0f7a4_7 : decode cJ6_bitCount_0f7a4 7 = .ok (.iand, 1) := by decide +kernel
theorem dJ6_bitCount_0f7a4_8 : decode cJ6_bitCount_0f7a4 8 = .ok (.isub, 1) := by decide +kernel
theorem dJ6_bitCount_0f7a4_9 : decode cJ6_bitCount_0f7a4 9 = .ok (.istore_n 0, 1) := by decide +kernel
theorem dJ6_bitCount_0f7a4_10 : decode cJ6_bitCount_0f7a4 10 = .ok (.iload_n 0, 1) := by decide +kernel
theorem dJ6_bitCount_0f7a4_11 : decode cJ6_bitCount_0f7a4 11 = .ok (.ldc_w 266, 3) := by decide +kernel
theorem dJ6_bitCount_0f7a4_14 : decode cJ6_bitCount_0f7a4 14 = .ok (.iand, 1) := by decide +kernel
theorem dJ6_bitCount_0f7a4_15 : decode cJ6_bitCount_0f7a4 15 = .ok (.iload_n 0, 1) := by decide +kernel
theorem dJ6_bitCount_0f7a4_16 : decode cJ6_bitCount_0f7a4 16 = .ok (.iconst 2, 1) := by decide +kernel
theorem dJ6_bitCount_0f7a4_17 : decode cJ6_bitCount_0f7a4 17 = .ok (.iushr, 1) := by decide +kernel
theorem dJ6_bitCount_0f7a4_18 : decode cJ6_bitCount_0f7a4 18 = .ok (.ldc_w 266, 3) := by decide +kernel
theorem dJ6_bitCount_0f7a4_21 : decode cJ6_bitCount_0f7a4 21 = .ok (.iand, 1) := by decide +kernel
theorem dJ6_bitCount_0f7a4_22 : decode cJ6_bitCount_0f7a4 22 = .ok (.iadd, 1) := by decide +kernel
theorem dJ6_bitCount_0f7a4_23 : decode cJ6_bitCount_0f7a4 23 = .ok (.istore_n 0, 1) := by decide +kernel
theorem dJ6_bitCount_0f7a4_24 : decode cJ6_bitCount_0f7a4 24 = .ok (.iload_n 0, 1) := by decide +kernel
theorem dJ6_bitCount_0f7a4_25 : decode cJ6_bitCount_0f7a4 25 = .ok (.iload_n 0, 1) := by decide +kernel
theorem dJ6_bitCount_0f7a4_26 : decode cJ6_bitCount_0f7a4 26 = .ok (.iconst 4, 1) := by decide +kernel
theorem dJ6_bitCount_0f7a4_27 : decode cJ6_bitCount_0f7a4 27 = .ok (.iushr, 1) := by decide +kernel
theorem dJ6_bitCount_0f7a4_28 : decode cJ6_bitCount_0f7a4 28 = .ok (.iadd, 1) := by decide +kernel
theorem dJ6_bitCount_0f7a4_29 : decode cJ6_bitCount_0f7a4 29 = .ok (.ldc_w 267, 3) := by decide +kernel
theorem dJ6_bitCount_0f7a4_32 : decode cJ6_bitCount_0f7a4 32 = .ok (.iand, 1) := by decide +kernel
theorem dJ6_bitCount_0f7a4_33 : decode cJ6_bitCount_0f7a4 33 = .ok (.istore_n 0, 1) := by decide +kernel
theorem dJ6_bitCount_0f7a4_34 : decode cJ6_bitCount_0f7a4 34 = .ok (.iload_n 0, 1) := by decide +kernel
theorem dJ6_bitCount_0f7a4_35 : decode cJ6_bitCount_0f7a4 35 = .ok (.iload_n 0, 1) := by decide +kernel
theorem dJ6_bitCount_0f7a4_36 : decode cJ6_bitCount_0f7a4 36 = .ok (.bipush 8, 2) := by decide +kernel
theorem dJ6_bitCount_0f7a4_38 : decode cJ6_bitCount_0f7a4 38 = .ok (.iushr, 1) := by decide +kernel
theorem dJ6_bitCount_0f7a4_39 : decode cJ6_bitCount_0f7a4 39 = .ok (.iadd, 1) := by decide +kernel
theorem dJ6_bitCount_0f7a4_40 : decode cJ6_bitCount_0f7a4 40 = .ok (.istore_n 0, 1) := by decide +kernel
theorem dJ6_bitCount_0f7a4_41 : decode cJ6_bitCount_0f7a4 41 = .ok (.iload_n 0, 1) := by decide +kernel
theorem dJ6_bitCount_0f7a4_42 : decode cJ6_bitCount_0f7a4 42 = .ok (.iload_n 0, 1) := by decide +kernel
theorem dJ6_bitCount_0f7a4_43 : decode cJ6_bitCount_0f7a4 43 = .ok (.bipush 16, 2) := by decide +kernel
theorem dJ6_bitCount_0f7a4_45 : decode cJ6_bitCount_0f7a4 45 = .ok (.iushr, 1) := by decide +kernel
theorem dJ6_bitCount_0f7a4_46 : decode cJ6_bitCount_0f7a4 46 = .ok (.iadd, 1) := by decide +kernel
theorem dJ6_bitCount_0f7a4_47 : decode cJ6_bitCount_0f7a4 47 = .ok (.istore_n 0, 1) := by decide +kernel
theorem dJ6_bitCount_0f7a4_48 : decode cJ6_bitCount_0f7a4 48 = .ok (.iload_n 0, 1) := by decide +kernel
theorem dJ6_bitCount_0f7a4_49 : decode cJ6_bitCount_0f7a4 49 = .ok (.bipush 63, 2) := by decide +kernel
theorem dJ6_bitCount_0f7a4_51 : decode cJ6_bitCount_0f7a4 51 = .ok (.iand, 1) := by decide +kernel
theorem dJ6_bitCount_0f7a4_52 : decode cJ6_bitCount_0f7a4 52 = .ok (.ireturn, 1) := by decide +kernel
theorem dJ9_abs_0f7a4_0 : decode cJ9_abs_0f7a4 0 = .ok (.iload_n 0, 1) := by decide +kernel
theorem dJ9_abs_0f7a4_1 : decode cJ9_abs_0f7a4 1 = .ok (.ifCond .ge 8, 3) := by decide +kernel
theorem dJ9_abs_0f7a4_4 : decode cJ9_abs_0f7a4 4 = .ok (.iload_n 0, 1) := by decide +kernel
theorem dJ9_abs_0f7a4_5 : decode cJ9_abs_0f7a4 5 = .ok (.ineg, 1) := by decide +kernel
theorem dJ9_abs_0f7a4_6 : decode cJ9_abs_0f7a4 6 = .ok (.goto 4, 3) := by decide +kernel
theorem dJ9_abs_0f7a4_9 : decode cJ9_abs_0f7a4 9 = .ok (.iload_n 0, 1) := by decide +kernel
theorem dJ9_abs_0f7a4_10 : decode cJ9_abs_0f7a4 10 = .ok (.ireturn, 1) := by decide +kernel
theorem dJ9_max_7cf53_0 : decode cJ9_max_7cf53 0 = .ok (.iload_n 0, 1) := by decide +kernel
theorem dJ9_max_7cf53_1 : decode cJ9_max_7cf53 1 = .ok (.iload_n 1, 1) := by decide +kernel
theorem dJ9_max_7cf53_2 : decode cJ9_max_7cf53 2 = .ok (.if_icmp .lt 7, 3) := by decide +kernel
theorem dJ9_max_7cf53_5 : decode cJ9_max_7cf53 5 = .ok (.iload_n 0, 1) := by decide +kernel
theorem dJ9_max_7cf53_6 : decode cJ9_max_7cf53 6 = .ok (.goto 4, 3) := by decide +kernel
theorem dJ9_max_7cf53_9 : decode cJ9_max_7cf53 9 = .ok (.iload_n 1, 1) := by decide +kernel
theorem dJ9_max_7cf53_10 : decode cJ9_max_7cf53 10 = .ok (.ireturn, 1) := by decide +kernel
theorem dJ9_min_7cf53_0 : decode cJ9_min_7cf53 0 = .ok (.iload_n 0, 1) := by decide +kernel
theorem dJ9_min_7cf53_1 : decode cJ9_min_7cf53 1 = .ok (.iload_n 1, 1) := by decide +kernel
theorem dJ9_min_7cf53_2 : decode cJ9_min_7cf53 2 = .ok (.if_icmp .gt 7, 3) := by decide +kernel
theorem dJ9_min_7cf53_5 : decode cJ9_min_7cf53 5 = .ok (.iload_n 0, 1) := by decide +kernel
theorem dJ9_min_7cf53_6 : decode cJ9_min_7cf53 6 = .ok (.goto 4, 3) := by decide +kernel
theorem dJ9_min_7cf53_9 : decode cJ9_min_7cf53 9 = .ok (.iload_n 1, 1) := by decide +kernel
theorem dJ9_min_7cf53_10 : decode cJ9_min_7cf53 10 = .ok (.ireturn, 1) := by decide +kernel
theorem dJ9_min_f86c9_0 : decode cJ9_min_f86c9 0 = .ok (.lload_n 0, 1) := by decide +kernel
theorem dJ9_min_f86c9_1 : decode cJ9_min_f86c9 1 = .ok (.lload_n 2, 1) := by decide +kernel
theorem dJ9_min_f86c9_2 : decode cJ9_min_f86c9 2 = .ok (.lcmp, 1) := by decide +kernel
theorem dJ9_min_f86c9_3 : decode cJ9_min_f86c9 3 = .ok (.ifCond .gt 7, 3) := by decide +kernel
theorem dJ9_min_f86c9_6 : decode cJ9_min_f86c9 6 = .ok (.lload_n 0, 1) := by decide +kernel
theorem dJ9_min_f86c9_7 : decode cJ9_min_f86c9 7 = .ok (.goto 4, 3) := by decide +kernel
theorem dJ9_min_f86c9_10 : decode cJ9_min_f86c9 10 = .ok (.lload_n 2, 1) := by decide +kernel
theorem dJ9_min_f86c9_11 : decode cJ9_min_f86c9 11 = .ok (.lreturn, 1) := by decide +kernel
theorem dJ0_length_8abf5_0 : decode cJ0_length_8abf5 0 = .ok (.aload_n 0, 1) := by decide +kernel
theorem dJ0_length_8abf5_1 : decode cJ0_length_8abf5 1 = .ok (.getfield 9, 3) := by decide +kernel
theorem dJ0_length_8abf5_4 : decode cJ0_length_8abf5 4 = .ok (.arraylength, 1) := by decide +kernel
theorem dJ0_length_8abf5_5 : decode cJ0_length_8abf5 5 = .ok (.aload_n 0, 1) := by decide +kernel
theorem dJ0_length_8abf5_6 : decode cJ0_length_8abf5 6 = .ok (.invokevirtual 335, 3) := by decide +kernel
theorem dJ0_length_8abf5_9 : decode cJ0_length_8abf5 9 = .ok (.ishr, 1) := by decide +kernel
theorem dJ0_length_8abf5_10 : decode cJ0_length_8abf5 10 = .ok (.ireturn, 1) := by decide +kernel
theorem dJ0_charAt_5068e_0 : decode cJ0_charAt_5068e 0 = .ok (.aload_n 0, 1) := by decide +kernel
theorem dJ0_charAt_5068e_1 : decode cJ0_charAt_5068e 1 = .ok (.invokevirtual 492, 3) := by decide +kernel
theorem dJ0_charAt_5068e_4 : decode cJ0_charAt_5068e 4 = .ok (.ifCond .eq 12, 3) := by decide +kernel
theorem dJ0_charAt_5068e_7 : decode cJ0_charAt_5068e 7 = .ok (.aload_n 0, 1) := by decide +kernel
theorem dJ0_charAt_5068e_8 : decode cJ0_charAt_5068e 8 = .ok (.getfield 9, 3) := by decide +kernel
theorem dJ0_charAt_5068e_11 : decode cJ0_charAt_5068e 11 = .ok (.iload_n 1, 1) := by decide +kernel
theorem dJ0_charAt_5068e_12 : decode cJ0_charAt_5068e 12 = .ok (.invokestatic 495, 3) := by decide +kernel
theorem dJ0_charAt_5068e_15 : decode cJ0_charAt_5068e 15 = .ok (.ireturn, 1) := by decide +kernel
theorem dJ0_charAt_5068e_16 : decode cJ0_charAt_5068e 16 = .ok (.aload_n 0, 1) := by decide +kernel
theorem dJ0_charAt_5068e_17 : decode cJ0_charAt_5068e 17 = .ok (.getfield 9, 3) := by decide +kernel
theorem dJ0_charAt_5068e_20 : decode cJ0_charAt_5068e 20 = .ok (.iload_n 1, 1) := by decide +kernel
theorem dJ0_charAt_5068e_21 : decode cJ0_charAt_5068e 21 = .ok (.invokestatic 498, 3) := by decide +kernel
theorem dJ0_charAt_5068e_24 : decode cJ0_charAt_5068e 24 = .ok (.ireturn, 1) := by decide +kernel
theorem dJ0_indexOf_0f7a4_0 : decode cJ0_indexOf_0f7a4 0 = .ok (.aload_n 0, 1) := by decide +kernel
theorem dJ0_indexOf_0f7a4_1 : decode cJ0_indexOf_0f7a4 1 = .ok (.iload_n 1, 1) := by decide +kernel
theorem dJ0_indexOf_0f7a4_2 : decode cJ0_indexOf_0f7a4 2 = .ok (.iconst 0, 1) := by decide +kernel
theorem dJ0_indexOf_0f7a4_3 : decode cJ0_indexOf_0f7a4 3 = .ok (.invokevirtual 633, 3) := by decide +kernel
theorem dJ0_indexOf_0f7a4_6 : decode cJ0_indexOf_0f7a4 6 = .ok (.ireturn, 1) := by decide +kernel
theorem dJ0_indexOf_7cf53_0 : decode cJ0_indexOf_7cf53 0 = .ok (.aload_n 0, 1) := by decide +kernel
theorem dJ0_indexOf_7cf53_1 : decode cJ0_indexOf_7cf53 1 = .ok (.invokevirtual 492, 3) := by decide +kernel
theorem dJ0_indexOf_7cf53_4 : decode cJ0_indexOf_7cf53 4 = .ok (.ifCond .eq 19, 3) := by decide +kernel
theorem dJ0_indexOf_7cf53_7 : decode cJ0_indexOf_7cf53 7 = .ok (.aload_n 0, 1) := by decide +kernel
theorem dJ0_indexOf_7cf53_8 : decode cJ0_indexOf_7cf53 8 = .ok (.getfield 9, 3) := by decide +kernel
theorem dJ0_indexOf_7cf53_11 : decode cJ0_indexOf_7cf53 11 = .ok (.iload_n 1, 1) := by decide +kernel
theorem dJ0_indexOf_7cf53_12 : decode cJ0_indexOf_7cf53 12 = .ok (.iload_n 2, 1) := by decide +kernel
theorem dJ0_indexOf_7cf53_13 : decode cJ0_indexOf_7cf53 13 = .ok (.aload_n 0, 1) := by decide +kernel
theorem dJ0_indexOf_7cf53_14 : decode cJ0_indexOf_7cf53 14 = .ok (.invokevirtual 505, 3) := by decide +kernel
theorem dJ0_indexOf_7cf53_17 : decode cJ0_indexOf_7cf53 17 = .ok (.invokestatic 637, 3) := by decide +kernel
theorem dJ0_indexOf_7cf53_20 : decode cJ0_indexOf_7cf53 20 = .ok (.goto 16, 3) := by decide +kernel
theorem dJ0_indexOf_7cf53_23 : decode cJ0_indexOf_7cf53 23 = .ok (.aload_n 0, 1) := by decide +kernel
theorem dJ0_indexOf_7cf53_24 : decode cJ0_indexOf_7cf53 24 = .ok (.getfield 9, 3) := by decide +kernel
theorem dJ0_indexOf_7cf53_27 : decode cJ0_indexOf_7cf53 27 = .ok (.iload_n 1, 1) := by decide +kernel
theorem dJ0_indexOf_7cf53_28 : decode cJ0_indexOf_7cf53 28 = .ok (.iload_n 2, 1) := by decide +kernel
theorem dJ0_indexOf_7cf53_29 : decode cJ0_indexOf_7cf53 29 = .ok (.aload_n 0, 1) := by decide +kernel
theorem dJ0_indexOf_7cf53_30 : decode cJ0_indexOf_7cf53 30 = .ok (.invokevirtual 505, 3) := by decide +kernel
theorem dJ0_indexOf_7cf53_33 : decode cJ0_indexOf_7cf53 33 = .ok (.invokestatic 640, 3) := by decide +kernel
theorem dJ0_indexOf_7cf53_36 : decode cJ0_indexOf_7cf53 36 = .ok (.ireturn, 1) := by decide +kernel
theorem dJ0_coder_7d493_0 : decode cJ0_coder_7d493 0 = .ok (.getstatic 38, 3) := by decide +kernel
theorem dJ0_coder_7d493_3 : decode cJ0_coder_7d493 3 = .ok (.ifCond .eq 10, 3) := by decide +kernel
theorem dJ0_coder_7d493_6 : decode cJ0_coder_7d493 6 = .ok (.aload_n 0, 1) := by decide +kernel
theorem dJ0_coder_7d493_7 : decode cJ0_coder_7d493 7 = .ok (.getfield 15, 3) := by decide +kernel
theorem dJ0_coder_7d493_10 : decode cJ0_coder_7d493 10 = .ok (.goto 4, 3) := by decide +kernel
theorem dJ0_coder_7d493_13 : decode cJ0_coder_7d493 13 = .ok (.iconst 1, 1) := by decide +kernel
theorem dJ0_coder_7d493_14 : decode cJ0_coder_7d493 14 = .ok (.ireturn, 1) := by decide +kernel
theorem dJ0_isLatin1_aae02_0 : decode cJ0_isLatin1_aae02 0 = .ok (.getstatic 38, 3) := by decide +kernel
theorem dJ0_isLatin1_aae02_3 : decode cJ0_isLatin1_aae02 3 = .ok (.ifCond .eq 14, 3) := by decide +kernel
theorem dJ0_isLatin1_aae02_6 : decode cJ0_isLatin1_aae02 6 = .ok (.aload_n 0, 1) := by decide +kernel
theorem dJ0_isLatin1_aae02_7 : decode cJ0_isLatin1_aae02 7 = .ok (.getfield 15, 3) := by decide +kernel
theorem dJ0_isLatin1_aae02_10 : decode cJ0_isLatin1_aae02 10 = .ok (.ifCond .ne 7, 3) := by decide +kernel
theorem dJ0_isLatin1_aae02_13 : decode cJ0_isLatin1_aae02 13 = .ok (.iconst 1, 1) := by decide +kernel
theorem dJ0_isLatin1_aae02_14 : decode cJ0_isLatin1_aae02 14 = .ok (.goto 4, 3) := by decide +kernel
theorem dJ0_isLatin1_aae02_17 : decode cJ0_isLatin1_aae02 17 = .ok (.iconst 0, 1) := by decide +kernel
theorem dJ0_isLatin1_aae02_18 : decode cJ0_isLatin1_aae02 18 = .ok (.ireturn, 1) := by decide +kernel
theorem dJ0_checkIndex_df160_0 : decode cJ0_checkIndex_df160 0 = .ok (.iload_n 0, 1) := by decide +kernel
theorem dJ0_checkIndex_df160_1 : decode cJ0_checkIndex_df160 1 = .ok (.iload_n 1, 1) := by decide +kernel
theorem dJ0_checkIndex_df160_2 : decode cJ0_checkIndex_df160 2 = .ok (.getstatic 1053, 3) := by decide +kernel
theorem dJ0_checkIndex_df160_5 : decode cJ0_checkIndex_df160 5 = .ok (.invokestatic 1059, 3) := by decide +kernel
theorem dJ0_checkIndex_df160_8 : decode cJ0_checkIndex_df160 8 = .ok (.pop, 1) := by decide +kernel
theorem dJ0_checkIndex_df160_9 : decode cJ0_checkIndex_df160 9 = .ok (.return_, 1) := by decide +kernel
theorem dJ0_checkBoundsBeginEnd_23922_0 : decode cJ0_checkBoundsBeginEnd_23922 0 = .ok (.iload_n 0, 1) := by decide +kernel
theorem dJ0_checkBoundsBeginEnd_23922_1 : decode cJ0_checkBoundsBeginEnd_23922 1 = .ok (.iload_n 1, 1) := by decide +kernel
theorem dJ0_checkBoundsBeginEnd_23922_2 : decode cJ0_checkBoundsBeginEnd_23922 2 = .ok (.iload_n 2, 1) := by decide +kernel
theorem dJ0_checkBoundsBeginEnd_23922_3 : decode cJ0_checkBoundsBeginEnd_23922 3 = .ok (.getstatic 1053, 3) := by decide +kernel
theorem dJ0_checkBoundsBeginEnd_23922_6 : decode cJ0_checkBoundsBeginEnd_23922 6 = .ok (.invokestatic 1062, 3) := by decide +kernel
theorem dJ0_checkBoundsBeginEnd_23922_9 : decode cJ0_checkBoundsBeginEnd_23922 9 = .ok (.pop, 1) := by decide +kernel
theorem dJ0_checkBoundsBeginEnd_23922_10 : decode cJ0_checkBoundsBeginEnd_23922 10 = .ok (.return_, 1) := by decide +kernel
theorem dJ1_charAt_3b067_0 : decode cJ1_charAt_3b067 0 = .ok (.iload_n 1, 1) := by decide +kernel
theorem dJ1_charAt_3b067_1 : decode cJ1_charAt_3b067 1 = .ok (.aload_n 0, 1) := by decide +kernel
theorem dJ1_charAt_3b067_2 : decode cJ1_charAt_3b067 2 = .ok (.arraylength, 1) := by decide +kernel
theorem dJ1_charAt_3b067_3 : decode cJ1_charAt_3b067 3 = .ok (.invokestatic 9, 3) := by decide +kernel
theorem dJ1_charAt_3b067_6 : decode cJ1_charAt_3b067 6 = .ok (.aload_n 0, 1) := by decide +kernel
theorem dJ1_charAt_3b067_7 : decode cJ1_charAt_3b067 7 = .ok (.iload_n 1, 1) := by decide +kernel
theorem dJ1_charAt_3b067_8 : decode cJ1_charAt_3b067 8 = .ok (.baload, 1) := by decide +kernel
theorem dJ1_charAt_3b067_9 : decode cJ1_charAt_3b067 9 = .ok (.sipush 255, 3) := by decide +kernel
theorem dJ1_charAt_3b067_12 : decode cJ1_charAt_3b067 12 = .ok (.iand, 1) := by decide +kernel
theorem dJ1_charAt_3b067_13 : decode cJ1_charAt_3b067 13 = .ok (.i2c, 1) := by decide +kernel
theorem dJ1_charAt_3b067_14 : decode cJ1_charAt_3b067 14 = .ok (.ireturn, 1) := by decide +kernel
theorem dJ1_canEncode_9a6ad_0 : decode cJ1_canEncode_9a6ad 0 = .ok (.iload_n 0, 1) := by decide +kernel
theorem dJ1_canEncode_9a6ad_1 : decode cJ1_canEncode_9a6ad 1 = .ok (.ifCond .lt 14, 3) := by decide +kernel
theorem dJ1_canEncode_9a6ad_4 : decode cJ1_canEncode_9a6ad 4 = .ok (.iload_n 0, 1) := by decide +kernel
theorem dJ1_canEncode_9a6ad_5 : decode cJ1_canEncode_9a6ad 5 = .ok (.sipush 255, 3) := by decide +kernel
theorem dJ1_canEncode_9a6ad_8 : decode cJ1_canEncode_9a6ad 8 = .ok (.if_icmp .gt 7, 3) := by decide +kernel
theorem dJ1_canEncode_9a6ad_11 : decode cJ1_canEncode_9a6ad 11 = .ok (.iconst 1, 1) := by decide +kernel
theorem dJ1_canEncode_9a6ad_12 : decode cJ1_canEncode_9a6ad 12 = .ok (.goto 4, 3) := by decide +kernel
theorem dJ1_canEncode_9a6ad_15 : decode cJ1_canEncode_9a6ad 15 = .ok (.iconst 0, 1) := by decide +kernel
theorem dJ1_canEncode_9a6ad_16 : decode cJ1_canEncode_9a6ad 16 = .ok (.ireturn, 1) := by decide +kernel
theorem dJ1_indexOf_4cfef_0 : decode cJ1_indexOf_4cfef 0 = .ok (.iload_n 1, 1) := by decide +kernel
theorem dJ1_indexOf_4cfef_1 : decode cJ1_indexOf_4cfef 1 = .ok (.invokestatic 88, 3) := by decide +kernel
theorem dJ1_indexOf_4cfef_4 : decode cJ1_indexOf_4cfef 4 = .ok (.ifCond .ne 5, 3) := by decide +kernel
theorem dJ1_indexOf_4cfef_7 : decode cJ1_indexOf_4cfef 7 = .ok (.iconst (-1), 1) := by decide +kernel
theorem dJ1_indexOf_4cfef_8 : decode cJ1_indexOf_4cfef 8 = .ok (.ireturn, 1) := by decide +kernel
theorem dJ1_indexOf_4cfef_9 : decode cJ1_indexOf_4cfef 9 = .ok (.iload_n 2, 1) := by decide +kernel
theorem dJ1_indexOf_4cfef_10 : decode cJ1_indexOf_4cfef 10 = .ok (.iconst 0, 1) := by decide +kernel
theorem dJ1_indexOf_4cfef_11 : decode cJ1_indexOf_4cfef 11 = .ok (.invokestatic 92, 3) := by decide +kernel
theorem dJ1_indexOf_4cfef_14 : decode cJ1_indexOf_4cfef 14 = .ok (.istore_n 2, 1) := by decide +kernel
theorem dJ1_indexOf_4cfef_15 : decode cJ1_indexOf_4cfef 15 = .ok (.iload_n 3, 1) := by decide +kernel
theorem dJ1_indexOf_4cfef_16 : decode cJ1_indexOf_4cfef 16 = .ok (.aload_n 0, 1) := by decide +kernel
theorem dJ1_indexOf_4cfef_17 : decode cJ1_indexOf_4cfef 17 = .ok (.arraylength, 1) := by decide +kernel
theorem dJ1_indexOf_4cfef_18 : decode cJ1_indexOf_4cfef 18 = .ok (.invokestatic 38, 3) := by decide +kernel
theorem dJ1_indexOf_4cfef_21 : decode cJ1_indexOf_4cfef 21 = .ok (.istore_n 3, 1) := by decide +kernel
theorem dJ1_indexOf_4cfef_22 : decode cJ1_indexOf_4cfef 22 = .ok (.iload_n 2, 1) := by decide +kernel
theorem dJ1_indexOf_4cfef_23 : decode cJ1_indexOf_4cfef 23 = .ok (.iload_n 3, 1) := by decide +kernel
theorem dJ1_indexOf_4cfef_24 : decode cJ1_indexOf_4cfef 24 = .ok (.if_icmp .lt 5, 3) := by decide +kernel
theorem dJ1_indexOf_4cfef_27 : decode cJ1_indexOf_4cfef 27 = .ok (.iconst (-1), 1) := by decide +kernel
theorem dJ1_indexOf_4cfef_28 : decode cJ1_indexOf_4cfef 28 = .ok (.ireturn, 1) := by decide +kernel
theorem dJ1_indexOf_4cfef_29 : decode cJ1_indexOf_4cfef 29 = .ok (.aload_n 0, 1) := by decide +kernel
theorem dJ1_indexOf_4cfef_30 : decode cJ1_indexOf_4cfef 30 = .ok (.iload_n 1, 1) := by decide +kernel
theorem dJ1_indexOf_4cfef_31 : decode cJ1_indexOf_4cfef 31 = .ok (.iload_n 2, 1) := by decide +kernel
theorem dJ1_indexOf_4cfef_32 : decode cJ1_indexOf_4cfef 32 = .ok (.iload_n 3, 1) := by decide +kernel
theorem dJ1_indexOf_4cfef_33 : decode cJ1_indexOf_4cfef 33 = .ok (.invokestatic 95, 3) := by decide +kernel
theorem dJ1_indexOf_4cfef_36 : decode cJ1_indexOf_4cfef 36 = .ok (.ireturn, 1) := by decide +kernel
theorem dJ1_indexOfChar_4cfef_0 : decode cJ1_indexOfChar_4cfef 0 = .ok (.iload_n 1, 1) := by decide +kernel
theorem dJ1_indexOfChar_4cfef_1 : decode cJ1_indexOfChar_4cfef 1 = .ok (.i2b, 1) := by decide +kernel
theorem dJ1_indexOfChar_4cfef_2 : decode cJ1_indexOfChar_4cfef 2 = .ok (.istore 4, 2) := by decide +kernel
theorem dJ1_indexOfChar_4cfef_4 : decode cJ1_indexOfChar_4cfef 4 = .ok (.iload_n 2, 1) := by decide +kernel
theorem dJ1_indexOfChar_4cfef_5 : decode cJ1_indexOfChar_4cfef 5 = .ok (.istore 5, 2) := by decide +kernel
theorem dJ1_indexOfChar_4cfef_7 : decode cJ1_indexOfChar_4cfef 7 = .ok (.iload 5, 2) := by decide +kernel
theorem dJ1_indexOfChar_4cfef_9 : decode cJ1_indexOfChar_4cfef 9 = .ok (.iload_n 3, 1) := by decide +kernel
theorem dJ1_indexOfChar_4cfef_10 : decode cJ1_indexOfChar_4cfef 10 = .ok (.if_icmp .ge 21, 3) := by decide +kernel
theorem dJ1_indexOfChar_4cfef_13 : decode cJ1_indexOfChar_4cfef 13 = .ok (.aload_n 0, 1) := by decide +kernel
theorem dJ1_indexOfChar_4cfef_14 : decode cJ1_indexOfChar_4cfef 14 = .ok (.iload 5, 2) := by decide +kernel
theorem dJ1_indexOfChar_4cfef_16 : decode cJ1_indexOfChar_4cfef 16 = .ok (.baload, 1) := by decide +kernel
theorem dJ1_indexOfChar_4cfef_17 : decode cJ1_indexOfChar_4cfef 17 = .ok (.iload 4, 2) := by decide +kernel
theorem dJ1_indexOfChar_4cfef_19 : decode cJ1_indexOfChar_4cfef 19 = .ok (.if_icmp .ne 6, 3) := by decide +kernel
theorem dJ1_indexOfChar_4cfef_22 : decode cJ1_indexOfChar_4cfef 22 = .ok (.iload 5, 2) := by decide +kernel
theorem dJ1_indexOfChar_4cfef_24 : decode cJ1_indexOfChar_4cfef 24 = .ok (.ireturn, 1) := by decide +kernel
theorem dJ1_indexOfChar_4cfef_25 : decode cJ1_indexOfChar_4cfef 25 = .ok (.iinc 5 1, 3) := by decide +kernel
theorem dJ1_indexOfChar_4cfef_28 : decode cJ1_indexOfChar_4cfef 28 = .ok (.goto (-21), 3) := by decide +kernel
theorem dJ1_indexOfChar_4cfef_31 : decode cJ1_indexOfChar_4cfef 31 = .ok (.iconst (-1), 1) := by decide +kernel
theorem dJ1_indexOfChar_4cfef_32 : decode cJ1_indexOfChar_4cfef 32 = .ok (.ireturn, 1) := by decide +kernel
theorem dJ2_getChar_3b067_0 : decode cJ2_getChar_3b067 0 = .ok (.getstatic 44, 3) := by decide +kernel
theorem dJ2_getChar_3b067_3 : decode cJ2_getChar_3b067 3 = .ok (.ifCond .ne 25, 3) := by decide +kernel
theorem dJ2_getChar_3b067_6 : decode cJ2_getChar_3b067 6 = .ok (.iload_n 1, 1) := by decide +kernel
theorem dJ2_getChar_3b067_7 : decode cJ2_getChar_3b067 7 = .ok (.ifCond .lt 11, 3) := by decide +kernel
theorem dJ2_getChar_3b067_10 : decode cJ2_getChar_3b067 10 = .ok (.iload_n 1, 1) := by decide +kernel
theorem dJ2_getChar_3b067_11 : decode cJ2_getChar_3b067 11 = .ok (.aload_n 0, 1) := by decide +kernel
theorem dJ2_getChar_3b067_12 : decode cJ2_getChar_3b067 12 = .ok (.invokestatic 48, 3) := by decide +kernel
theorem dJ2_getChar_3b067_15 : decode cJ2_getChar_3b067 15 = .ok (.if_icmp .lt 13, 3) := by decide +kernel
theorem dJ2_getChar_3b067_18 : decode cJ2_getChar_3b067 18 = .ok (.new 52, 3) := by decide +kernel
theorem dJ2_getChar_3b067_21 : decode cJ2_getChar_3b067 21 = .ok (.dup, 1) := by decide +kernel
theorem dJ2_getChar_3b067_22 : decode cJ2_getChar_3b067 22 = .ok (.ldc 54, 2) := by decide +kernel
theorem dJ2_getChar_3b067_24 : decode cJ2_getChar_3b067 24 = .ok (.invokespecial 56, 3) := by decide +kernel
theorem dJ2_getChar_3b067_27 : decode cJ2_getChar_3b067 27 = .ok (.athrow, 1) := by decide +kernel
theorem dJ2_getChar_3b067_28 : decode cJ2_getChar_3b067 28 = .ok (.iload_n 1, 1) := by decide +kernel
theorem dJ2_getChar_3b067_29 : decode cJ2_getChar_3b067 29 = .ok (.iconst 1, 1) := by decide +kernel
theorem dJ2_getChar_3b067_30 : decode cJ2_getChar_3b067 30 = .ok (.ishl, 1) := by decide +kernel
theorem dJ2_getChar_3b067_31 : decode cJ2_getChar_3b067 31 = .ok (.istore_n 1, 1) := by decide +kernel
theorem dJ2_getChar_3b067_32 : decode cJ2_getChar_3b067 32 = .ok (.aload_n 0, 1) := by decide +kernel
theorem dJ2_getChar_3b067_33 : decode cJ2_getChar_3b067 33 = .ok (.iload_n 1, 1) := by decide +kernel
theorem dJ2_getChar_3b067_34 : decode cJ2_getChar_3b067 34 = .ok (.iinc 1 1, 3) := by decide +kernel
theorem dJ2_getChar_3b067_37 : decode cJ2_getChar_3b067 37 = .ok (.baload, 1) := by decide +kernel
theorem dJ2_getChar_3b067_38 : decode cJ2_getChar_3b067 38 = .ok (.sipush 255, 3) := by decide +kernel
theorem dJ2_getChar_3b067_41 : decode cJ2_getChar_3b067 41 = .ok (.iand, 1) := by decide +kernel
theorem dJ2_getChar_3b067_42 : decode cJ2_getChar_3b067 42 = .ok (.getstatic 59, 3) := by decide +kernel
theorem dJ2_getChar_3b067_45 : decode cJ2_getChar_3b067 45 = .ok (.ishl, 1) := by decide +kernel
theorem dJ2_getChar_3b067_46 : decode cJ2_getChar_3b067 46 = .ok (.aload_n 0, 1) := by decide +kernel
theorem dJ2_getChar_3b067_47 : decode cJ2_getChar_3b067 47 = .ok (.iload_n 1, 1) := by decide +kernel
theorem dJ2_getChar_3b067_48 : decode cJ2_getChar_3b067 48 = .ok (.baload, 1) := by decide +kernel
theorem dJ2_getChar_3b067_49 : decode cJ2_getChar_3b067 49 = .ok (.sipush 255, 3) := by decide +kernel
theorem dJ2_getChar_3b067_52 : decode cJ2_getChar_3b067 52 = .ok (.iand, 1) := by decide +kernel
theorem dJ2_getChar_3b067_53 : decode cJ2_getChar_3b067 53 = .ok (.getstatic 63, 3) := by decide +kernel
theorem dJ2_getChar_3b067_56 : decode cJ2_getChar_3b067 56 = .ok (.ishl, 1) := by decide +kernel
theorem dJ2_getChar_3b067_57 : decode cJ2_getChar_3b067 57 = .ok (.ior, 1) := by decide +kernel
theorem dJ2_getChar_3b067_58 : decode cJ2_getChar_3b067 58 = .ok (.i2c, 1) := by decide +kernel
theorem dJ2_getChar_3b067_59 : decode cJ2_getChar_3b067 59 = .ok (.ireturn, 1) := by decide +kernel
theorem dJ2_length_9d52b_0 : decode cJ2_length_9d52b 0 = .ok (.aload_n 0, 1) := by decide +kernel
theorem dJ2_length_9d52b_1 : decode cJ2_length_9d52b 1 = .ok (.arraylength, 1) := by decide +kernel
theorem dJ2_length_9d52b_2 : decode cJ2_length_9d52b 2 = .ok (.iconst 1, 1) := by decide +kernel
theorem dJ2_length_9d52b_3 : decode cJ2_length_9d52b 3 = .ok (.ishr, 1) := by decide +kernel
theorem dJ2_length_9d52b_4 : decode cJ2_length_9d52b 4 = .ok (.ireturn, 1) := by decide +kernel
theorem dJ2_indexOf_4cfef_0 : decode cJ2_indexOf_4cfef 0 = .ok (.iload_n 2, 1) := by decide +kernel
theorem dJ2_indexOf_4cfef_1 : decode cJ2_indexOf_4cfef 1 = .ok (.iconst 0, 1) := by decide +kernel
theorem dJ2_indexOf_4cfef_2 : decode cJ2_indexOf_4cfef 2 = .ok (.invokestatic 224, 3) := by decide +kernel
theorem dJ2_indexOf_4cfef_5 : decode cJ2_indexOf_4cfef 5 = .ok (.istore_n 2, 1) := by decide +kernel
theorem dJ2_indexOf_4cfef_6 : decode cJ2_indexOf_4cfef 6 = .ok (.iload_n 3, 1) := by decide +kernel
theorem dJ2_indexOf_4cfef_7 : decode cJ2_indexOf_4cfef 7 = .ok (.aload_n 0, 1) := by decide +kernel
theorem dJ2_indexOf_4cfef_8 : decode cJ2_indexOf_4cfef 8 = .ok (.arraylength, 1) := by decide +kernel
theorem dJ2_indexOf_4cfef_9 : decode cJ2_indexOf_4cfef 9 = .ok (.iconst 1, 1) := by decide +kernel
theorem dJ2_indexOf_4cfef_10 : decode cJ2_indexOf_4cfef 10 = .ok (.ishr, 1) := by decide +kernel
theorem dJ2_indexOf_4cfef_11 : decode cJ2_indexOf_4cfef 11 = .ok (.invokestatic 183, 3) := by decide +kernel
theorem dJ2_indexOf_4cfef_14 : decode cJ2_indexOf_4cfef 14 = .ok (.istore_n 3, 1) := by decide +kernel
theorem dJ2_indexOf_4cfef_15 : decode cJ2_indexOf_4cfef 15 = .ok (.iload_n 2, 1) := by decide +kernel
theorem dJ2_indexOf_4cfef_16 : decode cJ2_indexOf_4cfef 16 = .ok (.iload_n 3, 1) := by decide +kernel
theorem dJ2_indexOf_4cfef_17 : decode cJ2_indexOf_4cfef 17 = .ok (.if_icmp .lt 5, 3) := by decide +kernel
theorem dJ2_indexOf_4cfef_20 : decode cJ2_indexOf_4cfef 20 = .ok (.iconst (-1), 1) := by decide +kernel
theorem dJ2_indexOf_4cfef_21 : decode cJ2_indexOf_4cfef 21 = .ok (.ireturn, 1) := by decide +kernel
theorem dJ2_indexOf_4cfef_22 : decode cJ2_indexOf_4cfef 22 = .ok (.iload_n 1, 1) := by decide +kernel
theorem dJ2_indexOf_4cfef_23 : decode cJ2_indexOf_4cfef 23 = .ok (.ldc 227, 2) := by decide +kernel
theorem dJ2_indexOf_4cfef_25 : decode cJ2_indexOf_4cfef 25 = .ok (.if_icmp .ge 11, 3) := by decide +kernel
theorem dJ2_indexOf_4cfef_28 : decode cJ2_indexOf_4cfef 28 = .ok (.aload_n 0, 1) := by decide +kernel
theorem dJ2_indexOf_4cfef_29 : decode cJ2_indexOf_4cfef 29 = .ok (.iload_n 1, 1) := by decide +kernel
theorem dJ2_indexOf_4cfef_30 : decode cJ2_indexOf_4cfef 30 = .ok (.iload_n 2, 1) := by decide +kernel
theorem dJ2_indexOf_4cfef_31 : decode cJ2_indexOf_4cfef 31 = .ok (.iload_n 3, 1) := by decide +kernel
theorem dJ2_indexOf_4cfef_32 : decode cJ2_indexOf_4cfef 32 = .ok (.invokestatic 228, 3) := by decide +kernel
theorem dJ2_indexOf_4cfef_35 : decode cJ2_indexOf_4cfef 35 = .ok (.ireturn, 1) := by decide +kernel
theorem dJ2_indexOf_4cfef_36 : decode cJ2_indexOf_4cfef 36 = .ok (.aload_n 0, 1) := by decide +kernel
theorem dJ2_indexOf_4cfef_37 : decode cJ2_indexOf_4cfef 37 = .ok (.iload_n 1, 1) := by decide +kernel
theorem dJ2_indexOf_4cfef_38 : decode cJ2_indexOf_4cfef 38 = .ok (.iload_n 2, 1) := by decide +kernel
theorem dJ2_indexOf_4cfef_39 : decode cJ2_indexOf_4cfef 39 = .ok (.iload_n 3, 1) := by decide +kernel
theorem dJ2_indexOf_4cfef_40 : decode cJ2_indexOf_4cfef 40 = .ok (.invokestatic 232, 3) := by decide +kernel
theorem dJ2_indexOf_4cfef_43 : decode cJ2_indexOf_4cfef 43 = .ok (.ireturn, 1) := by decide +kernel
theorem dJ2_indexOfChar_4cfef_0 : decode cJ2_indexOfChar_4cfef 0 = .ok (.iload_n 2, 1) := by decide +kernel
theorem dJ2_indexOfChar_4cfef_1 : decode cJ2_indexOfChar_4cfef 1 = .ok (.iload_n 3, 1) := by decide +kernel
theorem dJ2_indexOfChar_4cfef_2 : decode cJ2_indexOfChar_4cfef 2 = .ok (.aload_n 0, 1) := by decide +kernel
theorem dJ2_indexOfChar_4cfef_3 : decode cJ2_indexOfChar_4cfef 3 = .ok (.invokestatic 96, 3) := by decide +kernel
theorem dJ2_indexOfChar_4cfef_6 : decode cJ2_indexOfChar_4cfef 6 = .ok (.aload_n 0, 1) := by decide +kernel
theorem dJ2_indexOfChar_4cfef_7 : decode cJ2_indexOfChar_4cfef 7 = .ok (.iload_n 1, 1) := by decide +kernel
theorem dJ2_indexOfChar_4cfef_8 : decode cJ2_indexOfChar_4cfef 8 = .ok (.iload_n 2, 1) := by decide +kernel
theorem dJ2_indexOfChar_4cfef_9 : decode cJ2_indexOfChar_4cfef 9 = .ok (.iload_n 3, 1) := by decide +kernel
theorem dJ2_indexOfChar_4cfef_10 : decode cJ2_indexOfChar_4cfef 10 = .ok (.invokestatic 244, 3) := by decide +kernel
theorem dJ2_indexOfChar_4cfef_13 : decode cJ2_indexOfChar_4cfef 13 = .ok (.ireturn, 1) := by decide +kernel
theorem dJ2_indexOfCharUnsafe_4cfef_0 : decode cJ2_indexOfCharUnsafe_4cfef 0 = .ok (.iload_n 2, 1) := by decide +kernel
theorem dJ2_indexOfCharUnsafe_4cfef_1 : decode cJ2_indexOfCharUnsafe_4cfef 1 = .ok (.istore 4, 2) := by decide +kernel
theorem dJ2_indexOfCharUnsafe_4cfef_3 : decode cJ2_indexOfCharUnsafe_4cfef 3 = .ok (.iload 4, 2) := by decide +kernel
theorem dJ2_indexOfCharUnsafe_4cfef_5 : decode cJ2_indexOfCharUnsafe_4cfef 5 = .ok (.iload_n 3, 1) := by decide +kernel
theorem dJ2_indexOfCharUnsafe_4cfef_6 : decode cJ2_indexOfCharUnsafe_4cfef 6 = .ok (.if_icmp .ge 22, 3) := by decide +kernel
theorem dJ2_indexOfCharUnsafe_4cfef_9 : decode cJ2_indexOfCharUnsafe_4cfef 9 = .ok (.aload_n 0, 1) := by decide +kernel
theorem dJ2_indexOfCharUnsafe_4cfef_10 : decode cJ2_indexOfCharUnsafe_4cfef 10 = .ok (.iload 4, 2) := by decide +kernel
theorem dJ2_indexOfCharUnsafe_4cfef_12 : decode cJ2_indexOfCharUnsafe_4cfef 12 = .ok (.invokestatic 71, 3) := by decide +kernel
theorem dJ2_indexOfCharUnsafe_4cfef_15 : decode cJ2_indexOfCharUnsafe_4cfef 15 = .ok (.iload_n 1, 1) := by decide +kernel
theorem dJ2_indexOfCharUnsafe_4cfef_16 : decode cJ2_indexOfCharUnsafe_4cfef 16 = .ok (.if_icmp .ne 6, 3) := by decide +kernel
theorem dJ2_indexOfCharUnsafe_4cfef_19 : decode cJ2_indexOfCharUnsafe_4cfef 19 = .ok (.iload 4, 2) := by decide +kernel
theorem dJ2_indexOfCharUnsafe_4cfef_21 : decode cJ2_indexOfCharUnsafe_4cfef 21 = .ok (.ireturn, 1) := by decide +kernel
theorem dJ2_indexOfCharUnsafe_4cfef_22 : decode cJ2_indexOfCharUnsafe_4cfef 22 = .ok (.iinc 4 1, 3) := by decide +kernel
theorem dJ2_indexOfCharUnsafe_4cfef_25 : decode cJ2_indexOfCharUnsafe_4cfef 25 = .ok (.goto (-22), 3) := by decide +kernel
theorem dJ2_indexOfCharUnsafe_4cfef_28 : decode cJ2_indexOfCharUnsafe_4cfef 28 = .ok (.iconst (-1), 1) := by decide +kernel
theorem dJ2_indexOfCharUnsafe_4cfef_29 : decode cJ2_indexOfCharUnsafe_4cfef 29 = .ok (.ireturn, 1) := by decide +kernel
theorem dJ2_indexOfSupplementary_4cfef_0 : decode cJ2_indexOfSupplementary_4cfef 0 = .ok (.iload_n 1, 1) := by decide +kernel
theorem dJ2_indexOfSupplementary_4cfef_1 : decode cJ2_indexOfSupplementary_4cfef 1 = .ok (.invokestatic 164, 3) := by decide +kernel
theorem dJ2_indexOfSupplementary_4cfef_4 : decode cJ2_indexOfSupplementary_4cfef 4 = .ok (.ifCond .eq 65, 3) := by decide +kernel
theorem dJ2_indexOfSupplementary_4cfef_7 : decode cJ2_indexOfSupplementary_4cfef 7 = .ok (.iload_n 1, 1) := by decide +kernel
theorem dJ2_indexOfSupplementary_4cfef_8 : decode cJ2_indexOfSupplementary_4cfef 8 = .ok (.invokestatic 157, 3) := by decide +kernel
theorem dJ2_indexOfSupplementary_4cfef_11 : decode cJ2_indexOfSupplementary_4cfef 11 = .ok (.istore 4, 2) := by decide +kernel
theorem dJ2_indexOfSupplementary_4cfef_13 : decode cJ2_indexOfSupplementary_4cfef 13 = .ok (.iload_n 1, 1) := by decide +kernel
theorem dJ2_indexOfSupplementary_4cfef_14 : decode cJ2_indexOfSupplementary_4cfef 14 = .ok (.invokestatic 161, 3) := by decide +kernel
theorem dJ2_indexOfSupplementary_4cfef_17 : decode cJ2_indexOfSupplementary_4cfef 17 = .ok (.istore 5, 2) := by decide +kernel
theorem dJ2_indexOfSupplementary_4cfef_19 : decode cJ2_indexOfSupplementary_4cfef 19 = .ok (.iload_n 2, 1) := by decide +kernel
theorem dJ2_indexOfSupplementary_4cfef_20 : decode cJ2_indexOfSupplementary_4cfef 20 = .ok (.iload_n 3, 1) := by decide +kernel
theorem dJ2_indexOfSupplementary_4cfef_21 : decode cJ2_indexOfSupplementary_4cfef 21 = .ok (.aload_n 0, 1) := by decide +kernel
theorem dJ2_indexOfSupplementary_4cfef_22 : decode cJ2_indexOfSupplementary_4cfef 22 = .ok (.invokestatic 96, 3) := by decide +kernel
theorem dJ2_indexOfSupplementary_4cfef_25 : decode cJ2_indexOfSupplementary_4cfef 25 = .ok (.iload_n 2, 1) := by decide +kernel
theorem dJ2_indexOfSupplementary_4cfef_26 : decode cJ2_indexOfSupplementary_4cfef 26 = .ok (.istore 6, 2) := by decide +kernel
theorem dJ2_indexOfSupplementary_4cfef_28 : decode cJ2_indexOfSupplementary_4cfef 28 = .ok (.iload 6, 2) := by decide +kernel
theorem dJ2_indexOfSupplementary_4cfef_30 : decode cJ2_indexOfSupplementary_4cfef 30 = .ok (.iload_n 3, 1) := by decide +kernel
theorem dJ2_indexOfSupplementary_4cfef_31 : decode cJ2_indexOfSupplementary_4cfef 31 = .ok (.iconst 1, 1) := by decide +kernel
theorem dJ2_indexOfSupplementary_4cfef_32 : decode cJ2_indexOfSupplementary_4cfef 32 = .ok (.isub, 1) := by decide +kernel
theorem dJ2_indexOfSupplementary_4cfef_33 : decode cJ2_indexOfSupplementary_4cfef 33 = .ok (.if_icmp .ge 36, 3) := by decide +kernel
theorem dJ2_indexOfSupplementary_4cfef_36 : decode cJ2_indexOfSupplementary_4cfef 36 = .ok (.aload_n 0, 1) := by decide +kernel
theorem dJ2_indexOfSupplementary_4cfef_37 : decode cJ2_indexOfSupplementary_4cfef 37 = .ok (.iload 6, 2) := by decide +kernel
theorem dJ2_indexOfSupplementary_4cfef_39 : decode cJ2_indexOfSupplementary_4cfef 39 = .ok (.invokestatic 71, 3) := by decide +kernel
theorem dJ2_indexOfSupplementary_4cfef_42 : decode cJ2_indexOfSupplementary_4cfef 42 = .ok (.iload 4, 2) := by decide +kernel
theorem dJ2_indexOfSupplementary_4cfef_44 : decode cJ2_indexOfSupplementary_4cfef 44 = .ok (.if_icmp .ne 19, 3) := by decide +kernel
theorem dJ2_indexOfSupplementary_4cfef_47 : decode cJ2_indexOfSupplementary_4cfef 47 = .ok (.aload_n 0, 1) := by decide +kernel
theorem dJ2_indexOfSupplementary_4cfef_48 : decode cJ2_indexOfSupplementary_4cfef 48 = .ok (.iload 6, 2) := by decide +kernel
theorem dJ2_indexOfSupplementary_4cfef_50 : decode cJ2_indexOfSupplementary_4cfef 50 = .ok (.iconst 1, 1) := by decide +kernel
theorem dJ2_indexOfSupplementary_4cfef_51 : decode cJ2_indexOfSupplementary_4cfef 51 = .ok (.iadd, 1) := by decide +kernel
theorem dJ2_indexOfSupplementary_4cfef_52 : decode cJ2_indexOfSupplementary_4cfef 52 = .ok (.invokestatic 71, 3) := by decide +kernel
theorem dJ2_indexOfSupplementary_4cfef_55 : decode cJ2_indexOfSupplementary_4cfef 55 = .ok (.iload 5, 2) := by decide +kernel
theorem dJ2_indexOfSupplementary_4cfef_57 : decode cJ2_indexOfSupplementary_4cfef 57 = .ok (.if_icmp .ne 6, 3) := by decide +kernel
theorem dJ2_indexOfSupplementary_4cfef_60 : decode cJ2_indexOfSupplementary_4cfef 60 = .ok (.iload 6, 2) := by decide +kernel
theorem dJ2_indexOfSupplementary_4cfef_62 : decode cJ2_indexOfSupplementary_4cfef 62 = .ok (.ireturn, 1) := by decide +kernel
theorem dJ2_indexOfSupplementary_4cfef_63 : decode cJ2_indexOfSupplementary_4cfef 63 = .ok (.iinc 6 1, 3) := by decide +kernel
theorem dJ2_indexOfSupplementary_4cfef_66 : decode cJ2_indexOfSupplementary_4cfef 66 = .ok (.goto (-38), 3) := by decide +kernel
theorem dJ2_indexOfSupplementary_4cfef_69 : decode cJ2_indexOfSupplementary_4cfef 69 = .ok (.iconst (-1), 1) := by decide +kernel
theorem dJ2_indexOfSupplementary_4cfef_70 : decode cJ2_indexOfSupplementary_4cfef 70 = .ok (.ireturn, 1) := by decide +kernel
theorem dJ2_charAt_3b067_0 : decode cJ2_charAt_3b067 0 = .ok (.iload_n 1, 1) := by decide +kernel
theorem dJ2_charAt_3b067_1 : decode cJ2_charAt_3b067 1 = .ok (.aload_n 0, 1) := by decide +kernel
theorem dJ2_charAt_3b067_2 : decode cJ2_charAt_3b067 2 = .ok (.invokestatic 67, 3) := by decide +kernel
theorem dJ2_charAt_3b067_5 : decode cJ2_charAt_3b067 5 = .ok (.aload_n 0, 1) := by decide +kernel
theorem dJ2_charAt_3b067_6 : decode cJ2_charAt_3b067 6 = .ok (.iload_n 1, 1) := by decide +kernel
theorem dJ2_charAt_3b067_7 : decode cJ2_charAt_3b067 7 = .ok (.invokestatic 71, 3) := by decide +kernel
theorem dJ2_charAt_3b067_10 : decode cJ2_charAt_3b067 10 = .ok (.ireturn, 1) := by decide +kernel
theorem dJ2_checkIndex_2214a_0 : decode cJ2_checkIndex_2214a 0 = .ok (.iload_n 0, 1) := by decide +kernel
theorem dJ2_checkIndex_2214a_1 : decode cJ2_checkIndex_2214a 1 = .ok (.aload_n 1, 1) := by decide +kernel
theorem dJ2_checkIndex_2214a_2 : decode cJ2_checkIndex_2214a 2 = .ok (.invokestatic 48, 3) := by decide +kernel
theorem dJ2_checkIndex_2214a_5 : decode cJ2_checkIndex_2214a 5 = .ok (.invokestatic 414, 3) := by decide +kernel
theorem dJ2_checkIndex_2214a_8 : decode cJ2_checkIndex_2214a 8 = .ok (.return_, 1) := by decide +kernel
theorem dJ2_checkBoundsBeginEnd_d044e_0 : decode cJ2_checkBoundsBeginEnd_d044e 0 = .ok (.iload_n 0, 1) := by decide +kernel
theorem dJ2_checkBoundsBeginEnd_d044e_1 : decode cJ2_checkBoundsBeginEnd_d044e 1 = .ok (.iload_n 1, 1) := by decide +kernel
theorem dJ2_checkBoundsBeginEnd_d044e_2 : decode cJ2_checkBoundsBeginEnd_d044e 2 = .ok (.aload_n 2, 1) := by decide +kernel
theorem dJ2_checkBoundsBeginEnd_d044e_3 : decode cJ2_checkBoundsBeginEnd_d044e 3 = .ok (.invokestatic 48, 3) := by decide +kernel
theorem dJ2_checkBoundsBeginEnd_d044e_6 : decode cJ2_checkBoundsBeginEnd_d044e 6 = .ok (.invokestatic 241, 3) := by decide +kernel
theorem dJ2_checkBoundsBeginEnd_d044e_9 : decode cJ2_checkBoundsBeginEnd_d044e 9 = .ok (.return_, 1) := by decide +kernel
theorem dJ7_fill_53178_0 : decode cJ7_fill_53178 0 = .ok (.iconst 0, 1) := by decide +kernel
theorem dJ7_fill_53178_1 : decode cJ7_fill_53178 1 = .ok (.istore_n 2, 1) := by decide +kernel
theorem dJ7_fill_53178_2 : decode cJ7_fill_53178 2 = .ok (.aload_n 0, 1) := by decide +kernel
theorem dJ7_fill_53178_3 : decode cJ7_fill_53178 3 = .ok (.arraylength, 1) := by decide +kernel
theorem dJ7_fill_53178_4 : decode cJ7_fill_53178 4 = .ok (.istore_n 3, 1) := by decide +kernel
theorem dJ7_fill_53178_5 : decode cJ7_fill_53178 5 = .ok (.iload_n 2, 1) := by decide +kernel
theorem dJ7_fill_53178_6 : decode cJ7_fill_53178 6 = .ok (.iload_n 3, 1) := by decide +kernel
theorem dJ7_fill_53178_7 : decode cJ7_fill_53178 7 = .ok (.if_icmp .ge 13, 3) := by decide +kernel
theorem dJ7_fill_53178_10 : decode cJ7_fill_53178 10 = .ok (.aload_n 0, 1) := by decide +kernel
theorem dJ7_fill_53178_11 : decode cJ7_fill_53178 11 = .ok (.iload_n 2, 1) := by decide +kernel
theorem dJ7_fill_53178_12 : decode cJ7_fill_53178 12 = .ok (.iload_n 1, 1) := by decide +kernel
theorem dJ7_fill_53178_13 : decode cJ7_fill_53178 13 = .ok (.iastore, 1) := by decide +kernel
theorem dJ7_fill_53178_14 : decode cJ7_fill_53178 14 = .ok (.iinc 2 1, 3) := by decide +kernel
theorem dJ7_fill_53178_17 : decode cJ7_fill_53178 17 = .ok (.goto (-12), 3) := by decide +kernel
theorem dJ7_fill_53178_20 : decode cJ7_fill_53178 20 = .ok (.return_, 1) := by decide +kernel
theorem dJ7_copyOf_59c91_0 : decode cJ7_copyOf_59c91 0 = .ok (.iload_n 1, 1) := by decide +kernel
theorem dJ7_copyOf_59c91_1 : decode cJ7_copyOf_59c91 1 = .ok (.aload_n 0, 1) := by decide +kernel
theorem dJ7_copyOf_59c91_2 : decode cJ7_copyOf_59c91 2 = .ok (.arraylength, 1) := by decide +kernel
theorem dJ7_copyOf_59c91_3 : decode cJ7_copyOf_59c91 3 = .ok (.if_icmp .ne 11, 3) := by decide +kernel
theorem dJ7_copyOf_59c91_6 : decode cJ7_copyOf_59c91 6 = .ok (.aload_n 0, 1) := by decide +kernel
theorem dJ7_copyOf_59c91_7 : decode cJ7_copyOf_59c91 7 = .ok (.invokevirtual 316, 3) := by decide +kernel
theorem dJ7_copyOf_59c91_10 : decode cJ7_copyOf_59c91 10 = .ok (.checkcast 317, 3) := by decide +kernel
theorem dJ7_copyOf_59c91_13 : decode cJ7_copyOf_59c91 13 = .ok (.areturn, 1) := by decide +kernel
theorem dJ7_copyOf_59c91_14 : decode cJ7_copyOf_59c91 14 = .ok (.iload_n 1, 1) := by decide +kernel
theorem dJ7_copyOf_59c91_15 : decode cJ7_copyOf_59c91 15 = .ok (.newarray .int, 2) := by decide +kernel
theorem dJ7_copyOf_59c91_17 : decode cJ7_copyOf_59c91 17 = .ok (.astore_n 2, 1) := by decide +kernel
theorem dJ7_copyOf_59c91_18 : decode cJ7_copyOf_59c91 18 = .ok (.aload_n 0, 1) := by decide +kernel
theorem dJ7_copyOf_59c91_19 : decode cJ7_copyOf_59c91 19 = .ok (.iconst 0, 1) := by decide +kernel
theorem dJ7_copyOf_59c91_20 : decode cJ7_copyOf_59c91 20 = .ok (.aload_n 2, 1) := by decide +kernel
theorem dJ7_copyOf_59c91_21 : decode cJ7_copyOf_59c91 21 = .ok (.iconst 0, 1) := by decide +kernel
theorem dJ7_copyOf_59c91_22 : decode cJ7_copyOf_59c91 22 = .ok (.aload_n 0, 1) := by decide +kernel
theorem dJ7_copyOf_59c91_23 : decode cJ7_copyOf_59c91 23 = .ok (.arraylength, 1) := by decide +kernel
theorem dJ7_copyOf_59c91_24 : decode cJ7_copyOf_59c91 24 = .ok (.iload_n 1, 1) := by decide +kernel
theorem dJ7_copyOf_59c91_25 : decode cJ7_copyOf_59c91 25 = .ok (.invokestatic 304, 3) := by decide +kernel
theorem dJ7_copyOf_59c91_28 : decode cJ7_copyOf_59c91 28 = .ok (.invokestatic 150, 3) := by decide +kernel
theorem dJ7_copyOf_59c91_31 : decode cJ7_copyOf_59c91 31 = .ok (.aload_n 2, 1) := by decide +kernel
theorem dJ7_copyOf_59c91_32 : decode cJ7_copyOf_59c91 32 = .ok (.areturn, 1) := by decide +kernel
theorem dJ3_checkIndex_8e157_0 : decode cJ3_checkIndex_8e157 0 = .ok (.iload_n 0, 1) := by decide +kernel
theorem dJ3_checkIndex_8e157_1 : decode cJ3_checkIndex_8e157 1 = .ok (.ifCond .lt 8, 3) := by decide +kernel
theorem dJ3_checkIndex_8e157_4 : decode cJ3_checkIndex_8e157 4 = .ok (.iload_n 0, 1) := by decide +kernel
theorem dJ3_checkIndex_8e157_5 : decode cJ3_checkIndex_8e157 5 = .ok (.iload_n 1, 1) := by decide +kernel
theorem dJ3_checkIndex_8e157_6 : decode cJ3_checkIndex_8e157 6 = .ok (.if_icmp .lt 10, 3) := by decide +kernel
theorem dJ3_checkIndex_8e157_9 : decode cJ3_checkIndex_8e157 9 = .ok (.aload_n 2, 1) := by decide +kernel
theorem dJ3_checkIndex_8e157_10 : decode cJ3_checkIndex_8e157 10 = .ok (.iload_n 0, 1) := by decide +kernel
theorem dJ3_checkIndex_8e157_11 : decode cJ3_checkIndex_8e157 11 = .ok (.iload_n 1, 1) := by decide +kernel
theorem dJ3_checkIndex_8e157_12 : decode cJ3_checkIndex_8e157 12 = .ok (.invokestatic 95, 3) := by decide +kernel
theorem dJ3_checkIndex_8e157_15 : decode cJ3_checkIndex_8e157 15 = .ok (.athrow, 1) := by decide +kernel
theorem dJ3_checkIndex_8e157_16 : decode cJ3_checkIndex_8e157 16 = .ok (.iload_n 0, 1) := by decide +kernel
theorem dJ3_checkIndex_8e157_17 : decode cJ3_checkIndex_8e157 17 = .ok (.ireturn, 1) := by decide +kernel
theorem dJ3_checkFromToIndex_8c36e_0 : decode cJ3_checkFromToIndex_8c36e 0 = .ok (.iload_n 0, 1) := by decide +kernel
theorem dJ3_checkFromToIndex_8c36e_1 : decode cJ3_checkFromToIndex_8c36e 1 = .ok (.ifCond .lt 13, 3) := by decide +kernel
theorem dJ3_checkFromToIndex_8c36e_4 : decode cJ3_checkFromToIndex_8c36e 4 = .ok (.iload_n 0, 1) := by decide +kernel
theorem dJ3_checkFromToIndex_8c36e_5 : decode cJ3_checkFromToIndex_8c36e 5 = .ok (.iload_n 1, 1) := by decide +kernel
theorem dJ3_checkFromToIndex_8c36e_6 : decode cJ3_checkFromToIndex_8c36e 6 = .ok (.if_icmp .gt 8, 3) := by decide +kernel
theorem dJ3_checkFromToIndex_8c36e_9 : decode cJ3_checkFromToIndex_8c36e 9 = .ok (.iload_n 1, 1) := by decide +kernel
theorem dJ3_checkFromToIndex_8c36e_10 : decode cJ3_checkFromToIndex_8c36e 10 = .ok (.iload_n 2, 1) := by decide +kernel
theorem dJ3_checkFromToIndex_8c36e_11 : decode cJ3_checkFromToIndex_8c36e 11 = .ok (.if_icmp .le 11, 3) := by decide +kernel
theorem dJ3_checkFromToIndex_8c36e_14 : decode cJ3_checkFromToIndex_8c36e 14 = .ok (.aload_n 3, 1) := by decide +kernel
theorem dJ3_checkFromToIndex_8c36e_15 : decode cJ3_checkFromToIndex_8c36e 15 = .ok (.iload_n 0, 1) := by decide +kernel
theorem dJ3_checkFromToIndex_8c36e_16 : decode cJ3_checkFromToIndex_8c36e 16 = .ok (.iload_n 1, 1) := by decide +kernel
theorem dJ3_checkFromToIndex_8c36e_17 : decode cJ3_checkFromToIndex_8c36e 17 = .ok (.iload_n 2, 1) := by decide +kernel
theorem dJ3_checkFromToIndex_8c36e_18 : decode cJ3_checkFromToIndex_8c36e 18 = .ok (.invokestatic 99, 3) := by decide +kernel
theorem dJ3_checkFromToIndex_8c36e_21 : decode cJ3_checkFromToIndex_8c36e 21 = .ok (.athrow, 1) := by decide +kernel
theorem dJ3_checkFromToIndex_8c36e_22 : decode cJ3_checkFromToIndex_8c36e 22 = .ok (.iload_n 0, 1) := by decide +kernel
theorem dJ3_checkFromToIndex_8c36e_23 : decode cJ3_checkFromToIndex_8c36e 23 = .ok (.ireturn, 1) := by decide +kernel
end
section
/-! THE LAYER: a memory M of rows of ints (region k, place j), a layout that says which cell region k is, the judgement Go (the machine at pc, with locals V and stack st, in a heap that holds M, comes to its end), the contract Ct -/
abbrev Mem : Type := Nat → Nat → Int32
abbrev Lay : Type := Nat × (Nat → (Nat → Int32) → va_E)
abbrev ix (i : Int32) : Nat := i.toNatClampNeg
def up (M : Mem) (k : Nat) (r : Nat → Int32) : Mem := fun j => if j = k then r else M j
def sto (M : Mem) (k i : Nat) (v : Int32) : Mem := up M k (upd (M k) i v)
def ib (i : Int32) (n : Nat) : Bool := decide (0 ≤ i.toInt) && decide (i.toInt < (n : Int))
def gd {α : Type} (b : Bool) (k : Option α) : Option α := match b with
  | true => k
  | false => none
def nm {α β : Type} (a : α) (k : α → Option β) : Option β := k a
def bd {α β : Type} (o : Option α) (k : α → Option β) : Option β := match o with
  | some a => k a
  | none => none
def bd2 {α β γ : Type} (o : Option (α × β)) (k : α → β → Option γ) : Option γ := match o with
  | some q => k q.1 q.2
  | none => none
def rd {β : Type} (M : Mem) (k n : Nat) (i : Int32) (f : Int32 → Option β) : Option β := match ib i n with
  | true => f (M k (ix i))
  | false => none
def wr {β : Type} (M : Mem) (k n : Nat) (i v : Int32) (f : Mem → Option β) : Option β := match ib i n with
  | true => f (sto M k (ix i) v)
  | false => none
theorem rd_e {β : Type} {M : Mem} {k n : Nat} {i : Int32} {f : Int32 → Option β} {v : β} (h : rd M k n i f = some v) : ib i n = true ∧ ∃ y, M k (ix i) = y ∧ f y = some v := by
  unfold rd at h
  cases hb : ib i n with
  | true => rw [hb] at h; exact ⟨rfl, _, rfl, h⟩
  | false => rw [hb] at h; cases h
theorem wr_e {β : Type} {M : Mem} {k n : Nat} {i u : Int32} {f : Mem → Option β} {v : β} (h : wr M k n i u f = some v) : ib i n = true ∧ ∃ y, sto M k (ix i) u = y ∧ f y = some v := by
  unfold wr at h
  cases hb : ib i n with
  | true => rw [hb] at h; exact ⟨rfl, _, rfl, h⟩
  | false => rw [hb] at h; cases h
theorem bd2_e {α β γ : Type} {o : Option (α × β)} {k : α → β → Option γ} {v : γ} (h : bd2 o k = some v) : ∃ a b, o = some (a, b) ∧ k a b = some v := by
  cases o with
  | none => cases h
  | some q => exact ⟨q.1, q.2, rfl, h⟩
def bz (a : Int32) : Bool := decide (a = 0) || decide (a = 1)
theorem bz_n {a : Int32} (h : bz a = true) : narrow .boolean (.int a) = .int a := by
  rw [bz, Bool.or_eq_true, decide_eq_true_eq, decide_eq_true_eq] at h
  rcases h with rfl | rfl <;> rfl
theorem inc_e {n : Int} {c a y : Int32} (h : Int32.ofInt n = c) (e : a + c = y) : a + Int32.ofInt n = y := by rw [h]; exact e
theorem gd_e {α : Type} {b : Bool} {k : Option α} {v : α} (h : gd b k = some v) : b = true ∧ k = some v := by
  cases b with
  | true => exact ⟨rfl, h⟩
  | false => cases h
theorem nm_o {α β : Type} {a : α} {k : α → Option β} {v : β} (h : nm a k = some v) : ∃ y, a = y ∧ k y = some v := ⟨a, rfl, h⟩
theorem bd_e {α β : Type} {o : Option α} {k : α → Option β} {v : β} (h : bd o k = some v) : ∃ a, o = some a ∧ k a = some v := by
  cases o with
  | none => cases h
  | some a => exact ⟨a, rfl, h⟩
theorem ip {α : Type} {c : Prop} [Decidable c] {a b r : α} (h : c) (hf : (if c then a else b) = r) : a = r := by rw [if_pos h] at hf; exact hf
theorem im {α : Type} {c : Prop} [Decidable c] {a b r : α} (h : ¬ c) (hf : (if c then a else b) = r) : b = r := by rw [if_neg h] at hf; exact hf
theorem ib_in {i : Int32} {n : Nat} (h : ib i n = true) : vp_in i n := by
  rw [ib, Bool.and_eq_true, decide_eq_true_eq, decide_eq_true_eq] at h
  exact vp_in_iff.mpr h
def wsOf (h : Nat → Nat) (L : Lay) (M : Mem) : va_W := (List.range L.1).map (fun k => (h k, L.2 k (M k)))
theorem wsOf_at {h : Nat → Nat} {L : Lay} {M : Mem} {k : Nat} (hk : k < L.1) : (wsOf h L M)[k]? = some (h k, L.2 k (M k)) := by
  simp [wsOf, List.getElem?_map, List.getElem?_range hk]
theorem wsOf_len {h : Nat → Nat} {L : Lay} {M : Mem} : (wsOf h L M).length = L.1 := by simp [wsOf]
theorem wsOf_get {h : Nat → Nat} {L : Lay} {M : Mem} {k : Nat} {q : Nat × va_E} (hq : (wsOf h L M)[k]? = some q) : k < L.1 ∧ q = (h k, L.2 k (M k)) := by
  have hk : k < L.1 := by
    have h1 := (List.getElem?_eq_some_iff.mp hq).1
    rwa [wsOf_len] at h1
  rw [wsOf_at hk] at hq
  exact ⟨hk, (Option.some.inj hq).symm⟩
theorem up_s {M : Mem} {k : Nat} {r : Nat → Int32} : up M k r k = r := if_pos rfl
theorem up_n {M : Mem} {k j : Nat} {r : Nat → Int32} (h : j ≠ k) : up M k r j = M j := if_neg h
theorem wsOf_set {h : Nat → Nat} {L : Lay} {M : Mem} {k : Nat} {r : Nat → Int32} {e : va_E} (hk : k < L.1) (he : L.2 k r = e) : (wsOf h L M).set k (h k, e) = wsOf h L (up M k r) := by
  apply List.ext_getElem?
  intro j
  rw [List.getElem?_set]
  by_cases hj : k = j
  · subst hj
    rw [if_pos rfl, wsOf_at hk, up_s, he, if_pos (by rw [wsOf_len]; exact hk)]
  · rw [if_neg hj]
    by_cases hl : j < L.1
    · rw [wsOf_at hl, wsOf_at hl, up_n (fun q => hj q.symm)]
    · rw [List.getElem?_eq_none (by rw [wsOf_len]; omega), List.getElem?_eq_none (by rw [wsOf_len]; omega)]
def Inj (h : Nat → Nat) (n : Nat) : Prop := ∀ i j, i < n → j < n → h i = h j → i = j
theorem wsOf_D {h : Nat → Nat} {L : Lay} {M : Mem} {A : Nat → Prop} (hi : Inj h L.1) (hA : ∀ k, k < L.1 → A (h k)) : va_D A (wsOf h L M) := by
  refine ⟨fun i j p q hp hq e => ?_, fun k q hq => ?_⟩
  · obtain ⟨h1, rfl⟩ := wsOf_get hp
    obtain ⟨h2, rfl⟩ := wsOf_get hq
    exact hi i j h1 h2 e
  · obtain ⟨h1, rfl⟩ := wsOf_get hq
    exact hA k h1
def Ad (h : Nat → Nat) (n sz : Nat) : Nat → Prop := fun q => (∃ k, k < n ∧ q = h k) ∨ sz ≤ q
/-- the tables' words that stay good at a call -/
def TB : List Cond := lw_tbl.filter goodWord
theorem TB_good : GoodIn TB TB := fun w hw => ⟨hw, good_of_word (List.mem_filter.mp hw).2⟩
theorem TB_sub : ∀ w ∈ TB, w ∈ lw_tbl := fun w hw => (List.mem_filter.mp hw).1
theorem TB_t {w : Cond} (i : Nat) (h : tables_1[i]? = some w) (g : goodWord w = true) : w ∈ TB := List.mem_filter.mpr ⟨List.mem_append_right _ (List.mem_of_getElem? h), g⟩
theorem TB_p {w : Cond} (i : Nat) (h : (k2_sels lw_privs)[i]? = some w) (g : goodWord w = true) : w ∈ TB := List.mem_filter.mpr ⟨List.mem_append_left _ (List.mem_of_getElem? h), g⟩
/-! what stands outside: the reader's String constants, Kinds.ABOVE, two statics of the JDK; E: their addresses -/
abbrev Amd : Type := (Nat → Nat) × (Nat → Nat) × Nat
def poolS : List (Nat × String) := [(66, "lets"), (74, "gust"), (76, "fine"), (126, "w"), (128, "f"), (130, "g"), (132, "o"), (134, "s"), (136, "m"), (117, "!"), (119, "("), (124, ")"), (78, "|"), (80, "&"), (82, "<=>"), (84, "+-"), (86, "*/")]
def lenS : List Nat := [4, 4, 4, 1, 1, 1, 1, 1, 1, 1, 1, 1, 1, 1, 3, 2, 2]
def bytS : List (List Int32) := [[108, 101, 116, 115], [103, 117, 115, 116], [102, 105, 110, 101], [119], [102], [103], [111], [115], [109], [33], [40], [41], [124], [38], [60, 61, 62], [43, 45], [42, 47]]
def aboveV (j : Nat) : Int32 := ([-1, 0, 0, 1, 2, 0] : List Int32).getD j 0
def Amb (E : Amd) (A : Nat → Prop) (U : State) (H : Heap) : Prop := vk_S 17 lenS bytS E.1 E.2.1 A U H ∧ (∀ (i : Nat) (q : Nat × String), poolS[i]? = some q → vk_R RX4 q.1 q.2 (E.1 i) U) ∧ va_Z RX2 "ABOVE" "[I" (.ref E.2.2) A U H ∧ va_T .int E.2.2 6 (fun j => .int (aboveV j)) A U H ∧ va_Z RJ0 "COMPACT_STRINGS" "Z" (.int 1) A U H ∧ va_Zq RJ3 "SIOOBE_FORMATTER" "Ljava/util/function/BiFunction;" A U H
theorem Amb.go {E : Amd} {A B : Nat → Prop} {s U : State} {H : Heap} {locs : List Loc} (h : Amb E A s s.heap) (hS : va_S A s.heap H locs) (hAB : ∀ q, B q → A q) (hU : U.heap = H) (hW : s.WarmedH U.vm) : Amb E B U U.heap := by
  obtain ⟨h1, h2, h3, h4, h5, h6⟩ := h
  rw [hU]
  exact ⟨((h1.kept hS.2.1).narrow hAB).moved hW.alike, fun i q hq => (h2 i q hq).warm hW, ((h3.kept hS.2.1).narrow hAB).moved hW.alike, ((h4.kept hS.2.1).narrow hAB).moved hW.alike, ((h5.kept hS.2.1).narrow hAB).moved hW.alike, ((h6.kept hS.2.1).narrow hAB).moved hW.alike⟩
theorem Amb.blind {E : Amd} {A : Nat → Prop} {U : State} {g : JFrame} {mk : MethodId} {a : Array Value} (h : Amb E A U U.heap) : Amb E A (U.calling g mk a) (U.calling g mk a).heap := by
  obtain ⟨h1, h2, h3, h4, h5, h6⟩ := h
  exact ⟨h1.moved (Vm.Alike.refl U.vm), fun i q hq => (h2 i q hq).same rfl, h3.moved (Vm.Alike.refl U.vm), h4.moved (Vm.Alike.refl U.vm), h5.moved (Vm.Alike.refl U.vm), h6.moved (Vm.Alike.refl U.vm)⟩
/-- the machine's part: program, launch, environment, room, state at entry, method, arguments, frames below, its method and code, which cells are its own, cells and slots made, its end -/
abbrev En : Type := Program × Launch × Env × Room × State × MethodId × Array Value × List Frame × Method × Code × (Nat → Prop) × Nat × Nat × (State → Prop)
def LH (ls : Array Slot) (nL : Nat) (V : List (Option Value)) : Prop := ls.size = nL ∧ lv_wf ls ∧ ∀ (i : Nat) (v : Value), V[i]? = some (some v) → ls[i]? = some (.val v)
def Go (x : En) (D : va_G) (tys : List (ClassId × FieldType)) (h : Nat → Nat) (L : Lay) (nL : Nat) (M : Mem) (pc : Nat) (V : List (Option Value)) (st : List Value) : Prop := match x with
  | (p, l, e, R, s, m, args, below, meth, c, A, cells, slots, Q) => ∀ (H : Heap) (locs : List Loc) (ls : Array Slot), va_P D vwCl (wsOf h L M) H → va_S A s.heap H locs → LH ls nL V → W p l e R s m args below meth c H locs cells slots Q (F0 m pc ls st)
def Kx (x : En) (E : Amd) (D : va_G) (tys : List (ClassId × FieldType)) (h : Nat → Nat) (L : Lay) (own : String) (cc : ByteArray) (nL fr lo : Nat) : Prop := match x with
  | (p, _, _, R, s, m, args, _, meth, c, A, cells, slots, _) => CallFix p m c cc nL s args TB own ∧ va_K D vwCl tys s ∧ Inj h L.1 ∧ (∀ k, k < L.1 → A (h k)) ∧ (∀ q, s.heap.size ≤ q → A q) ∧ R.frames = fr ∧ R.locals = lo ∧ meth.locks = false ∧ (cells ≤ R.cells ∧ slots ≤ R.slots) ∧ Amb E A s s.heap
/-- the end of a contract -/
def Qv (v : Option Value) (D : va_G) (h : Nat → Nat) (L : Lay) (M' : Mem) (A : Nat → Prop) : Array Value → State → Outcome → State → Prop := fun _ st oc t => oc = .returned v ∧ va_P D vwCl (wsOf h L M') t.heap ∧ va_F A st t
/-- where the method is to come: its answer v, its memory M' -/
def Rt (x : En) (D : va_G) (h : Nat → Nat) (L : Lay) (ret : Option FieldType) (v : Option Value) (M' : Mem) : Prop := match x with
  | (_, _, _, _, s, _, args, below, meth, _, A, cells, slots, Q) => meth.sig.returnType = ret ∧ Q = MQ below (Qv v D h L M' A) args s cells slots A
def Pr (E : Amd) (D : va_G) (tys : List (ClassId × FieldType)) (h : Nat → Nat) (L : Lay) (M : Mem) (sz : Nat) : State → Prop := fun U => U.heap.size = sz ∧ va_P D vwCl (wsOf h L M) U.heap ∧ va_K D vwCl tys U ∧ Inj h L.1 ∧ Amb E (Ad h L.1 sz) U U.heap
def Ct (l : Launch) (E : Amd) (D : va_G) (tys : List (ClassId × FieldType)) (h : Nat → Nat) (L : Lay) (y : MethodName) (cc : ByteArray) (nL : Nat) (ret : Option FieldType) (fr lo : Nat) (av : List Value) (M : Mem) (v : Option Value) (M' : Mem) : Prop :=
  ∀ sz : Nat, Met l y (.code y cc nL ret :: TB) { frames := fr, cells := 0, slots := 0, locals := lo } (va_Pc av (Pr E D tys h L M sz)) (Qv v D h L M' (Ad h L.1 sz)) 0 0 (Ad h L.1 sz)
/-- a method's contract out of a walk from its entry -/
theorem Ct.mk {l : Launch} {E : Amd} {D : va_G} {tys : List (ClassId × FieldType)} {h : Nat → Nat} {L : Lay} {y : MethodName} {cc : ByteArray} {nL : Nat} {ret : Option FieldType} {fr lo : Nat} {av : List Value} {M : Mem} {v : Option Value} {M' : Mem} (V : List (Option Value))
    (hy : plainName y.cls = true) (hn : (lg_sl av).length ≤ nL) (hV : ∀ (i : Nat) (v : Value), V[i]? = some (some v) → (i, v) ∈ lv_args 0 av)
    (body : ∀ x : En, x.2.1 = l → Kx x E D tys h L y.cls cc nL fr lo → Rt x D h L ret v M' → Go x D tys h L nL M 0 V []) : Ct l E D tys h L y cc nL ret fr lo av M v M' := by
  intro sz
  refine Met.ofW (cc := cc) (maxL := nL) (ret := ret) hy rfl ?_
  intro p e s m args below meth c s₁ B hml hv
  obtain ⟨rfl, hsz, hP, hK, hi, hAm⟩ := hv
  subst hsz
  have hts0 := atoms_spec (ws := .code y cc nL ret :: TB) B.pre
  have hAi : ∀ k, k < L.1 → Ad h L.1 s.heap.size (h k) := fun k hk => Or.inl ⟨k, hk, rfl⟩
  have key := body (p, l, e, (headSpec (.code y cc nL ret :: TB) { frames := fr, cells := 0, slots := 0, locals := lo }).room, s, m, av.toArray, below, meth, c, Ad h L.1 s.heap.size, 0, 0, MQ below (Qv v D h L M' (Ad h L.1 s.heap.size)) av.toArray s 0 0 (Ad h L.1 s.heap.size)) rfl
    ⟨⟨B.exec, B.bytes, hml, findClass_of_methodNamed B.named, fun w hw => hts0 w (List.mem_cons_of_mem _ hw)⟩, hK, hi, hAi, fun q hq => Or.inr hq, rfl, rfl, B.notSynchronized, ⟨Nat.zero_le _, Nat.zero_le _⟩, hAm⟩ ⟨B.returns, rfl⟩
  rw [lg_entry_eq]
  have hl := lv_entry av (n := nL) hn
  exact key s.heap [] _ hP va_S.rf ⟨hl.1, hl.2.1, fun i v hv => hl.2.2 (i, v) (hV i v hv)⟩

theorem o_iadd {x : En} {E : Amd} {D : va_G} {tys : List (ClassId × FieldType)} {h : Nat → Nat} {L : Lay} {own : String} {cc : ByteArray} {nL fr lo : Nat} {M : Mem} {pc : Nat} {V : List (Option Value)} {rest : List Value} (K : Kx x E D tys h L own cc nL fr lo) {a b : Int32} (hd : decode cc pc = .ok (.iadd, 1))  (k : Go x D tys h L nL M (pc + 1) V (.int (a + b) :: rest)) : Go x D tys h L nL M (pc) V (.int b :: .int a :: rest) := by
  obtain ⟨p, l, e, R, s, m, args, below, meth, c, A, cells, slots, Q⟩ := x
  obtain ⟨⟨hx, hb, hml, hown, hts⟩, hK, hi, hA0, hA, hfr, hlo, hlk, hcs, hAm⟩ := K
  intro H locs ls hP hS hl
  exact lv_iadd hx hb hd  (k H locs ls hP hS hl)
theorem o_isub {x : En} {E : Amd} {D : va_G} {tys : List (ClassId × FieldType)} {h : Nat → Nat} {L : Lay} {own : String} {cc : ByteArray} {nL fr lo : Nat} {M : Mem} {pc : Nat} {V : List (Option Value)} {rest : List Value} (K : Kx x E D tys h L own cc nL fr lo) {a b : Int32} (hd : decode cc pc = .ok (.isub, 1))  (k : Go x D tys h L nL M (pc + 1) V (.int (a - b) :: rest)) : Go x D tys h L nL M (pc) V (.int b :: .int a :: rest) := by
  obtain ⟨p, l, e, R, s, m, args, below, meth, c, A, cells, slots, Q⟩ := x
  obtain ⟨⟨hx, hb, hml, hown, hts⟩, hK, hi, hA0, hA, hfr, hlo, hlk, hcs, hAm⟩ := K
  intro H locs ls hP hS hl
  exact lv_isub hx hb hd  (k H locs ls hP hS hl)
theorem o_imul {x : En} {E : Amd} {D : va_G} {tys : List (ClassId × FieldType)} {h : Nat → Nat} {L : Lay} {own : String} {cc : ByteArray} {nL fr lo : Nat} {M : Mem} {pc : Nat} {V : List (Option Value)} {rest : List Value} (K : Kx x E D tys h L own cc nL fr lo) {a b : Int32} (hd : decode cc pc = .ok (.imul, 1))  (k : Go x D tys h L nL M (pc + 1) V (.int (a * b) :: rest)) : Go x D tys h L nL M (pc) V (.int b :: .int a :: rest) := by
  obtain ⟨p, l, e, R, s, m, args, below, meth, c, A, cells, slots, Q⟩ := x
  obtain ⟨⟨hx, hb, hml, hown, hts⟩, hK, hi, hA0, hA, hfr, hlo, hlk, hcs, hAm⟩ := K
  intro H locs ls hP hS hl
  exact lv_imul hx hb hd  (k H locs ls hP hS hl)
theorem o_iand {x : En} {E : Amd} {D : va_G} {tys : List (ClassId × FieldType)} {h : Nat → Nat} {L : Lay} {own : String} {cc : ByteArray} {nL fr lo : Nat} {M : Mem} {pc : Nat} {V : List (Option Value)} {rest : List Value} (K : Kx x E D tys h L own cc nL fr lo) {a b : Int32} (hd : decode cc pc = .ok (.iand, 1))  (k : Go x D tys h L nL M (pc + 1) V (.int (a &&& b) :: rest)) : Go x D tys h L nL M (pc) V (.int b :: .int a :: rest) := by
  obtain ⟨p, l, e, R, s, m, args, below, meth, c, A, cells, slots, Q⟩ := x
  obtain ⟨⟨hx, hb, hml, hown, hts⟩, hK, hi, hA0, hA, hfr, hlo, hlk, hcs, hAm⟩ := K
  intro H locs ls hP hS hl
  exact lv_iand hx hb hd  (k H locs ls hP hS hl)
theorem o_ior {x : En} {E : Amd} {D : va_G} {tys : List (ClassId × FieldType)} {h : Nat → Nat} {L : Lay} {own : String} {cc : ByteArray} {nL fr lo : Nat} {M : Mem} {pc : Nat} {V : List (Option Value)} {rest : List Value} (K : Kx x E D tys h L own cc nL fr lo) {a b : Int32} (hd : decode cc pc = .ok (.ior, 1))  (k : Go x D tys h L nL M (pc + 1) V (.int (a ||| b) :: rest)) : Go x D tys h L nL M (pc) V (.int b :: .int a :: rest) := by
  obtain ⟨p, l, e, R, s, m, args, below, meth, c, A, cells, slots, Q⟩ := x
  obtain ⟨⟨hx, hb, hml, hown, hts⟩, hK, hi, hA0, hA, hfr, hlo, hlk, hcs, hAm⟩ := K
  intro H locs ls hP hS hl
  exact lv_ior hx hb hd  (k H locs ls hP hS hl)
theorem o_ixor {x : En} {E : Amd} {D : va_G} {tys : List (ClassId × FieldType)} {h : Nat → Nat} {L : Lay} {own : String} {cc : ByteArray} {nL fr lo : Nat} {M : Mem} {pc : Nat} {V : List (Option Value)} {rest : List Value} (K : Kx x E D tys h L own cc nL fr lo) {a b : Int32} (hd : decode cc pc = .ok (.ixor, 1))  (k : Go x D tys h L nL M (pc + 1) V (.int (a ^^^ b) :: rest)) : Go x D tys h L nL M (pc) V (.int b :: .int a :: rest) := by
  obtain ⟨p, l, e, R, s, m, args, below, meth, c, A, cells, slots, Q⟩ := x
  obtain ⟨⟨hx, hb, hml, hown, hts⟩, hK, hi, hA0, hA, hfr, hlo, hlk, hcs, hAm⟩ := K
  intro H locs ls hP hS hl
  exact lv_ixor hx hb hd  (k H locs ls hP hS hl)
theorem o_ishl {x : En} {E : Amd} {D : va_G} {tys : List (ClassId × FieldType)} {h : Nat → Nat} {L : Lay} {own : String} {cc : ByteArray} {nL fr lo : Nat} {M : Mem} {pc : Nat} {V : List (Option Value)} {rest : List Value} (K : Kx x E D tys h L own cc nL fr lo) {a b : Int32} (hd : decode cc pc = .ok (.ishl, 1))  (k : Go x D tys h L nL M (pc + 1) V (.int (a <<< (b &&& 31)) :: rest)) : Go x D tys h L nL M (pc) V (.int b :: .int a :: rest) := by
  obtain ⟨p, l, e, R, s, m, args, below, meth, c, A, cells, slots, Q⟩ := x
  obtain ⟨⟨hx, hb, hml, hown, hts⟩, hK, hi, hA0, hA, hfr, hlo, hlk, hcs, hAm⟩ := K
  intro H locs ls hP hS hl
  exact lv_ishl hx hb hd  (k H locs ls hP hS hl)
theorem o_ishr {x : En} {E : Amd} {D : va_G} {tys : List (ClassId × FieldType)} {h : Nat → Nat} {L : Lay} {own : String} {cc : ByteArray} {nL fr lo : Nat} {M : Mem} {pc : Nat} {V : List (Option Value)} {rest : List Value} (K : Kx x E D tys h L own cc nL fr lo) {a b : Int32} (hd : decode cc pc = .ok (.ishr, 1))  (k : Go x D tys h L nL M (pc + 1) V (.int (a >>> (b &&& 31)) :: rest)) : Go x D tys h L nL M (pc) V (.int b :: .int a :: rest) := by
  obtain ⟨p, l, e, R, s, m, args, below, meth, c, A, cells, slots, Q⟩ := x
  obtain ⟨⟨hx, hb, hml, hown, hts⟩, hK, hi, hA0, hA, hfr, hlo, hlk, hcs, hAm⟩ := K
  intro H locs ls hP hS hl
  exact lv_ishr hx hb hd  (k H locs ls hP hS hl)
theorem o_iushr {x : En} {E : Amd} {D : va_G} {tys : List (ClassId × FieldType)} {h : Nat → Nat} {L : Lay} {own : String} {cc : ByteArray} {nL fr lo : Nat} {M : Mem} {pc : Nat} {V : List (Option Value)} {rest : List Value} (K : Kx x E D tys h L own cc nL fr lo) {a b : Int32} (hd : decode cc pc = .ok (.iushr, 1))  (k : Go x D tys h L nL M (pc + 1) V (.int ((a.toUInt32 >>> (b.toUInt32 &&& Int32.toUInt32 31)).toInt32) :: rest)) : Go x D tys h L nL M (pc) V (.int b :: .int a :: rest) := by
  obtain ⟨p, l, e, R, s, m, args, below, meth, c, A, cells, slots, Q⟩ := x
  obtain ⟨⟨hx, hb, hml, hown, hts⟩, hK, hi, hA0, hA, hfr, hlo, hlk, hcs, hAm⟩ := K
  intro H locs ls hP hS hl
  exact lv_iushr hx hb hd rfl (k H locs ls hP hS hl)
theorem o_idiv {x : En} {E : Amd} {D : va_G} {tys : List (ClassId × FieldType)} {h : Nat → Nat} {L : Lay} {own : String} {cc : ByteArray} {nL fr lo : Nat} {M : Mem} {pc : Nat} {V : List (Option Value)} {rest : List Value} (K : Kx x E D tys h L own cc nL fr lo) {a b : Int32} (hd : decode cc pc = .ok (.idiv, 1)) (hne : ¬ b = 0) (k : Go x D tys h L nL M (pc + 1) V (.int (a / b) :: rest)) : Go x D tys h L nL M (pc) V (.int b :: .int a :: rest) := by
  obtain ⟨p, l, e, R, s, m, args, below, meth, c, A, cells, slots, Q⟩ := x
  obtain ⟨⟨hx, hb, hml, hown, hts⟩, hK, hi, hA0, hA, hfr, hlo, hlk, hcs, hAm⟩ := K
  intro H locs ls hP hS hl
  exact lv_idiv hx hb hd hne (k H locs ls hP hS hl)
theorem o_irem {x : En} {E : Amd} {D : va_G} {tys : List (ClassId × FieldType)} {h : Nat → Nat} {L : Lay} {own : String} {cc : ByteArray} {nL fr lo : Nat} {M : Mem} {pc : Nat} {V : List (Option Value)} {rest : List Value} (K : Kx x E D tys h L own cc nL fr lo) {a b : Int32} (hd : decode cc pc = .ok (.irem, 1)) (hne : ¬ b = 0) (k : Go x D tys h L nL M (pc + 1) V (.int (a - a / b * b) :: rest)) : Go x D tys h L nL M (pc) V (.int b :: .int a :: rest) := by
  obtain ⟨p, l, e, R, s, m, args, below, meth, c, A, cells, slots, Q⟩ := x
  obtain ⟨⟨hx, hb, hml, hown, hts⟩, hK, hi, hA0, hA, hfr, hlo, hlk, hcs, hAm⟩ := K
  intro H locs ls hP hS hl
  exact lv_irem hx hb hd hne (k H locs ls hP hS hl)
theorem o_ineg {x : En} {E : Amd} {D : va_G} {tys : List (ClassId × FieldType)} {h : Nat → Nat} {L : Lay} {own : String} {cc : ByteArray} {nL fr lo : Nat} {M : Mem} {pc : Nat} {V : List (Option Value)} {rest : List Value} (K : Kx x E D tys h L own cc nL fr lo) {a : Int32} (hd : decode cc pc = .ok (.ineg, 1))  (k : Go x D tys h L nL M (pc + 1) V (.int (-a) :: rest)) : Go x D tys h L nL M (pc) V (.int a :: rest) := by
  obtain ⟨p, l, e, R, s, m, args, below, meth, c, A, cells, slots, Q⟩ := x
  obtain ⟨⟨hx, hb, hml, hown, hts⟩, hK, hi, hA0, hA, hfr, hlo, hlk, hcs, hAm⟩ := K
  intro H locs ls hP hS hl
  exact lv_ineg hx hb hd  (k H locs ls hP hS hl)
theorem o_ladd {x : En} {E : Amd} {D : va_G} {tys : List (ClassId × FieldType)} {h : Nat → Nat} {L : Lay} {own : String} {cc : ByteArray} {nL fr lo : Nat} {M : Mem} {pc : Nat} {V : List (Option Value)} {rest : List Value} (K : Kx x E D tys h L own cc nL fr lo) {a b : Int64} (hd : decode cc pc = .ok (.ladd, 1))  (k : Go x D tys h L nL M (pc + 1) V (.long (a + b) :: rest)) : Go x D tys h L nL M (pc) V (.long b :: .long a :: rest) := by
  obtain ⟨p, l, e, R, s, m, args, below, meth, c, A, cells, slots, Q⟩ := x
  obtain ⟨⟨hx, hb, hml, hown, hts⟩, hK, hi, hA0, hA, hfr, hlo, hlk, hcs, hAm⟩ := K
  intro H locs ls hP hS hl
  exact lv_ladd hx hb hd  (k H locs ls hP hS hl)
theorem o_lsub {x : En} {E : Amd} {D : va_G} {tys : List (ClassId × FieldType)} {h : Nat → Nat} {L : Lay} {own : String} {cc : ByteArray} {nL fr lo : Nat} {M : Mem} {pc : Nat} {V : List (Option Value)} {rest : List Value} (K : Kx x E D tys h L own cc nL fr lo) {a b : Int64} (hd : decode cc pc = .ok (.lsub, 1))  (k : Go x D tys h L nL M (pc + 1) V (.long (a - b) :: rest)) : Go x D tys h L nL M (pc) V (.long b :: .long a :: rest) := by
  obtain ⟨p, l, e, R, s, m, args, below, meth, c, A, cells, slots, Q⟩ := x
  obtain ⟨⟨hx, hb, hml, hown, hts⟩, hK, hi, hA0, hA, hfr, hlo, hlk, hcs, hAm⟩ := K
  intro H locs ls hP hS hl
  exact lv_lsub hx hb hd  (k H locs ls hP hS hl)
theorem o_lmul {x : En} {E : Amd} {D : va_G} {tys : List (ClassId × FieldType)} {h : Nat → Nat} {L : Lay} {own : String} {cc : ByteArray} {nL fr lo : Nat} {M : Mem} {pc : Nat} {V : List (Option Value)} {rest : List Value} (K : Kx x E D tys h L own cc nL fr lo) {a b : Int64} (hd : decode cc pc = .ok (.lmul, 1))  (k : Go x D tys h L nL M (pc + 1) V (.long (a * b) :: rest)) : Go x D tys h L nL M (pc) V (.long b :: .long a :: rest) := by
  obtain ⟨p, l, e, R, s, m, args, below, meth, c, A, cells, slots, Q⟩ := x
  obtain ⟨⟨hx, hb, hml, hown, hts⟩, hK, hi, hA0, hA, hfr, hlo, hlk, hcs, hAm⟩ := K
  intro H locs ls hP hS hl
  exact lv_lmul hx hb hd  (k H locs ls hP hS hl)
theorem o_ldiv {x : En} {E : Amd} {D : va_G} {tys : List (ClassId × FieldType)} {h : Nat → Nat} {L : Lay} {own : String} {cc : ByteArray} {nL fr lo : Nat} {M : Mem} {pc : Nat} {V : List (Option Value)} {rest : List Value} (K : Kx x E D tys h L own cc nL fr lo) {a b : Int64} (hd : decode cc pc = .ok (.ldiv, 1)) (hne : ¬ b = 0) (k : Go x D tys h L nL M (pc + 1) V (.long (a / b) :: rest)) : Go x D tys h L nL M (pc) V (.long b :: .long a :: rest) := by
  obtain ⟨p, l, e, R, s, m, args, below, meth, c, A, cells, slots, Q⟩ := x
  obtain ⟨⟨hx, hb, hml, hown, hts⟩, hK, hi, hA0, hA, hfr, hlo, hlk, hcs, hAm⟩ := K
  intro H locs ls hP hS hl
  exact lv_ldiv hx hb hd hne (k H locs ls hP hS hl)
theorem o_lneg {x : En} {E : Amd} {D : va_G} {tys : List (ClassId × FieldType)} {h : Nat → Nat} {L : Lay} {own : String} {cc : ByteArray} {nL fr lo : Nat} {M : Mem} {pc : Nat} {V : List (Option Value)} {rest : List Value} (K : Kx x E D tys h L own cc nL fr lo) {a : Int64} (hd : decode cc pc = .ok (.lneg, 1))  (k : Go x D tys h L nL M (pc + 1) V (.long (-a) :: rest)) : Go x D tys h L nL M (pc) V (.long a :: rest) := by
  obtain ⟨p, l, e, R, s, m, args, below, meth, c, A, cells, slots, Q⟩ := x
  obtain ⟨⟨hx, hb, hml, hown, hts⟩, hK, hi, hA0, hA, hfr, hlo, hlk, hcs, hAm⟩ := K
  intro H locs ls hP hS hl
  exact lv_lneg hx hb hd  (k H locs ls hP hS hl)
theorem o_lcmp {x : En} {E : Amd} {D : va_G} {tys : List (ClassId × FieldType)} {h : Nat → Nat} {L : Lay} {own : String} {cc : ByteArray} {nL fr lo : Nat} {M : Mem} {pc : Nat} {V : List (Option Value)} {rest : List Value} (K : Kx x E D tys h L own cc nL fr lo) {a b : Int64} (hd : decode cc pc = .ok (.lcmp, 1))  (k : Go x D tys h L nL M (pc + 1) V (.int (lg_cmp a b) :: rest)) : Go x D tys h L nL M (pc) V (.long b :: .long a :: rest) := by
  obtain ⟨p, l, e, R, s, m, args, below, meth, c, A, cells, slots, Q⟩ := x
  obtain ⟨⟨hx, hb, hml, hown, hts⟩, hK, hi, hA0, hA, hfr, hlo, hlk, hcs, hAm⟩ := K
  intro H locs ls hP hS hl
  exact W.lcmp hx hb hd  (k H locs ls hP hS hl)
theorem o_i2l {x : En} {E : Amd} {D : va_G} {tys : List (ClassId × FieldType)} {h : Nat → Nat} {L : Lay} {own : String} {cc : ByteArray} {nL fr lo : Nat} {M : Mem} {pc : Nat} {V : List (Option Value)} {rest : List Value} (K : Kx x E D tys h L own cc nL fr lo) {a : Int32} (hd : decode cc pc = .ok (.i2l, 1))  (k : Go x D tys h L nL M (pc + 1) V (.long a.toInt64 :: rest)) : Go x D tys h L nL M (pc) V (.int a :: rest) := by
  obtain ⟨p, l, e, R, s, m, args, below, meth, c, A, cells, slots, Q⟩ := x
  obtain ⟨⟨hx, hb, hml, hown, hts⟩, hK, hi, hA0, hA, hfr, hlo, hlk, hcs, hAm⟩ := K
  intro H locs ls hP hS hl
  exact lv_i2l hx hb hd rfl (k H locs ls hP hS hl)
theorem o_l2i {x : En} {E : Amd} {D : va_G} {tys : List (ClassId × FieldType)} {h : Nat → Nat} {L : Lay} {own : String} {cc : ByteArray} {nL fr lo : Nat} {M : Mem} {pc : Nat} {V : List (Option Value)} {rest : List Value} (K : Kx x E D tys h L own cc nL fr lo) {a : Int64} (hd : decode cc pc = .ok (.l2i, 1))  (k : Go x D tys h L nL M (pc + 1) V (.int a.toInt32 :: rest)) : Go x D tys h L nL M (pc) V (.long a :: rest) := by
  obtain ⟨p, l, e, R, s, m, args, below, meth, c, A, cells, slots, Q⟩ := x
  obtain ⟨⟨hx, hb, hml, hown, hts⟩, hK, hi, hA0, hA, hfr, hlo, hlk, hcs, hAm⟩ := K
  intro H locs ls hP hS hl
  exact lv_l2i hx hb hd rfl (k H locs ls hP hS hl)
theorem o_i2s {x : En} {E : Amd} {D : va_G} {tys : List (ClassId × FieldType)} {h : Nat → Nat} {L : Lay} {own : String} {cc : ByteArray} {nL fr lo : Nat} {M : Mem} {pc : Nat} {V : List (Option Value)} {rest : List Value} (K : Kx x E D tys h L own cc nL fr lo) {a : Int32} (hd : decode cc pc = .ok (.i2s, 1))  (k : Go x D tys h L nL M (pc + 1) V (.int a.toInt16.toInt32 :: rest)) : Go x D tys h L nL M (pc) V (.int a :: rest) := by
  obtain ⟨p, l, e, R, s, m, args, below, meth, c, A, cells, slots, Q⟩ := x
  obtain ⟨⟨hx, hb, hml, hown, hts⟩, hK, hi, hA0, hA, hfr, hlo, hlk, hcs, hAm⟩ := K
  intro H locs ls hP hS hl
  exact lv_i2s hx hb hd rfl (k H locs ls hP hS hl)
theorem o_i2b {x : En} {E : Amd} {D : va_G} {tys : List (ClassId × FieldType)} {h : Nat → Nat} {L : Lay} {own : String} {cc : ByteArray} {nL fr lo : Nat} {M : Mem} {pc : Nat} {V : List (Option Value)} {rest : List Value} (K : Kx x E D tys h L own cc nL fr lo) {a : Int32} (hd : decode cc pc = .ok (.i2b, 1))  (k : Go x D tys h L nL M (pc + 1) V (.int a.toInt8.toInt32 :: rest)) : Go x D tys h L nL M (pc) V (.int a :: rest) := by
  obtain ⟨p, l, e, R, s, m, args, below, meth, c, A, cells, slots, Q⟩ := x
  obtain ⟨⟨hx, hb, hml, hown, hts⟩, hK, hi, hA0, hA, hfr, hlo, hlk, hcs, hAm⟩ := K
  intro H locs ls hP hS hl
  exact lv_i2b hx hb hd rfl (k H locs ls hP hS hl)
theorem o_i2c {x : En} {E : Amd} {D : va_G} {tys : List (ClassId × FieldType)} {h : Nat → Nat} {L : Lay} {own : String} {cc : ByteArray} {nL fr lo : Nat} {M : Mem} {pc : Nat} {V : List (Option Value)} {rest : List Value} (K : Kx x E D tys h L own cc nL fr lo) {a : Int32} (hd : decode cc pc = .ok (.i2c, 1))  (k : Go x D tys h L nL M (pc + 1) V (.int (a.toUInt32 % 65536).toInt32 :: rest)) : Go x D tys h L nL M (pc) V (.int a :: rest) := by
  obtain ⟨p, l, e, R, s, m, args, below, meth, c, A, cells, slots, Q⟩ := x
  obtain ⟨⟨hx, hb, hml, hown, hts⟩, hK, hi, hA0, hA, hfr, hlo, hlk, hcs, hAm⟩ := K
  intro H locs ls hP hS hl
  exact lv_i2c hx hb hd rfl (k H locs ls hP hS hl)
theorem o_iconst {x : En} {E : Amd} {D : va_G} {tys : List (ClassId × FieldType)} {h : Nat → Nat} {L : Lay} {own : String} {cc : ByteArray} {nL fr lo : Nat} {M : Mem} {pc : Nat} {V : List (Option Value)} {rest : List Value} (K : Kx x E D tys h L own cc nL fr lo) {n : Int} (v : Int32) (hd : decode cc pc = .ok (.iconst n, 1)) (hv : Int32.ofInt n = v) (k : Go x D tys h L nL M (pc + 1) V (.int v :: rest)) : Go x D tys h L nL M (pc) V (rest) := by
  obtain ⟨p, l, e, R, s, m, args, below, meth, c, A, cells, slots, Q⟩ := x
  obtain ⟨⟨hx, hb, hml, hown, hts⟩, hK, hi, hA0, hA, hfr, hlo, hlk, hcs, hAm⟩ := K
  intro H locs ls hP hS hl
  exact lv_iconst hx hb hd hv (k H locs ls hP hS hl)
theorem o_bipush {x : En} {E : Amd} {D : va_G} {tys : List (ClassId × FieldType)} {h : Nat → Nat} {L : Lay} {own : String} {cc : ByteArray} {nL fr lo : Nat} {M : Mem} {pc : Nat} {V : List (Option Value)} {rest : List Value} (K : Kx x E D tys h L own cc nL fr lo) {n : Int} (v : Int32) (hd : decode cc pc = .ok (.bipush n, 2)) (hv : (Int8.ofInt n).toInt32 = v) (k : Go x D tys h L nL M (pc + 2) V (.int v :: rest)) : Go x D tys h L nL M (pc) V (rest) := by
  obtain ⟨p, l, e, R, s, m, args, below, meth, c, A, cells, slots, Q⟩ := x
  obtain ⟨⟨hx, hb, hml, hown, hts⟩, hK, hi, hA0, hA, hfr, hlo, hlk, hcs, hAm⟩ := K
  intro H locs ls hP hS hl
  exact lv_bipush hx hb hd hv (k H locs ls hP hS hl)
theorem o_sipush {x : En} {E : Amd} {D : va_G} {tys : List (ClassId × FieldType)} {h : Nat → Nat} {L : Lay} {own : String} {cc : ByteArray} {nL fr lo : Nat} {M : Mem} {pc : Nat} {V : List (Option Value)} {rest : List Value} (K : Kx x E D tys h L own cc nL fr lo) {n : Int} (v : Int32) (hd : decode cc pc = .ok (.sipush n, 3)) (hv : (Int16.ofInt n).toInt32 = v) (k : Go x D tys h L nL M (pc + 3) V (.int v :: rest)) : Go x D tys h L nL M (pc) V (rest) := by
  obtain ⟨p, l, e, R, s, m, args, below, meth, c, A, cells, slots, Q⟩ := x
  obtain ⟨⟨hx, hb, hml, hown, hts⟩, hK, hi, hA0, hA, hfr, hlo, hlk, hcs, hAm⟩ := K
  intro H locs ls hP hS hl
  exact lv_sipush hx hb hd hv (k H locs ls hP hS hl)
theorem o_lconst {x : En} {E : Amd} {D : va_G} {tys : List (ClassId × FieldType)} {h : Nat → Nat} {L : Lay} {own : String} {cc : ByteArray} {nL fr lo : Nat} {M : Mem} {pc : Nat} {V : List (Option Value)} {rest : List Value} (K : Kx x E D tys h L own cc nL fr lo) {n : Fin 2} (v : Int64) (hd : decode cc pc = .ok (.lconst n, 1)) (hv : Int64.ofNat (n : Nat) = v) (k : Go x D tys h L nL M (pc + 1) V (.long v :: rest)) : Go x D tys h L nL M (pc) V (rest) := by
  obtain ⟨p, l, e, R, s, m, args, below, meth, c, A, cells, slots, Q⟩ := x
  obtain ⟨⟨hx, hb, hml, hown, hts⟩, hK, hi, hA0, hA, hfr, hlo, hlk, hcs, hAm⟩ := K
  intro H locs ls hP hS hl
  exact lv_lconst hx hb hd hv (k H locs ls hP hS hl)
theorem o_null {x : En} {E : Amd} {D : va_G} {tys : List (ClassId × FieldType)} {h : Nat → Nat} {L : Lay} {own : String} {cc : ByteArray} {nL fr lo : Nat} {M : Mem} {pc : Nat} {V : List (Option Value)} {rest : List Value} (K : Kx x E D tys h L own cc nL fr lo)  (hd : decode cc pc = .ok (.aconst_null, 1))  (k : Go x D tys h L nL M (pc + 1) V (.null :: rest)) : Go x D tys h L nL M (pc) V (rest) := by
  obtain ⟨p, l, e, R, s, m, args, below, meth, c, A, cells, slots, Q⟩ := x
  obtain ⟨⟨hx, hb, hml, hown, hts⟩, hK, hi, hA0, hA, hfr, hlo, hlk, hcs, hAm⟩ := K
  intro H locs ls hP hS hl
  exact lv_null hx hb hd  (k H locs ls hP hS hl)
theorem o_dup {x : En} {E : Amd} {D : va_G} {tys : List (ClassId × FieldType)} {h : Nat → Nat} {L : Lay} {own : String} {cc : ByteArray} {nL fr lo : Nat} {M : Mem} {pc : Nat} {V : List (Option Value)} {rest : List Value} (K : Kx x E D tys h L own cc nL fr lo) {v : Value} (hd : decode cc pc = .ok (.dup, 1)) (hv : v.category = 1) (k : Go x D tys h L nL M (pc + 1) V (v :: v :: rest)) : Go x D tys h L nL M (pc) V (v :: rest) := by
  obtain ⟨p, l, e, R, s, m, args, below, meth, c, A, cells, slots, Q⟩ := x
  obtain ⟨⟨hx, hb, hml, hown, hts⟩, hK, hi, hA0, hA, hfr, hlo, hlk, hcs, hAm⟩ := K
  intro H locs ls hP hS hl
  exact lv_dup hx hb hd hv (k H locs ls hP hS hl)
theorem o_dup2 {x : En} {E : Amd} {D : va_G} {tys : List (ClassId × FieldType)} {h : Nat → Nat} {L : Lay} {own : String} {cc : ByteArray} {nL fr lo : Nat} {M : Mem} {pc : Nat} {V : List (Option Value)} {rest : List Value} (K : Kx x E D tys h L own cc nL fr lo) {v u : Value} (hd : decode cc pc = .ok (.dup2, 1)) (hv : v.category = 1) (hu : u.category = 1) (k : Go x D tys h L nL M (pc + 1) V (v :: u :: v :: u :: rest)) : Go x D tys h L nL M (pc) V (v :: u :: rest) := by
  obtain ⟨p, l, e, R, s, m, args, below, meth, c, A, cells, slots, Q⟩ := x
  obtain ⟨⟨hx, hb, hml, hown, hts⟩, hK, hi, hA0, hA, hfr, hlo, hlk, hcs, hAm⟩ := K
  intro H locs ls hP hS hl
  exact lv_dup2_11 hx hb hd hv hu (k H locs ls hP hS hl)
theorem o_ldc {x : En} {E : Amd} {D : va_G} {tys : List (ClassId × FieldType)} {h : Nat → Nat} {L : Lay} {own : String} {cc : ByteArray} {nL fr lo : Nat} {M : Mem} {pc : Nat} {V : List (Option Value)} {rest : List Value} (K : Kx x E D tys h L own cc nL fr lo) {i : Nat} {v : Int32} (hc : Cond.constant own i v ∈ TB) (hd : decode cc pc = .ok (.ldc i, 2)) (k : Go x D tys h L nL M (pc + 2) V (.int v :: rest)) : Go x D tys h L nL M (pc) V (rest) := by
  obtain ⟨p, l, e, R, s, m, args, below, meth, c, A, cells, slots, Q⟩ := x
  obtain ⟨⟨hx, hb, hml, hown, hts⟩, hK, hi, hA0, hA, hfr, hlo, hlk, hcs, hAm⟩ := K
  intro H locs ls hP hS hl
  exact lv_ldc hx hb hown (hts _ hc) hd (k H locs ls hP hS hl)
theorem o_ldcw {x : En} {E : Amd} {D : va_G} {tys : List (ClassId × FieldType)} {h : Nat → Nat} {L : Lay} {own : String} {cc : ByteArray} {nL fr lo : Nat} {M : Mem} {pc : Nat} {V : List (Option Value)} {rest : List Value} (K : Kx x E D tys h L own cc nL fr lo) {i : Nat} {v : Int32} (hc : Cond.constant own i v ∈ TB) (hd : decode cc pc = .ok (.ldc_w i, 3)) (k : Go x D tys h L nL M (pc + 3) V (.int v :: rest)) : Go x D tys h L nL M (pc) V (rest) := by
  obtain ⟨p, l, e, R, s, m, args, below, meth, c, A, cells, slots, Q⟩ := x
  obtain ⟨⟨hx, hb, hml, hown, hts⟩, hK, hi, hA0, hA, hfr, hlo, hlk, hcs, hAm⟩ := K
  intro H locs ls hP hS hl
  exact lv_ldcw hx hb hown (hts _ hc) hd (k H locs ls hP hS hl)
theorem o_ldc2 {x : En} {E : Amd} {D : va_G} {tys : List (ClassId × FieldType)} {h : Nat → Nat} {L : Lay} {own : String} {cc : ByteArray} {nL fr lo : Nat} {M : Mem} {pc : Nat} {V : List (Option Value)} {rest : List Value} (K : Kx x E D tys h L own cc nL fr lo) {i : Nat} {v : Int64} (hc : Cond.constantLong own i v ∈ TB) (hd : decode cc pc = .ok (.ldc2_w i, 3)) (k : Go x D tys h L nL M (pc + 3) V (.long v :: rest)) : Go x D tys h L nL M (pc) V (rest) := by
  obtain ⟨p, l, e, R, s, m, args, below, meth, c, A, cells, slots, Q⟩ := x
  obtain ⟨⟨hx, hb, hml, hown, hts⟩, hK, hi, hA0, hA, hfr, hlo, hlk, hcs, hAm⟩ := K
  intro H locs ls hP hS hl
  exact lv_ldc2 hx hb hown (hts _ hc) hd (k H locs ls hP hS hl)
theorem o_iload_n {x : En} {E : Amd} {D : va_G} {tys : List (ClassId × FieldType)} {h : Nat → Nat} {L : Lay} {own : String} {cc : ByteArray} {nL fr lo : Nat} {M : Mem} {pc : Nat} {V : List (Option Value)} {rest : List Value} (K : Kx x E D tys h L own cc nL fr lo) {q : Fin 4} (i : Nat) {a : Int32} (hd : decode cc pc = .ok (.iload_n q, 1)) (hi0 : (q : Nat) = i) (hv : V[i]? = some (some (.int a))) (k : Go x D tys h L nL M (pc + 1) V (.int a :: rest)) : Go x D tys h L nL M (pc) V (rest) := by
  obtain ⟨p, l, e, R, s, m, args, below, meth, c, A, cells, slots, Q⟩ := x
  obtain ⟨⟨hx, hb, hml, hown, hts⟩, hK, hi, hA0, hA, hfr, hlo, hlk, hcs, hAm⟩ := K
  intro H locs ls hP hS hl
  exact lv_iload_n hx hb hd hi0 (hl.2.2 i _ hv) (k H locs ls hP hS hl)
theorem o_aload_n {x : En} {E : Amd} {D : va_G} {tys : List (ClassId × FieldType)} {h : Nat → Nat} {L : Lay} {own : String} {cc : ByteArray} {nL fr lo : Nat} {M : Mem} {pc : Nat} {V : List (Option Value)} {rest : List Value} (K : Kx x E D tys h L own cc nL fr lo) {q : Fin 4} (i : Nat) {a : Nat} (hd : decode cc pc = .ok (.aload_n q, 1)) (hi0 : (q : Nat) = i) (hv : V[i]? = some (some (.ref a))) (k : Go x D tys h L nL M (pc + 1) V (.ref a :: rest)) : Go x D tys h L nL M (pc) V (rest) := by
  obtain ⟨p, l, e, R, s, m, args, below, meth, c, A, cells, slots, Q⟩ := x
  obtain ⟨⟨hx, hb, hml, hown, hts⟩, hK, hi, hA0, hA, hfr, hlo, hlk, hcs, hAm⟩ := K
  intro H locs ls hP hS hl
  exact lv_aload_n hx hb hd hi0 (hl.2.2 i _ hv) (k H locs ls hP hS hl)
theorem o_iload {x : En} {E : Amd} {D : va_G} {tys : List (ClassId × FieldType)} {h : Nat → Nat} {L : Lay} {own : String} {cc : ByteArray} {nL fr lo : Nat} {M : Mem} {pc : Nat} {V : List (Option Value)} {rest : List Value} (K : Kx x E D tys h L own cc nL fr lo) (i : Nat) {a : Int32} (hd : decode cc pc = .ok (.iload i, 2)) (hv : V[i]? = some (some (.int a))) (k : Go x D tys h L nL M (pc + 2) V (.int a :: rest)) : Go x D tys h L nL M (pc) V (rest) := by
  obtain ⟨p, l, e, R, s, m, args, below, meth, c, A, cells, slots, Q⟩ := x
  obtain ⟨⟨hx, hb, hml, hown, hts⟩, hK, hi, hA0, hA, hfr, hlo, hlk, hcs, hAm⟩ := K
  intro H locs ls hP hS hl
  exact lv_iload hx hb hd (hl.2.2 i _ hv) (k H locs ls hP hS hl)
theorem o_aload {x : En} {E : Amd} {D : va_G} {tys : List (ClassId × FieldType)} {h : Nat → Nat} {L : Lay} {own : String} {cc : ByteArray} {nL fr lo : Nat} {M : Mem} {pc : Nat} {V : List (Option Value)} {rest : List Value} (K : Kx x E D tys h L own cc nL fr lo) (i : Nat) {a : Nat} (hd : decode cc pc = .ok (.aload i, 2)) (hv : V[i]? = some (some (.ref a))) (k : Go x D tys h L nL M (pc + 2) V (.ref a :: rest)) : Go x D tys h L nL M (pc) V (rest) := by
  obtain ⟨p, l, e, R, s, m, args, below, meth, c, A, cells, slots, Q⟩ := x
  obtain ⟨⟨hx, hb, hml, hown, hts⟩, hK, hi, hA0, hA, hfr, hlo, hlk, hcs, hAm⟩ := K
  intro H locs ls hP hS hl
  exact lv_aload hx hb hd (hl.2.2 i _ hv) (k H locs ls hP hS hl)
theorem o_lload {x : En} {E : Amd} {D : va_G} {tys : List (ClassId × FieldType)} {h : Nat → Nat} {L : Lay} {own : String} {cc : ByteArray} {nL fr lo : Nat} {M : Mem} {pc : Nat} {V : List (Option Value)} {rest : List Value} (K : Kx x E D tys h L own cc nL fr lo) (i : Nat) {a : Int64} (hd : decode cc pc = .ok (.lload i, 2)) (hv : V[i]? = some (some (.long a))) (k : Go x D tys h L nL M (pc + 2) V (.long a :: rest)) : Go x D tys h L nL M (pc) V (rest) := by
  obtain ⟨p, l, e, R, s, m, args, below, meth, c, A, cells, slots, Q⟩ := x
  obtain ⟨⟨hx, hb, hml, hown, hts⟩, hK, hi, hA0, hA, hfr, hlo, hlk, hcs, hAm⟩ := K
  intro H locs ls hP hS hl
  exact lv_lload hx hb hd (hl.2.2 i _ hv) (k H locs ls hP hS hl)
def vl (V : List (Option Value)) : List (Nat × Value) := (List.range V.length).filterMap (fun i => match V[i]? with
  | some (some v) => some (i, v)
  | _ => none)
theorem vl_mem {V : List (Option Value)} {q : Nat × Value} : q ∈ vl V ↔ V[q.1]? = some (some q.2) := by
  unfold vl
  rw [List.mem_filterMap]
  constructor
  · rintro ⟨i, hi, h⟩
    split at h
    · rename_i v hv
      cases h
      exact hv
    · cases h
  · intro h
    refine ⟨q.1, List.mem_range.mpr (List.getElem?_eq_some_iff.mp h).1, ?_⟩
    rw [h]
theorem LH.has {ls : Array Slot} {nL : Nat} {V : List (Option Value)} (h : LH ls nL V) : lv_has ls nL (vl V) := ⟨h.1, h.2.1, fun q hq => h.2.2 q.1 q.2 (vl_mem.mp hq)⟩
def okS (V : List (Option Value)) (i : Nat) : Bool := match i with
  | 0 => true
  | j + 1 => match V[j]? with
    | some (some v) => decide (v.category = 1)
    | _ => true
theorem okS_e {V : List (Option Value)} {i j : Nat} {v : Value} (h : okS V i = true) (hj : V[j]? = some (some v)) (e : j + 1 = i) : v.category = 1 := by
  subst e
  simp only [okS, hj] at h
  exact of_decide_eq_true h
theorem LH.st1 {ls : Array Slot} {nL : Nat} {V V' : List (Option Value)} {i : Nat} {v : Value} (h : lv_has ls nL ((i, v) :: (vl V).filter (fun q => !(q.1 == i) && !(q.1 + 1 == i && q.2.category == 2)))) (ho : okS V i = true) (hV : V.set i (some v) = V') : LH ls nL V' := by
  subst hV
  refine ⟨h.1, h.2.1, fun j u hj => ?_⟩
  rw [List.getElem?_set] at hj
  by_cases e : i = j
  · subst e
    rw [if_pos rfl] at hj
    by_cases hl : i < V.length
    · rw [if_pos hl] at hj
      cases hj
      exact h.2.2 (i, v) List.mem_cons_self
    · rw [if_neg hl] at hj
      cases hj
  · rw [if_neg e] at hj
    refine h.2.2 (j, u) (List.mem_cons_of_mem _ (List.mem_filter.mpr ⟨vl_mem.mpr hj, ?_⟩))
    have e1 : (j == i) = false := by rw [beq_eq_false_iff_ne]; exact fun q => e q.symm
    by_cases e2 : j + 1 = i
    · have := okS_e ho hj e2
      simp [e1, this]
    · have e3 : (j + 1 == i) = false := by rw [beq_eq_false_iff_ne]; exact e2
      simp [e1, e3]
theorem LH.st2 {ls : Array Slot} {nL : Nat} {V V' : List (Option Value)} {i : Nat} {v : Value} (h : lv_has ls nL ((i, v) :: (vl V).filter (fun q => !(q.1 == i) && (!(q.1 == i + 1) && !(q.1 + 1 == i && q.2.category == 2))))) (ho : okS V i = true) (hV : (V.set i (some v)).set (i + 1) none = V') : LH ls nL V' := by
  subst hV
  refine ⟨h.1, h.2.1, fun j u hj => ?_⟩
  rw [List.getElem?_set, List.getElem?_set] at hj
  by_cases e0 : i + 1 = j
  · rw [if_pos e0] at hj
    by_cases hl : i + 1 < (V.set i (some v)).length
    · rw [if_pos hl] at hj
      cases hj
    · rw [if_neg hl] at hj
      cases hj
  · rw [if_neg e0] at hj
    by_cases e : i = j
    · subst e
      rw [if_pos rfl] at hj
      by_cases hl : i < V.length
      · rw [if_pos hl] at hj
        cases hj
        exact h.2.2 (i, v) List.mem_cons_self
      · rw [if_neg hl] at hj
        cases hj
    · rw [if_neg e] at hj
      refine h.2.2 (j, u) (List.mem_cons_of_mem _ (List.mem_filter.mpr ⟨vl_mem.mpr hj, ?_⟩))
      have e1 : (j == i) = false := by rw [beq_eq_false_iff_ne]; exact fun q => e q.symm
      have e4 : (j == i + 1) = false := by rw [beq_eq_false_iff_ne]; exact fun q => e0 q.symm
      by_cases e2 : j + 1 = i
      · have := okS_e ho hj e2
        simp [e1, e4, this]
      · have e3 : (j + 1 == i) = false := by rw [beq_eq_false_iff_ne]; exact e2
        simp [e1, e3, e4]
theorem LH.weak {ls : Array Slot} {nL : Nat} {V V' : List (Option Value)} (h : LH ls nL V) (hw : ∀ (i : Nat) (v : Value), V'[i]? = some (some v) → V[i]? = some (some v)) : LH ls nL V' := ⟨h.1, h.2.1, fun i v hv => h.2.2 i v (hw i v hv)⟩
/-- fewer locals: V' is V with places taken out -/
def dropV : List (Option Value) → List Bool → List (Option Value)
  | v :: V, b :: bs => (match b with
    | true => v
    | false => none) :: dropV V bs
  | _, _ => []
theorem dropV_ok : ∀ (V : List (Option Value)) (bs : List Bool) (i : Nat) (v : Value), (dropV V bs)[i]? = some (some v) → V[i]? = some (some v)
  | [], _, i, v, h => by simp [dropV] at h
  | _ :: _, [], i, v, h => by simp [dropV] at h
  | u :: V, b :: bs, 0, v, h => by
    cases b with
    | true => simpa [dropV] using h
    | false => simp [dropV] at h
  | u :: V, b :: bs, i + 1, v, h => by
    simp only [dropV, List.getElem?_cons_succ] at h ⊢
    exact dropV_ok V bs i v h
theorem o_drop {x : En} {D : va_G} {tys : List (ClassId × FieldType)} {h : Nat → Nat} {L : Lay} {nL : Nat} {M : Mem} {pc : Nat} {V : List (Option Value)} {rest : List Value} (bs : List Bool) {V2 : List (Option Value)} (hb2 : dropV V bs = V2) (k : Go x D tys h L nL M (pc) V2 (rest)) : Go x D tys h L nL M (pc) V (rest) := by
  obtain ⟨p, l, e, R, s, m, args, below, meth, c, A, cells, slots, Q⟩ := x
  intro H locs ls hP hS hl
  exact k H locs ls hP hS (hl.weak (fun i v hv => dropV_ok V bs i v (by rw [hb2]; exact hv)))
theorem o_istore_n {x : En} {E : Amd} {D : va_G} {tys : List (ClassId × FieldType)} {h : Nat → Nat} {L : Lay} {own : String} {cc : ByteArray} {nL fr lo : Nat} {M : Mem} {pc : Nat} {V : List (Option Value)} {rest : List Value} (K : Kx x E D tys h L own cc nL fr lo) {q : Fin 4} (i : Nat) {a : Int32} (V2 : List (Option Value)) (hd : decode cc pc = .ok (.istore_n q, 1)) (hi0 : (q : Nat) = i) (hn : i < nL) (ho : okS V i = true) (hV : V.set i (some (.int a)) = V2) (k : Go x D tys h L nL M (pc + 1) V2 (rest)) : Go x D tys h L nL M (pc) V (.int a :: rest) := by
  obtain ⟨p, l, e, R, s, m, args, below, meth, c, A, cells, slots, Q⟩ := x
  obtain ⟨⟨hx, hb, hml, hown, hts⟩, hK, hi, hA0, hA, hfr, hlo, hlk, hcs, hAm⟩ := K
  intro H locs ls hP hS hl
  exact lv_istore_n hx hb hd hi0 hl.has hn rfl (fun ls2 h2 => k H locs ls2 hP hS (LH.st1 h2 ho hV))
theorem o_istore {x : En} {E : Amd} {D : va_G} {tys : List (ClassId × FieldType)} {h : Nat → Nat} {L : Lay} {own : String} {cc : ByteArray} {nL fr lo : Nat} {M : Mem} {pc : Nat} {V : List (Option Value)} {rest : List Value} (K : Kx x E D tys h L own cc nL fr lo) (i : Nat) {a : Int32} (V2 : List (Option Value)) (hd : decode cc pc = .ok (.istore i, 2)) (hn : i < nL) (ho : okS V i = true) (hV : V.set i (some (.int a)) = V2) (k : Go x D tys h L nL M (pc + 2) V2 (rest)) : Go x D tys h L nL M (pc) V (.int a :: rest) := by
  obtain ⟨p, l, e, R, s, m, args, below, meth, c, A, cells, slots, Q⟩ := x
  obtain ⟨⟨hx, hb, hml, hown, hts⟩, hK, hi, hA0, hA, hfr, hlo, hlk, hcs, hAm⟩ := K
  intro H locs ls hP hS hl
  exact lv_istore hx hb hd hl.has hn rfl (fun ls2 h2 => k H locs ls2 hP hS (LH.st1 h2 ho hV))
theorem o_astore_n {x : En} {E : Amd} {D : va_G} {tys : List (ClassId × FieldType)} {h : Nat → Nat} {L : Lay} {own : String} {cc : ByteArray} {nL fr lo : Nat} {M : Mem} {pc : Nat} {V : List (Option Value)} {rest : List Value} (K : Kx x E D tys h L own cc nL fr lo) {q : Fin 4} (i : Nat) {a : Nat} (V2 : List (Option Value)) (hd : decode cc pc = .ok (.astore_n q, 1)) (hi0 : (q : Nat) = i) (hn : i < nL) (ho : okS V i = true) (hV : V.set i (some (.ref a)) = V2) (k : Go x D tys h L nL M (pc + 1) V2 (rest)) : Go x D tys h L nL M (pc) V (.ref a :: rest) := by
  obtain ⟨p, l, e, R, s, m, args, below, meth, c, A, cells, slots, Q⟩ := x
  obtain ⟨⟨hx, hb, hml, hown, hts⟩, hK, hi, hA0, hA, hfr, hlo, hlk, hcs, hAm⟩ := K
  intro H locs ls hP hS hl
  exact lv_astore_n hx hb hd hi0 hl.has hn rfl (fun ls2 h2 => k H locs ls2 hP hS (LH.st1 h2 ho hV))
theorem o_astore {x : En} {E : Amd} {D : va_G} {tys : List (ClassId × FieldType)} {h : Nat → Nat} {L : Lay} {own : String} {cc : ByteArray} {nL fr lo : Nat} {M : Mem} {pc : Nat} {V : List (Option Value)} {rest : List Value} (K : Kx x E D tys h L own cc nL fr lo) (i : Nat) {a : Nat} (V2 : List (Option Value)) (hd : decode cc pc = .ok (.astore i, 2)) (hn : i < nL) (ho : okS V i = true) (hV : V.set i (some (.ref a)) = V2) (k : Go x D tys h L nL M (pc + 2) V2 (rest)) : Go x D tys h L nL M (pc) V (.ref a :: rest) := by
  obtain ⟨p, l, e, R, s, m, args, below, meth, c, A, cells, slots, Q⟩ := x
  obtain ⟨⟨hx, hb, hml, hown, hts⟩, hK, hi, hA0, hA, hfr, hlo, hlk, hcs, hAm⟩ := K
  intro H locs ls hP hS hl
  exact lv_astore hx hb hd hl.has hn rfl (fun ls2 h2 => k H locs ls2 hP hS (LH.st1 h2 ho hV))
theorem o_lstore {x : En} {E : Amd} {D : va_G} {tys : List (ClassId × FieldType)} {h : Nat → Nat} {L : Lay} {own : String} {cc : ByteArray} {nL fr lo : Nat} {M : Mem} {pc : Nat} {V : List (Option Value)} {rest : List Value} (K : Kx x E D tys h L own cc nL fr lo) (i : Nat) {a : Int64} (V2 : List (Option Value)) (hd : decode cc pc = .ok (.lstore i, 2)) (hn : i + 1 < nL) (ho : okS V i = true) (hV : (V.set i (some (.long a))).set (i + 1) none = V2) (k : Go x D tys h L nL M (pc + 2) V2 (rest)) : Go x D tys h L nL M (pc) V (.long a :: rest) := by
  obtain ⟨p, l, e, R, s, m, args, below, meth, c, A, cells, slots, Q⟩ := x
  obtain ⟨⟨hx, hb, hml, hown, hts⟩, hK, hi, hA0, hA, hfr, hlo, hlk, hcs, hAm⟩ := K
  intro H locs ls hP hS hl
  exact lv_lstore hx hb hd hl.has hn rfl (fun ls2 h2 => k H locs ls2 hP hS (LH.st2 h2 ho hV))
theorem o_iinc {x : En} {E : Amd} {D : va_G} {tys : List (ClassId × FieldType)} {h : Nat → Nat} {L : Lay} {own : String} {cc : ByteArray} {nL fr lo : Nat} {M : Mem} {pc : Nat} {V : List (Option Value)} {rest : List Value} (K : Kx x E D tys h L own cc nL fr lo) (i : Nat) {n : Int} {a : Int32} (v : Int32) (V2 : List (Option Value)) (hd : decode cc pc = .ok (.iinc i n, 3)) (hv0 : V[i]? = some (some (.int a))) (hv : a + Int32.ofInt n = v) (hn : i < nL) (ho : okS V i = true) (hV : V.set i (some (.int v)) = V2) (k : Go x D tys h L nL M (pc + 3) V2 (rest)) : Go x D tys h L nL M (pc) V (rest) := by
  obtain ⟨p, l, e, R, s, m, args, below, meth, c, A, cells, slots, Q⟩ := x
  obtain ⟨⟨hx, hb, hml, hown, hts⟩, hK, hi, hA0, hA, hfr, hlo, hlk, hcs, hAm⟩ := K
  intro H locs ls hP hS hl
  obtain ⟨k0, hk0⟩ := List.getElem?_of_mem ((vl_mem (q := (i, Value.int a))).mpr hv0)
  exact lv_iinc hx hb hd hl.has hk0 hv hn rfl (fun ls2 h2 => k H locs ls2 hP hS (LH.st1 h2 ho hV))
theorem o_if_eq {x : En} {E : Amd} {D : va_G} {tys : List (ClassId × FieldType)} {h : Nat → Nat} {L : Lay} {own : String} {cc : ByteArray} {nL fr lo : Nat} {M : Mem} {pc : Nat} {V : List (Option Value)} {rest : List Value} (K : Kx x E D tys h L own cc nL fr lo) {a : Int32} {off : Int} (tgt : Nat) (hd : decode cc pc = .ok (.ifCond .eq off, 3)) (ht : (pc : Int) + off = (tgt : Int)) (kt : a = 0 → Go x D tys h L nL M (tgt) V (rest)) (kf : ¬ (a = 0) → Go x D tys h L nL M (pc + 3) V (rest)) : Go x D tys h L nL M (pc) V (.int a :: rest) := by
  obtain ⟨p, l, e, R, s, m, args, below, meth, c, A, cells, slots, Q⟩ := x
  obtain ⟨⟨hx, hb, hml, hown, hts⟩, hK, hi, hA0, hA, hfr, hlo, hlk, hcs, hAm⟩ := K
  intro H locs ls hP hS hl
  exact lv_if_eq hx hb hd ht (fun q => kt q H locs ls hP hS hl) (fun q => kf q H locs ls hP hS hl)
theorem o_if_ne {x : En} {E : Amd} {D : va_G} {tys : List (ClassId × FieldType)} {h : Nat → Nat} {L : Lay} {own : String} {cc : ByteArray} {nL fr lo : Nat} {M : Mem} {pc : Nat} {V : List (Option Value)} {rest : List Value} (K : Kx x E D tys h L own cc nL fr lo) {a : Int32} {off : Int} (tgt : Nat) (hd : decode cc pc = .ok (.ifCond .ne off, 3)) (ht : (pc : Int) + off = (tgt : Int)) (kt : ¬ a = 0 → Go x D tys h L nL M (tgt) V (rest)) (kf : a = 0 → Go x D tys h L nL M (pc + 3) V (rest)) : Go x D tys h L nL M (pc) V (.int a :: rest) := by
  obtain ⟨p, l, e, R, s, m, args, below, meth, c, A, cells, slots, Q⟩ := x
  obtain ⟨⟨hx, hb, hml, hown, hts⟩, hK, hi, hA0, hA, hfr, hlo, hlk, hcs, hAm⟩ := K
  intro H locs ls hP hS hl
  exact lv_if_ne hx hb hd ht (fun q => kt q H locs ls hP hS hl) (fun q => kf q H locs ls hP hS hl)
theorem o_if_lt {x : En} {E : Amd} {D : va_G} {tys : List (ClassId × FieldType)} {h : Nat → Nat} {L : Lay} {own : String} {cc : ByteArray} {nL fr lo : Nat} {M : Mem} {pc : Nat} {V : List (Option Value)} {rest : List Value} (K : Kx x E D tys h L own cc nL fr lo) {a : Int32} {off : Int} (tgt : Nat) (hd : decode cc pc = .ok (.ifCond .lt off, 3)) (ht : (pc : Int) + off = (tgt : Int)) (kt : a < 0 → Go x D tys h L nL M (tgt) V (rest)) (kf : ¬ (a < 0) → Go x D tys h L nL M (pc + 3) V (rest)) : Go x D tys h L nL M (pc) V (.int a :: rest) := by
  obtain ⟨p, l, e, R, s, m, args, below, meth, c, A, cells, slots, Q⟩ := x
  obtain ⟨⟨hx, hb, hml, hown, hts⟩, hK, hi, hA0, hA, hfr, hlo, hlk, hcs, hAm⟩ := K
  intro H locs ls hP hS hl
  exact lv_if_lt hx hb hd ht (fun q => kt q H locs ls hP hS hl) (fun q => kf q H locs ls hP hS hl)
theorem o_if_ge {x : En} {E : Amd} {D : va_G} {tys : List (ClassId × FieldType)} {h : Nat → Nat} {L : Lay} {own : String} {cc : ByteArray} {nL fr lo : Nat} {M : Mem} {pc : Nat} {V : List (Option Value)} {rest : List Value} (K : Kx x E D tys h L own cc nL fr lo) {a : Int32} {off : Int} (tgt : Nat) (hd : decode cc pc = .ok (.ifCond .ge off, 3)) (ht : (pc : Int) + off = (tgt : Int)) (kt : 0 ≤ a → Go x D tys h L nL M (tgt) V (rest)) (kf : ¬ (0 ≤ a) → Go x D tys h L nL M (pc + 3) V (rest)) : Go x D tys h L nL M (pc) V (.int a :: rest) := by
  obtain ⟨p, l, e, R, s, m, args, below, meth, c, A, cells, slots, Q⟩ := x
  obtain ⟨⟨hx, hb, hml, hown, hts⟩, hK, hi, hA0, hA, hfr, hlo, hlk, hcs, hAm⟩ := K
  intro H locs ls hP hS hl
  exact lv_if_ge hx hb hd ht (fun q => kt q H locs ls hP hS hl) (fun q => kf q H locs ls hP hS hl)
theorem o_if_gt {x : En} {E : Amd} {D : va_G} {tys : List (ClassId × FieldType)} {h : Nat → Nat} {L : Lay} {own : String} {cc : ByteArray} {nL fr lo : Nat} {M : Mem} {pc : Nat} {V : List (Option Value)} {rest : List Value} (K : Kx x E D tys h L own cc nL fr lo) {a : Int32} {off : Int} (tgt : Nat) (hd : decode cc pc = .ok (.ifCond .gt off, 3)) (ht : (pc : Int) + off = (tgt : Int)) (kt : 0 < a → Go x D tys h L nL M (tgt) V (rest)) (kf : ¬ (0 < a) → Go x D tys h L nL M (pc + 3) V (rest)) : Go x D tys h L nL M (pc) V (.int a :: rest) := by
  obtain ⟨p, l, e, R, s, m, args, below, meth, c, A, cells, slots, Q⟩ := x
  obtain ⟨⟨hx, hb, hml, hown, hts⟩, hK, hi, hA0, hA, hfr, hlo, hlk, hcs, hAm⟩ := K
  intro H locs ls hP hS hl
  exact lv_if_gt hx hb hd ht (fun q => kt q H locs ls hP hS hl) (fun q => kf q H locs ls hP hS hl)
theorem o_if_le {x : En} {E : Amd} {D : va_G} {tys : List (ClassId × FieldType)} {h : Nat → Nat} {L : Lay} {own : String} {cc : ByteArray} {nL fr lo : Nat} {M : Mem} {pc : Nat} {V : List (Option Value)} {rest : List Value} (K : Kx x E D tys h L own cc nL fr lo) {a : Int32} {off : Int} (tgt : Nat) (hd : decode cc pc = .ok (.ifCond .le off, 3)) (ht : (pc : Int) + off = (tgt : Int)) (kt : a ≤ 0 → Go x D tys h L nL M (tgt) V (rest)) (kf : ¬ (a ≤ 0) → Go x D tys h L nL M (pc + 3) V (rest)) : Go x D tys h L nL M (pc) V (.int a :: rest) := by
  obtain ⟨p, l, e, R, s, m, args, below, meth, c, A, cells, slots, Q⟩ := x
  obtain ⟨⟨hx, hb, hml, hown, hts⟩, hK, hi, hA0, hA, hfr, hlo, hlk, hcs, hAm⟩ := K
  intro H locs ls hP hS hl
  exact lv_if_le hx hb hd ht (fun q => kt q H locs ls hP hS hl) (fun q => kf q H locs ls hP hS hl)
theorem o_icmp_eq {x : En} {E : Amd} {D : va_G} {tys : List (ClassId × FieldType)} {h : Nat → Nat} {L : Lay} {own : String} {cc : ByteArray} {nL fr lo : Nat} {M : Mem} {pc : Nat} {V : List (Option Value)} {rest : List Value} (K : Kx x E D tys h L own cc nL fr lo) {a b : Int32} {off : Int} (tgt : Nat) (hd : decode cc pc = .ok (.if_icmp .eq off, 3)) (ht : (pc : Int) + off = (tgt : Int)) (kt : a = b → Go x D tys h L nL M (tgt) V (rest)) (kf : ¬ (a = b) → Go x D tys h L nL M (pc + 3) V (rest)) : Go x D tys h L nL M (pc) V (.int b :: .int a :: rest) := by
  obtain ⟨p, l, e, R, s, m, args, below, meth, c, A, cells, slots, Q⟩ := x
  obtain ⟨⟨hx, hb, hml, hown, hts⟩, hK, hi, hA0, hA, hfr, hlo, hlk, hcs, hAm⟩ := K
  intro H locs ls hP hS hl
  exact lv_icmp_eq hx hb hd ht (fun q => kt q H locs ls hP hS hl) (fun q => kf q H locs ls hP hS hl)
theorem o_icmp_ne {x : En} {E : Amd} {D : va_G} {tys : List (ClassId × FieldType)} {h : Nat → Nat} {L : Lay} {own : String} {cc : ByteArray} {nL fr lo : Nat} {M : Mem} {pc : Nat} {V : List (Option Value)} {rest : List Value} (K : Kx x E D tys h L own cc nL fr lo) {a b : Int32} {off : Int} (tgt : Nat) (hd : decode cc pc = .ok (.if_icmp .ne off, 3)) (ht : (pc : Int) + off = (tgt : Int)) (kt : ¬ a = b → Go x D tys h L nL M (tgt) V (rest)) (kf : a = b → Go x D tys h L nL M (pc + 3) V (rest)) : Go x D tys h L nL M (pc) V (.int b :: .int a :: rest) := by
  obtain ⟨p, l, e, R, s, m, args, below, meth, c, A, cells, slots, Q⟩ := x
  obtain ⟨⟨hx, hb, hml, hown, hts⟩, hK, hi, hA0, hA, hfr, hlo, hlk, hcs, hAm⟩ := K
  intro H locs ls hP hS hl
  exact lv_icmp_ne hx hb hd ht (fun q => kt q H locs ls hP hS hl) (fun q => kf q H locs ls hP hS hl)
theorem o_icmp_lt {x : En} {E : Amd} {D : va_G} {tys : List (ClassId × FieldType)} {h : Nat → Nat} {L : Lay} {own : String} {cc : ByteArray} {nL fr lo : Nat} {M : Mem} {pc : Nat} {V : List (Option Value)} {rest : List Value} (K : Kx x E D tys h L own cc nL fr lo) {a b : Int32} {off : Int} (tgt : Nat) (hd : decode cc pc = .ok (.if_icmp .lt off, 3)) (ht : (pc : Int) + off = (tgt : Int)) (kt : a < b → Go x D tys h L nL M (tgt) V (rest)) (kf : ¬ (a < b) → Go x D tys h L nL M (pc + 3) V (rest)) : Go x D tys h L nL M (pc) V (.int b :: .int a :: rest) := by
  obtain ⟨p, l, e, R, s, m, args, below, meth, c, A, cells, slots, Q⟩ := x
  obtain ⟨⟨hx, hb, hml, hown, hts⟩, hK, hi, hA0, hA, hfr, hlo, hlk, hcs, hAm⟩ := K
  intro H locs ls hP hS hl
  exact lv_icmp_lt hx hb hd ht (fun q => kt q H locs ls hP hS hl) (fun q => kf q H locs ls hP hS hl)
theorem o_icmp_ge {x : En} {E : Amd} {D : va_G} {tys : List (ClassId × FieldType)} {h : Nat → Nat} {L : Lay} {own : String} {cc : ByteArray} {nL fr lo : Nat} {M : Mem} {pc : Nat} {V : List (Option Value)} {rest : List Value} (K : Kx x E D tys h L own cc nL fr lo) {a b : Int32} {off : Int} (tgt : Nat) (hd : decode cc pc = .ok (.if_icmp .ge off, 3)) (ht : (pc : Int) + off = (tgt : Int)) (kt : b ≤ a → Go x D tys h L nL M (tgt) V (rest)) (kf : ¬ (b ≤ a) → Go x D tys h L nL M (pc + 3) V (rest)) : Go x D tys h L nL M (pc) V (.int b :: .int a :: rest) := by
  obtain ⟨p, l, e, R, s, m, args, below, meth, c, A, cells, slots, Q⟩ := x
  obtain ⟨⟨hx, hb, hml, hown, hts⟩, hK, hi, hA0, hA, hfr, hlo, hlk, hcs, hAm⟩ := K
  intro H locs ls hP hS hl
  exact lv_icmp_ge hx hb hd ht (fun q => kt q H locs ls hP hS hl) (fun q => kf q H locs ls hP hS hl)
theorem o_icmp_gt {x : En} {E : Amd} {D : va_G} {tys : List (ClassId × FieldType)} {h : Nat → Nat} {L : Lay} {own : String} {cc : ByteArray} {nL fr lo : Nat} {M : Mem} {pc : Nat} {V : List (Option Value)} {rest : List Value} (K : Kx x E D tys h L own cc nL fr lo) {a b : Int32} {off : Int} (tgt : Nat) (hd : decode cc pc = .ok (.if_icmp .gt off, 3)) (ht : (pc : Int) + off = (tgt : Int)) (kt : b < a → Go x D tys h L nL M (tgt) V (rest)) (kf : ¬ (b < a) → Go x D tys h L nL M (pc + 3) V (rest)) : Go x D tys h L nL M (pc) V (.int b :: .int a :: rest) := by
  obtain ⟨p, l, e, R, s, m, args, below, meth, c, A, cells, slots, Q⟩ := x
  obtain ⟨⟨hx, hb, hml, hown, hts⟩, hK, hi, hA0, hA, hfr, hlo, hlk, hcs, hAm⟩ := K
  intro H locs ls hP hS hl
  exact lv_icmp_gt hx hb hd ht (fun q => kt q H locs ls hP hS hl) (fun q => kf q H locs ls hP hS hl)
theorem o_icmp_le {x : En} {E : Amd} {D : va_G} {tys : List (ClassId × FieldType)} {h : Nat → Nat} {L : Lay} {own : String} {cc : ByteArray} {nL fr lo : Nat} {M : Mem} {pc : Nat} {V : List (Option Value)} {rest : List Value} (K : Kx x E D tys h L own cc nL fr lo) {a b : Int32} {off : Int} (tgt : Nat) (hd : decode cc pc = .ok (.if_icmp .le off, 3)) (ht : (pc : Int) + off = (tgt : Int)) (kt : a ≤ b → Go x D tys h L nL M (tgt) V (rest)) (kf : ¬ (a ≤ b) → Go x D tys h L nL M (pc + 3) V (rest)) : Go x D tys h L nL M (pc) V (.int b :: .int a :: rest) := by
  obtain ⟨p, l, e, R, s, m, args, below, meth, c, A, cells, slots, Q⟩ := x
  obtain ⟨⟨hx, hb, hml, hown, hts⟩, hK, hi, hA0, hA, hfr, hlo, hlk, hcs, hAm⟩ := K
  intro H locs ls hP hS hl
  exact lv_icmp_le hx hb hd ht (fun q => kt q H locs ls hP hS hl) (fun q => kf q H locs ls hP hS hl)
theorem o_goto {x : En} {E : Amd} {D : va_G} {tys : List (ClassId × FieldType)} {h : Nat → Nat} {L : Lay} {own : String} {cc : ByteArray} {nL fr lo : Nat} {M : Mem} {pc : Nat} {V : List (Option Value)} {rest : List Value} (K : Kx x E D tys h L own cc nL fr lo) {off : Int} (tgt : Nat) (hd : decode cc pc = .ok (.goto off, 3)) (ht : (pc : Int) + off = (tgt : Int)) (k : Go x D tys h L nL M (tgt) V (rest)) : Go x D tys h L nL M (pc) V (rest) := by
  obtain ⟨p, l, e, R, s, m, args, below, meth, c, A, cells, slots, Q⟩ := x
  obtain ⟨⟨hx, hb, hml, hown, hts⟩, hK, hi, hA0, hA, hfr, hlo, hlk, hcs, hAm⟩ := K
  intro H locs ls hP hS hl
  exact lv_goto hx hb hd ht (k H locs ls hP hS hl)
theorem o_ifnull {x : En} {E : Amd} {D : va_G} {tys : List (ClassId × FieldType)} {h : Nat → Nat} {L : Lay} {own : String} {cc : ByteArray} {nL fr lo : Nat} {M : Mem} {pc : Nat} {V : List (Option Value)} {rest : List Value} (K : Kx x E D tys h L own cc nL fr lo) {a : Nat} {off : Int} (hd : decode cc pc = .ok (.ifnull off, 3)) (k : Go x D tys h L nL M (pc + 3) V (rest)) : Go x D tys h L nL M (pc) V (.ref a :: rest) := by
  obtain ⟨p, l, e, R, s, m, args, below, meth, c, A, cells, slots, Q⟩ := x
  obtain ⟨⟨hx, hb, hml, hown, hts⟩, hK, hi, hA0, hA, hfr, hlo, hlk, hcs, hAm⟩ := K
  intro H locs ls hP hS hl
  exact lv_ifnull hx hb hd (k H locs ls hP hS hl)
theorem o_ifnonnull {x : En} {E : Amd} {D : va_G} {tys : List (ClassId × FieldType)} {h : Nat → Nat} {L : Lay} {own : String} {cc : ByteArray} {nL fr lo : Nat} {M : Mem} {pc : Nat} {V : List (Option Value)} {rest : List Value} (K : Kx x E D tys h L own cc nL fr lo) {a : Nat} {off : Int} (tgt : Nat) (hd : decode cc pc = .ok (.ifnonnull off, 3)) (ht : (pc : Int) + off = (tgt : Int)) (k : Go x D tys h L nL M (tgt) V (rest)) : Go x D tys h L nL M (pc) V (.ref a :: rest) := by
  obtain ⟨p, l, e, R, s, m, args, below, meth, c, A, cells, slots, Q⟩ := x
  obtain ⟨⟨hx, hb, hml, hown, hts⟩, hK, hi, hA0, hA, hfr, hlo, hlk, hcs, hAm⟩ := K
  intro H locs ls hP hS hl
  exact lv_ifnonnull hx hb hd ht (k H locs ls hP hS hl)
def tsel (dflt lo hi : Int) (offs : Array Int) (v : Int) : Int := if v < lo ∨ hi < v then dflt else (offs[(v - lo).toNat]?).getD dflt
theorem tsel_d {dflt lo hi v : Int} {offs : Array Int} (vs : List Int) (hne : ∀ u ∈ vs, ¬ v = u) (hall : (List.range offs.size).all (fun j => decide (offs[j]? = some dflt) || decide ((lo + (j : Int)) ∈ vs)) = true) : tsel dflt lo hi offs v = dflt := by
  unfold tsel
  split
  · rfl
  · rename_i hn
    cases hq : offs[(v - lo).toNat]? with
    | none => rfl
    | some o =>
      have hj := (Array.getElem?_eq_some_iff.mp hq).1
      have h1 := List.all_eq_true.mp hall _ (List.mem_range.mpr hj)
      rw [Bool.or_eq_true, decide_eq_true_eq, decide_eq_true_eq] at h1
      rcases h1 with h1 | h1
      · rw [hq] at h1
        exact Option.some.inj h1
      · exact absurd (by omega) (hne _ h1)
theorem o_table {x : En} {E : Amd} {D : va_G} {tys : List (ClassId × FieldType)} {h : Nat → Nat} {L : Lay} {own : String} {cc : ByteArray} {nL fr lo : Nat} {M : Mem} {pc : Nat} {V : List (Option Value)} {rest : List Value} (K : Kx x E D tys h L own cc nL fr lo) {a : Int32} {dflt lo2 hi2 off : Int} {offs : Array Int} {len : Nat} (tgt : Nat) (hd : decode cc pc = .ok (.tableswitch dflt lo2 hi2 offs, len)) (hsz : (offs.size : Int) = hi2 - lo2 + 1) (ho : tsel dflt lo2 hi2 offs a.toInt = off) (ht : (pc : Int) + off = (tgt : Int)) (k : Go x D tys h L nL M (tgt) V (rest)) : Go x D tys h L nL M (pc) V (.int a :: rest) := by
  obtain ⟨p, l, e, R, s, m, args, below, meth, c, A, cells, slots, Q⟩ := x
  obtain ⟨⟨hx, hb, hml, hown, hts⟩, hK, hi, hA0, hA, hfr, hlo, hlk, hcs, hAm⟩ := K
  intro H locs ls hP hS hl
  subst ho
  unfold tsel at ht
  by_cases hq : a.toInt < lo2 ∨ hi2 < a.toInt
  · rw [if_pos hq] at ht
    exact lv_tableOut hx hb hd hq ht (k H locs ls hP hS hl)
  · rw [if_neg hq] at ht
    have hj : (a.toInt - lo2).toNat < offs.size := by omega
    rw [Array.getElem?_eq_getElem hj] at ht
    exact lv_tableIn hx hb hd (by omega) (by omega) (Array.getElem?_eq_getElem hj) ht (k H locs ls hP hS hl)
theorem o_lookup {x : En} {E : Amd} {D : va_G} {tys : List (ClassId × FieldType)} {h : Nat → Nat} {L : Lay} {own : String} {cc : ByteArray} {nL fr lo : Nat} {M : Mem} {pc : Nat} {V : List (Option Value)} {rest : List Value} (K : Kx x E D tys h L own cc nL fr lo) {a : Int32} {dflt off : Int} {ps : Array (Int × Int)} {len : Nat} (tgt : Nat) (hd : decode cc pc = .ok (.lookupswitch dflt ps, len)) (hp : (ps.toList.zip (ps.toList.drop 1)).all (fun (a, next) => a.1 < next.1) = true) (ho : Op.lookupswitch.offset ps.toList dflt a.toInt = off) (ht : (pc : Int) + off = (tgt : Int)) (k : Go x D tys h L nL M (tgt) V (rest)) : Go x D tys h L nL M (pc) V (.int a :: rest) := by
  obtain ⟨p, l, e, R, s, m, args, below, meth, c, A, cells, slots, Q⟩ := x
  obtain ⟨⟨hx, hb, hml, hown, hts⟩, hK, hi, hA0, hA, hfr, hlo, hlk, hcs, hAm⟩ := K
  intro H locs ls hP hS hl
  exact lv_lookup hx hb hd hp ho ht (k H locs ls hP hS hl)
theorem o_iret {x : En} {E : Amd} {D : va_G} {tys : List (ClassId × FieldType)} {h : Nat → Nat} {L : Lay} {own : String} {cc : ByteArray} {nL fr lo : Nat} {M : Mem} {pc : Nat} {V : List (Option Value)} (K : Kx x E D tys h L own cc nL fr lo) {a : Int32} (hR : Rt x D h L (some .int) (some (.int a)) M) (hd : decode cc pc = .ok (.ireturn, 1)) : Go x D tys h L nL M (pc) V ([.int a]) := by
  obtain ⟨p, l, e, R, s, m, args, below, meth, c, A, cells, slots, Q⟩ := x
  obtain ⟨⟨hx, hb, hml, hown, hts⟩, hK, hi, hA0, hA, hfr, hlo, hlk, hcs, hAm⟩ := K
  intro H locs ls hP hS hl
  obtain ⟨hr, hQ⟩ := hR
  subst hQ
  exact W.iret hx hb hr (fun t ht hW => ⟨rfl, by rw [ht]; exact hP, hS.F ht⟩) hS.2.2 hd hlk
theorem o_zret {x : En} {E : Amd} {D : va_G} {tys : List (ClassId × FieldType)} {h : Nat → Nat} {L : Lay} {own : String} {cc : ByteArray} {nL fr lo : Nat} {M : Mem} {pc : Nat} {V : List (Option Value)} (K : Kx x E D tys h L own cc nL fr lo) {a : Int32} (hR : Rt x D h L (some .boolean) (some (.int a)) M) (hn : narrow .boolean (.int a) = .int a) (hd : decode cc pc = .ok (.ireturn, 1)) : Go x D tys h L nL M (pc) V ([.int a]) := by
  obtain ⟨p, l, e, R, s, m, args, below, meth, c, A, cells, slots, Q⟩ := x
  obtain ⟨⟨hx, hb, hml, hown, hts⟩, hK, hi, hA0, hA, hfr, hlo, hlk, hcs, hAm⟩ := K
  intro H locs ls hP hS hl
  obtain ⟨hr, hQ⟩ := hR
  subst hQ
  exact W.zret hx hb hr hn (fun t ht hW => ⟨rfl, by rw [ht]; exact hP, hS.F ht⟩) hS.2.2 hd hlk
theorem o_lret {x : En} {E : Amd} {D : va_G} {tys : List (ClassId × FieldType)} {h : Nat → Nat} {L : Lay} {own : String} {cc : ByteArray} {nL fr lo : Nat} {M : Mem} {pc : Nat} {V : List (Option Value)} (K : Kx x E D tys h L own cc nL fr lo) {a : Int64} (hR : Rt x D h L (some .long) (some (.long a)) M) (hd : decode cc pc = .ok (.lreturn, 1)) : Go x D tys h L nL M (pc) V ([.long a]) := by
  obtain ⟨p, l, e, R, s, m, args, below, meth, c, A, cells, slots, Q⟩ := x
  obtain ⟨⟨hx, hb, hml, hown, hts⟩, hK, hi, hA0, hA, hfr, hlo, hlk, hcs, hAm⟩ := K
  intro H locs ls hP hS hl
  obtain ⟨hr, hQ⟩ := hR
  subst hQ
  exact W.lret hx hb hr (fun t ht hW => ⟨rfl, by rw [ht]; exact hP, hS.F ht⟩) hS.2.2 hd hlk
theorem o_vret {x : En} {E : Amd} {D : va_G} {tys : List (ClassId × FieldType)} {h : Nat → Nat} {L : Lay} {own : String} {cc : ByteArray} {nL fr lo : Nat} {M : Mem} {pc : Nat} {V : List (Option Value)} (K : Kx x E D tys h L own cc nL fr lo) (hR : Rt x D h L none none M) (hd : decode cc pc = .ok (.return_, 1)) : Go x D tys h L nL M (pc) V ([]) := by
  obtain ⟨p, l, e, R, s, m, args, below, meth, c, A, cells, slots, Q⟩ := x
  obtain ⟨⟨hx, hb, hml, hown, hts⟩, hK, hi, hA0, hA, hfr, hlo, hlk, hcs, hAm⟩ := K
  intro H locs ls hP hS hl
  obtain ⟨hr, hQ⟩ := hR
  subst hQ
  exact W.vret hx hb hr (fun t ht hW => ⟨rfl, by rw [ht]; exact hP, hS.F ht⟩) hS.2.2 hd hlk
theorem o_aret {x : En} {E : Amd} {D : va_G} {tys : List (ClassId × FieldType)} {h : Nat → Nat} {L : Lay} {own : String} {cc : ByteArray} {nL fr lo : Nat} {M : Mem} {pc : Nat} {V : List (Option Value)} (K : Kx x E D tys h L own cc nL fr lo) {v : Value} {rt : FieldType} (hrt : (∃ n, rt = .object n) ∨ ∃ t, rt = .array t) (hv : v = .null ∨ ∃ a, v = .ref a) (hR : Rt x D h L (some rt) (some v) M) (hd : decode cc pc = .ok (.areturn, 1)) : Go x D tys h L nL M (pc) V ([v]) := by
  obtain ⟨p, l, e, R, s, m, args, below, meth, c, A, cells, slots, Q⟩ := x
  obtain ⟨⟨hx, hb, hml, hown, hts⟩, hK, hi, hA0, hA, hfr, hlo, hlk, hcs, hAm⟩ := K
  intro H locs ls hP hS hl
  obtain ⟨hr, hQ⟩ := hR
  subst hQ
  exact W.aret hx hb hr hrt hv (fun t ht hW => ⟨rfl, by rw [ht]; exact hP, hS.F ht⟩) hS.2.2 hd hlk
theorem o_nmi {x : En} {D : va_G} {tys : List (ClassId × FieldType)} {h : Nat → Nat} {L : Lay} {nL : Nat} {M : Mem} {pc : Nat} {V : List (Option Value)} {rest : List Value} {a y : Int32} (e : a = y) (k : Go x D tys h L nL M (pc) V (.int y :: rest)) : Go x D tys h L nL M (pc) V (.int a :: rest) := by rw [e]; exact k
theorem o_nml {x : En} {D : va_G} {tys : List (ClassId × FieldType)} {h : Nat → Nat} {L : Lay} {nL : Nat} {M : Mem} {pc : Nat} {V : List (Option Value)} {rest : List Value} {a y : Int64} (e : a = y) (k : Go x D tys h L nL M (pc) V (.long y :: rest)) : Go x D tys h L nL M (pc) V (.long a :: rest) := by rw [e]; exact k
theorem o_nmM {x : En} {D : va_G} {tys : List (ClassId × FieldType)} {h : Nat → Nat} {L : Lay} {nL : Nat} {M : Mem} {pc : Nat} {V : List (Option Value)} {rest : List Value} {M2 : Mem} (e : M = M2) (k : Go x D tys h L nL M2 (pc) V (rest)) : Go x D tys h L nL M (pc) V (rest) := by rw [e]; exact k
theorem e_iret {x : En} {E : Amd} {D : va_G} {tys : List (ClassId × FieldType)} {h : Nat → Nat} {L : Lay} {own : String} {cc : ByteArray} {nL fr lo : Nat} {M : Mem} {pc : Nat} {V : List (Option Value)} (K : Kx x E D tys h L own cc nL fr lo) {a r : Int32} {M2 : Mem} (hf : some (a, M) = some (r, M2)) (hR : Rt x D h L (some .int) (some (.int r)) M2) (hd : decode cc pc = .ok (.ireturn, 1)) : Go x D tys h L nL M (pc) V ([.int a]) := by
  cases hf
  exact o_iret K hR hd
theorem e_zret {x : En} {E : Amd} {D : va_G} {tys : List (ClassId × FieldType)} {h : Nat → Nat} {L : Lay} {own : String} {cc : ByteArray} {nL fr lo : Nat} {M : Mem} {pc : Nat} {V : List (Option Value)} (K : Kx x E D tys h L own cc nL fr lo) {a r : Int32} {M2 : Mem} (hf : some (a, M) = some (r, M2)) (hR : Rt x D h L (some .boolean) (some (.int r)) M2) (hn : bz a = true) (hd : decode cc pc = .ok (.ireturn, 1)) : Go x D tys h L nL M (pc) V ([.int a]) := by
  cases hf
  exact o_zret K hR (bz_n hn) hd
theorem e_lret {x : En} {E : Amd} {D : va_G} {tys : List (ClassId × FieldType)} {h : Nat → Nat} {L : Lay} {own : String} {cc : ByteArray} {nL fr lo : Nat} {M : Mem} {pc : Nat} {V : List (Option Value)} (K : Kx x E D tys h L own cc nL fr lo) {a r : Int64} {M2 : Mem} (hf : some (a, M) = some (r, M2)) (hR : Rt x D h L (some .long) (some (.long r)) M2) (hd : decode cc pc = .ok (.lreturn, 1)) : Go x D tys h L nL M (pc) V ([.long a]) := by
  cases hf
  exact o_lret K hR hd
theorem e_vret {x : En} {E : Amd} {D : va_G} {tys : List (ClassId × FieldType)} {h : Nat → Nat} {L : Lay} {own : String} {cc : ByteArray} {nL fr lo : Nat} {M : Mem} {pc : Nat} {V : List (Option Value)} (K : Kx x E D tys h L own cc nL fr lo) {M2 : Mem} (hf : some M = some M2) (hR : Rt x D h L none none M2) (hd : decode cc pc = .ok (.return_, 1)) : Go x D tys h L nL M (pc) V ([]) := by
  cases hf
  exact o_vret K hR hd
theorem r_iret {x : En} {E : Amd} {D : va_G} {tys : List (ClassId × FieldType)} {h : Nat → Nat} {L : Lay} {own : String} {cc : ByteArray} {nL fr lo : Nat} {M : Mem} {pc : Nat} {V : List (Option Value)} (K : Kx x E D tys h L own cc nL fr lo) {a r : Int32} (hf : some a = some r) (hR : Rt x D h L (some .int) (some (.int r)) M) (hd : decode cc pc = .ok (.ireturn, 1)) : Go x D tys h L nL M (pc) V ([.int a]) := by
  cases hf
  exact o_iret K hR hd
theorem r_zret {x : En} {E : Amd} {D : va_G} {tys : List (ClassId × FieldType)} {h : Nat → Nat} {L : Lay} {own : String} {cc : ByteArray} {nL fr lo : Nat} {M : Mem} {pc : Nat} {V : List (Option Value)} (K : Kx x E D tys h L own cc nL fr lo) {a r : Int32} (hf : some a = some r) (hR : Rt x D h L (some .boolean) (some (.int r)) M) (hn : bz a = true) (hd : decode cc pc = .ok (.ireturn, 1)) : Go x D tys h L nL M (pc) V ([.int a]) := by
  cases hf
  exact o_zret K hR (bz_n hn) hd
theorem r_lret {x : En} {E : Amd} {D : va_G} {tys : List (ClassId × FieldType)} {h : Nat → Nat} {L : Lay} {own : String} {cc : ByteArray} {nL fr lo : Nat} {M : Mem} {pc : Nat} {V : List (Option Value)} (K : Kx x E D tys h L own cc nL fr lo) {a r : Int64} (hf : some a = some r) (hR : Rt x D h L (some .long) (some (.long r)) M) (hd : decode cc pc = .ok (.lreturn, 1)) : Go x D tys h L nL M (pc) V ([.long a]) := by
  cases hf
  exact o_lret K hR hd
theorem o_get {x : En} {E : Amd} {D : va_G} {tys : List (ClassId × FieldType)} {h : Nat → Nat} {L : Lay} {own : String} {cc : ByteArray} {nL fr lo : Nat} {M : Mem} {pc : Nat} {V : List (Option Value)} {rest : List Value} (K : Kx x E D tys h L own cc nL fr lo) {k ci N idx : Nat} {fs : List Value} {C ref : String} {T : u_T} {v : Value} (j : Nat) (hk : k < L.1) (hc : L.2 k (M k) = .inr (ci, fs)) (hcl : vwCl[ci]? = some (C, T, N)) (hj : j < N) (hw : ∀ w ∈ u_ws C T N, w ∈ TB) (hlink : Cond.fieldLink own idx ref (T j).2.1 (T j).2.2.1 ∈ TB) (href : (T j).1 = ref) (hv : fs[j]? = some v) (hd : decode cc pc = .ok (.getfield idx, 3)) (kk : Go x D tys h L nL M (pc + 3) V (v :: rest)) : Go x D tys h L nL M (pc) V (.ref (h k) :: rest) := by
  obtain ⟨p, l, e, R, s, m, args, below, meth, c, A, cells, slots, Q⟩ := x
  obtain ⟨⟨hx, hb, hml, hown, hts⟩, hK, hi, hA0, hA, hfr, hlo, hlk, hcs, hAm⟩ := K
  intro H locs ls hP hS hl
  exact va_get hx hb hts hw hown hK hP k (by rw [wsOf_at hk, hc]) hcl j hj (hts _ hlink) (fun _ q => by rw [← href]; exact q) hv hd (kk H locs ls hP hS hl)
theorem o_put {x : En} {E : Amd} {D : va_G} {tys : List (ClassId × FieldType)} {h : Nat → Nat} {L : Lay} {own : String} {cc : ByteArray} {nL fr lo : Nat} {M : Mem} {pc : Nat} {V : List (Option Value)} {rest : List Value} (K : Kx x E D tys h L own cc nL fr lo) {k ci N idx : Nat} {fs : List Value} {C ref : String} {T : u_T} {v : Value} {ty : FieldType} (ty0 : Nat → FieldType) (j : Nat) (r : Nat → Int32) (hk : k < L.1) (hc : L.2 k (M k) = .inr (ci, fs)) (hcl : vwCl[ci]? = some (C, T, N)) (hj : j < N) (hw : ∀ w ∈ u_ws C T N, w ∈ TB) (hty : ∀ k, k < N → parseFieldDescriptor (T k).2.2.1 = some (ty0 k)) (hnm : ∀ a, a < N → ∀ b, b < N → a ≠ b → (T a).2.1 ≠ (T b).2.1) (hlink : Cond.fieldLink own idx ref (T j).2.1 (T j).2.2.1 ∈ TB) (href : (T j).1 = ref) (hfin : (T j).2.2.2 = false) (hpd : parseFieldDescriptor (T j).2.2.1 = some ty) (hn : narrow ty v = v) (hfit : fits ty v = true) (hlen : j < fs.length) (hr : L.2 k r = .inr (ci, fs.set j v)) (hd : decode cc pc = .ok (.putfield idx, 3)) (kk : Go x D tys h L nL (up M k r) (pc + 3) V (rest)) : Go x D tys h L nL M (pc) V (v :: .ref (h k) :: rest) := by
  obtain ⟨p, l, e, R, s, m, args, below, meth, c, A, cells, slots, Q⟩ := x
  obtain ⟨⟨hx, hb, hml, hown, hts⟩, hK, hi, hA0, hA, hfr, hlo, hlk, hcs, hAm⟩ := K
  intro H locs ls hP hS hl
  refine va_put hx hb hts hw ty0 hty hnm hown hK hP (wsOf_D hi hA0) hS k (by rw [wsOf_at hk, hc]) hcl j hj (hts _ hlink) (fun _ q => by rw [← href]; exact q) hfin hpd hn hfit hlen hd (fun H1 locs1 h1 h2 h3 => ?_)
  rw [wsOf_set hk hr] at h1
  exact kk H1 locs1 ls h1 h3 hl
theorem o_intld {x : En} {E : Amd} {D : va_G} {tys : List (ClassId × FieldType)} {h : Nat → Nat} {L : Lay} {own : String} {cc : ByteArray} {nL fr lo : Nat} {M : Mem} {pc : Nat} {V : List (Option Value)} {rest : List Value} (K : Kx x E D tys h L own cc nL fr lo) {k n : Nat} {cA : ClassId} {i : Int32} {f : Nat → Int32} (t0 : Nat) (hk : k < L.1) (hc : L.2 k (M k) = .inl (cA, n, .inl f)) (ht0 : tys[t0]? = some (cA, .int)) (hin : ib i n = true) (hd : decode cc pc = .ok (.iaload, 1)) (kk : Go x D tys h L nL M (pc + 1) V (.int (f (ix i)) :: rest)) : Go x D tys h L nL M (pc) V (.int i :: .ref (h k) :: rest) := by
  obtain ⟨p, l, e, R, s, m, args, below, meth, c, A, cells, slots, Q⟩ := x
  obtain ⟨⟨hx, hb, hml, hown, hts⟩, hK, hi, hA0, hA, hfr, hlo, hlk, hcs, hAm⟩ := K
  intro H locs ls hP hS hl
  exact va_iald hx hb hK hP k t0 (by rw [wsOf_at hk, hc]) ht0 (ib_in hin) hd (kk H locs ls hP hS hl)
theorem o_byteld {x : En} {E : Amd} {D : va_G} {tys : List (ClassId × FieldType)} {h : Nat → Nat} {L : Lay} {own : String} {cc : ByteArray} {nL fr lo : Nat} {M : Mem} {pc : Nat} {V : List (Option Value)} {rest : List Value} (K : Kx x E D tys h L own cc nL fr lo) {k n : Nat} {cA : ClassId} {i : Int32} {f : Nat → Int32} (t0 : Nat) (hk : k < L.1) (hc : L.2 k (M k) = .inl (cA, n, .inl f)) (ht0 : tys[t0]? = some (cA, .byte)) (hin : ib i n = true) (hd : decode cc pc = .ok (.baload, 1)) (kk : Go x D tys h L nL M (pc + 1) V (.int (f (ix i)) :: rest)) : Go x D tys h L nL M (pc) V (.int i :: .ref (h k) :: rest) := by
  obtain ⟨p, l, e, R, s, m, args, below, meth, c, A, cells, slots, Q⟩ := x
  obtain ⟨⟨hx, hb, hml, hown, hts⟩, hK, hi, hA0, hA, hfr, hlo, hlk, hcs, hAm⟩ := K
  intro H locs ls hP hS hl
  exact va_bald hx hb hK hP k t0 (by rw [wsOf_at hk, hc]) ht0 (ib_in hin) hd (kk H locs ls hP hS hl)
theorem o_charld {x : En} {E : Amd} {D : va_G} {tys : List (ClassId × FieldType)} {h : Nat → Nat} {L : Lay} {own : String} {cc : ByteArray} {nL fr lo : Nat} {M : Mem} {pc : Nat} {V : List (Option Value)} {rest : List Value} (K : Kx x E D tys h L own cc nL fr lo) {k n : Nat} {cA : ClassId} {i : Int32} {f : Nat → Int32} (t0 : Nat) (hk : k < L.1) (hc : L.2 k (M k) = .inl (cA, n, .inl f)) (ht0 : tys[t0]? = some (cA, .char)) (hin : ib i n = true) (hd : decode cc pc = .ok (.caload, 1)) (kk : Go x D tys h L nL M (pc + 1) V (.int (f (ix i)) :: rest)) : Go x D tys h L nL M (pc) V (.int i :: .ref (h k) :: rest) := by
  obtain ⟨p, l, e, R, s, m, args, below, meth, c, A, cells, slots, Q⟩ := x
  obtain ⟨⟨hx, hb, hml, hown, hts⟩, hK, hi, hA0, hA, hfr, hlo, hlk, hcs, hAm⟩ := K
  intro H locs ls hP hS hl
  exact va_cald hx hb hK hP k t0 (by rw [wsOf_at hk, hc]) ht0 (ib_in hin) hd (kk H locs ls hP hS hl)
theorem o_booleanld {x : En} {E : Amd} {D : va_G} {tys : List (ClassId × FieldType)} {h : Nat → Nat} {L : Lay} {own : String} {cc : ByteArray} {nL fr lo : Nat} {M : Mem} {pc : Nat} {V : List (Option Value)} {rest : List Value} (K : Kx x E D tys h L own cc nL fr lo) {k n : Nat} {cA : ClassId} {i : Int32} {f : Nat → Int32} (t0 : Nat) (hk : k < L.1) (hc : L.2 k (M k) = .inl (cA, n, .inl f)) (ht0 : tys[t0]? = some (cA, .boolean)) (hin : ib i n = true) (hd : decode cc pc = .ok (.baload, 1)) (kk : Go x D tys h L nL M (pc + 1) V (.int (f (ix i)) :: rest)) : Go x D tys h L nL M (pc) V (.int i :: .ref (h k) :: rest) := by
  obtain ⟨p, l, e, R, s, m, args, below, meth, c, A, cells, slots, Q⟩ := x
  obtain ⟨⟨hx, hb, hml, hown, hts⟩, hK, hi, hA0, hA, hfr, hlo, hlk, hcs, hAm⟩ := K
  intro H locs ls hP hS hl
  exact va_zald hx hb hK hP k t0 (by rw [wsOf_at hk, hc]) ht0 (ib_in hin) hd (kk H locs ls hP hS hl)
theorem o_intst {x : En} {E : Amd} {D : va_G} {tys : List (ClassId × FieldType)} {h : Nat → Nat} {L : Lay} {own : String} {cc : ByteArray} {nL fr lo : Nat} {M : Mem} {pc : Nat} {V : List (Option Value)} {rest : List Value} (K : Kx x E D tys h L own cc nL fr lo) {k n : Nat} {cA : ClassId} {i v : Int32} {f : Nat → Int32} (t0 : Nat) (r : Nat → Int32) (hk : k < L.1) (hc : L.2 k (M k) = .inl (cA, n, .inl f)) (ht0 : tys[t0]? = some (cA, .int)) (hr : L.2 k r = .inl (cA, n, .inl (upd f (ix i) (v)))) (hin : ib i n = true) (hd : decode cc pc = .ok (.iastore, 1)) (kk : Go x D tys h L nL (up M k r) (pc + 1) V (rest)) : Go x D tys h L nL M (pc) V (.int v :: .int i :: .ref (h k) :: rest) := by
  obtain ⟨p, l, e, R, s, m, args, below, meth, c, A, cells, slots, Q⟩ := x
  obtain ⟨⟨hx, hb, hml, hown, hts⟩, hK, hi, hA0, hA, hfr, hlo, hlk, hcs, hAm⟩ := K
  intro H locs ls hP hS hl
  refine va_iast hx hb hK hP (wsOf_D hi hA0) hS k t0 (by rw [wsOf_at hk, hc]) ht0 (ib_in hin) hd (fun H1 locs1 h1 h2 h3 => ?_)
  rw [wsOf_set hk hr] at h1
  exact kk H1 locs1 ls h1 h3 hl
theorem o_bytest {x : En} {E : Amd} {D : va_G} {tys : List (ClassId × FieldType)} {h : Nat → Nat} {L : Lay} {own : String} {cc : ByteArray} {nL fr lo : Nat} {M : Mem} {pc : Nat} {V : List (Option Value)} {rest : List Value} (K : Kx x E D tys h L own cc nL fr lo) {k n : Nat} {cA : ClassId} {i v : Int32} {f : Nat → Int32} (t0 : Nat) (r : Nat → Int32) (hk : k < L.1) (hc : L.2 k (M k) = .inl (cA, n, .inl f)) (ht0 : tys[t0]? = some (cA, .byte)) (hr : L.2 k r = .inl (cA, n, .inl (upd f (ix i) (vp_nar .byte v)))) (hin : ib i n = true) (hd : decode cc pc = .ok (.bastore, 1)) (kk : Go x D tys h L nL (up M k r) (pc + 1) V (rest)) : Go x D tys h L nL M (pc) V (.int v :: .int i :: .ref (h k) :: rest) := by
  obtain ⟨p, l, e, R, s, m, args, below, meth, c, A, cells, slots, Q⟩ := x
  obtain ⟨⟨hx, hb, hml, hown, hts⟩, hK, hi, hA0, hA, hfr, hlo, hlk, hcs, hAm⟩ := K
  intro H locs ls hP hS hl
  refine va_bast hx hb hK hP (wsOf_D hi hA0) hS k t0 (by rw [wsOf_at hk, hc]) ht0 (ib_in hin) hd (fun H1 locs1 h1 h2 h3 => ?_)
  rw [wsOf_set hk hr] at h1
  exact kk H1 locs1 ls h1 h3 hl
theorem o_booleanst {x : En} {E : Amd} {D : va_G} {tys : List (ClassId × FieldType)} {h : Nat → Nat} {L : Lay} {own : String} {cc : ByteArray} {nL fr lo : Nat} {M : Mem} {pc : Nat} {V : List (Option Value)} {rest : List Value} (K : Kx x E D tys h L own cc nL fr lo) {k n : Nat} {cA : ClassId} {i v : Int32} {f : Nat → Int32} (t0 : Nat) (r : Nat → Int32) (hk : k < L.1) (hc : L.2 k (M k) = .inl (cA, n, .inl f)) (ht0 : tys[t0]? = some (cA, .boolean)) (hr : L.2 k r = .inl (cA, n, .inl (upd f (ix i) (vp_nar .boolean v)))) (hin : ib i n = true) (hd : decode cc pc = .ok (.bastore, 1)) (kk : Go x D tys h L nL (up M k r) (pc + 1) V (rest)) : Go x D tys h L nL M (pc) V (.int v :: .int i :: .ref (h k) :: rest) := by
  obtain ⟨p, l, e, R, s, m, args, below, meth, c, A, cells, slots, Q⟩ := x
  obtain ⟨⟨hx, hb, hml, hown, hts⟩, hK, hi, hA0, hA, hfr, hlo, hlk, hcs, hAm⟩ := K
  intro H locs ls hP hS hl
  refine va_zast hx hb hK hP (wsOf_D hi hA0) hS k t0 (by rw [wsOf_at hk, hc]) ht0 (ib_in hin) hd (fun H1 locs1 h1 h2 h3 => ?_)
  rw [wsOf_set hk hr] at h1
  exact kk H1 locs1 ls h1 h3 hl
theorem o_alen {x : En} {E : Amd} {D : va_G} {tys : List (ClassId × FieldType)} {h : Nat → Nat} {L : Lay} {own : String} {cc : ByteArray} {nL fr lo : Nat} {M : Mem} {pc : Nat} {V : List (Option Value)} {rest : List Value} (K : Kx x E D tys h L own cc nL fr lo) {k : Nat} {cA : ClassId} {y : vp_A} {ty : FieldType} (t0 : Nat) (v : Int32) (hk : k < L.1) (hc : L.2 k (M k) = .inl (cA, y)) (ht0 : tys[t0]? = some (cA, ty)) (hv : Int32.ofNat y.1 = v) (hd : decode cc pc = .ok (.arraylength, 1)) (kk : Go x D tys h L nL M (pc + 1) V (.int v :: rest)) : Go x D tys h L nL M (pc) V (.ref (h k) :: rest) := by
  obtain ⟨p, l, e, R, s, m, args, below, meth, c, A, cells, slots, Q⟩ := x
  obtain ⟨⟨hx, hb, hml, hown, hts⟩, hK, hi, hA0, hA, hfr, hlo, hlk, hcs, hAm⟩ := K
  intro H locs ls hP hS hl
  exact va_alen hx hb hK hP k t0 (by rw [wsOf_at hk, hc]) ht0 hv hd (kk H locs ls hP hS hl)
def FU : Nat := 5000
theorem argsV_go : ∀ (av : List Value) (n k : Nat), av.all (fun v => decide (v.category = 1)) = true → ∀ (i : Nat) (v : Value), (av.map some ++ List.replicate n none)[i]? = some (some v) → (k + i, v) ∈ lv_args k av
  | [], n, k, _, i, v, h => by
    exfalso
    simp only [List.map_nil, List.nil_append] at h
    have h1 := List.mem_of_getElem? h
    have h2 := List.eq_of_mem_replicate h1
    cases h2
  | u :: av, n, k, hc, 0, v, h => by
    simp only [List.map_cons, List.cons_append, List.getElem?_cons_zero, Option.some.injEq] at h
    subst h
    simp [lv_args]
  | u :: av, n, k, hc, i + 1, v, h => by
    simp only [List.map_cons, List.cons_append, List.getElem?_cons_succ] at h
    simp only [List.all_cons, Bool.and_eq_true, decide_eq_true_eq] at hc
    have := argsV_go av n (k + 1) hc.2 i v h
    simp only [lv_args, hc.1]
    exact List.mem_cons_of_mem _ (by rw [show k + (i + 1) = k + 1 + i by omega]; exact this)
theorem argsV (av : List Value) (n : Nat) {V : List (Option Value)} (hc : av.all (fun v => decide (v.category = 1)) = true) (hV : av.map some ++ List.replicate n none = V) : ∀ (i : Nat) (v : Value), V[i]? = some (some v) → (i, v) ∈ lv_args 0 av := fun i v h => by
  have := argsV_go av n 0 hc i v (by rw [hV]; exact h)
  rwa [Nat.zero_add] at this

/-- what the tables say of a call, by own class and place in its pool -/
def CsV (own : String) (idx : Nat) (y : MethodName) (cc : ByteArray) (nL : Nat) (ret : Option FieldType) (n : Nat) : Prop := Cond.code y cc nL ret ∈ TB ∧ Cond.initialized y.cls ∈ TB ∧ Cond.methodLink own idx y ∈ TB ∧ Cond.instanceMethod y ∈ TB ∧ Cond.selects y.cls y y ∈ TB ∧ y.cls ≠ "java/lang/invoke/MethodHandle" ∧ y.cls ≠ "java/lang/invoke/VarHandle" ∧ (parseMethodDescriptor y.desc).map (fun d => d.parameters.length) = some n
def CsS (own : String) (idx : Nat) (y : MethodName) (cc : ByteArray) (nL : Nat) (ret : Option FieldType) (n : Nat) : Prop := Cond.code y cc nL ret ∈ TB ∧ Cond.initialized y.cls ∈ TB ∧ Cond.methodLink own idx y ∈ TB ∧ Cond.static y ∈ TB ∧ y.cls ≠ "java/lang/invoke/MethodHandle" ∧ y.cls ≠ "java/lang/invoke/VarHandle" ∧ (parseMethodDescriptor y.desc).map (fun d => d.parameters.length) = some n
def CsN (own : String) (idx : Nat) (y : MethodName) (host : String) (cc : ByteArray) (nL : Nat) (ret : Option FieldType) (n : Nat) : Prop := Cond.code y cc nL ret ∈ TB ∧ Cond.initialized y.cls ∈ TB ∧ Cond.methodLinkNest own idx y host ∈ TB ∧ Cond.static y ∈ TB ∧ y.cls ≠ "java/lang/invoke/MethodHandle" ∧ y.cls ≠ "java/lang/invoke/VarHandle" ∧ (parseMethodDescriptor y.desc).map (fun d => d.parameters.length) = some n
theorem cg_in {y : MethodName} {cc : ByteArray} {nL : Nat} {ret : Option FieldType} (h : Cond.code y cc nL ret ∈ TB) : GoodIn TB (.code y cc nL ret :: TB) := fun w hw => TB_good w (by
  rcases List.mem_cons.mp hw with e | e
  · rw [e]; exact h
  · exact e)
theorem Pr_blind {E : Amd} {D : va_G} {tys : List (ClassId × FieldType)} {h : Nat → Nat} {L : Lay} {M : Mem} {sz : Nat} {av : List Value} : FrameBlind (va_Pc av (Pr E D tys h L M sz)) := fun a U g mk q => by
  obtain ⟨q0, q1, qP, qK, qi, qm⟩ := q
  exact ⟨q0, q1, qP, va_K.moved (u := U) (U := U.calling g mk a) (Vm.Alike.refl U.vm) qK, qi, qm.blind⟩
theorem Ad_sub {A : Nat → Prop} {h : Nat → Nat} {n : Nat} {s : State} {H : Heap} {locs : List Loc} (hS : va_S A s.heap H locs) (hA0 : ∀ k, k < n → A (h k)) (hA : ∀ q, s.heap.size ≤ q → A q) : ∀ q, Ad h n H.size q → A q := fun q hq => by
  rcases hq with ⟨k, hk1, rfl⟩ | hq
  · exact hA0 k hk1
  · exact hA q (Nat.le_trans hS.1 hq)
/-- behind a call: the answer on the stack, the memory as the contract says -/
theorem go_call {p : Program} {l : Launch} {e : Env} {R : Room} {s : State} {m : MethodId} {args : Array Value} {below : List Frame} {meth : Method} {c : Code} {H : Heap} {locs : List Loc} {cells slots : Nat} {Q : State → Prop} {pc : Nat} {ls : Array Slot} {rest st0 : List Value} {a : Array Value} {A : Nat → Prop} {D : va_G} {h : Nat → Nat} {L : Lay} {v : Option Value} {M' : Mem}
    (hr : va_Run p l e R s m args below meth c H locs cells slots 0 0 (F0 m pc ls st0) rest (Qv v D h L M' (Ad h L.1 H.size) a) (Ad h L.1 H.size)) (hS : va_S A s.heap H locs) (hA0 : ∀ k, k < L.1 → A (h k)) (hA : ∀ q, s.heap.size ≤ q → A q)
    (kk : ∀ (H1 : Heap) (locs1 : List Loc), va_P D vwCl (wsOf h L M') H1 → va_S A s.heap H1 locs1 → W p l e R s m args below meth c H1 locs1 cells slots Q (F0 m (pc + 3) ls (v.toList ++ rest))) : W p l e R s m args below meth c H locs cells slots Q (F0 m pc ls st0) := by
  intro T hT X
  obtain ⟨v1, st₀, t, T', Ls, h0, X', hL, e1, e2, ⟨hv, hb, hz, hk⟩, st⟩ := hr T hT X
  cases hv
  rw [h0] at hz hk
  have hF : ∀ q, Ad h L.1 H.size q → A q := fun q hq => by
    rcases hq with ⟨k, hk1, rfl⟩ | hq
    · exact hA0 k hk1
    · exact hA q (Nat.le_trans hS.1 hq)
  obtain ⟨t2, a1, b1⟩ := kk T'.heap (locs ++ Ls) (by rw [e1]; exact hb)
    ⟨Nat.le_trans hS.1 (by rw [e1]; exact hz), fun q h1 h2 => by rw [e1, hk q (Nat.lt_of_lt_of_le h1 hS.1) (fun z => h2 (hF q z))]; exact hS.2.1 q h1 h2, fun q hq => by
      rcases List.mem_append.mp hq with h | h
      · exact hS.2.2 q h
      · exact hF _ (hL q h)⟩ T' rfl X'
  exact ⟨t2, st t2 a1, b1⟩
theorem o_callV {x : En} {E : Amd} {D : va_G} {tys : List (ClassId × FieldType)} {h : Nat → Nat} {L : Lay} {own : String} {cc : ByteArray} {nL fr lo : Nat} {M : Mem} {pc : Nat} {V : List (Option Value)} {rest : List Value} (K : Kx x E D tys h L own cc nL fr lo) {y : MethodName} {c2 : ByteArray} {nL2 n idx fr2 lo2 : Nat} {ret : Option FieldType} {v : Option Value} {M2 : Mem} {k ci : Nat} {C : vw_C} {fs : List Value} (As : List Value) (hC : Ct x.2.1 E D tys h L y c2 nL2 ret fr2 lo2 (.ref (h k) :: As) M v M2) (hs : CsV own idx y c2 nL2 ret n) (hk : k < L.1) (hc : L.2 k (M k) = .inr (ci, fs)) (hcl : vwCl[ci]? = some C) (hC1 : C.1 = y.cls) (hn : As.length = n) (hrm : fr2 + 1 ≤ fr ∧ 8 + (nL2 + 11) + lo2 ≤ lo) (hrest : (rest.map fun v => v.category).sum ≤ 8) (st0 : List Value) (hst : st0 = As.reverse ++ .ref (h k) :: rest) (hd : decode cc pc = .ok (.invokevirtual idx, 3)) (kk : Go x D tys h L nL M2 (pc + 3) V (v.toList ++ rest)) : Go x D tys h L nL M (pc) V (st0) := by
  obtain ⟨p, l, e, R, s, m, args, below, meth, c, A, cells, slots, Q⟩ := x
  obtain ⟨⟨hx, hb, hml, hown, hts⟩, hK, hi, hA0, hA, hfr, hlo, hlk, hcs, hAm⟩ := K
  intro H locs ls hP hS hl
  obtain ⟨q1, q2, q3, q4, q5, q6, q7, q8⟩ := hs
  have cb : CallB R s args own idx y c2 nL2 ret (.code y c2 nL2 ret :: TB) { frames := fr2, cells := 0, slots := 0, locals := lo2 } 0 0 n := callB_of n hts (cg_in q1) rfl rfl rfl (hts _ q2) (hts _ q3) ⟨q6, q7, q8⟩ ⟨by rw [hfr]; exact hrm.1, by rw [hlo]; exact hrm.2⟩
  refine go_call (va_runV (As := As) (rest := rest) ⟨hx, hb, hml, hown, hts⟩ (hC H.size) ⟨cb, hts _ q4, hts _ q5⟩ ⟨Pr_blind, by rw [← hC1]; exact va_recv hK hP hcl (by rw [wsOf_at hk, hc]), fun U hU hW => ⟨rfl, by rw [hU], by rw [hU]; exact hP, va_K.moved hW.alike hK, hi, hAm.go hS (Ad_sub hS hA0 hA) hU hW⟩⟩ rfl hn hl.1 hst (lv_room hrest) hd hcs) hS hA0 hA (fun H1 locs1 h1 h2 => kk H1 locs1 ls h1 h2 hl)
theorem o_callS {x : En} {E : Amd} {D : va_G} {tys : List (ClassId × FieldType)} {h : Nat → Nat} {L : Lay} {own : String} {cc : ByteArray} {nL fr lo : Nat} {M : Mem} {pc : Nat} {V : List (Option Value)} {rest : List Value} (K : Kx x E D tys h L own cc nL fr lo) {y : MethodName} {c2 : ByteArray} {nL2 n idx fr2 lo2 : Nat} {ret : Option FieldType} {v : Option Value} {M2 : Mem} (As : List Value) (hC : Ct x.2.1 E D tys h L y c2 nL2 ret fr2 lo2 As M v M2) (hs : CsS own idx y c2 nL2 ret n) (hn : As.length = n) (hrm : fr2 + 1 ≤ fr ∧ 8 + (nL2 + 11) + lo2 ≤ lo) (hrest : (rest.map fun v => v.category).sum ≤ 8) (st0 : List Value) (hst : st0 = As.reverse ++ rest) (hd : decode cc pc = .ok (.invokestatic idx, 3)) (kk : Go x D tys h L nL M2 (pc + 3) V (v.toList ++ rest)) : Go x D tys h L nL M (pc) V (st0) := by
  obtain ⟨p, l, e, R, s, m, args, below, meth, c, A, cells, slots, Q⟩ := x
  obtain ⟨⟨hx, hb, hml, hown, hts⟩, hK, hi, hA0, hA, hfr, hlo, hlk, hcs, hAm⟩ := K
  intro H locs ls hP hS hl
  obtain ⟨q1, q2, q3, q4, q6, q7, q8⟩ := hs
  have cb : CallB R s args own idx y c2 nL2 ret (.code y c2 nL2 ret :: TB) { frames := fr2, cells := 0, slots := 0, locals := lo2 } 0 0 n := callB_of n hts (cg_in q1) rfl rfl rfl (hts _ q2) (hts _ q3) ⟨q6, q7, q8⟩ ⟨by rw [hfr]; exact hrm.1, by rw [hlo]; exact hrm.2⟩
  refine go_call (va_runS (As := As) (rest := rest) ⟨hx, hb, hml, hown, hts⟩ (hC H.size) ⟨cb, hts _ q4⟩ ⟨Pr_blind, fun U hU hW => ⟨rfl, by rw [hU], by rw [hU]; exact hP, va_K.moved hW.alike hK, hi, hAm.go hS (Ad_sub hS hA0 hA) hU hW⟩⟩ rfl hn hl.1 hst (lv_room hrest) hd hcs) hS hA0 hA (fun H1 locs1 h1 h2 => kk H1 locs1 ls h1 h2 hl)
theorem o_callSN {x : En} {E : Amd} {D : va_G} {tys : List (ClassId × FieldType)} {h : Nat → Nat} {L : Lay} {own : String} {cc : ByteArray} {nL fr lo : Nat} {M : Mem} {pc : Nat} {V : List (Option Value)} {rest : List Value} (K : Kx x E D tys h L own cc nL fr lo) {y : MethodName} {c2 : ByteArray} {nL2 n idx fr2 lo2 : Nat} {ret : Option FieldType} {v : Option Value} {M2 : Mem} {host : String} (As : List Value) (hC : Ct x.2.1 E D tys h L y c2 nL2 ret fr2 lo2 As M v M2) (hs : CsN own idx y host c2 nL2 ret n) (hn : As.length = n) (hrm : fr2 + 1 ≤ fr ∧ 8 + (nL2 + 11) + lo2 ≤ lo) (hrest : (rest.map fun v => v.category).sum ≤ 8) (st0 : List Value) (hst : st0 = As.reverse ++ rest) (hd : decode cc pc = .ok (.invokestatic idx, 3)) (kk : Go x D tys h L nL M2 (pc + 3) V (v.toList ++ rest)) : Go x D tys h L nL M (pc) V (st0) := by
  obtain ⟨p, l, e, R, s, m, args, below, meth, c, A, cells, slots, Q⟩ := x
  obtain ⟨⟨hx, hb, hml, hown, hts⟩, hK, hi, hA0, hA, hfr, hlo, hlk, hcs, hAm⟩ := K
  intro H locs ls hP hS hl
  obtain ⟨q1, q2, q3, q4, q6, q7, q8⟩ := hs
  have cb : va_CN R s args own idx y host c2 nL2 ret (.code y c2 nL2 ret :: TB) { frames := fr2, cells := 0, slots := 0, locals := lo2 } 0 0 n := va_cnB n hts (cg_in q1) rfl rfl rfl (va_tabs rfl rfl (hts _ q3)) (hts _ q2) ⟨q6, q7, q8⟩ ⟨by rw [hfr]; exact hrm.1, by rw [hlo]; exact hrm.2⟩
  refine go_call (va_runSN (As := As) (rest := rest) ⟨hx, hb, hml, hown, hts⟩ (hC H.size) ⟨cb, hts _ q4, trivial⟩ ⟨Pr_blind, fun U hU hW => ⟨rfl, by rw [hU], by rw [hU]; exact hP, va_K.moved hW.alike hK, hi, hAm.go hS (Ad_sub hS hA0 hA) hU hW⟩⟩ rfl hn hl.1 hst (lv_room hrest) hd hcs) hS hA0 hA (fun H1 locs1 h1 h2 => kk H1 locs1 ls h1 h2 hl)
theorem o_callVs {x : En} {E : Amd} {D : va_G} {tys : List (ClassId × FieldType)} {h : Nat → Nat} {L : Lay} {own : String} {cc : ByteArray} {nL fr lo : Nat} {M : Mem} {pc : Nat} {V : List (Option Value)} {rest : List Value} (K : Kx x E D tys h L own cc nL fr lo) {y : MethodName} {c2 : ByteArray} {nL2 n idx fr2 lo2 : Nat} {ret : Option FieldType} {v : Option Value} {M2 : Mem} {i : Nat} (As : List Value) (hC : Ct x.2.1 E D tys h L y c2 nL2 ret fr2 lo2 (.ref (E.1 i) :: As) M v M2) (hs : CsV own idx y c2 nL2 ret n) (hi17 : i < 17) (hC1 : "java/lang/String" = y.cls) (hn : As.length = n) (hrm : fr2 + 1 ≤ fr ∧ 8 + (nL2 + 11) + lo2 ≤ lo) (hrest : (rest.map fun v => v.category).sum ≤ 8) (st0 : List Value) (hst : st0 = As.reverse ++ .ref (E.1 i) :: rest) (hd : decode cc pc = .ok (.invokevirtual idx, 3)) (kk : Go x D tys h L nL M2 (pc + 3) V (v.toList ++ rest)) : Go x D tys h L nL M (pc) V (st0) := by
  obtain ⟨p, l, e, R, s, m, args, below, meth, c, A, cells, slots, Q⟩ := x
  obtain ⟨⟨hx, hb, hml, hown, hts⟩, hK, hi, hA0, hA, hfr, hlo, hlk, hcs, hAm⟩ := K
  intro H locs ls hP hS hl
  obtain ⟨q1, q2, q3, q4, q5, q6, q7, q8⟩ := hs
  have cb : CallB R s args own idx y c2 nL2 ret (.code y c2 nL2 ret :: TB) { frames := fr2, cells := 0, slots := 0, locals := lo2 } 0 0 n := callB_of n hts (cg_in q1) rfl rfl rfl (hts _ q2) (hts _ q3) ⟨q6, q7, q8⟩ ⟨by rw [hfr]; exact hrm.1, by rw [hlo]; exact hrm.2⟩
  refine go_call (va_runV (As := As) (rest := rest) ⟨hx, hb, hml, hown, hts⟩ (hC H.size) ⟨cb, hts _ q4, hts _ q5⟩ ⟨Pr_blind, by rw [← hC1]; exact vk_recv hAm.1 hi17 hS, fun U hU hW => ⟨rfl, by rw [hU], by rw [hU]; exact hP, va_K.moved hW.alike hK, hi, hAm.go hS (Ad_sub hS hA0 hA) hU hW⟩⟩ rfl hn hl.1 hst (lv_room hrest) hd hcs) hS hA0 hA (fun H1 locs1 h1 h2 => kk H1 locs1 ls h1 h2 hl)
/-! String constants -/
theorem o_ldcS {x : En} {E : Amd} {D : va_G} {tys : List (ClassId × FieldType)} {h : Nat → Nat} {L : Lay} {own : String} {cc : ByteArray} {nL fr lo : Nat} {M : Mem} {pc : Nat} {V : List (Option Value)} {rest : List Value} (K : Kx x E D tys h L RX4 cc nL fr lo) {idx : Nat} {tx : String} (i : Nat) (hp : poolS[i]? = some (idx, tx)) (hd : decode cc pc = .ok (.ldc idx, 2)) (kk : Go x D tys h L nL M (pc + 2) V (.ref (E.1 i) :: rest)) : Go x D tys h L nL M (pc) V (rest) := by
  obtain ⟨p, l, e, R, s, m, args, below, meth, c, A, cells, slots, Q⟩ := x
  obtain ⟨⟨hx, hb, hml, hown, hts⟩, hK, hi, hA0, hA, hfr, hlo, hlk, hcs, hAm⟩ := K
  intro H locs ls hP hS hl
  exact va_ldcS hx hb hown (hAm.2.1 i _ hp) hd (kk H locs ls hP hS hl)
theorem o_sval {x : En} {E : Amd} {D : va_G} {tys : List (ClassId × FieldType)} {h : Nat → Nat} {L : Lay} {own : String} {cc : ByteArray} {nL fr lo : Nat} {M : Mem} {pc : Nat} {V : List (Option Value)} {rest : List Value} (K : Kx x E D tys h L RJ0 cc nL fr lo) {i : Nat} (hi17 : i < 17) (hq : Cond.fieldLink RJ0 9 "java/lang/String" "value" "[B" ∈ TB) (hd : decode cc pc = .ok (.getfield 9, 3)) (kk : Go x D tys h L nL M (pc + 3) V (.ref (E.2.1 i) :: rest)) : Go x D tys h L nL M (pc) V (.ref (E.1 i) :: rest) := by
  obtain ⟨p, l, e, R, s, m, args, below, meth, c, A, cells, slots, Q⟩ := x
  obtain ⟨⟨hx, hb, hml, hown, hts⟩, hK, hi, hA0, hA, hfr, hlo, hlk, hcs, hAm⟩ := K
  intro H locs ls hP hS hl
  exact vk_getf hx hb (hAm.1.1 i hi17).2.2.1 hS hown (hts _ hq) (fun _ q => q) hd (kk H locs ls hP hS hl)
theorem o_scod {x : En} {E : Amd} {D : va_G} {tys : List (ClassId × FieldType)} {h : Nat → Nat} {L : Lay} {own : String} {cc : ByteArray} {nL fr lo : Nat} {M : Mem} {pc : Nat} {V : List (Option Value)} {rest : List Value} (K : Kx x E D tys h L RJ0 cc nL fr lo) {i : Nat} (hi17 : i < 17) (hq : Cond.fieldLink RJ0 15 "java/lang/String" "coder" "B" ∈ TB) (hd : decode cc pc = .ok (.getfield 15, 3)) (kk : Go x D tys h L nL M (pc + 3) V (.int 0 :: rest)) : Go x D tys h L nL M (pc) V (.ref (E.1 i) :: rest) := by
  obtain ⟨p, l, e, R, s, m, args, below, meth, c, A, cells, slots, Q⟩ := x
  obtain ⟨⟨hx, hb, hml, hown, hts⟩, hK, hi, hA0, hA, hfr, hlo, hlk, hcs, hAm⟩ := K
  intro H locs ls hP hS hl
  exact vk_getf hx hb (hAm.1.1 i hi17).2.1 hS hown (hts _ hq) (fun _ q => q) hd (kk H locs ls hP hS hl)
theorem o_slen {x : En} {E : Amd} {D : va_G} {tys : List (ClassId × FieldType)} {h : Nat → Nat} {L : Lay} {own : String} {cc : ByteArray} {nL fr lo : Nat} {M : Mem} {pc : Nat} {V : List (Option Value)} {rest : List Value} (K : Kx x E D tys h L own cc nL fr lo) {i : Nat} (hi17 : i < 17) (hd : decode cc pc = .ok (.arraylength, 1)) (kk : Go x D tys h L nL M (pc + 1) V (.int (Int32.ofNat (lenS.getD i 0)) :: rest)) : Go x D tys h L nL M (pc) V (.ref (E.2.1 i) :: rest) := by
  obtain ⟨p, l, e, R, s, m, args, below, meth, c, A, cells, slots, Q⟩ := x
  obtain ⟨⟨hx, hb, hml, hown, hts⟩, hK, hi, hA0, hA, hfr, hlo, hlk, hcs, hAm⟩ := K
  intro H locs ls hP hS hl
  exact va_tlen hx hb (hAm.1.1 i hi17).2.2.2 hS rfl hd (kk H locs ls hP hS hl)
theorem o_sbyt {x : En} {E : Amd} {D : va_G} {tys : List (ClassId × FieldType)} {h : Nat → Nat} {L : Lay} {own : String} {cc : ByteArray} {nL fr lo : Nat} {M : Mem} {pc : Nat} {V : List (Option Value)} {rest : List Value} (K : Kx x E D tys h L own cc nL fr lo) {i : Nat} {k : Int32} (hi17 : i < 17) (hin : ib k (lenS.getD i 0) = true) (hd : decode cc pc = .ok (.baload, 1)) (kk : Go x D tys h L nL M (pc + 1) V (.int ((bytS.getD i []).getD (ix k) 0) :: rest)) : Go x D tys h L nL M (pc) V (.int k :: .ref (E.2.1 i) :: rest) := by
  obtain ⟨p, l, e, R, s, m, args, below, meth, c, A, cells, slots, Q⟩ := x
  obtain ⟨⟨hx, hb, hml, hown, hts⟩, hK, hi, hA0, hA, hfr, hlo, hlk, hcs, hAm⟩ := K
  intro H locs ls hP hS hl
  exact va_tb hx hb (hAm.1.1 i hi17).2.2.2 hS (ib_in hin) rfl hd (kk H locs ls hP hS hl)
theorem o_compact {x : En} {E : Amd} {D : va_G} {tys : List (ClassId × FieldType)} {h : Nat → Nat} {L : Lay} {own : String} {cc : ByteArray} {nL fr lo : Nat} {M : Mem} {pc : Nat} {V : List (Option Value)} {rest : List Value} (K : Kx x E D tys h L RJ0 cc nL fr lo) (hq : Cond.fieldLink RJ0 38 "java/lang/String" "COMPACT_STRINGS" "Z" ∈ TB) (hd : decode cc pc = .ok (.getstatic 38, 3)) (kk : Go x D tys h L nL M (pc + 3) V (.int 1 :: rest)) : Go x D tys h L nL M (pc) V (rest) := by
  obtain ⟨p, l, e, R, s, m, args, below, meth, c, A, cells, slots, Q⟩ := x
  obtain ⟨⟨hx, hb, hml, hown, hts⟩, hK, hi, hA0, hA, hfr, hlo, hlk, hcs, hAm⟩ := K
  intro H locs ls hP hS hl
  exact va_gets hx hb hAm.2.2.2.2.1 hS hown (hts _ hq) (fun _ q => q) hd (kk H locs ls hP hS hl)
theorem o_above {x : En} {E : Amd} {D : va_G} {tys : List (ClassId × FieldType)} {h : Nat → Nat} {L : Lay} {own : String} {cc : ByteArray} {nL fr lo : Nat} {M : Mem} {pc : Nat} {V : List (Option Value)} {rest : List Value} (K : Kx x E D tys h L RX2 cc nL fr lo) {idx : Nat} (hq : Cond.fieldLink RX2 idx RX2 "ABOVE" "[I" ∈ TB) (hd : decode cc pc = .ok (.getstatic idx, 3)) (kk : Go x D tys h L nL M (pc + 3) V (.ref E.2.2 :: rest)) : Go x D tys h L nL M (pc) V (rest) := by
  obtain ⟨p, l, e, R, s, m, args, below, meth, c, A, cells, slots, Q⟩ := x
  obtain ⟨⟨hx, hb, hml, hown, hts⟩, hK, hi, hA0, hA, hfr, hlo, hlk, hcs, hAm⟩ := K
  intro H locs ls hP hS hl
  exact va_gets hx hb hAm.2.2.1 hS hown (hts _ hq) (fun _ q => q) hd (kk H locs ls hP hS hl)
theorem o_aboveld {x : En} {E : Amd} {D : va_G} {tys : List (ClassId × FieldType)} {h : Nat → Nat} {L : Lay} {own : String} {cc : ByteArray} {nL fr lo : Nat} {M : Mem} {pc : Nat} {V : List (Option Value)} {rest : List Value} (K : Kx x E D tys h L own cc nL fr lo) {k : Int32} (hin : ib k 6 = true) (hd : decode cc pc = .ok (.iaload, 1)) (kk : Go x D tys h L nL M (pc + 1) V (.int (aboveV (ix k)) :: rest)) : Go x D tys h L nL M (pc) V (.int k :: .ref E.2.2 :: rest) := by
  obtain ⟨p, l, e, R, s, m, args, below, meth, c, A, cells, slots, Q⟩ := x
  obtain ⟨⟨hx, hb, hml, hown, hts⟩, hK, hi, hA0, hA, hfr, hlo, hlk, hcs, hAm⟩ := K
  intro H locs ls hP hS hl
  exact va_ti hx hb hAm.2.2.2.1 hS (ib_in hin) rfl hd (kk H locs ls hP hS hl)
theorem o_fmt {x : En} {E : Amd} {D : va_G} {tys : List (ClassId × FieldType)} {h : Nat → Nat} {L : Lay} {own : String} {cc : ByteArray} {nL fr lo : Nat} {M : Mem} {pc : Nat} {V : List (Option Value)} {rest : List Value} (K : Kx x E D tys h L RJ0 cc nL fr lo) (hq : Cond.fieldLink RJ0 1053 "jdk/internal/util/Preconditions" "SIOOBE_FORMATTER" "Ljava/util/function/BiFunction;" ∈ TB) (hd : decode cc pc = .ok (.getstatic 1053, 3)) (kk : Go x D tys h L nL M (pc + 3) V (.null :: rest)) (kk2 : ∀ t : Nat, Go x D tys h L nL M (pc + 3) V (.ref t :: rest)) : Go x D tys h L nL M (pc) V (rest) := by
  obtain ⟨p, l, e, R, s, m, args, below, meth, c, A, cells, slots, Q⟩ := x
  obtain ⟨⟨hx, hb, hml, hown, hts⟩, hK, hi, hA0, hA, hfr, hlo, hlk, hcs, hAm⟩ := K
  intro H locs ls hP hS hl
  rcases hAm.2.2.2.2.2 with hz | ⟨t, hz⟩
  · exact va_gets hx hb hz hS hown (hts _ hq) (fun _ q => q) hd (kk H locs ls hP hS hl)
  · exact va_gets hx hb hz hS hown (hts _ hq) (fun _ q => q) hd (kk2 t H locs ls hP hS hl)
theorem o_pop {x : En} {E : Amd} {D : va_G} {tys : List (ClassId × FieldType)} {h : Nat → Nat} {L : Lay} {own : String} {cc : ByteArray} {nL fr lo : Nat} {M : Mem} {pc : Nat} {V : List (Option Value)} {rest : List Value} (K : Kx x E D tys h L own cc nL fr lo) {v : Value} (hv : v.category = 1) (hd : decode cc pc = .ok (.pop, 1)) (kk : Go x D tys h L nL M (pc + 1) V (rest)) : Go x D tys h L nL M (pc) V (v :: rest) := by
  obtain ⟨p, l, e, R, s, m, args, below, meth, c, A, cells, slots, Q⟩ := x
  obtain ⟨⟨hx, hb, hml, hown, hts⟩, hK, hi, hA0, hA, hfr, hlo, hlk, hcs, hAm⟩ := K
  intro H locs ls hP hS hl
  exact lv_pop hx hb hd hv (kk H locs ls hP hS hl)
theorem o_aload_nN {x : En} {E : Amd} {D : va_G} {tys : List (ClassId × FieldType)} {h : Nat → Nat} {L : Lay} {own : String} {cc : ByteArray} {nL fr lo : Nat} {M : Mem} {pc : Nat} {V : List (Option Value)} {rest : List Value} (K : Kx x E D tys h L own cc nL fr lo) {q : Fin 4} (i : Nat) (hd : decode cc pc = .ok (.aload_n q, 1)) (hi0 : (q : Nat) = i) (hv : V[i]? = some (some .null)) (k : Go x D tys h L nL M (pc + 1) V (.null :: rest)) : Go x D tys h L nL M (pc) V (rest) := by
  obtain ⟨p, l, e, R, s, m, args, below, meth, c, A, cells, slots, Q⟩ := x
  obtain ⟨⟨hx, hb, hml, hown, hts⟩, hK, hi, hA0, hA, hfr, hlo, hlk, hcs, hAm⟩ := K
  intro H locs ls hP hS hl
  exact lv_aload_nN hx hb hd hi0 (hl.2.2 i _ hv) (k H locs ls hP hS hl)
theorem o_aloadN {x : En} {E : Amd} {D : va_G} {tys : List (ClassId × FieldType)} {h : Nat → Nat} {L : Lay} {own : String} {cc : ByteArray} {nL fr lo : Nat} {M : Mem} {pc : Nat} {V : List (Option Value)} {rest : List Value} (K : Kx x E D tys h L own cc nL fr lo) (i : Nat) (hd : decode cc pc = .ok (.aload i, 2)) (hv : V[i]? = some (some .null)) (k : Go x D tys h L nL M (pc + 2) V (.null :: rest)) : Go x D tys h L nL M (pc) V (rest) := by
  obtain ⟨p, l, e, R, s, m, args, below, meth, c, A, cells, slots, Q⟩ := x
  obtain ⟨⟨hx, hb, hml, hown, hts⟩, hK, hi, hA0, hA, hfr, hlo, hlk, hcs, hAm⟩ := K
  intro H locs ls hP hS hl
  exact lv_aloadN hx hb hd (hl.2.2 i _ hv) (k H locs ls hP hS hl)
theorem o_astore_nN {x : En} {E : Amd} {D : va_G} {tys : List (ClassId × FieldType)} {h : Nat → Nat} {L : Lay} {own : String} {cc : ByteArray} {nL fr lo : Nat} {M : Mem} {pc : Nat} {V : List (Option Value)} {rest : List Value} (K : Kx x E D tys h L own cc nL fr lo) {q : Fin 4} (i : Nat) (V2 : List (Option Value)) (hd : decode cc pc = .ok (.astore_n q, 1)) (hi0 : (q : Nat) = i) (hn : i < nL) (ho : okS V i = true) (hV : V.set i (some .null) = V2) (k : Go x D tys h L nL M (pc + 1) V2 (rest)) : Go x D tys h L nL M (pc) V (.null :: rest) := by
  obtain ⟨p, l, e, R, s, m, args, below, meth, c, A, cells, slots, Q⟩ := x
  obtain ⟨⟨hx, hb, hml, hown, hts⟩, hK, hi, hA0, hA, hfr, hlo, hlk, hcs, hAm⟩ := K
  intro H locs ls hP hS hl
  exact lv_astore_nN hx hb hd hi0 hl.has hn rfl (fun ls2 h2 => k H locs ls2 hP hS (LH.st1 h2 ho hV))
theorem o_astoreN {x : En} {E : Amd} {D : va_G} {tys : List (ClassId × FieldType)} {h : Nat → Nat} {L : Lay} {own : String} {cc : ByteArray} {nL fr lo : Nat} {M : Mem} {pc : Nat} {V : List (Option Value)} {rest : List Value} (K : Kx x E D tys h L own cc nL fr lo) (i : Nat) (V2 : List (Option Value)) (hd : decode cc pc = .ok (.astore i, 2)) (hn : i < nL) (ho : okS V i = true) (hV : V.set i (some .null) = V2) (k : Go x D tys h L nL M (pc + 2) V2 (rest)) : Go x D tys h L nL M (pc) V (.null :: rest) := by
  obtain ⟨p, l, e, R, s, m, args, below, meth, c, A, cells, slots, Q⟩ := x
  obtain ⟨⟨hx, hb, hml, hown, hts⟩, hK, hi, hA0, hA, hfr, hlo, hlk, hcs, hAm⟩ := K
  intro H locs ls hP hS hl
  exact lv_astoreN hx hb hd hl.has hn rfl (fun ls2 h2 => k H locs ls2 hP hS (LH.st1 h2 ho hV))
theorem o_ifnullN {x : En} {E : Amd} {D : va_G} {tys : List (ClassId × FieldType)} {h : Nat → Nat} {L : Lay} {own : String} {cc : ByteArray} {nL fr lo : Nat} {M : Mem} {pc : Nat} {V : List (Option Value)} {rest : List Value} (K : Kx x E D tys h L own cc nL fr lo) {off : Int} (tgt : Nat) (hd : decode cc pc = .ok (.ifnull off, 3)) (ht : (pc : Int) + off = (tgt : Int)) (k : Go x D tys h L nL M (tgt) V (rest)) : Go x D tys h L nL M (pc) V (.null :: rest) := by
  obtain ⟨p, l, e, R, s, m, args, below, meth, c, A, cells, slots, Q⟩ := x
  obtain ⟨⟨hx, hb, hml, hown, hts⟩, hK, hi, hA0, hA, hfr, hlo, hlk, hcs, hAm⟩ := K
  intro H locs ls hP hS hl
  exact lv_ifnullN hx hb hd ht (k H locs ls hP hS hl)
theorem o_ifnonnullN {x : En} {E : Amd} {D : va_G} {tys : List (ClassId × FieldType)} {h : Nat → Nat} {L : Lay} {own : String} {cc : ByteArray} {nL fr lo : Nat} {M : Mem} {pc : Nat} {V : List (Option Value)} {rest : List Value} (K : Kx x E D tys h L own cc nL fr lo) {off : Int} (hd : decode cc pc = .ok (.ifnonnull off, 3)) (k : Go x D tys h L nL M (pc + 3) V (rest)) : Go x D tys h L nL M (pc) V (.null :: rest) := by
  obtain ⟨p, l, e, R, s, m, args, below, meth, c, A, cells, slots, Q⟩ := x
  obtain ⟨⟨hx, hb, hml, hown, hts⟩, hK, hi, hA0, hA, hfr, hlo, hlk, hcs, hAm⟩ := K
  intro H locs ls hP hS hl
  exact lv_ifnonnullN hx hb hd (k H locs ls hP hS hl)
theorem o_aald {x : En} {E : Amd} {D : va_G} {tys : List (ClassId × FieldType)} {h : Nat → Nat} {L : Lay} {own : String} {cc : ByteArray} {nL fr lo : Nat} {M : Mem} {pc : Nat} {V : List (Option Value)} {rest : List Value} (K : Kx x E D tys h L own cc nL fr lo) {k n : Nat} {cA : ClassId} {C : String} {i : Int32} {f : Nat → Option Nat} (t0 : Nat) (hk : k < L.1) (hc : L.2 k (M k) = .inl (cA, n, .inr (.inr (.inr (.inr f))))) (ht0 : tys[t0]? = some (cA, .object C)) (hin : ib i n = true) (hd : decode cc pc = .ok (.aaload, 1)) (kk : Go x D tys h L nL M (pc + 1) V (va_rf (f (ix i)) :: rest)) : Go x D tys h L nL M (pc) V (.int i :: .ref (h k) :: rest) := by
  obtain ⟨p, l, e, R, s, m, args, below, meth, c, A, cells, slots, Q⟩ := x
  obtain ⟨⟨hx, hb, hml, hown, hts⟩, hK, hi, hA0, hA, hfr, hlo, hlk, hcs, hAm⟩ := K
  intro H locs ls hP hS hl
  exact va_aldq hx hb hK hP k t0 (by rw [wsOf_at hk, hc]) ht0 (ib_in hin) hd (kk H locs ls hP hS hl)
theorem o_aastN {x : En} {E : Amd} {D : va_G} {tys : List (ClassId × FieldType)} {h : Nat → Nat} {L : Lay} {own : String} {cc : ByteArray} {nL fr lo : Nat} {M : Mem} {pc : Nat} {V : List (Option Value)} {rest : List Value} (K : Kx x E D tys h L own cc nL fr lo) {k n : Nat} {cA : ClassId} {C : String} {i : Int32} {f : Nat → Option Nat} (t0 : Nat) (r : Nat → Int32) (hk : k < L.1) (hc : L.2 k (M k) = .inl (cA, n, .inr (.inr (.inr (.inr f))))) (ht0 : tys[t0]? = some (cA, .object C)) (hr : L.2 k r = .inl (cA, n, .inr (.inr (.inr (.inr (va_up f (ix i) none)))))) (hin : ib i n = true) (hd : decode cc pc = .ok (.aastore, 1)) (kk : Go x D tys h L nL (up M k r) (pc + 1) V (rest)) : Go x D tys h L nL M (pc) V (.null :: .int i :: .ref (h k) :: rest) := by
  obtain ⟨p, l, e, R, s, m, args, below, meth, c, A, cells, slots, Q⟩ := x
  obtain ⟨⟨hx, hb, hml, hown, hts⟩, hK, hi, hA0, hA, hfr, hlo, hlk, hcs, hAm⟩ := K
  intro H locs ls hP hS hl
  refine va_astqN hx hb hK hP (wsOf_D hi hA0) hS k t0 (by rw [wsOf_at hk, hc]) ht0 (ib_in hin) hd (fun H1 locs1 h1 h2 h3 => ?_)
  rw [wsOf_set hk hr] at h1
  exact kk H1 locs1 ls h1 h3 hl
theorem o_aastR {x : En} {E : Amd} {D : va_G} {tys : List (ClassId × FieldType)} {h : Nat → Nat} {L : Lay} {own : String} {cc : ByteArray} {nL fr lo : Nat} {M : Mem} {pc : Nat} {V : List (Option Value)} {rest : List Value} (K : Kx x E D tys h L own cc nL fr lo) {k n k2 ci : Nat} {cA : ClassId} {q : vw_C} {fs : List Value} {i : Int32} {f : Nat → Option Nat} (t0 : Nat) (r : Nat → Int32) (hk : k < L.1) (hc : L.2 k (M k) = .inl (cA, n, .inr (.inr (.inr (.inr f))))) (ht0 : tys[t0]? = some (cA, .object q.1)) (hk2 : k2 < L.1) (hc2 : L.2 k2 (M k2) = .inr (ci, fs)) (hcl : vwCl[ci]? = some q) (hr : L.2 k r = .inl (cA, n, .inr (.inr (.inr (.inr (va_up f (ix i) (some (h k2)))))))) (hin : ib i n = true) (hd : decode cc pc = .ok (.aastore, 1)) (kk : Go x D tys h L nL (up M k r) (pc + 1) V (rest)) : Go x D tys h L nL M (pc) V (.ref (h k2) :: .int i :: .ref (h k) :: rest) := by
  obtain ⟨p, l, e, R, s, m, args, below, meth, c, A, cells, slots, Q⟩ := x
  obtain ⟨⟨hx, hb, hml, hown, hts⟩, hK, hi, hA0, hA, hfr, hlo, hlk, hcs, hAm⟩ := K
  intro H locs ls hP hS hl
  refine va_astq hx hb hK hP (wsOf_D hi hA0) hS k t0 k2 ci (by rw [wsOf_at hk, hc]) ht0 (by rw [wsOf_at hk2, hc2]) hcl (ib_in hin) hd (fun H1 locs1 h1 h2 h3 => ?_)
  rw [wsOf_set hk hr] at h1
  exact kk H1 locs1 ls h1 h3 hl
def cpok (n1 n2 : Nat) (sp dp n : Int32) : Bool := decide (0 ≤ sp.toInt) && decide (0 ≤ dp.toInt) && decide (0 ≤ n.toInt) && decide (ix sp + ix n ≤ n1) && decide (ix dp + ix n ≤ n2)
def cp {β : Type} (M : Mem) (k1 n1 : Nat) (sp : Int32) (k2 n2 : Nat) (dp n : Int32) (f : Mem → Option β) : Option β := match cpok n1 n2 sp dp n with
  | true => f (up M k2 (va_cpy (M k1) (M k2) (ix sp) (ix dp) (ix n)))
  | false => none
theorem cp_e {β : Type} {M : Mem} {k1 n1 k2 n2 : Nat} {sp dp n : Int32} {f : Mem → Option β} {v : β} (h : cp M k1 n1 sp k2 n2 dp n f = some v) : cpok n1 n2 sp dp n = true ∧ ∃ y, up M k2 (va_cpy (M k1) (M k2) (ix sp) (ix dp) (ix n)) = y ∧ f y = some v := by
  unfold cp at h
  cases hb : cpok n1 n2 sp dp n with
  | true => rw [hb] at h; exact ⟨rfl, _, rfl, h⟩
  | false => rw [hb] at h; cases h
theorem o_copy {x : En} {E : Amd} {D : va_G} {tys : List (ClassId × FieldType)} {h : Nat → Nat} {L : Lay} {own : String} {cc : ByteArray} {nL fr lo : Nat} {M : Mem} {pc : Nat} {V : List (Option Value)} {rest : List Value} (K : Kx x E D tys h L own cc nL fr lo) {k1 n1 k2 n2 idx : Nat} {c1 c2 : ClassId} {sp dp n : Int32} (t0 t1 : Nat) (hk1 : k1 < L.1) (hc1 : L.2 k1 (M k1) = .inl (c1, n1, .inl (M k1))) (hk2 : k2 < L.1) (hc2 : ∀ r, L.2 k2 r = .inl (c2, n2, .inl r)) (ht0 : tys[t0]? = some (c1, .int)) (ht1 : tys[t1]? = some (c2, .int)) (hlink : Cond.methodLink own idx arraycopyName ∈ TB) (hnat : Cond.native arraycopyName ∈ TB) (hstat : Cond.static arraycopyName ∈ TB) (hini : Cond.initialized "java/lang/System" ∈ TB) (hok : cpok n1 n2 sp dp n = true) (hrm : 1 ≤ fr ∧ 27 ≤ lo) (hrest : (rest.map fun v => v.category).sum ≤ 8) (hd : decode cc pc = .ok (.invokestatic idx, 3)) (kk : Go x D tys h L nL (up M k2 (va_cpy (M k1) (M k2) (ix sp) (ix dp) (ix n))) (pc + 3) V (rest)) : Go x D tys h L nL M (pc) V (.int n :: .int dp :: .ref (h k2) :: .int sp :: .ref (h k1) :: rest) := by
  obtain ⟨p, l, e, R, s, m, args, below, meth, c, A, cells, slots, Q⟩ := x
  obtain ⟨⟨hx, hb, hml, hown, hts⟩, hK, hi, hA0, hA, hfr, hlo, hlk, hcs, hAm⟩ := K
  intro H locs ls hP hS hl
  simp only [cpok, Bool.and_eq_true, decide_eq_true_eq] at hok
  obtain ⟨⟨⟨⟨g1, g2⟩, g3⟩, g4⟩, g5⟩ := hok
  have nl : ∀ z : Int32, 0 ≤ z.toInt → ¬ z < 0 := fun z hz q => by
    have := Int32.lt_iff_toInt_lt.mp q
    simp at this
    omega
  refine va_copyi hx hb (hml.trans hl.1.symm) hown (hts _ hlink) (hts _ hnat) (hts _ hstat) (hts _ hini) hK hP (wsOf_D hi hA0) hS k1 k2 t0 t1 (by rw [wsOf_at hk1, hc1]) (by rw [wsOf_at hk2, hc2]) ht0 ht1 rfl (nl _ g1) (nl _ g2) (nl _ g3) g4 g5 (fun i _ => rfl) (by rw [hfr]; exact hrm.1) (by rw [hlo]; simp only [nativeFrameWords]; simp; omega) hd (fun H1 locs1 h1 h2 h3 => ?_)
  rw [wsOf_set hk2 (hc2 _)] at h1
  exact kk H1 locs1 ls h1 h3 hl
theorem o_minJ {x : En} {E : Amd} {D : va_G} {tys : List (ClassId × FieldType)} {h : Nat → Nat} {L : Lay} {own : String} {cc : ByteArray} {nL fr lo : Nat} {M : Mem} {pc : Nat} {V : List (Option Value)} {rest : List Value} (K : Kx x E D tys h L own cc nL fr lo) {idx : Nat} {a b : Int64} (hlink : Cond.methodLink own idx Lib.MathLoose.min_long.x ∈ TB) (hstat : Cond.static Lib.MathLoose.min_long.x ∈ TB) (hini : Cond.initialized "java/lang/Math" ∈ TB) (hcode : Cond.code Lib.MathLoose.min_long.x Lib.MathLoose.min_long.code 4 (some .long) ∈ TB) (hrm : 1 ≤ fr ∧ 27 ≤ lo) (hrest : (rest.map fun v => v.category).sum ≤ 8) (hd : decode cc pc = .ok (.invokestatic idx, 3)) (kk : Go x D tys h L nL M (pc + 3) V (.long (if b < a then b else a) :: rest)) : Go x D tys h L nL M (pc) V (.long b :: .long a :: rest) := by
  obtain ⟨p, l, e, R, s, m, args, below, meth, c, A, cells, slots, Q⟩ := x
  obtain ⟨⟨hx, hb, hml, hown, hts⟩, hK, hi, hA0, hA, hfr, hlo, hlk, hcs, hAm⟩ := K
  intro H locs ls hP hS hl
  exact va_mmin_long hx hb (hml.trans hl.1.symm) hown (hts _ hlink) (hts _ hstat) (hts _ hini) (hts _ hcode) (by rw [hfr]; exact hrm.1) (by rw [hlo]; omega) hcs.1 hcs.2 hd (kk H locs ls hP hS hl)
def cz (a : Int32) : Bool := decide ((a.toUInt32 % 65536).toInt32 = a)
theorem o_nret {x : En} {E : Amd} {D : va_G} {tys : List (ClassId × FieldType)} {h : Nat → Nat} {L : Lay} {own : String} {cc : ByteArray} {nL fr lo : Nat} {M : Mem} {pc : Nat} {V : List (Option Value)} (K : Kx x E D tys h L own cc nL fr lo) {a : Int32} {ty : FieldType} (hn : narrow ty (.int a) = .int a) (hR : Rt x D h L (some ty) (some (.int a)) M) (hd : decode cc pc = .ok (.ireturn, 1)) : Go x D tys h L nL M (pc) V ([.int a]) := by
  obtain ⟨p, l, e, R, s, m, args, below, meth, c, A, cells, slots, Q⟩ := x
  obtain ⟨⟨hx, hb, hml, hown, hts⟩, hK, hi, hA0, hA, hfr, hlo, hlk, hcs, hAm⟩ := K
  intro H locs ls hP hS hl
  obtain ⟨hr, hQ⟩ := hR
  subst hQ
  exact W.zret hx hb hr hn (fun t ht hW => ⟨rfl, by rw [ht]; exact hP, hS.F ht⟩) hS.2.2 hd hlk
theorem r_nret {x : En} {E : Amd} {D : va_G} {tys : List (ClassId × FieldType)} {h : Nat → Nat} {L : Lay} {own : String} {cc : ByteArray} {nL fr lo : Nat} {M : Mem} {pc : Nat} {V : List (Option Value)} (K : Kx x E D tys h L own cc nL fr lo) {a r : Int32} {ty : FieldType} (hf : some a = some r) (hn : narrow ty (.int a) = .int a) (hR : Rt x D h L (some ty) (some (.int r)) M) (hd : decode cc pc = .ok (.ireturn, 1)) : Go x D tys h L nL M (pc) V ([.int a]) := by
  cases hf
  exact o_nret K hn hR hd
theorem cz_n {a : Int32} (h : cz a = true) : narrow .char (.int a) = .int a := by
  have h1 : (a.toUInt32 % 65536).toInt32 = a := of_decide_eq_true h
  have h2 := pk_nc a
  rwa [h1] at h2
end
