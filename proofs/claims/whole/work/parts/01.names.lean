-- ===== PART A: goes FIRST, ahead of the names: the tables' words, and 'selects' of the private methods out of them =====
/-- a private method of a class that the tables say can be made, by its rows of tables_1 -/
def lw_okq (q : MethodName × Nat) : Prop := (q.1.cls ≠ "java/lang/invoke/MethodHandle" ∧ q.1.cls ≠ "java/lang/invoke/VarHandle") ∧ Cond.instantiable q.1.cls q.2 ∈ tables_1 ∧ Cond.privateMethod q.1 ∈ tables_1 ∧ Cond.instanceMethod q.1 ∈ tables_1
theorem lw_p0 : lw_okq (⟨"AidRegister", "appendBytes", "(I)V"⟩, 14) := ⟨⟨by decide +kernel, by decide +kernel⟩, List.mem_of_getElem? (i := 24) (by decide +kernel), List.mem_of_getElem? (i := 325) (by decide +kernel), List.mem_of_getElem? (i := 326) (by decide +kernel)⟩
theorem lw_p1 : lw_okq (⟨"AidRegister$SetupReader", "advance", "()V"⟩, 11) := ⟨⟨by decide +kernel, by decide +kernel⟩, List.mem_of_getElem? (i := 199) (by decide +kernel), List.mem_of_getElem? (i := 345) (by decide +kernel), List.mem_of_getElem? (i := 346) (by decide +kernel)⟩
theorem lw_p2 : lw_okq (⟨"AidRegister$SetupReader", "kindAt", "(I)I"⟩, 11) := ⟨⟨by decide +kernel, by decide +kernel⟩, List.mem_of_getElem? (i := 199) (by decide +kernel), List.mem_of_getElem? (i := 349) (by decide +kernel), List.mem_of_getElem? (i := 350) (by decide +kernel)⟩
theorem lw_p3 : lw_okq (⟨"AidRegister$SetupReader", "packedWord", "()J"⟩, 11) := ⟨⟨by decide +kernel, by decide +kernel⟩, List.mem_of_getElem? (i := 199) (by decide +kernel), List.mem_of_getElem? (i := 353) (by decide +kernel), List.mem_of_getElem? (i := 354) (by decide +kernel)⟩
theorem lw_p4 : lw_okq (⟨"AidRegister$SetupReader", "readDonor", "()V"⟩, 11) := ⟨⟨by decide +kernel, by decide +kernel⟩, List.mem_of_getElem? (i := 199) (by decide +kernel), List.mem_of_getElem? (i := 358) (by decide +kernel), List.mem_of_getElem? (i := 359) (by decide +kernel)⟩
theorem lw_p5 : lw_okq (⟨"AidRegister$SetupReader", "fail", "(I)V"⟩, 11) := ⟨⟨by decide +kernel, by decide +kernel⟩, List.mem_of_getElem? (i := 199) (by decide +kernel), List.mem_of_getElem? (i := 362) (by decide +kernel), List.mem_of_getElem? (i := 363) (by decide +kernel)⟩
theorem lw_p6 : lw_okq (⟨"AidRegister$SetupReader", "namedDonor", "()I"⟩, 11) := ⟨⟨by decide +kernel, by decide +kernel⟩, List.mem_of_getElem? (i := 199) (by decide +kernel), List.mem_of_getElem? (i := 366) (by decide +kernel), List.mem_of_getElem? (i := 367) (by decide +kernel)⟩
theorem lw_p7 : lw_okq (⟨"AidRegister$SetupReader", "isFirstWord", "()Z"⟩, 11) := ⟨⟨by decide +kernel, by decide +kernel⟩, List.mem_of_getElem? (i := 199) (by decide +kernel), List.mem_of_getElem? (i := 370) (by decide +kernel), List.mem_of_getElem? (i := 371) (by decide +kernel)⟩
theorem lw_p8 : lw_okq (⟨"AidRegister$SetupReader", "readNumber", "(II)I"⟩, 11) := ⟨⟨by decide +kernel, by decide +kernel⟩, List.mem_of_getElem? (i := 199) (by decide +kernel), List.mem_of_getElem? (i := 380) (by decide +kernel), List.mem_of_getElem? (i := 381) (by decide +kernel)⟩
theorem lw_p9 : lw_okq (⟨"AidRegister$SetupReader", "readSemicolon", "()V"⟩, 11) := ⟨⟨by decide +kernel, by decide +kernel⟩, List.mem_of_getElem? (i := 199) (by decide +kernel), List.mem_of_getElem? (i := 384) (by decide +kernel), List.mem_of_getElem? (i := 385) (by decide +kernel)⟩
theorem lw_p10 : lw_okq (⟨"AidRegister$SetupReader", "readDeclaration", "()V"⟩, 11) := ⟨⟨by decide +kernel, by decide +kernel⟩, List.mem_of_getElem? (i := 199) (by decide +kernel), List.mem_of_getElem? (i := 392) (by decide +kernel), List.mem_of_getElem? (i := 393) (by decide +kernel)⟩
theorem lw_p11 : lw_okq (⟨"AidRegister$SetupReader", "knownDonor", "()I"⟩, 11) := ⟨⟨by decide +kernel, by decide +kernel⟩, List.mem_of_getElem? (i := 199) (by decide +kernel), List.mem_of_getElem? (i := 400) (by decide +kernel), List.mem_of_getElem? (i := 401) (by decide +kernel)⟩
theorem lw_p12 : lw_okq (⟨"AidRegister$SetupReader", "readGift", "()V"⟩, 11) := ⟨⟨by decide +kernel, by decide +kernel⟩, List.mem_of_getElem? (i := 199) (by decide +kernel), List.mem_of_getElem? (i := 409) (by decide +kernel), List.mem_of_getElem? (i := 410) (by decide +kernel)⟩
theorem lw_p13 : lw_okq (⟨"AidRegister$SetupReader", "readGiftHead", "()I"⟩, 11) := ⟨⟨by decide +kernel, by decide +kernel⟩, List.mem_of_getElem? (i := 199) (by decide +kernel), List.mem_of_getElem? (i := 413) (by decide +kernel), List.mem_of_getElem? (i := 414) (by decide +kernel)⟩
theorem lw_p14 : lw_okq (⟨"AidRegister$SetupReader", "readSplit", "()V"⟩, 11) := ⟨⟨by decide +kernel, by decide +kernel⟩, List.mem_of_getElem? (i := 199) (by decide +kernel), List.mem_of_getElem? (i := 434) (by decide +kernel), List.mem_of_getElem? (i := 435) (by decide +kernel)⟩
theorem lw_p15 : lw_okq (⟨"AidRegister$SetupReader", "readShare", "(I)V"⟩, 11) := ⟨⟨by decide +kernel, by decide +kernel⟩, List.mem_of_getElem? (i := 199) (by decide +kernel), List.mem_of_getElem? (i := 438) (by decide +kernel), List.mem_of_getElem? (i := 439) (by decide +kernel)⟩
def lw_privs_1 : List (MethodName × Nat) := [(⟨"AidRegister", "appendBytes", "(I)V"⟩, 14), (⟨"AidRegister$SetupReader", "advance", "()V"⟩, 11), (⟨"AidRegister$SetupReader", "kindAt", "(I)I"⟩, 11), (⟨"AidRegister$SetupReader", "packedWord", "()J"⟩, 11), (⟨"AidRegister$SetupReader", "readDonor", "()V"⟩, 11), (⟨"AidRegister$SetupReader", "fail", "(I)V"⟩, 11), (⟨"AidRegister$SetupReader", "namedDonor", "()I"⟩, 11), (⟨"AidRegister$SetupReader", "isFirstWord", "()Z"⟩, 11), (⟨"AidRegister$SetupReader", "readNumber", "(II)I"⟩, 11), (⟨"AidRegister$SetupReader", "readSemicolon", "()V"⟩, 11), (⟨"AidRegister$SetupReader", "readDeclaration", "()V"⟩, 11), (⟨"AidRegister$SetupReader", "knownDonor", "()I"⟩, 11), (⟨"AidRegister$SetupReader", "readGift", "()V"⟩, 11), (⟨"AidRegister$SetupReader", "readGiftHead", "()I"⟩, 11), (⟨"AidRegister$SetupReader", "readSplit", "()V"⟩, 11), (⟨"AidRegister$SetupReader", "readShare", "(I)V"⟩, 11)]
theorem lw_r1 : ∀ q ∈ lw_privs_1, lw_okq q := List.forall_mem_cons.mpr ⟨lw_p0, List.forall_mem_cons.mpr ⟨lw_p1, List.forall_mem_cons.mpr ⟨lw_p2, List.forall_mem_cons.mpr ⟨lw_p3, List.forall_mem_cons.mpr ⟨lw_p4, List.forall_mem_cons.mpr ⟨lw_p5, List.forall_mem_cons.mpr ⟨lw_p6, List.forall_mem_cons.mpr ⟨lw_p7, List.forall_mem_cons.mpr ⟨lw_p8, List.forall_mem_cons.mpr ⟨lw_p9, List.forall_mem_cons.mpr ⟨lw_p10, List.forall_mem_cons.mpr ⟨lw_p11, List.forall_mem_cons.mpr ⟨lw_p12, List.forall_mem_cons.mpr ⟨lw_p13, List.forall_mem_cons.mpr ⟨lw_p14, List.forall_mem_cons.mpr ⟨lw_p15, fun _ h => absurd h List.not_mem_nil⟩⟩⟩⟩⟩⟩⟩⟩⟩⟩⟩⟩⟩⟩⟩⟩
theorem lw_p16 : lw_okq (⟨"AidRegister$SetupReader", "readRules", "()V"⟩, 11) := ⟨⟨by decide +kernel, by decide +kernel⟩, List.mem_of_getElem? (i := 199) (by decide +kernel), List.mem_of_getElem? (i := 446) (by decide +kernel), List.mem_of_getElem? (i := 447) (by decide +kernel)⟩
theorem lw_p17 : lw_okq (⟨"AidRegister$Ledger", "settlePart", "(II)V"⟩, 12) := ⟨⟨by decide +kernel, by decide +kernel⟩, List.mem_of_getElem? (i := 32) (by decide +kernel), List.mem_of_getElem? (i := 461) (by decide +kernel), List.mem_of_getElem? (i := 462) (by decide +kernel)⟩
theorem lw_p18 : lw_okq (⟨"AidRegister$Ledger", "aidWith", "(III)I"⟩, 12) := ⟨⟨by decide +kernel, by decide +kernel⟩, List.mem_of_getElem? (i := 32) (by decide +kernel), List.mem_of_getElem? (i := 587) (by decide +kernel), List.mem_of_getElem? (i := 588) (by decide +kernel)⟩
theorem lw_p19 : lw_okq (⟨"AidRegister$Ledger", "wishOf", "(IIZ)I"⟩, 12) := ⟨⟨by decide +kernel, by decide +kernel⟩, List.mem_of_getElem? (i := 32) (by decide +kernel), List.mem_of_getElem? (i := 591) (by decide +kernel), List.mem_of_getElem? (i := 592) (by decide +kernel)⟩
theorem lw_p20 : lw_okq (⟨"java/lang/Throwable", "fillInStackTrace", "(I)Ljava/lang/Throwable;"⟩, 6) := ⟨⟨by decide +kernel, by decide +kernel⟩, List.mem_of_getElem? (i := 691) (by decide +kernel), List.mem_of_getElem? (i := 689) (by decide +kernel), List.mem_of_getElem? (i := 690) (by decide +kernel)⟩
theorem lw_p21 : lw_okq (⟨"AidRegister", "needDeclaration", "(I)V"⟩, 14) := ⟨⟨by decide +kernel, by decide +kernel⟩, List.mem_of_getElem? (i := 24) (by decide +kernel), List.mem_of_getElem? (i := 728) (by decide +kernel), List.mem_of_getElem? (i := 729) (by decide +kernel)⟩
theorem lw_p22 : lw_okq (⟨"AidRegister", "needGift", "(I)V"⟩, 14) := ⟨⟨by decide +kernel, by decide +kernel⟩, List.mem_of_getElem? (i := 24) (by decide +kernel), List.mem_of_getElem? (i := 760) (by decide +kernel), List.mem_of_getElem? (i := 761) (by decide +kernel)⟩
theorem lw_p23 : lw_okq (⟨"AidRegister", "needPart", "(II)V"⟩, 14) := ⟨⟨by decide +kernel, by decide +kernel⟩, List.mem_of_getElem? (i := 24) (by decide +kernel), List.mem_of_getElem? (i := 775) (by decide +kernel), List.mem_of_getElem? (i := 776) (by decide +kernel)⟩
theorem lw_p24 : lw_okq (⟨"AidRegister", "needDonor", "(I)V"⟩, 14) := ⟨⟨by decide +kernel, by decide +kernel⟩, List.mem_of_getElem? (i := 24) (by decide +kernel), List.mem_of_getElem? (i := 803) (by decide +kernel), List.mem_of_getElem? (i := 804) (by decide +kernel)⟩
theorem lw_p25 : lw_okq (⟨"AidRegister", "remember", "()V"⟩, 14) := ⟨⟨by decide +kernel, by decide +kernel⟩, List.mem_of_getElem? (i := 24) (by decide +kernel), List.mem_of_getElem? (i := 898) (by decide +kernel), List.mem_of_getElem? (i := 899) (by decide +kernel)⟩
theorem lw_p26 : lw_okq (⟨"AidRegister$Ledger", "isLimited", "(II)Z"⟩, 12) := ⟨⟨by decide +kernel, by decide +kernel⟩, List.mem_of_getElem? (i := 32) (by decide +kernel), List.mem_of_getElem? (i := 1055) (by decide +kernel), List.mem_of_getElem? (i := 1056) (by decide +kernel)⟩
theorem lw_p27 : lw_okq (⟨"AidRegister$Drawing", "fillPool", "(LAidRegister$Gifts;)V"⟩, 4) := ⟨⟨by decide +kernel, by decide +kernel⟩, List.mem_of_getElem? (i := 242) (by decide +kernel), List.mem_of_getElem? (i := 1138) (by decide +kernel), List.mem_of_getElem? (i := 1139) (by decide +kernel)⟩
theorem lw_p28 : lw_okq (⟨"AidRegister$Drawing", "dropFromPool", "(I)V"⟩, 4) := ⟨⟨by decide +kernel, by decide +kernel⟩, List.mem_of_getElem? (i := 242) (by decide +kernel), List.mem_of_getElem? (i := 1147) (by decide +kernel), List.mem_of_getElem? (i := 1148) (by decide +kernel)⟩
theorem lw_p29 : lw_okq (⟨"AidRegisterModel", "clear", "()V"⟩, 32) := ⟨⟨by decide +kernel, by decide +kernel⟩, List.mem_of_getElem? (i := 1196) (by decide +kernel), List.mem_of_getElem? (i := 1202) (by decide +kernel), List.mem_of_getElem? (i := 1203) (by decide +kernel)⟩
theorem lw_p30 : lw_okq (⟨"AidRegisterModel", "appendWord", "(I)V"⟩, 32) := ⟨⟨by decide +kernel, by decide +kernel⟩, List.mem_of_getElem? (i := 1196) (by decide +kernel), List.mem_of_getElem? (i := 1311) (by decide +kernel), List.mem_of_getElem? (i := 1312) (by decide +kernel)⟩
theorem lw_p31 : lw_okq (⟨"AidRegisterModel", "advanceToken", "()V"⟩, 32) := ⟨⟨by decide +kernel, by decide +kernel⟩, List.mem_of_getElem? (i := 1196) (by decide +kernel), List.mem_of_getElem? (i := 1329) (by decide +kernel), List.mem_of_getElem? (i := 1330) (by decide +kernel)⟩
def lw_privs_2 : List (MethodName × Nat) := [(⟨"AidRegister$SetupReader", "readRules", "()V"⟩, 11), (⟨"AidRegister$Ledger", "settlePart", "(II)V"⟩, 12), (⟨"AidRegister$Ledger", "aidWith", "(III)I"⟩, 12), (⟨"AidRegister$Ledger", "wishOf", "(IIZ)I"⟩, 12), (⟨"java/lang/Throwable", "fillInStackTrace", "(I)Ljava/lang/Throwable;"⟩, 6), (⟨"AidRegister", "needDeclaration", "(I)V"⟩, 14), (⟨"AidRegister", "needGift", "(I)V"⟩, 14), (⟨"AidRegister", "needPart", "(II)V"⟩, 14), (⟨"AidRegister", "needDonor", "(I)V"⟩, 14), (⟨"AidRegister", "remember", "()V"⟩, 14), (⟨"AidRegister$Ledger", "isLimited", "(II)Z"⟩, 12), (⟨"AidRegister$Drawing", "fillPool", "(LAidRegister$Gifts;)V"⟩, 4), (⟨"AidRegister$Drawing", "dropFromPool", "(I)V"⟩, 4), (⟨"AidRegisterModel", "clear", "()V"⟩, 32), (⟨"AidRegisterModel", "appendWord", "(I)V"⟩, 32), (⟨"AidRegisterModel", "advanceToken", "()V"⟩, 32)]
theorem lw_r2 : ∀ q ∈ lw_privs_2, lw_okq q := List.forall_mem_cons.mpr ⟨lw_p16, List.forall_mem_cons.mpr ⟨lw_p17, List.forall_mem_cons.mpr ⟨lw_p18, List.forall_mem_cons.mpr ⟨lw_p19, List.forall_mem_cons.mpr ⟨lw_p20, List.forall_mem_cons.mpr ⟨lw_p21, List.forall_mem_cons.mpr ⟨lw_p22, List.forall_mem_cons.mpr ⟨lw_p23, List.forall_mem_cons.mpr ⟨lw_p24, List.forall_mem_cons.mpr ⟨lw_p25, List.forall_mem_cons.mpr ⟨lw_p26, List.forall_mem_cons.mpr ⟨lw_p27, List.forall_mem_cons.mpr ⟨lw_p28, List.forall_mem_cons.mpr ⟨lw_p29, List.forall_mem_cons.mpr ⟨lw_p30, List.forall_mem_cons.mpr ⟨lw_p31, fun _ h => absurd h List.not_mem_nil⟩⟩⟩⟩⟩⟩⟩⟩⟩⟩⟩⟩⟩⟩⟩⟩
theorem lw_p32 : lw_okq (⟨"AidRegisterModel", "byteAt", "(I)I"⟩, 32) := ⟨⟨by decide +kernel, by decide +kernel⟩, List.mem_of_getElem? (i := 1196) (by decide +kernel), List.mem_of_getElem? (i := 1333) (by decide +kernel), List.mem_of_getElem? (i := 1334) (by decide +kernel)⟩
theorem lw_p33 : lw_okq (⟨"AidRegisterModel", "readText", "()Z"⟩, 32) := ⟨⟨by decide +kernel, by decide +kernel⟩, List.mem_of_getElem? (i := 1196) (by decide +kernel), List.mem_of_getElem? (i := 1337) (by decide +kernel), List.mem_of_getElem? (i := 1338) (by decide +kernel)⟩
theorem lw_p34 : lw_okq (⟨"AidRegisterModel", "readStatement", "()Z"⟩, 32) := ⟨⟨by decide +kernel, by decide +kernel⟩, List.mem_of_getElem? (i := 1196) (by decide +kernel), List.mem_of_getElem? (i := 1341) (by decide +kernel), List.mem_of_getElem? (i := 1342) (by decide +kernel)⟩
theorem lw_p35 : lw_okq (⟨"AidRegisterModel", "isWord", "(Ljava/lang/String;)Z"⟩, 32) := ⟨⟨by decide +kernel, by decide +kernel⟩, List.mem_of_getElem? (i := 1196) (by decide +kernel), List.mem_of_getElem? (i := 1346) (by decide +kernel), List.mem_of_getElem? (i := 1347) (by decide +kernel)⟩
theorem lw_p36 : lw_okq (⟨"AidRegisterModel", "tokenLength", "()I"⟩, 32) := ⟨⟨by decide +kernel, by decide +kernel⟩, List.mem_of_getElem? (i := 1196) (by decide +kernel), List.mem_of_getElem? (i := 1350) (by decide +kernel), List.mem_of_getElem? (i := 1351) (by decide +kernel)⟩
theorem lw_p37 : lw_okq (⟨"AidRegisterModel", "readDonor", "()Z"⟩, 32) := ⟨⟨by decide +kernel, by decide +kernel⟩, List.mem_of_getElem? (i := 1196) (by decide +kernel), List.mem_of_getElem? (i := 1402) (by decide +kernel), List.mem_of_getElem? (i := 1403) (by decide +kernel)⟩
theorem lw_p38 : lw_okq (⟨"AidRegisterModel", "starts", "(Z)Z"⟩, 32) := ⟨⟨by decide +kernel, by decide +kernel⟩, List.mem_of_getElem? (i := 1196) (by decide +kernel), List.mem_of_getElem? (i := 1406) (by decide +kernel), List.mem_of_getElem? (i := 1407) (by decide +kernel)⟩
theorem lw_p39 : lw_okq (⟨"AidRegisterModel", "failsAt", "(I)Z"⟩, 32) := ⟨⟨by decide +kernel, by decide +kernel⟩, List.mem_of_getElem? (i := 1196) (by decide +kernel), List.mem_of_getElem? (i := 1410) (by decide +kernel), List.mem_of_getElem? (i := 1411) (by decide +kernel)⟩
theorem lw_p40 : lw_okq (⟨"AidRegisterModel", "isName", "()Z"⟩, 32) := ⟨⟨by decide +kernel, by decide +kernel⟩, List.mem_of_getElem? (i := 1196) (by decide +kernel), List.mem_of_getElem? (i := 1414) (by decide +kernel), List.mem_of_getElem? (i := 1415) (by decide +kernel)⟩
theorem lw_p41 : lw_okq (⟨"AidRegisterModel", "isStatement", "()Z"⟩, 32) := ⟨⟨by decide +kernel, by decide +kernel⟩, List.mem_of_getElem? (i := 1196) (by decide +kernel), List.mem_of_getElem? (i := 1418) (by decide +kernel), List.mem_of_getElem? (i := 1419) (by decide +kernel)⟩
theorem lw_p42 : lw_okq (⟨"AidRegisterModel", "find", "()I"⟩, 32) := ⟨⟨by decide +kernel, by decide +kernel⟩, List.mem_of_getElem? (i := 1196) (by decide +kernel), List.mem_of_getElem? (i := 1427) (by decide +kernel), List.mem_of_getElem? (i := 1428) (by decide +kernel)⟩
theorem lw_p43 : lw_okq (⟨"AidRegisterModel", "letterHere", "(I)I"⟩, 32) := ⟨⟨by decide +kernel, by decide +kernel⟩, List.mem_of_getElem? (i := 1196) (by decide +kernel), List.mem_of_getElem? (i := 1431) (by decide +kernel), List.mem_of_getElem? (i := 1432) (by decide +kernel)⟩
theorem lw_p44 : lw_okq (⟨"AidRegisterModel", "takesInto", "(III)Z"⟩, 32) := ⟨⟨by decide +kernel, by decide +kernel⟩, List.mem_of_getElem? (i := 1196) (by decide +kernel), List.mem_of_getElem? (i := 1436) (by decide +kernel), List.mem_of_getElem? (i := 1437) (by decide +kernel)⟩
theorem lw_p45 : lw_okq (⟨"AidRegisterModel", "readDeclare", "()Z"⟩, 32) := ⟨⟨by decide +kernel, by decide +kernel⟩, List.mem_of_getElem? (i := 1196) (by decide +kernel), List.mem_of_getElem? (i := 1440) (by decide +kernel), List.mem_of_getElem? (i := 1441) (by decide +kernel)⟩
theorem lw_p46 : lw_okq (⟨"AidRegisterModel", "takesDonor", "(I)Z"⟩, 32) := ⟨⟨by decide +kernel, by decide +kernel⟩, List.mem_of_getElem? (i := 1196) (by decide +kernel), List.mem_of_getElem? (i := 1444) (by decide +kernel), List.mem_of_getElem? (i := 1445) (by decide +kernel)⟩
theorem lw_p47 : lw_okq (⟨"AidRegisterModel", "readGift", "()Z"⟩, 32) := ⟨⟨by decide +kernel, by decide +kernel⟩, List.mem_of_getElem? (i := 1196) (by decide +kernel), List.mem_of_getElem? (i := 1448) (by decide +kernel), List.mem_of_getElem? (i := 1449) (by decide +kernel)⟩
def lw_privs_3 : List (MethodName × Nat) := [(⟨"AidRegisterModel", "byteAt", "(I)I"⟩, 32), (⟨"AidRegisterModel", "readText", "()Z"⟩, 32), (⟨"AidRegisterModel", "readStatement", "()Z"⟩, 32), (⟨"AidRegisterModel", "isWord", "(Ljava/lang/String;)Z"⟩, 32), (⟨"AidRegisterModel", "tokenLength", "()I"⟩, 32), (⟨"AidRegisterModel", "readDonor", "()Z"⟩, 32), (⟨"AidRegisterModel", "starts", "(Z)Z"⟩, 32), (⟨"AidRegisterModel", "failsAt", "(I)Z"⟩, 32), (⟨"AidRegisterModel", "isName", "()Z"⟩, 32), (⟨"AidRegisterModel", "isStatement", "()Z"⟩, 32), (⟨"AidRegisterModel", "find", "()I"⟩, 32), (⟨"AidRegisterModel", "letterHere", "(I)I"⟩, 32), (⟨"AidRegisterModel", "takesInto", "(III)Z"⟩, 32), (⟨"AidRegisterModel", "readDeclare", "()Z"⟩, 32), (⟨"AidRegisterModel", "takesDonor", "(I)Z"⟩, 32), (⟨"AidRegisterModel", "readGift", "()Z"⟩, 32)]
theorem lw_r3 : ∀ q ∈ lw_privs_3, lw_okq q := List.forall_mem_cons.mpr ⟨lw_p32, List.forall_mem_cons.mpr ⟨lw_p33, List.forall_mem_cons.mpr ⟨lw_p34, List.forall_mem_cons.mpr ⟨lw_p35, List.forall_mem_cons.mpr ⟨lw_p36, List.forall_mem_cons.mpr ⟨lw_p37, List.forall_mem_cons.mpr ⟨lw_p38, List.forall_mem_cons.mpr ⟨lw_p39, List.forall_mem_cons.mpr ⟨lw_p40, List.forall_mem_cons.mpr ⟨lw_p41, List.forall_mem_cons.mpr ⟨lw_p42, List.forall_mem_cons.mpr ⟨lw_p43, List.forall_mem_cons.mpr ⟨lw_p44, List.forall_mem_cons.mpr ⟨lw_p45, List.forall_mem_cons.mpr ⟨lw_p46, List.forall_mem_cons.mpr ⟨lw_p47, fun _ h => absurd h List.not_mem_nil⟩⟩⟩⟩⟩⟩⟩⟩⟩⟩⟩⟩⟩⟩⟩⟩
theorem lw_p48 : lw_okq (⟨"AidRegisterModel", "readMoney", "()Z"⟩, 32) := ⟨⟨by decide +kernel, by decide +kernel⟩, List.mem_of_getElem? (i := 1196) (by decide +kernel), List.mem_of_getElem? (i := 1452) (by decide +kernel), List.mem_of_getElem? (i := 1453) (by decide +kernel)⟩
theorem lw_p49 : lw_okq (⟨"AidRegisterModel", "clearsParts", "(I)V"⟩, 32) := ⟨⟨by decide +kernel, by decide +kernel⟩, List.mem_of_getElem? (i := 1196) (by decide +kernel), List.mem_of_getElem? (i := 1456) (by decide +kernel), List.mem_of_getElem? (i := 1457) (by decide +kernel)⟩
theorem lw_p50 : lw_okq (⟨"AidRegisterModel", "shares", "(IIIII)V"⟩, 32) := ⟨⟨by decide +kernel, by decide +kernel⟩, List.mem_of_getElem? (i := 1196) (by decide +kernel), List.mem_of_getElem? (i := 1463) (by decide +kernel), List.mem_of_getElem? (i := 1464) (by decide +kernel)⟩
theorem lw_p51 : lw_okq (⟨"AidRegisterModel", "readSplit", "()Z"⟩, 32) := ⟨⟨by decide +kernel, by decide +kernel⟩, List.mem_of_getElem? (i := 1196) (by decide +kernel), List.mem_of_getElem? (i := 1467) (by decide +kernel), List.mem_of_getElem? (i := 1468) (by decide +kernel)⟩
theorem lw_p52 : lw_okq (⟨"AidRegisterModel", "readShare", "(II)Z"⟩, 32) := ⟨⟨by decide +kernel, by decide +kernel⟩, List.mem_of_getElem? (i := 1196) (by decide +kernel), List.mem_of_getElem? (i := 1471) (by decide +kernel), List.mem_of_getElem? (i := 1472) (by decide +kernel)⟩
theorem lw_p53 : lw_okq (⟨"AidRegisterModel", "readCash", "()Z"⟩, 32) := ⟨⟨by decide +kernel, by decide +kernel⟩, List.mem_of_getElem? (i := 1196) (by decide +kernel), List.mem_of_getElem? (i := 1475) (by decide +kernel), List.mem_of_getElem? (i := 1476) (by decide +kernel)⟩
theorem lw_p54 : lw_okq (⟨"AidRegisterModel", "readRules", "()Z"⟩, 32) := ⟨⟨by decide +kernel, by decide +kernel⟩, List.mem_of_getElem? (i := 1196) (by decide +kernel), List.mem_of_getElem? (i := 1479) (by decide +kernel), List.mem_of_getElem? (i := 1480) (by decide +kernel)⟩
theorem lw_p55 : lw_okq (⟨"AidRegisterModel", "fails", "(ZI)Z"⟩, 32) := ⟨⟨by decide +kernel, by decide +kernel⟩, List.mem_of_getElem? (i := 1196) (by decide +kernel), List.mem_of_getElem? (i := 1495) (by decide +kernel), List.mem_of_getElem? (i := 1496) (by decide +kernel)⟩
theorem lw_p56 : lw_okq (⟨"AidRegisterModel", "giftsWith", "(Z)I"⟩, 32) := ⟨⟨by decide +kernel, by decide +kernel⟩, List.mem_of_getElem? (i := 1196) (by decide +kernel), List.mem_of_getElem? (i := 1499) (by decide +kernel), List.mem_of_getElem? (i := 1500) (by decide +kernel)⟩
theorem lw_p57 : lw_okq (⟨"AidRegisterModel", "isSpoilt", "(I)Z"⟩, 32) := ⟨⟨by decide +kernel, by decide +kernel⟩, List.mem_of_getElem? (i := 1196) (by decide +kernel), List.mem_of_getElem? (i := 1503) (by decide +kernel), List.mem_of_getElem? (i := 1504) (by decide +kernel)⟩
theorem lw_p58 : lw_okq (⟨"AidRegisterModel", "noDeclaration", "(I)Z"⟩, 32) := ⟨⟨by decide +kernel, by decide +kernel⟩, List.mem_of_getElem? (i := 1196) (by decide +kernel), List.mem_of_getElem? (i := 1511) (by decide +kernel), List.mem_of_getElem? (i := 1512) (by decide +kernel)⟩
theorem lw_p59 : lw_okq (⟨"AidRegisterModel", "daysOf", "(I)I"⟩, 32) := ⟨⟨by decide +kernel, by decide +kernel⟩, List.mem_of_getElem? (i := 1196) (by decide +kernel), List.mem_of_getElem? (i := 1515) (by decide +kernel), List.mem_of_getElem? (i := 1516) (by decide +kernel)⟩
theorem lw_p60 : lw_okq (⟨"AidRegisterModel", "noGift", "(I)Z"⟩, 32) := ⟨⟨by decide +kernel, by decide +kernel⟩, List.mem_of_getElem? (i := 1196) (by decide +kernel), List.mem_of_getElem? (i := 1524) (by decide +kernel), List.mem_of_getElem? (i := 1525) (by decide +kernel)⟩
theorem lw_p61 : lw_okq (⟨"AidRegisterModel", "laysAid", "()V"⟩, 32) := ⟨⟨by decide +kernel, by decide +kernel⟩, List.mem_of_getElem? (i := 1196) (by decide +kernel), List.mem_of_getElem? (i := 1528) (by decide +kernel), List.mem_of_getElem? (i := 1529) (by decide +kernel)⟩
theorem lw_p62 : lw_okq (⟨"AidRegisterModel", "laysOrder", "()V"⟩, 32) := ⟨⟨by decide +kernel, by decide +kernel⟩, List.mem_of_getElem? (i := 1196) (by decide +kernel), List.mem_of_getElem? (i := 1532) (by decide +kernel), List.mem_of_getElem? (i := 1533) (by decide +kernel)⟩
theorem lw_p63 : lw_okq (⟨"AidRegisterModel", "yearOf", "(I)I"⟩, 32) := ⟨⟨by decide +kernel, by decide +kernel⟩, List.mem_of_getElem? (i := 1196) (by decide +kernel), List.mem_of_getElem? (i := 1536) (by decide +kernel), List.mem_of_getElem? (i := 1537) (by decide +kernel)⟩
def lw_privs_4 : List (MethodName × Nat) := [(⟨"AidRegisterModel", "readMoney", "()Z"⟩, 32), (⟨"AidRegisterModel", "clearsParts", "(I)V"⟩, 32), (⟨"AidRegisterModel", "shares", "(IIIII)V"⟩, 32), (⟨"AidRegisterModel", "readSplit", "()Z"⟩, 32), (⟨"AidRegisterModel", "readShare", "(II)Z"⟩, 32), (⟨"AidRegisterModel", "readCash", "()Z"⟩, 32), (⟨"AidRegisterModel", "readRules", "()Z"⟩, 32), (⟨"AidRegisterModel", "fails", "(ZI)Z"⟩, 32), (⟨"AidRegisterModel", "giftsWith", "(Z)I"⟩, 32), (⟨"AidRegisterModel", "isSpoilt", "(I)Z"⟩, 32), (⟨"AidRegisterModel", "noDeclaration", "(I)Z"⟩, 32), (⟨"AidRegisterModel", "daysOf", "(I)I"⟩, 32), (⟨"AidRegisterModel", "noGift", "(I)Z"⟩, 32), (⟨"AidRegisterModel", "laysAid", "()V"⟩, 32), (⟨"AidRegisterModel", "laysOrder", "()V"⟩, 32), (⟨"AidRegisterModel", "yearOf", "(I)I"⟩, 32)]
theorem lw_r4 : ∀ q ∈ lw_privs_4, lw_okq q := List.forall_mem_cons.mpr ⟨lw_p48, List.forall_mem_cons.mpr ⟨lw_p49, List.forall_mem_cons.mpr ⟨lw_p50, List.forall_mem_cons.mpr ⟨lw_p51, List.forall_mem_cons.mpr ⟨lw_p52, List.forall_mem_cons.mpr ⟨lw_p53, List.forall_mem_cons.mpr ⟨lw_p54, List.forall_mem_cons.mpr ⟨lw_p55, List.forall_mem_cons.mpr ⟨lw_p56, List.forall_mem_cons.mpr ⟨lw_p57, List.forall_mem_cons.mpr ⟨lw_p58, List.forall_mem_cons.mpr ⟨lw_p59, List.forall_mem_cons.mpr ⟨lw_p60, List.forall_mem_cons.mpr ⟨lw_p61, List.forall_mem_cons.mpr ⟨lw_p62, List.forall_mem_cons.mpr ⟨lw_p63, fun _ h => absurd h List.not_mem_nil⟩⟩⟩⟩⟩⟩⟩⟩⟩⟩⟩⟩⟩⟩⟩⟩
theorem lw_p64 : lw_okq (⟨"AidRegisterModel", "dayOf", "(I)I"⟩, 32) := ⟨⟨by decide +kernel, by decide +kernel⟩, List.mem_of_getElem? (i := 1196) (by decide +kernel), List.mem_of_getElem? (i := 1540) (by decide +kernel), List.mem_of_getElem? (i := 1541) (by decide +kernel)⟩
theorem lw_p65 : lw_okq (⟨"AidRegisterModel", "wishOf", "(I)I"⟩, 32) := ⟨⟨by decide +kernel, by decide +kernel⟩, List.mem_of_getElem? (i := 1196) (by decide +kernel), List.mem_of_getElem? (i := 1547) (by decide +kernel), List.mem_of_getElem? (i := 1548) (by decide +kernel)⟩
theorem lw_p66 : lw_okq (⟨"AidRegisterModel", "isForced", "(II)Z"⟩, 32) := ⟨⟨by decide +kernel, by decide +kernel⟩, List.mem_of_getElem? (i := 1196) (by decide +kernel), List.mem_of_getElem? (i := 1551) (by decide +kernel), List.mem_of_getElem? (i := 1552) (by decide +kernel)⟩
theorem lw_p67 : lw_okq (⟨"AidRegisterModel", "full", "(I)I"⟩, 32) := ⟨⟨by decide +kernel, by decide +kernel⟩, List.mem_of_getElem? (i := 1196) (by decide +kernel), List.mem_of_getElem? (i := 1555) (by decide +kernel), List.mem_of_getElem? (i := 1556) (by decide +kernel)⟩
theorem lw_p68 : lw_okq (⟨"AidRegisterModel", "leftOf", "(I)I"⟩, 32) := ⟨⟨by decide +kernel, by decide +kernel⟩, List.mem_of_getElem? (i := 1196) (by decide +kernel), List.mem_of_getElem? (i := 1559) (by decide +kernel), List.mem_of_getElem? (i := 1560) (by decide +kernel)⟩
theorem lw_p69 : lw_okq (⟨"AidRegisterModel", "leftOfGift", "(I)I"⟩, 32) := ⟨⟨by decide +kernel, by decide +kernel⟩, List.mem_of_getElem? (i := 1196) (by decide +kernel), List.mem_of_getElem? (i := 1564) (by decide +kernel), List.mem_of_getElem? (i := 1565) (by decide +kernel)⟩
theorem lw_p70 : lw_okq (⟨"AidRegisterModel", "noPart", "(II)Z"⟩, 32) := ⟨⟨by decide +kernel, by decide +kernel⟩, List.mem_of_getElem? (i := 1196) (by decide +kernel), List.mem_of_getElem? (i := 1572) (by decide +kernel), List.mem_of_getElem? (i := 1573) (by decide +kernel)⟩
theorem lw_p71 : lw_okq (⟨"AidRegisterModel", "reasonOf", "(I)I"⟩, 32) := ⟨⟨by decide +kernel, by decide +kernel⟩, List.mem_of_getElem? (i := 1196) (by decide +kernel), List.mem_of_getElem? (i := 1580) (by decide +kernel), List.mem_of_getElem? (i := 1581) (by decide +kernel)⟩
theorem lw_p72 : lw_okq (⟨"AidRegisterModel", "noDonor", "(I)Z"⟩, 32) := ⟨⟨by decide +kernel, by decide +kernel⟩, List.mem_of_getElem? (i := 1196) (by decide +kernel), List.mem_of_getElem? (i := 1588) (by decide +kernel), List.mem_of_getElem? (i := 1589) (by decide +kernel)⟩
theorem lw_p73 : lw_okq (⟨"AidRegisterModel", "sumOf", "(III)I"⟩, 32) := ⟨⟨by decide +kernel, by decide +kernel⟩, List.mem_of_getElem? (i := 1196) (by decide +kernel), List.mem_of_getElem? (i := 1592) (by decide +kernel), List.mem_of_getElem? (i := 1593) (by decide +kernel)⟩
theorem lw_p74 : lw_okq (⟨"AidRegisterModel", "isPart", "(I)Z"⟩, 32) := ⟨⟨by decide +kernel, by decide +kernel⟩, List.mem_of_getElem? (i := 1196) (by decide +kernel), List.mem_of_getElem? (i := 1596) (by decide +kernel), List.mem_of_getElem? (i := 1597) (by decide +kernel)⟩
theorem lw_p75 : lw_okq (⟨"AidRegisterModel", "noSpan", "(II)Z"⟩, 32) := ⟨⟨by decide +kernel, by decide +kernel⟩, List.mem_of_getElem? (i := 1196) (by decide +kernel), List.mem_of_getElem? (i := 1612) (by decide +kernel), List.mem_of_getElem? (i := 1613) (by decide +kernel)⟩
theorem lw_p76 : lw_okq (⟨"AidRegisterModel", "isNeedless", "(I)Z"⟩, 32) := ⟨⟨by decide +kernel, by decide +kernel⟩, List.mem_of_getElem? (i := 1196) (by decide +kernel), List.mem_of_getElem? (i := 1628) (by decide +kernel), List.mem_of_getElem? (i := 1629) (by decide +kernel)⟩
theorem lw_p77 : lw_okq (⟨"AidRegisterModel", "remembers", "()V"⟩, 32) := ⟨⟨by decide +kernel, by decide +kernel⟩, List.mem_of_getElem? (i := 1196) (by decide +kernel), List.mem_of_getElem? (i := 1636) (by decide +kernel), List.mem_of_getElem? (i := 1637) (by decide +kernel)⟩
theorem lw_p78 : lw_okq (⟨"AidRegisterModel", "declares", "(III)V"⟩, 32) := ⟨⟨by decide +kernel, by decide +kernel⟩, List.mem_of_getElem? (i := 1196) (by decide +kernel), List.mem_of_getElem? (i := 1640) (by decide +kernel), List.mem_of_getElem? (i := 1641) (by decide +kernel)⟩
theorem lw_p79 : lw_okq (⟨"AidRegisterModel", "isDonorOf", "(II)Z"⟩, 32) := ⟨⟨by decide +kernel, by decide +kernel⟩, List.mem_of_getElem? (i := 1196) (by decide +kernel), List.mem_of_getElem? (i := 1656) (by decide +kernel), List.mem_of_getElem? (i := 1657) (by decide +kernel)⟩
def lw_privs_5 : List (MethodName × Nat) := [(⟨"AidRegisterModel", "dayOf", "(I)I"⟩, 32), (⟨"AidRegisterModel", "wishOf", "(I)I"⟩, 32), (⟨"AidRegisterModel", "isForced", "(II)Z"⟩, 32), (⟨"AidRegisterModel", "full", "(I)I"⟩, 32), (⟨"AidRegisterModel", "leftOf", "(I)I"⟩, 32), (⟨"AidRegisterModel", "leftOfGift", "(I)I"⟩, 32), (⟨"AidRegisterModel", "noPart", "(II)Z"⟩, 32), (⟨"AidRegisterModel", "reasonOf", "(I)I"⟩, 32), (⟨"AidRegisterModel", "noDonor", "(I)Z"⟩, 32), (⟨"AidRegisterModel", "sumOf", "(III)I"⟩, 32), (⟨"AidRegisterModel", "isPart", "(I)Z"⟩, 32), (⟨"AidRegisterModel", "noSpan", "(II)Z"⟩, 32), (⟨"AidRegisterModel", "isNeedless", "(I)Z"⟩, 32), (⟨"AidRegisterModel", "remembers", "()V"⟩, 32), (⟨"AidRegisterModel", "declares", "(III)V"⟩, 32), (⟨"AidRegisterModel", "isDonorOf", "(II)Z"⟩, 32)]
theorem lw_r5 : ∀ q ∈ lw_privs_5, lw_okq q := List.forall_mem_cons.mpr ⟨lw_p64, List.forall_mem_cons.mpr ⟨lw_p65, List.forall_mem_cons.mpr ⟨lw_p66, List.forall_mem_cons.mpr ⟨lw_p67, List.forall_mem_cons.mpr ⟨lw_p68, List.forall_mem_cons.mpr ⟨lw_p69, List.forall_mem_cons.mpr ⟨lw_p70, List.forall_mem_cons.mpr ⟨lw_p71, List.forall_mem_cons.mpr ⟨lw_p72, List.forall_mem_cons.mpr ⟨lw_p73, List.forall_mem_cons.mpr ⟨lw_p74, List.forall_mem_cons.mpr ⟨lw_p75, List.forall_mem_cons.mpr ⟨lw_p76, List.forall_mem_cons.mpr ⟨lw_p77, List.forall_mem_cons.mpr ⟨lw_p78, List.forall_mem_cons.mpr ⟨lw_p79, fun _ h => absurd h List.not_mem_nil⟩⟩⟩⟩⟩⟩⟩⟩⟩⟩⟩⟩⟩⟩⟩⟩
theorem lw_p80 : lw_okq (⟨"AidRegisterModel", "canSplit", "(I)Z"⟩, 32) := ⟨⟨by decide +kernel, by decide +kernel⟩, List.mem_of_getElem? (i := 1196) (by decide +kernel), List.mem_of_getElem? (i := 1660) (by decide +kernel), List.mem_of_getElem? (i := 1661) (by decide +kernel)⟩
theorem lw_p81 : lw_okq (⟨"AidRegisterModel", "splits", "(IIII)V"⟩, 32) := ⟨⟨by decide +kernel, by decide +kernel⟩, List.mem_of_getElem? (i := 1196) (by decide +kernel), List.mem_of_getElem? (i := 1664) (by decide +kernel), List.mem_of_getElem? (i := 1665) (by decide +kernel)⟩
theorem lw_p82 : lw_okq (⟨"AidRegisterModel", "claimOf", "(II)I"⟩, 32) := ⟨⟨by decide +kernel, by decide +kernel⟩, List.mem_of_getElem? (i := 1196) (by decide +kernel), List.mem_of_getElem? (i := 1684) (by decide +kernel), List.mem_of_getElem? (i := 1685) (by decide +kernel)⟩
theorem lw_p83 : lw_okq (⟨"AidRegisterModel", "over", "(I)I"⟩, 32) := ⟨⟨by decide +kernel, by decide +kernel⟩, List.mem_of_getElem? (i := 1196) (by decide +kernel), List.mem_of_getElem? (i := 1703) (by decide +kernel), List.mem_of_getElem? (i := 1704) (by decide +kernel)⟩
theorem lw_p84 : lw_okq (⟨"AidRegisterModel", "allAid", "()I"⟩, 32) := ⟨⟨by decide +kernel, by decide +kernel⟩, List.mem_of_getElem? (i := 1196) (by decide +kernel), List.mem_of_getElem? (i := 1711) (by decide +kernel), List.mem_of_getElem? (i := 1712) (by decide +kernel)⟩
theorem lw_p85 : lw_okq (⟨"AidRegisterModel", "under", "(I)I"⟩, 32) := ⟨⟨by decide +kernel, by decide +kernel⟩, List.mem_of_getElem? (i := 1196) (by decide +kernel), List.mem_of_getElem? (i := 1723) (by decide +kernel), List.mem_of_getElem? (i := 1724) (by decide +kernel)⟩
theorem lw_p86 : lw_okq (⟨"AidRegisterModel", "aidWith", "(III)I"⟩, 32) := ⟨⟨by decide +kernel, by decide +kernel⟩, List.mem_of_getElem? (i := 1196) (by decide +kernel), List.mem_of_getElem? (i := 1755) (by decide +kernel), List.mem_of_getElem? (i := 1756) (by decide +kernel)⟩
theorem lw_p87 : lw_okq (⟨"AidRegisterModel", "isDonorThere", "(II)Z"⟩, 32) := ⟨⟨by decide +kernel, by decide +kernel⟩, List.mem_of_getElem? (i := 1196) (by decide +kernel), List.mem_of_getElem? (i := 1767) (by decide +kernel), List.mem_of_getElem? (i := 1768) (by decide +kernel)⟩
theorem lw_p88 : lw_okq (⟨"AidRegisterModel", "begins", "()V"⟩, 32) := ⟨⟨by decide +kernel, by decide +kernel⟩, List.mem_of_getElem? (i := 1196) (by decide +kernel), List.mem_of_getElem? (i := 1775) (by decide +kernel), List.mem_of_getElem? (i := 1776) (by decide +kernel)⟩
theorem lw_p89 : lw_okq (⟨"AidRegisterModel", "ends", "()V"⟩, 32) := ⟨⟨by decide +kernel, by decide +kernel⟩, List.mem_of_getElem? (i := 1196) (by decide +kernel), List.mem_of_getElem? (i := 1779) (by decide +kernel), List.mem_of_getElem? (i := 1780) (by decide +kernel)⟩
theorem lw_p90 : lw_okq (⟨"AidRegisterModel", "noSample", "(I)Z"⟩, 32) := ⟨⟨by decide +kernel, by decide +kernel⟩, List.mem_of_getElem? (i := 1196) (by decide +kernel), List.mem_of_getElem? (i := 1787) (by decide +kernel), List.mem_of_getElem? (i := 1788) (by decide +kernel)⟩
theorem lw_p91 : lw_okq (⟨"AidRegisterModel", "draws", "(II)V"⟩, 32) := ⟨⟨by decide +kernel, by decide +kernel⟩, List.mem_of_getElem? (i := 1196) (by decide +kernel), List.mem_of_getElem? (i := 1791) (by decide +kernel), List.mem_of_getElem? (i := 1792) (by decide +kernel)⟩
theorem lw_p92 : lw_okq (⟨"AidRegisterModel", "writeNumber", "(I)V"⟩, 32) := ⟨⟨by decide +kernel, by decide +kernel⟩, List.mem_of_getElem? (i := 1196) (by decide +kernel), List.mem_of_getElem? (i := 1818) (by decide +kernel), List.mem_of_getElem? (i := 1819) (by decide +kernel)⟩
theorem lw_p93 : lw_okq (⟨"AidRegisterModel", "write", "(I)V"⟩, 32) := ⟨⟨by decide +kernel, by decide +kernel⟩, List.mem_of_getElem? (i := 1196) (by decide +kernel), List.mem_of_getElem? (i := 1822) (by decide +kernel), List.mem_of_getElem? (i := 1823) (by decide +kernel)⟩
def lw_privs_6 : List (MethodName × Nat) := [(⟨"AidRegisterModel", "canSplit", "(I)Z"⟩, 32), (⟨"AidRegisterModel", "splits", "(IIII)V"⟩, 32), (⟨"AidRegisterModel", "claimOf", "(II)I"⟩, 32), (⟨"AidRegisterModel", "over", "(I)I"⟩, 32), (⟨"AidRegisterModel", "allAid", "()I"⟩, 32), (⟨"AidRegisterModel", "under", "(I)I"⟩, 32), (⟨"AidRegisterModel", "aidWith", "(III)I"⟩, 32), (⟨"AidRegisterModel", "isDonorThere", "(II)Z"⟩, 32), (⟨"AidRegisterModel", "begins", "()V"⟩, 32), (⟨"AidRegisterModel", "ends", "()V"⟩, 32), (⟨"AidRegisterModel", "noSample", "(I)Z"⟩, 32), (⟨"AidRegisterModel", "draws", "(II)V"⟩, 32), (⟨"AidRegisterModel", "writeNumber", "(I)V"⟩, 32), (⟨"AidRegisterModel", "write", "(I)V"⟩, 32)]
theorem lw_r6 : ∀ q ∈ lw_privs_6, lw_okq q := List.forall_mem_cons.mpr ⟨lw_p80, List.forall_mem_cons.mpr ⟨lw_p81, List.forall_mem_cons.mpr ⟨lw_p82, List.forall_mem_cons.mpr ⟨lw_p83, List.forall_mem_cons.mpr ⟨lw_p84, List.forall_mem_cons.mpr ⟨lw_p85, List.forall_mem_cons.mpr ⟨lw_p86, List.forall_mem_cons.mpr ⟨lw_p87, List.forall_mem_cons.mpr ⟨lw_p88, List.forall_mem_cons.mpr ⟨lw_p89, List.forall_mem_cons.mpr ⟨lw_p90, List.forall_mem_cons.mpr ⟨lw_p91, List.forall_mem_cons.mpr ⟨lw_p92, List.forall_mem_cons.mpr ⟨lw_p93, fun _ h => absurd h List.not_mem_nil⟩⟩⟩⟩⟩⟩⟩⟩⟩⟩⟩⟩⟩⟩
def lw_privs : List (MethodName × Nat) := lw_privs_1 ++ (lw_privs_2 ++ (lw_privs_3 ++ (lw_privs_4 ++ (lw_privs_5 ++ (lw_privs_6)))))
def lw_tbl : List Cond := k2_sels lw_privs ++ tables_1
theorem lw_privs_ok : ∀ q ∈ lw_privs, lw_okq q := by
  show ∀ q ∈ lw_privs_1 ++ (lw_privs_2 ++ (lw_privs_3 ++ (lw_privs_4 ++ (lw_privs_5 ++ (lw_privs_6))))), lw_okq q
  exact List.forall_mem_append.mpr ⟨lw_r1, List.forall_mem_append.mpr ⟨lw_r2, List.forall_mem_append.mpr ⟨lw_r3, List.forall_mem_append.mpr ⟨lw_r4, List.forall_mem_append.mpr ⟨lw_r5, lw_r6⟩⟩⟩⟩⟩
/-- the streams that the claim lets the run draw from -/
abbrev lw_cs : List Choice := [Jvm.Choice.named "NaN.bits"]
theorem lw_bits : nanBits ∈ lw_cs := by first | decide | exact List.mem_cons_self | simp [lw_cs, nanBits]
def RX0 : String := "AidRegister$Claims"
def TX0 : u_T := fun k => match k with
  | 0 => ("AidRegister$Claims", "count", "I", false)
  | _ => ("AidRegister$Claims", "cells", "[I", true)
def tyX0 : Nat → FieldType := fun k => match k with
  | 0 => .int
  | _ => .array .int
theorem nmX0 : ∀ a, a < 2 → ∀ b, b < 2 → a ≠ b → (TX0 a).2.1 ≠ (TX0 b).2.1 := by decide +kernel
theorem tyX0_ok : ∀ k, k < 2 → parseFieldDescriptor (TX0 k).2.2.1 = some (tyX0 k) := by decide +kernel
abbrev cX0_init : ByteArray := prog_2_method_1_code
def yX0_init : MethodName := ⟨RX0, "<init>", "()V"⟩
abbrev cX0_become : ByteArray := prog_2_method_2_code
def yX0_become : MethodName := ⟨RX0, "become", "(LAidRegister$Claims;)V"⟩
abbrev cX0_isFull : ByteArray := prog_2_method_3_code
def yX0_isFull : MethodName := ⟨RX0, "isFull", "()Z"⟩
abbrev cX0_latestDay : ByteArray := prog_2_method_4_code
def yX0_latestDay : MethodName := ⟨RX0, "latestDay", "()I"⟩
abbrev cX0_begin : ByteArray := prog_2_method_5_code
def yX0_begin : MethodName := ⟨RX0, "begin", "(I)V"⟩
abbrev cX0_enter : ByteArray := prog_2_method_6_code
def yX0_enter : MethodName := ⟨RX0, "enter", "(I)V"⟩
abbrev cX0_latestBalance : ByteArray := prog_2_method_7_code
def yX0_latestBalance : MethodName := ⟨RX0, "latestBalance", "()I"⟩
def RX1 : String := "AidRegister$Declarations"
def TX1 : u_T := fun k => match k with
  | 0 => ("AidRegister$Declarations", "count", "I", false)
  | 1 => ("AidRegister$Declarations", "donors", "[I", true)
  | 2 => ("AidRegister$Declarations", "firsts", "[I", true)
  | _ => ("AidRegister$Declarations", "lasts", "[I", true)
def tyX1 : Nat → FieldType := fun k => match k with
  | 0 => .int
  | 1 => .array .int
  | 2 => .array .int
  | _ => .array .int
theorem nmX1 : ∀ a, a < 4 → ∀ b, b < 4 → a ≠ b → (TX1 a).2.1 ≠ (TX1 b).2.1 := by decide +kernel
theorem tyX1_ok : ∀ k, k < 4 → parseFieldDescriptor (TX1 k).2.2.1 = some (tyX1 k) := by decide +kernel
abbrev cX1_init : ByteArray := prog_3_method_1_code
def yX1_init : MethodName := ⟨RX1, "<init>", "()V"⟩
abbrev cX1_become : ByteArray := prog_3_method_2_code
def yX1_become : MethodName := ⟨RX1, "become", "(LAidRegister$Declarations;)V"⟩
abbrev cX1_isFull : ByteArray := prog_3_method_3_code
def yX1_isFull : MethodName := ⟨RX1, "isFull", "()Z"⟩
abbrev cX1_add : ByteArray := prog_3_method_4_code
def yX1_add : MethodName := ⟨RX1, "add", "(III)I"⟩
abbrev cX1_cutFrom : ByteArray := prog_3_method_5_code
def yX1_cutFrom : MethodName := ⟨RX1, "cutFrom", "(II)V"⟩
abbrev cX1_daysOf : ByteArray := prog_3_method_6_code
def yX1_daysOf : MethodName := ⟨RX1, "daysOf", "(I)I"⟩
abbrev cX1_isOn : ByteArray := prog_3_method_7_code
def yX1_isOn : MethodName := ⟨RX1, "isOn", "(III)Z"⟩
abbrev cX1_covers : ByteArray := prog_3_method_8_code
def yX1_covers : MethodName := ⟨RX1, "covers", "(II)Z"⟩
abbrev cX1_openFrom : ByteArray := prog_3_method_9_code
def yX1_openFrom : MethodName := ⟨RX1, "openFrom", "(III)I"⟩
abbrev cX1_coveredFrom : ByteArray := prog_3_method_10_code
def yX1_coveredFrom : MethodName := ⟨RX1, "coveredFrom", "(II)I"⟩
abbrev cX1_coveredWithin : ByteArray := prog_3_method_11_code
def yX1_coveredWithin : MethodName := ⟨RX1, "coveredWithin", "(III)I"⟩
abbrev cX1_endOfGap : ByteArray := prog_3_method_12_code
def yX1_endOfGap : MethodName := ⟨RX1, "endOfGap", "(IIZ)I"⟩
abbrev cX1_longestRun : ByteArray := prog_3_method_13_code
def yX1_longestRun : MethodName := ⟨RX1, "longestRun", "(I)I"⟩
abbrev cX1_countNeedless : ByteArray := prog_3_method_14_code
def yX1_countNeedless : MethodName := ⟨RX1, "countNeedless", "(I)I"⟩
def RX2 : String := "AidRegister$Drawing"
def TX2 : u_T := fun k => match k with
  | 0 => ("AidRegister$Drawing", "drawn", "[I", true)
  | 1 => ("AidRegister$Drawing", "drawnCount", "I", false)
  | 2 => ("AidRegister$Drawing", "pool", "[I", true)
  | _ => ("AidRegister$Drawing", "poolCount", "I", false)
def tyX2 : Nat → FieldType := fun k => match k with
  | 0 => .array .int
  | 1 => .int
  | 2 => .array .int
  | _ => .int
theorem nmX2 : ∀ a, a < 4 → ∀ b, b < 4 → a ≠ b → (TX2 a).2.1 ≠ (TX2 b).2.1 := by decide +kernel
theorem tyX2_ok : ∀ k, k < 4 → parseFieldDescriptor (TX2 k).2.2.1 = some (tyX2 k) := by decide +kernel
abbrev cX2_init : ByteArray := prog_4_method_1_code
def yX2_init : MethodName := ⟨RX2, "<init>", "()V"⟩
abbrev cX2_draw : ByteArray := prog_4_method_2_code
def yX2_draw : MethodName := ⟨RX2, "draw", "(LAidRegister$Gifts;II)V"⟩
abbrev cX2_fillPool : ByteArray := prog_4_method_3_code
def yX2_fillPool : MethodName := ⟨RX2, "fillPool", "(LAidRegister$Gifts;)V"⟩
abbrev cX2_dropFromPool : ByteArray := prog_4_method_4_code
def yX2_dropFromPool : MethodName := ⟨RX2, "dropFromPool", "(I)V"⟩
def RX3 : String := "AidRegister$Gifts"
def TX3 : u_T := fun k => match k with
  | 0 => ("AidRegister$Gifts", "count", "I", false)
  | 1 => ("AidRegister$Gifts", "days", "[I", true)
  | 2 => ("AidRegister$Gifts", "amounts", "[I", true)
  | 3 => ("AidRegister$Gifts", "benefits", "[I", true)
  | 4 => ("AidRegister$Gifts", "refunds", "[I", true)
  | 5 => ("AidRegister$Gifts", "partCounts", "[I", true)
  | 6 => ("AidRegister$Gifts", "byDay", "[I", true)
  | 7 => ("AidRegister$Gifts", "partDonors", "[I", true)
  | 8 => ("AidRegister$Gifts", "partWeights", "[I", true)
  | 9 => ("AidRegister$Gifts", "partAmounts", "[I", true)
  | 10 => ("AidRegister$Gifts", "partRefunds", "[I", true)
  | _ => ("AidRegister$Gifts", "partClaims", "[I", true)
def tyX3 : Nat → FieldType := fun k => match k with
  | 0 => .int
  | 1 => .array .int
  | 2 => .array .int
  | 3 => .array .int
  | 4 => .array .int
  | 5 => .array .int
  | 6 => .array .int
  | 7 => .array .int
  | 8 => .array .int
  | 9 => .array .int
  | 10 => .array .int
  | _ => .array .int
theorem nmX3 : ∀ a, a < 12 → ∀ b, b < 12 → a ≠ b → (TX3 a).2.1 ≠ (TX3 b).2.1 := by decide +kernel
theorem tyX3_ok : ∀ k, k < 12 → parseFieldDescriptor (TX3 k).2.2.1 = some (tyX3 k) := by decide +kernel
abbrev cX3_init : ByteArray := prog_5_method_1_code
def yX3_init : MethodName := ⟨RX3, "<init>", "()V"⟩
abbrev cX3_become : ByteArray := prog_5_method_2_code
def yX3_become : MethodName := ⟨RX3, "become", "(LAidRegister$Gifts;)V"⟩
abbrev cX3_isFull : ByteArray := prog_5_method_3_code
def yX3_isFull : MethodName := ⟨RX3, "isFull", "()Z"⟩
abbrev cX3_add : ByteArray := prog_5_method_4_code
def yX3_add : MethodName := ⟨RX3, "add", "(III)I"⟩
abbrev cX3_addPart : ByteArray := prog_5_method_5_code
def yX3_addPart : MethodName := ⟨RX3, "addPart", "(III)V"⟩
abbrev cX3_shareOut : ByteArray := prog_5_method_6_code
def yX3_shareOut : MethodName := ⟨RX3, "shareOut", "(I)V"⟩
abbrev cX3_divide : ByteArray := prog_5_method_7_code
def yX3_divide : MethodName := ⟨RX3, "divide", "(IIII)V"⟩
abbrev cX3_takeBack : ByteArray := prog_5_method_8_code
def yX3_takeBack : MethodName := ⟨RX3, "takeBack", "(II)V"⟩
abbrev cX3_isWhole : ByteArray := prog_5_method_9_code
def yX3_isWhole : MethodName := ⟨RX3, "isWhole", "(I)Z"⟩
abbrev cX3_isAllOf : ByteArray := prog_5_method_10_code
def yX3_isAllOf : MethodName := ⟨RX3, "isAllOf", "(II)Z"⟩
abbrev cX3_hasDonor : ByteArray := prog_5_method_11_code
def yX3_hasDonor : MethodName := ⟨RX3, "hasDonor", "(II)Z"⟩
abbrev cX3_slotCount : ByteArray := prog_5_method_12_code
def yX3_slotCount : MethodName := ⟨RX3, "slotCount", "()I"⟩
abbrev cX3_isPart : ByteArray := prog_5_method_13_code
def yX3_isPart : MethodName := ⟨RX3, "isPart", "(I)Z"⟩
abbrev cX3_isPartOf : ByteArray := prog_5_method_14_code
def yX3_isPartOf : MethodName := ⟨RX3, "isPartOf", "(II)Z"⟩
abbrev cX3_dayOfPart : ByteArray := prog_5_method_15_code
def yX3_dayOfPart : MethodName := ⟨RX3, "dayOfPart", "(I)I"⟩
abbrev cX3_yearOf : ByteArray := prog_5_method_16_code
def yX3_yearOf : MethodName := ⟨RX3, "yearOf", "(I)I"⟩
abbrev cX3_leftOf : ByteArray := prog_5_method_17_code
def yX3_leftOf : MethodName := ⟨RX3, "leftOf", "(I)I"⟩
abbrev cX3_leftOfPart : ByteArray := prog_5_method_18_code
def yX3_leftOfPart : MethodName := ⟨RX3, "leftOfPart", "(I)I"⟩
abbrev cX3_leftOfAll : ByteArray := prog_5_method_19_code
def yX3_leftOfAll : MethodName := ⟨RX3, "leftOfAll", "()I"⟩
abbrev cX3_countLeft : ByteArray := prog_5_method_20_code
def yX3_countLeft : MethodName := ⟨RX3, "countLeft", "()I"⟩
abbrev cX3_countWithoutParts : ByteArray := prog_5_method_21_code
def yX3_countWithoutParts : MethodName := ⟨RX3, "countWithoutParts", "()I"⟩
def RX4 : String := "AidRegister$Ledger"
def TX4 : u_T := fun k => match k with
  | 0 => ("AidRegister$Ledger", "rate", "I", false)
  | 1 => ("AidRegister$Ledger", "window", "I", false)
  | 2 => ("AidRegister$Ledger", "benefitLimit", "I", false)
  | 3 => ("AidRegister$Ledger", "donorCount", "I", false)
  | 4 => ("AidRegister$Ledger", "taxLimits", "[I", true)
  | 5 => ("AidRegister$Ledger", "declarations", "LAidRegister$Declarations;", true)
  | 6 => ("AidRegister$Ledger", "gifts", "LAidRegister$Gifts;", true)
  | 7 => ("AidRegister$Ledger", "claims", "LAidRegister$Claims;", true)
  | 8 => ("AidRegister$Ledger", "openWishes", "[I", true)
  | 9 => ("AidRegister$Ledger", "wishes", "[I", true)
  | 10 => ("AidRegister$Ledger", "aids", "[I", true)
  | _ => ("AidRegister$Ledger", "usedOfLimits", "[I", true)
def tyX4 : Nat → FieldType := fun k => match k with
  | 0 => .int
  | 1 => .int
  | 2 => .int
  | 3 => .int
  | 4 => .array .int
  | 5 => .object "AidRegister$Declarations"
  | 6 => .object "AidRegister$Gifts"
  | 7 => .object "AidRegister$Claims"
  | 8 => .array .int
  | 9 => .array .int
  | 10 => .array .int
  | _ => .array .int
theorem nmX4 : ∀ a, a < 12 → ∀ b, b < 12 → a ≠ b → (TX4 a).2.1 ≠ (TX4 b).2.1 := by decide +kernel
theorem tyX4_ok : ∀ k, k < 12 → parseFieldDescriptor (TX4 k).2.2.1 = some (tyX4 k) := by decide +kernel
abbrev cX4_init : ByteArray := prog_6_method_1_code
def yX4_init : MethodName := ⟨RX4, "<init>", "()V"⟩
abbrev cX4_become : ByteArray := prog_6_method_2_code
def yX4_become : MethodName := ⟨RX4, "become", "(LAidRegister$Ledger;)V"⟩
abbrev cX4_clear : ByteArray := prog_6_method_3_code
def yX4_clear : MethodName := ⟨RX4, "clear", "()V"⟩
abbrev cX4_addDonor : ByteArray := prog_6_method_4_code
def yX4_addDonor : MethodName := ⟨RX4, "addDonor", "(I)V"⟩
abbrev cX4_settle : ByteArray := prog_6_method_5_code
def yX4_settle : MethodName := ⟨RX4, "settle", "()V"⟩
abbrev cX4_settlePart : ByteArray := prog_6_method_6_code
def yX4_settlePart : MethodName := ⟨RX4, "settlePart", "(II)V"⟩
abbrev cX4_fullAid : ByteArray := prog_6_method_7_code
def yX4_fullAid : MethodName := ⟨RX4, "fullAid", "(I)I"⟩
abbrev cX4_isSpoilt : ByteArray := prog_6_method_8_code
def yX4_isSpoilt : MethodName := ⟨RX4, "isSpoilt", "(I)Z"⟩
abbrev cX4_countSpoilt : ByteArray := prog_6_method_9_code
def yX4_countSpoilt : MethodName := ⟨RX4, "countSpoilt", "()I"⟩
abbrev cX4_measure : ByteArray := prog_6_method_10_code
def yX4_measure : MethodName := ⟨RX4, "measure", "(II)I"⟩
abbrev cX4_sumOfGift : ByteArray := prog_6_method_11_code
def yX4_sumOfGift : MethodName := ⟨RX4, "sumOfGift", "(II)I"⟩
abbrev cX4_sumOfAll : ByteArray := prog_6_method_12_code
def yX4_sumOfAll : MethodName := ⟨RX4, "sumOfAll", "(I)I"⟩
abbrev cX4_sumOfDonor : ByteArray := prog_6_method_13_code
def yX4_sumOfDonor : MethodName := ⟨RX4, "sumOfDonor", "(III)I"⟩
abbrev cX4_reasonOf : ByteArray := prog_6_method_14_code
def yX4_reasonOf : MethodName := ⟨RX4, "reasonOf", "(I)I"⟩
abbrev cX4_lostBy : ByteArray := prog_6_method_15_code
def yX4_lostBy : MethodName := ⟨RX4, "lostBy", "(I)I"⟩
abbrev cX4_differenceOn : ByteArray := prog_6_method_16_code
def yX4_differenceOn : MethodName := ⟨RX4, "differenceOn", "(II)I"⟩
abbrev cX4_makeClaim : ByteArray := prog_6_method_17_code
def yX4_makeClaim : MethodName := ⟨RX4, "makeClaim", "(I)I"⟩
abbrev cX4_forecast : ByteArray := prog_6_method_18_code
def yX4_forecast : MethodName := ⟨RX4, "forecast", "(IZ)I"⟩
abbrev cX4_tooMuch : ByteArray := prog_6_method_19_code
def yX4_tooMuch : MethodName := ⟨RX4, "tooMuch", "(I)I"⟩
abbrev cX4_unclaimed : ByteArray := prog_6_method_20_code
def yX4_unclaimed : MethodName := ⟨RX4, "unclaimed", "(I)I"⟩
abbrev cX4_unclaimedOfGift : ByteArray := prog_6_method_21_code
def yX4_unclaimedOfGift : MethodName := ⟨RX4, "unclaimedOfGift", "(I)I"⟩
abbrev cX4_urgentGift : ByteArray := prog_6_method_22_code
def yX4_urgentGift : MethodName := ⟨RX4, "urgentGift", "()I"⟩
abbrev cX4_openUntil : ByteArray := prog_6_method_23_code
def yX4_openUntil : MethodName := ⟨RX4, "openUntil", "(II)I"⟩
abbrev cX4_countLimitedYears : ByteArray := prog_6_method_24_code
def yX4_countLimitedYears : MethodName := ⟨RX4, "countLimitedYears", "(I)I"⟩
abbrev cX4_isLimited : ByteArray := prog_6_method_25_code
def yX4_isLimited : MethodName := ⟨RX4, "isLimited", "(II)Z"⟩
abbrev cX4_yearOfMostAid : ByteArray := prog_6_method_26_code
def yX4_yearOfMostAid : MethodName := ⟨RX4, "yearOfMostAid", "()I"⟩
abbrev cX4_growthWith : ByteArray := prog_6_method_27_code
def yX4_growthWith : MethodName := ⟨RX4, "growthWith", "(III)I"⟩
abbrev cX4_aidWith : ByteArray := prog_6_method_28_code
def yX4_aidWith : MethodName := ⟨RX4, "aidWith", "(III)I"⟩
abbrev cX4_wishOf : ByteArray := prog_6_method_29_code
def yX4_wishOf : MethodName := ⟨RX4, "wishOf", "(IIZ)I"⟩
abbrev cX4_endOfNeed : ByteArray := prog_6_method_30_code
def yX4_endOfNeed : MethodName := ⟨RX4, "endOfNeed", "(IZ)I"⟩
def RX5 : String := "AidRegister$Printout"
def TX5 : u_T := fun k => match k with
  | 0 => ("AidRegister$Printout", "bytes", "[B", true)
  | _ => ("AidRegister$Printout", "length", "I", false)
def tyX5 : Nat → FieldType := fun k => match k with
  | 0 => .array .byte
  | _ => .int
theorem nmX5 : ∀ a, a < 2 → ∀ b, b < 2 → a ≠ b → (TX5 a).2.1 ≠ (TX5 b).2.1 := by decide +kernel
theorem tyX5_ok : ∀ k, k < 2 → parseFieldDescriptor (TX5 k).2.2.1 = some (tyX5 k) := by decide +kernel
abbrev cX5_init : ByteArray := prog_7_method_1_code
def yX5_init : MethodName := ⟨RX5, "<init>", "()V"⟩
abbrev cX5_clear : ByteArray := prog_7_method_2_code
def yX5_clear : MethodName := ⟨RX5, "clear", "()V"⟩
abbrev cX5_putByte : ByteArray := prog_7_method_3_code
def yX5_putByte : MethodName := ⟨RX5, "putByte", "(I)V"⟩
abbrev cX5_putNumber : ByteArray := prog_7_method_4_code
def yX5_putNumber : MethodName := ⟨RX5, "putNumber", "(I)V"⟩
def RX6 : String := "AidRegister$SetupReader"
def TX6 : u_T := fun k => match k with
  | 0 => ("AidRegister$SetupReader", "error", "I", false)
  | 1 => ("AidRegister$SetupReader", "errorPlace", "I", false)
  | 2 => ("AidRegister$SetupReader", "text", "[B", true)
  | 3 => ("AidRegister$SetupReader", "target", "LAidRegister$Ledger;", true)
  | 4 => ("AidRegister$SetupReader", "length", "I", false)
  | 5 => ("AidRegister$SetupReader", "start", "I", false)
  | 6 => ("AidRegister$SetupReader", "at", "I", false)
  | 7 => ("AidRegister$SetupReader", "kind", "I", false)
  | 8 => ("AidRegister$SetupReader", "word", "J", false)
  | 9 => ("AidRegister$SetupReader", "rulesTold", "Z", false)
  | _ => ("AidRegister$SetupReader", "names", "[J", true)
def tyX6 : Nat → FieldType := fun k => match k with
  | 0 => .int
  | 1 => .int
  | 2 => .array .byte
  | 3 => .object "AidRegister$Ledger"
  | 4 => .int
  | 5 => .int
  | 6 => .int
  | 7 => .int
  | 8 => .long
  | 9 => .boolean
  | _ => .array .long
theorem nmX6 : ∀ a, a < 11 → ∀ b, b < 11 → a ≠ b → (TX6 a).2.1 ≠ (TX6 b).2.1 := by decide +kernel
theorem tyX6_ok : ∀ k, k < 11 → parseFieldDescriptor (TX6 k).2.2.1 = some (tyX6 k) := by decide +kernel
abbrev cX6_init : ByteArray := prog_8_method_1_code
def yX6_init : MethodName := ⟨RX6, "<init>", "([BLAidRegister$Ledger;)V"⟩
abbrev cX6_readAll : ByteArray := prog_8_method_2_code
def yX6_readAll : MethodName := ⟨RX6, "readAll", "(I)V"⟩
abbrev cX6_readDonor : ByteArray := prog_8_method_3_code
def yX6_readDonor : MethodName := ⟨RX6, "readDonor", "()V"⟩
abbrev cX6_readDeclaration : ByteArray := prog_8_method_4_code
def yX6_readDeclaration : MethodName := ⟨RX6, "readDeclaration", "()V"⟩
abbrev cX6_readGift : ByteArray := prog_8_method_5_code
def yX6_readGift : MethodName := ⟨RX6, "readGift", "()V"⟩
abbrev cX6_readSplit : ByteArray := prog_8_method_6_code
def yX6_readSplit : MethodName := ⟨RX6, "readSplit", "()V"⟩
abbrev cX6_readGiftHead : ByteArray := prog_8_method_7_code
def yX6_readGiftHead : MethodName := ⟨RX6, "readGiftHead", "()I"⟩
abbrev cX6_readShare : ByteArray := prog_8_method_8_code
def yX6_readShare : MethodName := ⟨RX6, "readShare", "(I)V"⟩
abbrev cX6_readRules : ByteArray := prog_8_method_9_code
def yX6_readRules : MethodName := ⟨RX6, "readRules", "()V"⟩
abbrev cX6_readNumber : ByteArray := prog_8_method_10_code
def yX6_readNumber : MethodName := ⟨RX6, "readNumber", "(II)I"⟩
abbrev cX6_readSemicolon : ByteArray := prog_8_method_11_code
def yX6_readSemicolon : MethodName := ⟨RX6, "readSemicolon", "()V"⟩
abbrev cX6_knownDonor : ByteArray := prog_8_method_12_code
def yX6_knownDonor : MethodName := ⟨RX6, "knownDonor", "()I"⟩
abbrev cX6_namedDonor : ByteArray := prog_8_method_13_code
def yX6_namedDonor : MethodName := ⟨RX6, "namedDonor", "()I"⟩
abbrev cX6_isFirstWord : ByteArray := prog_8_method_14_code
def yX6_isFirstWord : MethodName := ⟨RX6, "isFirstWord", "()Z"⟩
abbrev cX6_advance : ByteArray := prog_8_method_15_code
def yX6_advance : MethodName := ⟨RX6, "advance", "()V"⟩
abbrev cX6_kindAt : ByteArray := prog_8_method_16_code
def yX6_kindAt : MethodName := ⟨RX6, "kindAt", "(I)I"⟩
abbrev cX6_packedWord : ByteArray := prog_8_method_17_code
def yX6_packedWord : MethodName := ⟨RX6, "packedWord", "()J"⟩
abbrev cX6_fail : ByteArray := prog_8_method_18_code
def yX6_fail : MethodName := ⟨RX6, "fail", "(I)V"⟩
def RX7 : String := "AidRegister"
def TX7 : u_T := fun k => match k with
  | 0 => ("AidRegister", "input", "[B", true)
  | 1 => ("AidRegister", "inputLength", "I", false)
  | 2 => ("AidRegister", "error", "I", false)
  | 3 => ("AidRegister", "errorPlace", "I", false)
  | 4 => ("AidRegister", "now", "LAidRegister$Ledger;", true)
  | 5 => ("AidRegister", "trial", "LAidRegister$Ledger;", true)
  | 6 => ("AidRegister", "saved", "LAidRegister$Ledger;", true)
  | 7 => ("AidRegister", "isSaved", "Z", false)
  | 8 => ("AidRegister", "past", "[LAidRegister$Ledger;", true)
  | 9 => ("AidRegister", "pastPlace", "I", false)
  | 10 => ("AidRegister", "pastCount", "I", false)
  | 11 => ("AidRegister", "reader", "LAidRegister$SetupReader;", true)
  | 12 => ("AidRegister", "drawing", "LAidRegister$Drawing;", true)
  | _ => ("AidRegister", "output", "LAidRegister$Printout;", true)
def tyX7 : Nat → FieldType := fun k => match k with
  | 0 => .array .byte
  | 1 => .int
  | 2 => .int
  | 3 => .int
  | 4 => .object "AidRegister$Ledger"
  | 5 => .object "AidRegister$Ledger"
  | 6 => .object "AidRegister$Ledger"
  | 7 => .boolean
  | 8 => .array (.object "AidRegister$Ledger")
  | 9 => .int
  | 10 => .int
  | 11 => .object "AidRegister$SetupReader"
  | 12 => .object "AidRegister$Drawing"
  | _ => .object "AidRegister$Printout"
theorem nmX7 : ∀ a, a < 14 → ∀ b, b < 14 → a ≠ b → (TX7 a).2.1 ≠ (TX7 b).2.1 := by decide +kernel
theorem tyX7_ok : ∀ k, k < 14 → parseFieldDescriptor (TX7 k).2.2.1 = some (tyX7 k) := by decide +kernel
abbrev cX7_init : ByteArray := prog_1_method_1_code
def yX7_init : MethodName := ⟨RX7, "<init>", "()V"⟩
abbrev cX7_appendInput : ByteArray := prog_1_method_2_code
def yX7_appendInput : MethodName := ⟨RX7, "appendInput", "(IIIII)I"⟩
abbrev cX7_appendBytes : ByteArray := prog_1_method_3_code
def yX7_appendBytes : MethodName := ⟨RX7, "appendBytes", "(I)V"⟩
abbrev cX7_truncateInput : ByteArray := prog_1_method_4_code
def yX7_truncateInput : MethodName := ⟨RX7, "truncateInput", "(I)Z"⟩
abbrev cX7_loadRegister : ByteArray := prog_1_method_5_code
def yX7_loadRegister : MethodName := ⟨RX7, "loadRegister", "()I"⟩
abbrev cX7_errorCode : ByteArray := prog_1_method_6_code
def yX7_errorCode : MethodName := ⟨RX7, "errorCode", "()I"⟩
abbrev cX7_errorOffset : ByteArray := prog_1_method_7_code
def yX7_errorOffset : MethodName := ⟨RX7, "errorOffset", "()I"⟩
abbrev cX7_count : ByteArray := prog_1_method_8_code
def yX7_count : MethodName := ⟨RX7, "count", "(I)I"⟩
abbrev cX7_declaration : ByteArray := prog_1_method_9_code
def yX7_declaration : MethodName := ⟨RX7, "declaration", "(II)I"⟩
abbrev cX7_gift : ByteArray := prog_1_method_10_code
def yX7_gift : MethodName := ⟨RX7, "gift", "(II)I"⟩
abbrev cX7_part : ByteArray := prog_1_method_11_code
def yX7_part : MethodName := ⟨RX7, "part", "(III)I"⟩
abbrev cX7_reason : ByteArray := prog_1_method_12_code
def yX7_reason : MethodName := ⟨RX7, "reason", "(II)I"⟩
abbrev cX7_donor : ByteArray := prog_1_method_13_code
def yX7_donor : MethodName := ⟨RX7, "donor", "(III)I"⟩
abbrev cX7_taxLimit : ByteArray := prog_1_method_14_code
def yX7_taxLimit : MethodName := ⟨RX7, "taxLimit", "(I)I"⟩
abbrev cX7_isDeclared : ByteArray := prog_1_method_15_code
def yX7_isDeclared : MethodName := ⟨RX7, "isDeclared", "(II)Z"⟩
abbrev cX7_coverage : ByteArray := prog_1_method_16_code
def yX7_coverage : MethodName := ⟨RX7, "coverage", "(III)I"⟩
abbrev cX7_gap : ByteArray := prog_1_method_17_code
def yX7_gap : MethodName := ⟨RX7, "gap", "(IIZ)I"⟩
abbrev cX7_needless : ByteArray := prog_1_method_18_code
def yX7_needless : MethodName := ⟨RX7, "needless", "(I)I"⟩
abbrev cX7_declare : ByteArray := prog_1_method_19_code
def yX7_declare : MethodName := ⟨RX7, "declare", "(III)I"⟩
abbrev cX7_revoke : ByteArray := prog_1_method_20_code
def yX7_revoke : MethodName := ⟨RX7, "revoke", "(II)I"⟩
abbrev cX7_addGift : ByteArray := prog_1_method_21_code
def yX7_addGift : MethodName := ⟨RX7, "addGift", "(IIII)I"⟩
abbrev cX7_split : ByteArray := prog_1_method_22_code
def yX7_split : MethodName := ⟨RX7, "split", "(IIII)I"⟩
abbrev cX7_refund : ByteArray := prog_1_method_23_code
def yX7_refund : MethodName := ⟨RX7, "refund", "(II)I"⟩
abbrev cX7_setTaxLimit : ByteArray := prog_1_method_24_code
def yX7_setTaxLimit : MethodName := ⟨RX7, "setTaxLimit", "(II)I"⟩
abbrev cX7_setRate : ByteArray := prog_1_method_25_code
def yX7_setRate : MethodName := ⟨RX7, "setRate", "(I)I"⟩
abbrev cX7_claim : ByteArray := prog_1_method_26_code
def yX7_claim : MethodName := ⟨RX7, "claim", "(I)I"⟩
abbrev cX7_claimed : ByteArray := prog_1_method_27_code
def yX7_claimed : MethodName := ⟨RX7, "claimed", "(II)I"⟩
abbrev cX7_claimable : ByteArray := prog_1_method_28_code
def yX7_claimable : MethodName := ⟨RX7, "claimable", "(IZ)I"⟩
abbrev cX7_overclaimed : ByteArray := prog_1_method_29_code
def yX7_overclaimed : MethodName := ⟨RX7, "overclaimed", "()I"⟩
abbrev cX7_totalAid : ByteArray := prog_1_method_30_code
def yX7_totalAid : MethodName := ⟨RX7, "totalAid", "()I"⟩
abbrev cX7_lost : ByteArray := prog_1_method_31_code
def yX7_lost : MethodName := ⟨RX7, "lost", "(I)I"⟩
abbrev cX7_mostUrgent : ByteArray := prog_1_method_32_code
def yX7_mostUrgent : MethodName := ⟨RX7, "mostUrgent", "()I"⟩
abbrev cX7_limitedYears : ByteArray := prog_1_method_33_code
def yX7_limitedYears : MethodName := ⟨RX7, "limitedYears", "(I)I"⟩
abbrev cX7_expiring : ByteArray := prog_1_method_34_code
def yX7_expiring : MethodName := ⟨RX7, "expiring", "(II)I"⟩
abbrev cX7_useOf : ByteArray := prog_1_method_35_code
def yX7_useOf : MethodName := ⟨RX7, "useOf", "(I)I"⟩
abbrev cX7_benefitRoom : ByteArray := prog_1_method_36_code
def yX7_benefitRoom : MethodName := ⟨RX7, "benefitRoom", "(I)I"⟩
abbrev cX7_topDonor : ByteArray := prog_1_method_37_code
def yX7_topDonor : MethodName := ⟨RX7, "topDonor", "(I)I"⟩
abbrev cX7_bestYear : ByteArray := prog_1_method_38_code
def yX7_bestYear : MethodName := ⟨RX7, "bestYear", "()I"⟩
abbrev cX7_longestSpan : ByteArray := prog_1_method_39_code
def yX7_longestSpan : MethodName := ⟨RX7, "longestSpan", "(I)I"⟩
abbrev cX7_gainOf : ByteArray := prog_1_method_40_code
def yX7_gainOf : MethodName := ⟨RX7, "gainOf", "(III)I"⟩
abbrev cX7_bestAsked : ByteArray := prog_1_method_41_code
def yX7_bestAsked : MethodName := ⟨RX7, "bestAsked", "()I"⟩
abbrev cX7_neededSpan : ByteArray := prog_1_method_42_code
def yX7_neededSpan : MethodName := ⟨RX7, "neededSpan", "(IZ)I"⟩
abbrev cX7_gainOfSplit : ByteArray := prog_1_method_43_code
def yX7_gainOfSplit : MethodName := ⟨RX7, "gainOfSplit", "(II)I"⟩
abbrev cX7_sample : ByteArray := prog_1_method_44_code
def yX7_sample : MethodName := ⟨RX7, "sample", "(III)I"⟩
abbrev cX7_wrongIn : ByteArray := prog_1_method_45_code
def yX7_wrongIn : MethodName := ⟨RX7, "wrongIn", "(II)I"⟩
abbrev cX7_estimate : ByteArray := prog_1_method_46_code
def yX7_estimate : MethodName := ⟨RX7, "estimate", "(II)D"⟩
abbrev cX7_aidShare : ByteArray := prog_1_method_47_code
def yX7_aidShare : MethodName := ⟨RX7, "aidShare", "()F"⟩
abbrev cX7_meanGift : ByteArray := prog_1_method_48_code
def yX7_meanGift : MethodName := ⟨RX7, "meanGift", "()D"⟩
abbrev cX7_printStatement : ByteArray := prog_1_method_49_code
def yX7_printStatement : MethodName := ⟨RX7, "printStatement", "(I)I"⟩
abbrev cX7_outputByte : ByteArray := prog_1_method_50_code
def yX7_outputByte : MethodName := ⟨RX7, "outputByte", "(I)I"⟩
abbrev cX7_undo : ByteArray := prog_1_method_51_code
def yX7_undo : MethodName := ⟨RX7, "undo", "()I"⟩
abbrev cX7_saveState : ByteArray := prog_1_method_52_code
def yX7_saveState : MethodName := ⟨RX7, "saveState", "()I"⟩
abbrev cX7_restoreState : ByteArray := prog_1_method_53_code
def yX7_restoreState : MethodName := ⟨RX7, "restoreState", "()I"⟩
abbrev cX7_remember : ByteArray := prog_1_method_54_code
def yX7_remember : MethodName := ⟨RX7, "remember", "()V"⟩
abbrev cX7_needDonor : ByteArray := prog_1_method_55_code
def yX7_needDonor : MethodName := ⟨RX7, "needDonor", "(I)V"⟩
abbrev cX7_needDeclaration : ByteArray := prog_1_method_56_code
def yX7_needDeclaration : MethodName := ⟨RX7, "needDeclaration", "(I)V"⟩
abbrev cX7_needGift : ByteArray := prog_1_method_57_code
def yX7_needGift : MethodName := ⟨RX7, "needGift", "(I)V"⟩
abbrev cX7_needPart : ByteArray := prog_1_method_58_code
def yX7_needPart : MethodName := ⟨RX7, "needPart", "(II)V"⟩
abbrev cX7_needSpan : ByteArray := prog_1_method_59_code
def yX7_needSpan : MethodName := ⟨RX7, "needSpan", "(II)V"⟩
abbrev cX7_needRange : ByteArray := prog_1_method_60_code
def yX7_needRange : MethodName := ⟨RX7, "needRange", "(III)V"⟩
abbrev cX7_copyRow : ByteArray := prog_1_method_61_code
def yX7_copyRow : MethodName := ⟨RX7, "copyRow", "([I[I)V"⟩
def RX8 : String := "AidRegisterModel"
def TX8 : u_T := fun k => match k with
  | 0 => ("AidRegisterModel", "w", "[I", true)
  | 1 => ("AidRegisterModel", "wKept", "[I", true)
  | 2 => ("AidRegisterModel", "savedRow", "[I", true)
  | 3 => ("AidRegisterModel", "aside", "[I", true)
  | 4 => ("AidRegisterModel", "past", "[I", true)
  | 5 => ("AidRegisterModel", "pastMany", "I", false)
  | 6 => ("AidRegisterModel", "isSaved", "Z", false)
  | 7 => ("AidRegisterModel", "names", "[I", true)
  | 8 => ("AidRegisterModel", "namesKept", "[I", true)
  | 9 => ("AidRegisterModel", "thrown", "I", false)
  | 10 => ("AidRegisterModel", "order", "[I", true)
  | 11 => ("AidRegisterModel", "had", "[I", true)
  | 12 => ("AidRegisterModel", "aid", "[I", true)
  | 13 => ("AidRegisterModel", "wish", "[I", true)
  | 14 => ("AidRegisterModel", "input", "[I", true)
  | 15 => ("AidRegisterModel", "inputMany", "I", false)
  | 16 => ("AidRegisterModel", "lastError", "I", false)
  | 17 => ("AidRegisterModel", "lastOffset", "I", false)
  | 18 => ("AidRegisterModel", "error", "I", false)
  | 19 => ("AidRegisterModel", "offset", "I", false)
  | 20 => ("AidRegisterModel", "nextByte", "I", false)
  | 21 => ("AidRegisterModel", "begin", "I", false)
  | 22 => ("AidRegisterModel", "value", "I", false)
  | 23 => ("AidRegisterModel", "token", "I", false)
  | 24 => ("AidRegisterModel", "hasRules", "Z", false)
  | 25 => ("AidRegisterModel", "weights", "[I", true)
  | 26 => ("AidRegisterModel", "open", "[I", true)
  | 27 => ("AidRegisterModel", "openMany", "I", false)
  | 28 => ("AidRegisterModel", "drawn", "[I", true)
  | 29 => ("AidRegisterModel", "drawnMany", "I", false)
  | 30 => ("AidRegisterModel", "output", "[I", true)
  | _ => ("AidRegisterModel", "outputMany", "I", false)
def tyX8 : Nat → FieldType := fun k => match k with
  | 0 => .array .int
  | 1 => .array .int
  | 2 => .array .int
  | 3 => .array .int
  | 4 => .array .int
  | 5 => .int
  | 6 => .boolean
  | 7 => .array .int
  | 8 => .array .int
  | 9 => .int
  | 10 => .array .int
  | 11 => .array .int
  | 12 => .array .int
  | 13 => .array .int
  | 14 => .array .int
  | 15 => .int
  | 16 => .int
  | 17 => .int
  | 18 => .int
  | 19 => .int
  | 20 => .int
  | 21 => .int
  | 22 => .int
  | 23 => .int
  | 24 => .boolean
  | 25 => .array .int
  | 26 => .array .int
  | 27 => .int
  | 28 => .array .int
  | 29 => .int
  | 30 => .array .int
  | _ => .int
theorem nmX8 : ∀ a, a < 32 → ∀ b, b < 32 → a ≠ b → (TX8 a).2.1 ≠ (TX8 b).2.1 := by decide +kernel
theorem tyX8_ok : ∀ k, k < 32 → parseFieldDescriptor (TX8 k).2.2.1 = some (tyX8 k) := by decide +kernel
abbrev cX8_init : ByteArray := prog_10_method_1_code
def yX8_init : MethodName := ⟨RX8, "<init>", "()V"⟩
abbrev cX8_thrown : ByteArray := prog_10_method_2_code
def yX8_thrown : MethodName := ⟨RX8, "thrown", "()I"⟩
abbrev cX8_inRange : ByteArray := prog_10_method_3_code
def yX8_inRange : MethodName := ⟨RX8, "inRange", "(III)Z"⟩
abbrev cX8_fails : ByteArray := prog_10_method_4_code
def yX8_fails : MethodName := ⟨RX8, "fails", "(ZI)Z"⟩
abbrev cX8_copies : ByteArray := prog_10_method_5_code
def yX8_copies : MethodName := ⟨RX8, "copies", "([II[III)V"⟩
abbrev cX8_clear : ByteArray := prog_10_method_6_code
def yX8_clear : MethodName := ⟨RX8, "clear", "()V"⟩
abbrev cX8_remembers : ByteArray := prog_10_method_7_code
def yX8_remembers : MethodName := ⟨RX8, "remembers", "()V"⟩
abbrev cX8_partOf : ByteArray := prog_10_method_8_code
def yX8_partOf : MethodName := ⟨RX8, "partOf", "(II)I"⟩
abbrev cX8_giftOf : ByteArray := prog_10_method_9_code
def yX8_giftOf : MethodName := ⟨RX8, "giftOf", "(I)I"⟩
abbrev cX8_isPart : ByteArray := prog_10_method_10_code
def yX8_isPart : MethodName := ⟨RX8, "isPart", "(I)Z"⟩
abbrev cX8_leftOf : ByteArray := prog_10_method_11_code
def yX8_leftOf : MethodName := ⟨RX8, "leftOf", "(I)I"⟩
abbrev cX8_leftOfGift : ByteArray := prog_10_method_12_code
def yX8_leftOfGift : MethodName := ⟨RX8, "leftOfGift", "(I)I"⟩
abbrev cX8_isSpoilt : ByteArray := prog_10_method_13_code
def yX8_isSpoilt : MethodName := ⟨RX8, "isSpoilt", "(I)Z"⟩
abbrev cX8_isForced : ByteArray := prog_10_method_14_code
def yX8_isForced : MethodName := ⟨RX8, "isForced", "(II)Z"⟩
abbrev cX8_dayOf : ByteArray := prog_10_method_15_code
def yX8_dayOf : MethodName := ⟨RX8, "dayOf", "(I)I"⟩
abbrev cX8_yearOf : ByteArray := prog_10_method_16_code
def yX8_yearOf : MethodName := ⟨RX8, "yearOf", "(I)I"⟩
abbrev cX8_full : ByteArray := prog_10_method_17_code
def yX8_full : MethodName := ⟨RX8, "full", "(I)I"⟩
abbrev cX8_wishOf : ByteArray := prog_10_method_18_code
def yX8_wishOf : MethodName := ⟨RX8, "wishOf", "(I)I"⟩
abbrev cX8_laysOrder : ByteArray := prog_10_method_19_code
def yX8_laysOrder : MethodName := ⟨RX8, "laysOrder", "()V"⟩
abbrev cX8_laysAid : ByteArray := prog_10_method_20_code
def yX8_laysAid : MethodName := ⟨RX8, "laysAid", "()V"⟩
abbrev cX8_allAid : ByteArray := prog_10_method_21_code
def yX8_allAid : MethodName := ⟨RX8, "allAid", "()I"⟩
abbrev cX8_shares : ByteArray := prog_10_method_22_code
def yX8_shares : MethodName := ⟨RX8, "shares", "(IIIII)V"⟩
abbrev cX8_clearsParts : ByteArray := prog_10_method_23_code
def yX8_clearsParts : MethodName := ⟨RX8, "clearsParts", "(I)V"⟩
abbrev cX8_declares : ByteArray := prog_10_method_24_code
def yX8_declares : MethodName := ⟨RX8, "declares", "(III)V"⟩
abbrev cX8_appendWord : ByteArray := prog_10_method_25_code
def yX8_appendWord : MethodName := ⟨RX8, "appendWord", "(I)V"⟩
abbrev cX8_appendInput : ByteArray := prog_10_method_26_code
def yX8_appendInput : MethodName := ⟨RX8, "appendInput", "(IIIII)I"⟩
abbrev cX8_truncateInput : ByteArray := prog_10_method_27_code
def yX8_truncateInput : MethodName := ⟨RX8, "truncateInput", "(I)Z"⟩
abbrev cX8_byteAt : ByteArray := prog_10_method_28_code
def yX8_byteAt : MethodName := ⟨RX8, "byteAt", "(I)I"⟩
abbrev cX8_advanceToken : ByteArray := prog_10_method_29_code
def yX8_advanceToken : MethodName := ⟨RX8, "advanceToken", "()V"⟩
abbrev cX8_tokenLength : ByteArray := prog_10_method_30_code
def yX8_tokenLength : MethodName := ⟨RX8, "tokenLength", "()I"⟩
abbrev cX8_failsAt : ByteArray := prog_10_method_31_code
def yX8_failsAt : MethodName := ⟨RX8, "failsAt", "(I)Z"⟩
abbrev cX8_isWord : ByteArray := prog_10_method_32_code
def yX8_isWord : MethodName := ⟨RX8, "isWord", "(Ljava/lang/String;)Z"⟩
abbrev cX8_takesInto : ByteArray := prog_10_method_33_code
def yX8_takesInto : MethodName := ⟨RX8, "takesInto", "(III)Z"⟩
abbrev cX8_starts : ByteArray := prog_10_method_34_code
def yX8_starts : MethodName := ⟨RX8, "starts", "(Z)Z"⟩
abbrev cX8_isStatement : ByteArray := prog_10_method_35_code
def yX8_isStatement : MethodName := ⟨RX8, "isStatement", "()Z"⟩
abbrev cX8_letterHere : ByteArray := prog_10_method_36_code
def yX8_letterHere : MethodName := ⟨RX8, "letterHere", "(I)I"⟩
abbrev cX8_isName : ByteArray := prog_10_method_37_code
def yX8_isName : MethodName := ⟨RX8, "isName", "()Z"⟩
abbrev cX8_find : ByteArray := prog_10_method_38_code
def yX8_find : MethodName := ⟨RX8, "find", "()I"⟩
abbrev cX8_readDonor : ByteArray := prog_10_method_39_code
def yX8_readDonor : MethodName := ⟨RX8, "readDonor", "()Z"⟩
abbrev cX8_takesDonor : ByteArray := prog_10_method_40_code
def yX8_takesDonor : MethodName := ⟨RX8, "takesDonor", "(I)Z"⟩
abbrev cX8_readDeclare : ByteArray := prog_10_method_41_code
def yX8_readDeclare : MethodName := ⟨RX8, "readDeclare", "()Z"⟩
abbrev cX8_readMoney : ByteArray := prog_10_method_42_code
def yX8_readMoney : MethodName := ⟨RX8, "readMoney", "()Z"⟩
abbrev cX8_readGift : ByteArray := prog_10_method_43_code
def yX8_readGift : MethodName := ⟨RX8, "readGift", "()Z"⟩
abbrev cX8_readShare : ByteArray := prog_10_method_44_code
def yX8_readShare : MethodName := ⟨RX8, "readShare", "(II)Z"⟩
abbrev cX8_readSplit : ByteArray := prog_10_method_45_code
def yX8_readSplit : MethodName := ⟨RX8, "readSplit", "()Z"⟩
abbrev cX8_readCash : ByteArray := prog_10_method_46_code
def yX8_readCash : MethodName := ⟨RX8, "readCash", "()Z"⟩
abbrev cX8_readRules : ByteArray := prog_10_method_47_code
def yX8_readRules : MethodName := ⟨RX8, "readRules", "()Z"⟩
abbrev cX8_readStatement : ByteArray := prog_10_method_48_code
def yX8_readStatement : MethodName := ⟨RX8, "readStatement", "()Z"⟩
abbrev cX8_readText : ByteArray := prog_10_method_49_code
def yX8_readText : MethodName := ⟨RX8, "readText", "()Z"⟩
abbrev cX8_loadRegister : ByteArray := prog_10_method_50_code
def yX8_loadRegister : MethodName := ⟨RX8, "loadRegister", "()I"⟩
abbrev cX8_errorCode : ByteArray := prog_10_method_51_code
def yX8_errorCode : MethodName := ⟨RX8, "errorCode", "()I"⟩
abbrev cX8_errorOffset : ByteArray := prog_10_method_52_code
def yX8_errorOffset : MethodName := ⟨RX8, "errorOffset", "()I"⟩
abbrev cX8_noDonor : ByteArray := prog_10_method_53_code
def yX8_noDonor : MethodName := ⟨RX8, "noDonor", "(I)Z"⟩
abbrev cX8_noDeclaration : ByteArray := prog_10_method_54_code
def yX8_noDeclaration : MethodName := ⟨RX8, "noDeclaration", "(I)Z"⟩
abbrev cX8_noGift : ByteArray := prog_10_method_55_code
def yX8_noGift : MethodName := ⟨RX8, "noGift", "(I)Z"⟩
abbrev cX8_noPart : ByteArray := prog_10_method_56_code
def yX8_noPart : MethodName := ⟨RX8, "noPart", "(II)Z"⟩
abbrev cX8_giftsWith : ByteArray := prog_10_method_57_code
def yX8_giftsWith : MethodName := ⟨RX8, "giftsWith", "(Z)I"⟩
abbrev cX8_count : ByteArray := prog_10_method_58_code
def yX8_count : MethodName := ⟨RX8, "count", "(I)I"⟩
abbrev cX8_daysOf : ByteArray := prog_10_method_59_code
def yX8_daysOf : MethodName := ⟨RX8, "daysOf", "(I)I"⟩
abbrev cX8_declaration : ByteArray := prog_10_method_60_code
def yX8_declaration : MethodName := ⟨RX8, "declaration", "(II)I"⟩
abbrev cX8_gift : ByteArray := prog_10_method_61_code
def yX8_gift : MethodName := ⟨RX8, "gift", "(II)I"⟩
abbrev cX8_part : ByteArray := prog_10_method_62_code
def yX8_part : MethodName := ⟨RX8, "part", "(III)I"⟩
abbrev cX8_reasonOf : ByteArray := prog_10_method_63_code
def yX8_reasonOf : MethodName := ⟨RX8, "reasonOf", "(I)I"⟩
abbrev cX8_reason : ByteArray := prog_10_method_64_code
def yX8_reason : MethodName := ⟨RX8, "reason", "(II)I"⟩
abbrev cX8_sumOf : ByteArray := prog_10_method_65_code
def yX8_sumOf : MethodName := ⟨RX8, "sumOf", "(III)I"⟩
abbrev cX8_donor : ByteArray := prog_10_method_66_code
def yX8_donor : MethodName := ⟨RX8, "donor", "(III)I"⟩
abbrev cX8_taxLimit : ByteArray := prog_10_method_67_code
def yX8_taxLimit : MethodName := ⟨RX8, "taxLimit", "(I)I"⟩
abbrev cX8_isDeclared : ByteArray := prog_10_method_68_code
def yX8_isDeclared : MethodName := ⟨RX8, "isDeclared", "(II)Z"⟩
abbrev cX8_noSpan : ByteArray := prog_10_method_69_code
def yX8_noSpan : MethodName := ⟨RX8, "noSpan", "(II)Z"⟩
abbrev cX8_coverage : ByteArray := prog_10_method_70_code
def yX8_coverage : MethodName := ⟨RX8, "coverage", "(III)I"⟩
abbrev cX8_gap : ByteArray := prog_10_method_71_code
def yX8_gap : MethodName := ⟨RX8, "gap", "(IIZ)I"⟩
abbrev cX8_isNeedless : ByteArray := prog_10_method_72_code
def yX8_isNeedless : MethodName := ⟨RX8, "isNeedless", "(I)Z"⟩
abbrev cX8_longestSpan : ByteArray := prog_10_method_73_code
def yX8_longestSpan : MethodName := ⟨RX8, "longestSpan", "(I)I"⟩
abbrev cX8_needless : ByteArray := prog_10_method_74_code
def yX8_needless : MethodName := ⟨RX8, "needless", "(I)I"⟩
abbrev cX8_declare : ByteArray := prog_10_method_75_code
def yX8_declare : MethodName := ⟨RX8, "declare", "(III)I"⟩
abbrev cX8_revoke : ByteArray := prog_10_method_76_code
def yX8_revoke : MethodName := ⟨RX8, "revoke", "(II)I"⟩
abbrev cX8_addGift : ByteArray := prog_10_method_77_code
def yX8_addGift : MethodName := ⟨RX8, "addGift", "(IIII)I"⟩
abbrev cX8_canSplit : ByteArray := prog_10_method_78_code
def yX8_canSplit : MethodName := ⟨RX8, "canSplit", "(I)Z"⟩
abbrev cX8_isDonorOf : ByteArray := prog_10_method_79_code
def yX8_isDonorOf : MethodName := ⟨RX8, "isDonorOf", "(II)Z"⟩
abbrev cX8_splits : ByteArray := prog_10_method_80_code
def yX8_splits : MethodName := ⟨RX8, "splits", "(IIII)V"⟩
abbrev cX8_split : ByteArray := prog_10_method_81_code
def yX8_split : MethodName := ⟨RX8, "split", "(IIII)I"⟩
abbrev cX8_refund : ByteArray := prog_10_method_82_code
def yX8_refund : MethodName := ⟨RX8, "refund", "(II)I"⟩
abbrev cX8_setTaxLimit : ByteArray := prog_10_method_83_code
def yX8_setTaxLimit : MethodName := ⟨RX8, "setTaxLimit", "(II)I"⟩
abbrev cX8_setRate : ByteArray := prog_10_method_84_code
def yX8_setRate : MethodName := ⟨RX8, "setRate", "(I)I"⟩
abbrev cX8_claimOf : ByteArray := prog_10_method_85_code
def yX8_claimOf : MethodName := ⟨RX8, "claimOf", "(II)I"⟩
abbrev cX8_claim : ByteArray := prog_10_method_86_code
def yX8_claim : MethodName := ⟨RX8, "claim", "(I)I"⟩
abbrev cX8_claimed : ByteArray := prog_10_method_87_code
def yX8_claimed : MethodName := ⟨RX8, "claimed", "(II)I"⟩
abbrev cX8_claimable : ByteArray := prog_10_method_88_code
def yX8_claimable : MethodName := ⟨RX8, "claimable", "(IZ)I"⟩
abbrev cX8_over : ByteArray := prog_10_method_89_code
def yX8_over : MethodName := ⟨RX8, "over", "(I)I"⟩
abbrev cX8_under : ByteArray := prog_10_method_90_code
def yX8_under : MethodName := ⟨RX8, "under", "(I)I"⟩
abbrev cX8_overclaimed : ByteArray := prog_10_method_91_code
def yX8_overclaimed : MethodName := ⟨RX8, "overclaimed", "()I"⟩
abbrev cX8_totalAid : ByteArray := prog_10_method_92_code
def yX8_totalAid : MethodName := ⟨RX8, "totalAid", "()I"⟩
abbrev cX8_lost : ByteArray := prog_10_method_93_code
def yX8_lost : MethodName := ⟨RX8, "lost", "(I)I"⟩
abbrev cX8_mostUrgent : ByteArray := prog_10_method_94_code
def yX8_mostUrgent : MethodName := ⟨RX8, "mostUrgent", "()I"⟩
abbrev cX8_limitedYears : ByteArray := prog_10_method_95_code
def yX8_limitedYears : MethodName := ⟨RX8, "limitedYears", "(I)I"⟩
abbrev cX8_expiring : ByteArray := prog_10_method_96_code
def yX8_expiring : MethodName := ⟨RX8, "expiring", "(II)I"⟩
abbrev cX8_begins : ByteArray := prog_10_method_97_code
def yX8_begins : MethodName := ⟨RX8, "begins", "()V"⟩
abbrev cX8_ends : ByteArray := prog_10_method_98_code
def yX8_ends : MethodName := ⟨RX8, "ends", "()V"⟩
abbrev cX8_useOf : ByteArray := prog_10_method_99_code
def yX8_useOf : MethodName := ⟨RX8, "useOf", "(I)I"⟩
abbrev cX8_benefitRoom : ByteArray := prog_10_method_100_code
def yX8_benefitRoom : MethodName := ⟨RX8, "benefitRoom", "(I)I"⟩
abbrev cX8_topDonor : ByteArray := prog_10_method_101_code
def yX8_topDonor : MethodName := ⟨RX8, "topDonor", "(I)I"⟩
abbrev cX8_bestYear : ByteArray := prog_10_method_102_code
def yX8_bestYear : MethodName := ⟨RX8, "bestYear", "()I"⟩
abbrev cX8_aidWith : ByteArray := prog_10_method_103_code
def yX8_aidWith : MethodName := ⟨RX8, "aidWith", "(III)I"⟩
abbrev cX8_gainOf : ByteArray := prog_10_method_104_code
def yX8_gainOf : MethodName := ⟨RX8, "gainOf", "(III)I"⟩
abbrev cX8_bestAsked : ByteArray := prog_10_method_105_code
def yX8_bestAsked : MethodName := ⟨RX8, "bestAsked", "()I"⟩
abbrev cX8_isDonorThere : ByteArray := prog_10_method_106_code
def yX8_isDonorThere : MethodName := ⟨RX8, "isDonorThere", "(II)Z"⟩
abbrev cX8_neededSpan : ByteArray := prog_10_method_107_code
def yX8_neededSpan : MethodName := ⟨RX8, "neededSpan", "(IZ)I"⟩
abbrev cX8_gainOfSplit : ByteArray := prog_10_method_108_code
def yX8_gainOfSplit : MethodName := ⟨RX8, "gainOfSplit", "(II)I"⟩
abbrev cX8_draws : ByteArray := prog_10_method_109_code
def yX8_draws : MethodName := ⟨RX8, "draws", "(II)V"⟩
abbrev cX8_noSample : ByteArray := prog_10_method_110_code
def yX8_noSample : MethodName := ⟨RX8, "noSample", "(I)Z"⟩
abbrev cX8_sample : ByteArray := prog_10_method_111_code
def yX8_sample : MethodName := ⟨RX8, "sample", "(III)I"⟩
abbrev cX8_wrongIn : ByteArray := prog_10_method_112_code
def yX8_wrongIn : MethodName := ⟨RX8, "wrongIn", "(II)I"⟩
abbrev cX8_estimate : ByteArray := prog_10_method_113_code
def yX8_estimate : MethodName := ⟨RX8, "estimate", "(II)D"⟩
abbrev cX8_aidShare : ByteArray := prog_10_method_114_code
def yX8_aidShare : MethodName := ⟨RX8, "aidShare", "()F"⟩
abbrev cX8_meanGift : ByteArray := prog_10_method_115_code
def yX8_meanGift : MethodName := ⟨RX8, "meanGift", "()D"⟩
abbrev cX8_write : ByteArray := prog_10_method_116_code
def yX8_write : MethodName := ⟨RX8, "write", "(I)V"⟩
abbrev cX8_writeNumber : ByteArray := prog_10_method_117_code
def yX8_writeNumber : MethodName := ⟨RX8, "writeNumber", "(I)V"⟩
abbrev cX8_printStatement : ByteArray := prog_10_method_118_code
def yX8_printStatement : MethodName := ⟨RX8, "printStatement", "(I)I"⟩
abbrev cX8_outputByte : ByteArray := prog_10_method_119_code
def yX8_outputByte : MethodName := ⟨RX8, "outputByte", "(I)I"⟩
abbrev cX8_undo : ByteArray := prog_10_method_120_code
def yX8_undo : MethodName := ⟨RX8, "undo", "()I"⟩
abbrev cX8_saveState : ByteArray := prog_10_method_121_code
def yX8_saveState : MethodName := ⟨RX8, "saveState", "()I"⟩
abbrev cX8_restoreState : ByteArray := prog_10_method_122_code
def yX8_restoreState : MethodName := ⟨RX8, "restoreState", "()I"⟩
def RJx145de : String := "java/io/Serializable"
def TJx145de : u_T := fun k => match k with
  | _ => ("", "", "", false)
def tyJx145de : Nat → FieldType := fun k => match k with
  | _ => .int
theorem nmJx145de : ∀ a, a < 0 → ∀ b, b < 0 → a ≠ b → (TJx145de a).2.1 ≠ (TJx145de b).2.1 := by decide +kernel
theorem tyJx145de_ok : ∀ k, k < 0 → parseFieldDescriptor (TJx145de k).2.2.1 = some (tyJx145de k) := by decide +kernel
def RJx9f9b0 : String := "java/lang/CharSequence"
def TJx9f9b0 : u_T := fun k => match k with
  | _ => ("", "", "", false)
def tyJx9f9b0 : Nat → FieldType := fun k => match k with
  | _ => .int
theorem nmJx9f9b0 : ∀ a, a < 0 → ∀ b, b < 0 → a ≠ b → (TJx9f9b0 a).2.1 ≠ (TJx9f9b0 b).2.1 := by decide +kernel
theorem tyJx9f9b0_ok : ∀ k, k < 0 → parseFieldDescriptor (TJx9f9b0 k).2.2.1 = some (tyJx9f9b0 k) := by decide +kernel
def RJxb160c : String := "java/lang/Comparable"
def TJxb160c : u_T := fun k => match k with
  | _ => ("", "", "", false)
def tyJxb160c : Nat → FieldType := fun k => match k with
  | _ => .int
theorem nmJxb160c : ∀ a, a < 0 → ∀ b, b < 0 → a ≠ b → (TJxb160c a).2.1 ≠ (TJxb160c b).2.1 := by decide +kernel
theorem tyJxb160c_ok : ∀ k, k < 0 → parseFieldDescriptor (TJxb160c k).2.2.1 = some (tyJxb160c k) := by decide +kernel
def RJ9 : String := "java/lang/Math"
def TJ9 : u_T := fun k => match k with
  | _ => ("", "", "", false)
def tyJ9 : Nat → FieldType := fun k => match k with
  | _ => .int
theorem nmJ9 : ∀ a, a < 0 → ∀ b, b < 0 → a ≠ b → (TJ9 a).2.1 ≠ (TJ9 b).2.1 := by decide +kernel
theorem tyJ9_ok : ∀ k, k < 0 → parseFieldDescriptor (TJ9 k).2.2.1 = some (tyJ9 k) := by decide +kernel
abbrev cJ9_abs_0f7a4 : ByteArray := prog_15_method_59_code
def yJ9_abs_0f7a4 : MethodName := ⟨RJ9, "abs", "(I)I"⟩
abbrev cJ9_max_7cf53 : ByteArray := prog_15_method_65_code
def yJ9_max_7cf53 : MethodName := ⟨RJ9, "max", "(II)I"⟩
abbrev cJ9_min_7cf53 : ByteArray := prog_15_method_69_code
def yJ9_min_7cf53 : MethodName := ⟨RJ9, "min", "(II)I"⟩
def RJ0 : String := "java/lang/String"
def TJ0 : u_T := fun k => match k with
  | _ => ("", "", "", false)
def tyJ0 : Nat → FieldType := fun k => match k with
  | _ => .int
theorem nmJ0 : ∀ a, a < 0 → ∀ b, b < 0 → a ≠ b → (TJ0 a).2.1 ≠ (TJ0 b).2.1 := by decide +kernel
theorem tyJ0_ok : ∀ k, k < 0 → parseFieldDescriptor (TJ0 k).2.2.1 = some (tyJ0 k) := by decide +kernel
abbrev cJ0_length_8abf5 : ByteArray := prog_17_method_54_code
def yJ0_length_8abf5 : MethodName := ⟨RJ0, "length", "()I"⟩
abbrev cJ0_charAt_5068e : ByteArray := prog_17_method_56_code
def yJ0_charAt_5068e : MethodName := ⟨RJ0, "charAt", "(I)C"⟩
abbrev cJ0_coder_7d493 : ByteArray := prog_17_method_152_code
def yJ0_coder_7d493 : MethodName := ⟨RJ0, "coder", "()B"⟩
abbrev cJ0_isLatin1_aae02 : ByteArray := prog_17_method_154_code
def yJ0_isLatin1_aae02 : MethodName := ⟨RJ0, "isLatin1", "()Z"⟩
abbrev cJ0_checkIndex_df160 : ByteArray := prog_17_method_155_code
def yJ0_checkIndex_df160 : MethodName := ⟨RJ0, "checkIndex", "(II)V"⟩
def RJ1 : String := "java/lang/StringLatin1"
def TJ1 : u_T := fun k => match k with
  | _ => ("", "", "", false)
def tyJ1 : Nat → FieldType := fun k => match k with
  | _ => .int
theorem nmJ1 : ∀ a, a < 0 → ∀ b, b < 0 → a ≠ b → (TJ1 a).2.1 ≠ (TJ1 b).2.1 := by decide +kernel
theorem tyJ1_ok : ∀ k, k < 0 → parseFieldDescriptor (TJ1 k).2.2.1 = some (tyJ1 k) := by decide +kernel
abbrev cJ1_charAt_3b067 : ByteArray := prog_18_method_2_code
def yJ1_charAt_3b067 : MethodName := ⟨RJ1, "charAt", "([BI)C"⟩
def RJ2 : String := "java/lang/StringUTF16"
def TJ2 : u_T := fun k => match k with
  | _ => ("", "", "", false)
def tyJ2 : Nat → FieldType := fun k => match k with
  | _ => .int
theorem nmJ2 : ∀ a, a < 0 → ∀ b, b < 0 → a ≠ b → (TJ2 a).2.1 ≠ (TJ2 b).2.1 := by decide +kernel
theorem tyJ2_ok : ∀ k, k < 0 → parseFieldDescriptor (TJ2 k).2.2.1 = some (tyJ2 k) := by decide +kernel
abbrev cJ2_getChar_3b067 : ByteArray := prog_19_method_5_code
def yJ2_getChar_3b067 : MethodName := ⟨RJ2, "getChar", "([BI)C"⟩
abbrev cJ2_length_9d52b : ByteArray := prog_19_method_6_code
def yJ2_length_9d52b : MethodName := ⟨RJ2, "length", "([B)I"⟩
abbrev cJ2_charAt_3b067 : ByteArray := prog_19_method_83_code
def yJ2_charAt_3b067 : MethodName := ⟨RJ2, "charAt", "([BI)C"⟩
abbrev cJ2_checkIndex_2214a : ByteArray := prog_19_method_91_code
def yJ2_checkIndex_2214a : MethodName := ⟨RJ2, "checkIndex", "(I[B)V"⟩
def RJ10 : String := "java/lang/System"
def TJ10 : u_T := fun k => match k with
  | _ => ("", "", "", false)
def tyJ10 : Nat → FieldType := fun k => match k with
  | _ => .int
theorem nmJ10 : ∀ a, a < 0 → ∀ b, b < 0 → a ≠ b → (TJ10 a).2.1 ≠ (TJ10 b).2.1 := by decide +kernel
theorem tyJ10_ok : ∀ k, k < 0 → parseFieldDescriptor (TJ10 k).2.2.1 = some (tyJ10 k) := by decide +kernel
def RJxfd54e : String := "java/lang/constant/Constable"
def TJxfd54e : u_T := fun k => match k with
  | _ => ("", "", "", false)
def tyJxfd54e : Nat → FieldType := fun k => match k with
  | _ => .int
theorem nmJxfd54e : ∀ a, a < 0 → ∀ b, b < 0 → a ≠ b → (TJxfd54e a).2.1 ≠ (TJxfd54e b).2.1 := by decide +kernel
theorem tyJxfd54e_ok : ∀ k, k < 0 → parseFieldDescriptor (TJxfd54e k).2.2.1 = some (tyJxfd54e k) := by decide +kernel
def RJx3cf43 : String := "java/lang/constant/ConstantDesc"
def TJx3cf43 : u_T := fun k => match k with
  | _ => ("", "", "", false)
def tyJx3cf43 : Nat → FieldType := fun k => match k with
  | _ => .int
theorem nmJx3cf43 : ∀ a, a < 0 → ∀ b, b < 0 → a ≠ b → (TJx3cf43 a).2.1 ≠ (TJx3cf43 b).2.1 := by decide +kernel
theorem tyJx3cf43_ok : ∀ k, k < 0 → parseFieldDescriptor (TJx3cf43 k).2.2.1 = some (tyJx3cf43 k) := by decide +kernel
def RJ7 : String := "java/util/Arrays"
def TJ7 : u_T := fun k => match k with
  | _ => ("", "", "", false)
def tyJ7 : Nat → FieldType := fun k => match k with
  | _ => .int
theorem nmJ7 : ∀ a, a < 0 → ∀ b, b < 0 → a ≠ b → (TJ7 a).2.1 ≠ (TJ7 b).2.1 := by decide +kernel
theorem tyJ7_ok : ∀ k, k < 0 → parseFieldDescriptor (TJ7 k).2.2.1 = some (tyJ7 k) := by decide +kernel
abbrev cJ7_fill_53178 : ByteArray := prog_22_method_103_code
def yJ7_fill_53178 : MethodName := ⟨RJ7, "fill", "([II)V"⟩
def RJ3 : String := "jdk/internal/util/Preconditions"
def TJ3 : u_T := fun k => match k with
  | _ => ("", "", "", false)
def tyJ3 : Nat → FieldType := fun k => match k with
  | _ => .int
theorem nmJ3 : ∀ a, a < 0 → ∀ b, b < 0 → a ≠ b → (TJ3 a).2.1 ≠ (TJ3 b).2.1 := by decide +kernel
theorem tyJ3_ok : ∀ k, k < 0 → parseFieldDescriptor (TJ3 k).2.2.1 = some (tyJ3 k) := by decide +kernel
abbrev cJ3_checkIndex_8e157 : ByteArray := prog_23_method_11_code
def yJ3_checkIndex_8e157 : MethodName := ⟨RJ3, "checkIndex", "(IILjava/util/function/BiFunction;)I"⟩
def RL : String := "AidRegisterLaw"
abbrev cL_count : ByteArray := method_3_code
def yL_count : MethodName := ⟨RL, "count", "(LAidRegister;I[J)I"⟩
abbrev cL_declaration : ByteArray := method_4_code
def yL_declaration : MethodName := ⟨RL, "declaration", "(LAidRegister;II[J)I"⟩
abbrev cL_gift : ByteArray := method_5_code
def yL_gift : MethodName := ⟨RL, "gift", "(LAidRegister;II[J)I"⟩
abbrev cL_part : ByteArray := method_6_code
def yL_part : MethodName := ⟨RL, "part", "(LAidRegister;III[J)I"⟩
abbrev cL_reason : ByteArray := method_7_code
def yL_reason : MethodName := ⟨RL, "reason", "(LAidRegister;II[J)I"⟩
abbrev cL_donor : ByteArray := method_8_code
def yL_donor : MethodName := ⟨RL, "donor", "(LAidRegister;III[J)I"⟩
abbrev cL_taxLimit : ByteArray := method_9_code
def yL_taxLimit : MethodName := ⟨RL, "taxLimit", "(LAidRegister;I[J)I"⟩
abbrev cL_isDeclared : ByteArray := method_10_code
def yL_isDeclared : MethodName := ⟨RL, "isDeclared", "(LAidRegister;II[J)I"⟩
abbrev cL_coverage : ByteArray := method_11_code
def yL_coverage : MethodName := ⟨RL, "coverage", "(LAidRegister;III[J)I"⟩
abbrev cL_gap : ByteArray := method_12_code
def yL_gap : MethodName := ⟨RL, "gap", "(LAidRegister;IIZ[J)I"⟩
abbrev cL_needless : ByteArray := method_13_code
def yL_needless : MethodName := ⟨RL, "needless", "(LAidRegister;I[J)I"⟩
abbrev cL_declare : ByteArray := method_14_code
def yL_declare : MethodName := ⟨RL, "declare", "(LAidRegister;III[J)I"⟩
abbrev cL_revoke : ByteArray := method_15_code
def yL_revoke : MethodName := ⟨RL, "revoke", "(LAidRegister;II[J)I"⟩
abbrev cL_addGift : ByteArray := method_16_code
def yL_addGift : MethodName := ⟨RL, "addGift", "(LAidRegister;IIII[J)I"⟩
abbrev cL_split : ByteArray := method_17_code
def yL_split : MethodName := ⟨RL, "split", "(LAidRegister;IIII[J)I"⟩
abbrev cL_refund : ByteArray := method_18_code
def yL_refund : MethodName := ⟨RL, "refund", "(LAidRegister;II[J)I"⟩
abbrev cL_setTaxLimit : ByteArray := method_19_code
def yL_setTaxLimit : MethodName := ⟨RL, "setTaxLimit", "(LAidRegister;II[J)I"⟩
abbrev cL_setRate : ByteArray := method_20_code
def yL_setRate : MethodName := ⟨RL, "setRate", "(LAidRegister;I[J)I"⟩
abbrev cL_claim : ByteArray := method_21_code
def yL_claim : MethodName := ⟨RL, "claim", "(LAidRegister;I[J)I"⟩
abbrev cL_claimed : ByteArray := method_22_code
def yL_claimed : MethodName := ⟨RL, "claimed", "(LAidRegister;II[J)I"⟩
abbrev cL_claimable : ByteArray := method_23_code
def yL_claimable : MethodName := ⟨RL, "claimable", "(LAidRegister;IZ[J)I"⟩
abbrev cL_lost : ByteArray := method_24_code
def yL_lost : MethodName := ⟨RL, "lost", "(LAidRegister;I[J)I"⟩
abbrev cL_limitedYears : ByteArray := method_25_code
def yL_limitedYears : MethodName := ⟨RL, "limitedYears", "(LAidRegister;I[J)I"⟩
abbrev cL_expiring : ByteArray := method_26_code
def yL_expiring : MethodName := ⟨RL, "expiring", "(LAidRegister;II[J)I"⟩
abbrev cL_useOf : ByteArray := method_27_code
def yL_useOf : MethodName := ⟨RL, "useOf", "(LAidRegister;I[J)I"⟩
abbrev cL_benefitRoom : ByteArray := method_28_code
def yL_benefitRoom : MethodName := ⟨RL, "benefitRoom", "(LAidRegister;I[J)I"⟩
abbrev cL_topDonor : ByteArray := method_29_code
def yL_topDonor : MethodName := ⟨RL, "topDonor", "(LAidRegister;I[J)I"⟩
abbrev cL_longestSpan : ByteArray := method_30_code
def yL_longestSpan : MethodName := ⟨RL, "longestSpan", "(LAidRegister;I[J)I"⟩
abbrev cL_gainOf : ByteArray := method_31_code
def yL_gainOf : MethodName := ⟨RL, "gainOf", "(LAidRegister;III[J)I"⟩
abbrev cL_neededSpan : ByteArray := method_32_code
def yL_neededSpan : MethodName := ⟨RL, "neededSpan", "(LAidRegister;IZ[J)I"⟩
abbrev cL_gainOfSplit : ByteArray := method_33_code
def yL_gainOfSplit : MethodName := ⟨RL, "gainOfSplit", "(LAidRegister;II[J)I"⟩
abbrev cL_sample : ByteArray := method_34_code
def yL_sample : MethodName := ⟨RL, "sample", "(LAidRegister;III[J)I"⟩
abbrev cL_wrongIn : ByteArray := method_35_code
def yL_wrongIn : MethodName := ⟨RL, "wrongIn", "(LAidRegister;II[J)I"⟩
abbrev cL_estimate : ByteArray := method_36_code
def yL_estimate : MethodName := ⟨RL, "estimate", "(LAidRegister;II[D)I"⟩
abbrev cL_printStatement : ByteArray := method_37_code
def yL_printStatement : MethodName := ⟨RL, "printStatement", "(LAidRegister;I[J)I"⟩
abbrev cL_restoreState : ByteArray := method_38_code
def yL_restoreState : MethodName := ⟨RL, "restoreState", "(LAidRegister;[J)I"⟩
abbrev cL_law : ByteArray := code
def yL_law : MethodName := ⟨RL, "law", "([I)Z"⟩
abbrev vwCl : List vw_C := [(RX0, TX0, 2), (RX1, TX1, 4), (RX2, TX2, 4), (RX3, TX3, 12), (RX4, TX4, 12), (RX5, TX5, 2), (RX6, TX6, 11), (RX7, TX7, 14), (RX8, TX8, 32)]
/-! the words: one list, and where each lies in it -/
def lw_all : List Cond := lw_tbl.filter goodWord
theorem lw_all_tbl {w : Cond} (h : w ∈ lw_all) : w ∈ lw_tbl := (List.mem_filter.mp h).1
theorem lw_all_good {w : Cond} (h : w ∈ lw_all) : goodWord w = true := (List.mem_filter.mp h).2
def ws_ (y : MethodName) (c : ByteArray) (n : Nat) (r : Option FieldType) : List Cond := Cond.code y c n r :: lw_all
theorem qin_0 {w : Cond} {i : Nat} (h : (k2_sels lw_privs)[i]? = some w) (g : goodWord w = true) : w ∈ lw_all := List.mem_filter.mpr ⟨List.mem_append_left _ (List.mem_of_getElem? h), g⟩
theorem qin_1 {w : Cond} {i : Nat} (h : tables_1_1[i]? = some w) (g : goodWord w = true) : w ∈ lw_all := List.mem_filter.mpr ⟨List.mem_append_right _ (List.mem_append_left _ (List.mem_of_getElem? h)), g⟩
theorem qin_2 {w : Cond} {i : Nat} (h : tables_1_2[i]? = some w) (g : goodWord w = true) : w ∈ lw_all := List.mem_filter.mpr ⟨List.mem_append_right _ (List.mem_append_right _ (List.mem_append_left _ (List.mem_of_getElem? h))), g⟩
theorem qin_3 {w : Cond} {i : Nat} (h : tables_1_3[i]? = some w) (g : goodWord w = true) : w ∈ lw_all := List.mem_filter.mpr ⟨List.mem_append_right _ (List.mem_append_right _ (List.mem_append_right _ (List.mem_append_left _ (List.mem_of_getElem? h)))), g⟩
theorem qin_4 {w : Cond} {i : Nat} (h : tables_1_4[i]? = some w) (g : goodWord w = true) : w ∈ lw_all := List.mem_filter.mpr ⟨List.mem_append_right _ (List.mem_append_right _ (List.mem_append_right _ (List.mem_append_right _ (List.mem_append_left _ (List.mem_of_getElem? h))))), g⟩
theorem qin_5 {w : Cond} {i : Nat} (h : tables_1_5[i]? = some w) (g : goodWord w = true) : w ∈ lw_all := List.mem_filter.mpr ⟨List.mem_append_right _ (List.mem_append_right _ (List.mem_append_right _ (List.mem_append_right _ (List.mem_append_right _ (List.mem_append_left _ (List.mem_of_getElem? h)))))), g⟩
theorem qin_6 {w : Cond} {i : Nat} (h : tables_1_6[i]? = some w) (g : goodWord w = true) : w ∈ lw_all := List.mem_filter.mpr ⟨List.mem_append_right _ (List.mem_append_right _ (List.mem_append_right _ (List.mem_append_right _ (List.mem_append_right _ (List.mem_append_right _ (List.mem_append_left _ (List.mem_of_getElem? h))))))), g⟩
theorem qin_7 {w : Cond} {i : Nat} (h : tables_1_7[i]? = some w) (g : goodWord w = true) : w ∈ lw_all := List.mem_filter.mpr ⟨List.mem_append_right _ (List.mem_append_right _ (List.mem_append_right _ (List.mem_append_right _ (List.mem_append_right _ (List.mem_append_right _ (List.mem_append_right _ (List.mem_append_left _ (List.mem_of_getElem? h)))))))), g⟩
theorem qin_8 {w : Cond} {i : Nat} (h : tables_1_8[i]? = some w) (g : goodWord w = true) : w ∈ lw_all := List.mem_filter.mpr ⟨List.mem_append_right _ (List.mem_append_right _ (List.mem_append_right _ (List.mem_append_right _ (List.mem_append_right _ (List.mem_append_right _ (List.mem_append_right _ (List.mem_append_right _ (List.mem_of_getElem? h)))))))), g⟩
theorem qs_0 : Cond.selects "AidRegister" ⟨"AidRegister", "appendBytes", "(I)V"⟩ ⟨"AidRegister", "appendBytes", "(I)V"⟩ ∈ lw_all := qin_0 (i := 0) rfl rfl
theorem qs_1 : Cond.selects "AidRegister$SetupReader" ⟨"AidRegister$SetupReader", "advance", "()V"⟩ ⟨"AidRegister$SetupReader", "advance", "()V"⟩ ∈ lw_all := qin_0 (i := 1) rfl rfl
theorem qs_2 : Cond.selects "AidRegister$SetupReader" ⟨"AidRegister$SetupReader", "kindAt", "(I)I"⟩ ⟨"AidRegister$SetupReader", "kindAt", "(I)I"⟩ ∈ lw_all := qin_0 (i := 2) rfl rfl
theorem qs_3 : Cond.selects "AidRegister$SetupReader" ⟨"AidRegister$SetupReader", "packedWord", "()J"⟩ ⟨"AidRegister$SetupReader", "packedWord", "()J"⟩ ∈ lw_all := qin_0 (i := 3) rfl rfl
theorem qs_4 : Cond.selects "AidRegister$SetupReader" ⟨"AidRegister$SetupReader", "readDonor", "()V"⟩ ⟨"AidRegister$SetupReader", "readDonor", "()V"⟩ ∈ lw_all := qin_0 (i := 4) rfl rfl
theorem qs_5 : Cond.selects "AidRegister$SetupReader" ⟨"AidRegister$SetupReader", "fail", "(I)V"⟩ ⟨"AidRegister$SetupReader", "fail", "(I)V"⟩ ∈ lw_all := qin_0 (i := 5) rfl rfl
theorem qs_6 : Cond.selects "AidRegister$SetupReader" ⟨"AidRegister$SetupReader", "namedDonor", "()I"⟩ ⟨"AidRegister$SetupReader", "namedDonor", "()I"⟩ ∈ lw_all := qin_0 (i := 6) rfl rfl
theorem qs_7 : Cond.selects "AidRegister$SetupReader" ⟨"AidRegister$SetupReader", "isFirstWord", "()Z"⟩ ⟨"AidRegister$SetupReader", "isFirstWord", "()Z"⟩ ∈ lw_all := qin_0 (i := 7) rfl rfl
theorem qs_8 : Cond.selects "AidRegister$SetupReader" ⟨"AidRegister$SetupReader", "readNumber", "(II)I"⟩ ⟨"AidRegister$SetupReader", "readNumber", "(II)I"⟩ ∈ lw_all := qin_0 (i := 8) rfl rfl
theorem qs_9 : Cond.selects "AidRegister$SetupReader" ⟨"AidRegister$SetupReader", "readSemicolon", "()V"⟩ ⟨"AidRegister$SetupReader", "readSemicolon", "()V"⟩ ∈ lw_all := qin_0 (i := 9) rfl rfl
theorem qs_10 : Cond.selects "AidRegister$SetupReader" ⟨"AidRegister$SetupReader", "readDeclaration", "()V"⟩ ⟨"AidRegister$SetupReader", "readDeclaration", "()V"⟩ ∈ lw_all := qin_0 (i := 10) rfl rfl
theorem qs_11 : Cond.selects "AidRegister$SetupReader" ⟨"AidRegister$SetupReader", "knownDonor", "()I"⟩ ⟨"AidRegister$SetupReader", "knownDonor", "()I"⟩ ∈ lw_all := qin_0 (i := 11) rfl rfl
theorem qs_12 : Cond.selects "AidRegister$SetupReader" ⟨"AidRegister$SetupReader", "readGift", "()V"⟩ ⟨"AidRegister$SetupReader", "readGift", "()V"⟩ ∈ lw_all := qin_0 (i := 12) rfl rfl
theorem qs_13 : Cond.selects "AidRegister$SetupReader" ⟨"AidRegister$SetupReader", "readGiftHead", "()I"⟩ ⟨"AidRegister$SetupReader", "readGiftHead", "()I"⟩ ∈ lw_all := qin_0 (i := 13) rfl rfl
theorem qs_14 : Cond.selects "AidRegister$SetupReader" ⟨"AidRegister$SetupReader", "readSplit", "()V"⟩ ⟨"AidRegister$SetupReader", "readSplit", "()V"⟩ ∈ lw_all := qin_0 (i := 14) rfl rfl
theorem qs_15 : Cond.selects "AidRegister$SetupReader" ⟨"AidRegister$SetupReader", "readShare", "(I)V"⟩ ⟨"AidRegister$SetupReader", "readShare", "(I)V"⟩ ∈ lw_all := qin_0 (i := 15) rfl rfl
theorem qs_16 : Cond.selects "AidRegister$SetupReader" ⟨"AidRegister$SetupReader", "readRules", "()V"⟩ ⟨"AidRegister$SetupReader", "readRules", "()V"⟩ ∈ lw_all := qin_0 (i := 16) rfl rfl
theorem qs_17 : Cond.selects "AidRegister$Ledger" ⟨"AidRegister$Ledger", "settlePart", "(II)V"⟩ ⟨"AidRegister$Ledger", "settlePart", "(II)V"⟩ ∈ lw_all := qin_0 (i := 17) rfl rfl
theorem qs_18 : Cond.selects "AidRegister$Ledger" ⟨"AidRegister$Ledger", "aidWith", "(III)I"⟩ ⟨"AidRegister$Ledger", "aidWith", "(III)I"⟩ ∈ lw_all := qin_0 (i := 18) rfl rfl
theorem qs_19 : Cond.selects "AidRegister$Ledger" ⟨"AidRegister$Ledger", "wishOf", "(IIZ)I"⟩ ⟨"AidRegister$Ledger", "wishOf", "(IIZ)I"⟩ ∈ lw_all := qin_0 (i := 19) rfl rfl
theorem qs_20 : Cond.selects "java/lang/Throwable" ⟨"java/lang/Throwable", "fillInStackTrace", "(I)Ljava/lang/Throwable;"⟩ ⟨"java/lang/Throwable", "fillInStackTrace", "(I)Ljava/lang/Throwable;"⟩ ∈ lw_all := qin_0 (i := 20) rfl rfl
theorem qs_21 : Cond.selects "AidRegister" ⟨"AidRegister", "needDeclaration", "(I)V"⟩ ⟨"AidRegister", "needDeclaration", "(I)V"⟩ ∈ lw_all := qin_0 (i := 21) rfl rfl
theorem qs_22 : Cond.selects "AidRegister" ⟨"AidRegister", "needGift", "(I)V"⟩ ⟨"AidRegister", "needGift", "(I)V"⟩ ∈ lw_all := qin_0 (i := 22) rfl rfl
theorem qs_23 : Cond.selects "AidRegister" ⟨"AidRegister", "needPart", "(II)V"⟩ ⟨"AidRegister", "needPart", "(II)V"⟩ ∈ lw_all := qin_0 (i := 23) rfl rfl
theorem qs_24 : Cond.selects "AidRegister" ⟨"AidRegister", "needDonor", "(I)V"⟩ ⟨"AidRegister", "needDonor", "(I)V"⟩ ∈ lw_all := qin_0 (i := 24) rfl rfl
theorem qs_25 : Cond.selects "AidRegister" ⟨"AidRegister", "remember", "()V"⟩ ⟨"AidRegister", "remember", "()V"⟩ ∈ lw_all := qin_0 (i := 25) rfl rfl
theorem qs_26 : Cond.selects "AidRegister$Ledger" ⟨"AidRegister$Ledger", "isLimited", "(II)Z"⟩ ⟨"AidRegister$Ledger", "isLimited", "(II)Z"⟩ ∈ lw_all := qin_0 (i := 26) rfl rfl
theorem qs_27 : Cond.selects "AidRegister$Drawing" ⟨"AidRegister$Drawing", "fillPool", "(LAidRegister$Gifts;)V"⟩ ⟨"AidRegister$Drawing", "fillPool", "(LAidRegister$Gifts;)V"⟩ ∈ lw_all := qin_0 (i := 27) rfl rfl
theorem qs_28 : Cond.selects "AidRegister$Drawing" ⟨"AidRegister$Drawing", "dropFromPool", "(I)V"⟩ ⟨"AidRegister$Drawing", "dropFromPool", "(I)V"⟩ ∈ lw_all := qin_0 (i := 28) rfl rfl
theorem qs_29 : Cond.selects "AidRegisterModel" ⟨"AidRegisterModel", "clear", "()V"⟩ ⟨"AidRegisterModel", "clear", "()V"⟩ ∈ lw_all := qin_0 (i := 29) rfl rfl
theorem qs_30 : Cond.selects "AidRegisterModel" ⟨"AidRegisterModel", "appendWord", "(I)V"⟩ ⟨"AidRegisterModel", "appendWord", "(I)V"⟩ ∈ lw_all := qin_0 (i := 30) rfl rfl
theorem qs_31 : Cond.selects "AidRegisterModel" ⟨"AidRegisterModel", "advanceToken", "()V"⟩ ⟨"AidRegisterModel", "advanceToken", "()V"⟩ ∈ lw_all := qin_0 (i := 31) rfl rfl
theorem qs_32 : Cond.selects "AidRegisterModel" ⟨"AidRegisterModel", "byteAt", "(I)I"⟩ ⟨"AidRegisterModel", "byteAt", "(I)I"⟩ ∈ lw_all := qin_0 (i := 32) rfl rfl
theorem qs_33 : Cond.selects "AidRegisterModel" ⟨"AidRegisterModel", "readText", "()Z"⟩ ⟨"AidRegisterModel", "readText", "()Z"⟩ ∈ lw_all := qin_0 (i := 33) rfl rfl
theorem qs_34 : Cond.selects "AidRegisterModel" ⟨"AidRegisterModel", "readStatement", "()Z"⟩ ⟨"AidRegisterModel", "readStatement", "()Z"⟩ ∈ lw_all := qin_0 (i := 34) rfl rfl
theorem qs_35 : Cond.selects "AidRegisterModel" ⟨"AidRegisterModel", "isWord", "(Ljava/lang/String;)Z"⟩ ⟨"AidRegisterModel", "isWord", "(Ljava/lang/String;)Z"⟩ ∈ lw_all := qin_0 (i := 35) rfl rfl
theorem qs_36 : Cond.selects "AidRegisterModel" ⟨"AidRegisterModel", "tokenLength", "()I"⟩ ⟨"AidRegisterModel", "tokenLength", "()I"⟩ ∈ lw_all := qin_0 (i := 36) rfl rfl
theorem qs_37 : Cond.selects "AidRegisterModel" ⟨"AidRegisterModel", "readDonor", "()Z"⟩ ⟨"AidRegisterModel", "readDonor", "()Z"⟩ ∈ lw_all := qin_0 (i := 37) rfl rfl
theorem qs_38 : Cond.selects "AidRegisterModel" ⟨"AidRegisterModel", "starts", "(Z)Z"⟩ ⟨"AidRegisterModel", "starts", "(Z)Z"⟩ ∈ lw_all := qin_0 (i := 38) rfl rfl
theorem qs_39 : Cond.selects "AidRegisterModel" ⟨"AidRegisterModel", "failsAt", "(I)Z"⟩ ⟨"AidRegisterModel", "failsAt", "(I)Z"⟩ ∈ lw_all := qin_0 (i := 39) rfl rfl
theorem qs_40 : Cond.selects "AidRegisterModel" ⟨"AidRegisterModel", "isName", "()Z"⟩ ⟨"AidRegisterModel", "isName", "()Z"⟩ ∈ lw_all := qin_0 (i := 40) rfl rfl
theorem qs_41 : Cond.selects "AidRegisterModel" ⟨"AidRegisterModel", "isStatement", "()Z"⟩ ⟨"AidRegisterModel", "isStatement", "()Z"⟩ ∈ lw_all := qin_0 (i := 41) rfl rfl
theorem qs_42 : Cond.selects "AidRegisterModel" ⟨"AidRegisterModel", "find", "()I"⟩ ⟨"AidRegisterModel", "find", "()I"⟩ ∈ lw_all := qin_0 (i := 42) rfl rfl
theorem qs_43 : Cond.selects "AidRegisterModel" ⟨"AidRegisterModel", "letterHere", "(I)I"⟩ ⟨"AidRegisterModel", "letterHere", "(I)I"⟩ ∈ lw_all := qin_0 (i := 43) rfl rfl
theorem qs_44 : Cond.selects "AidRegisterModel" ⟨"AidRegisterModel", "takesInto", "(III)Z"⟩ ⟨"AidRegisterModel", "takesInto", "(III)Z"⟩ ∈ lw_all := qin_0 (i := 44) rfl rfl
theorem qs_45 : Cond.selects "AidRegisterModel" ⟨"AidRegisterModel", "readDeclare", "()Z"⟩ ⟨"AidRegisterModel", "readDeclare", "()Z"⟩ ∈ lw_all := qin_0 (i := 45) rfl rfl
theorem qs_46 : Cond.selects "AidRegisterModel" ⟨"AidRegisterModel", "takesDonor", "(I)Z"⟩ ⟨"AidRegisterModel", "takesDonor", "(I)Z"⟩ ∈ lw_all := qin_0 (i := 46) rfl rfl
theorem qs_47 : Cond.selects "AidRegisterModel" ⟨"AidRegisterModel", "readGift", "()Z"⟩ ⟨"AidRegisterModel", "readGift", "()Z"⟩ ∈ lw_all := qin_0 (i := 47) rfl rfl
theorem qs_48 : Cond.selects "AidRegisterModel" ⟨"AidRegisterModel", "readMoney", "()Z"⟩ ⟨"AidRegisterModel", "readMoney", "()Z"⟩ ∈ lw_all := qin_0 (i := 48) rfl rfl
theorem qs_49 : Cond.selects "AidRegisterModel" ⟨"AidRegisterModel", "clearsParts", "(I)V"⟩ ⟨"AidRegisterModel", "clearsParts", "(I)V"⟩ ∈ lw_all := qin_0 (i := 49) rfl rfl
theorem qs_50 : Cond.selects "AidRegisterModel" ⟨"AidRegisterModel", "shares", "(IIIII)V"⟩ ⟨"AidRegisterModel", "shares", "(IIIII)V"⟩ ∈ lw_all := qin_0 (i := 50) rfl rfl
theorem qs_51 : Cond.selects "AidRegisterModel" ⟨"AidRegisterModel", "readSplit", "()Z"⟩ ⟨"AidRegisterModel", "readSplit", "()Z"⟩ ∈ lw_all := qin_0 (i := 51) rfl rfl
theorem qs_52 : Cond.selects "AidRegisterModel" ⟨"AidRegisterModel", "readShare", "(II)Z"⟩ ⟨"AidRegisterModel", "readShare", "(II)Z"⟩ ∈ lw_all := qin_0 (i := 52) rfl rfl
theorem qs_53 : Cond.selects "AidRegisterModel" ⟨"AidRegisterModel", "readCash", "()Z"⟩ ⟨"AidRegisterModel", "readCash", "()Z"⟩ ∈ lw_all := qin_0 (i := 53) rfl rfl
theorem qs_54 : Cond.selects "AidRegisterModel" ⟨"AidRegisterModel", "readRules", "()Z"⟩ ⟨"AidRegisterModel", "readRules", "()Z"⟩ ∈ lw_all := qin_0 (i := 54) rfl rfl
theorem qs_55 : Cond.selects "AidRegisterModel" ⟨"AidRegisterModel", "fails", "(ZI)Z"⟩ ⟨"AidRegisterModel", "fails", "(ZI)Z"⟩ ∈ lw_all := qin_0 (i := 55) rfl rfl
theorem qs_56 : Cond.selects "AidRegisterModel" ⟨"AidRegisterModel", "giftsWith", "(Z)I"⟩ ⟨"AidRegisterModel", "giftsWith", "(Z)I"⟩ ∈ lw_all := qin_0 (i := 56) rfl rfl
theorem qs_57 : Cond.selects "AidRegisterModel" ⟨"AidRegisterModel", "isSpoilt", "(I)Z"⟩ ⟨"AidRegisterModel", "isSpoilt", "(I)Z"⟩ ∈ lw_all := qin_0 (i := 57) rfl rfl
theorem qs_58 : Cond.selects "AidRegisterModel" ⟨"AidRegisterModel", "noDeclaration", "(I)Z"⟩ ⟨"AidRegisterModel", "noDeclaration", "(I)Z"⟩ ∈ lw_all := qin_0 (i := 58) rfl rfl
theorem qs_59 : Cond.selects "AidRegisterModel" ⟨"AidRegisterModel", "daysOf", "(I)I"⟩ ⟨"AidRegisterModel", "daysOf", "(I)I"⟩ ∈ lw_all := qin_0 (i := 59) rfl rfl
theorem qs_60 : Cond.selects "AidRegisterModel" ⟨"AidRegisterModel", "noGift", "(I)Z"⟩ ⟨"AidRegisterModel", "noGift", "(I)Z"⟩ ∈ lw_all := qin_0 (i := 60) rfl rfl
theorem qs_61 : Cond.selects "AidRegisterModel" ⟨"AidRegisterModel", "laysAid", "()V"⟩ ⟨"AidRegisterModel", "laysAid", "()V"⟩ ∈ lw_all := qin_0 (i := 61) rfl rfl
theorem qs_62 : Cond.selects "AidRegisterModel" ⟨"AidRegisterModel", "laysOrder", "()V"⟩ ⟨"AidRegisterModel", "laysOrder", "()V"⟩ ∈ lw_all := qin_0 (i := 62) rfl rfl
theorem qs_63 : Cond.selects "AidRegisterModel" ⟨"AidRegisterModel", "yearOf", "(I)I"⟩ ⟨"AidRegisterModel", "yearOf", "(I)I"⟩ ∈ lw_all := qin_0 (i := 63) rfl rfl
theorem qs_64 : Cond.selects "AidRegisterModel" ⟨"AidRegisterModel", "dayOf", "(I)I"⟩ ⟨"AidRegisterModel", "dayOf", "(I)I"⟩ ∈ lw_all := qin_0 (i := 64) rfl rfl
theorem qs_65 : Cond.selects "AidRegisterModel" ⟨"AidRegisterModel", "wishOf", "(I)I"⟩ ⟨"AidRegisterModel", "wishOf", "(I)I"⟩ ∈ lw_all := qin_0 (i := 65) rfl rfl
theorem qs_66 : Cond.selects "AidRegisterModel" ⟨"AidRegisterModel", "isForced", "(II)Z"⟩ ⟨"AidRegisterModel", "isForced", "(II)Z"⟩ ∈ lw_all := qin_0 (i := 66) rfl rfl
theorem qs_67 : Cond.selects "AidRegisterModel" ⟨"AidRegisterModel", "full", "(I)I"⟩ ⟨"AidRegisterModel", "full", "(I)I"⟩ ∈ lw_all := qin_0 (i := 67) rfl rfl
theorem qs_68 : Cond.selects "AidRegisterModel" ⟨"AidRegisterModel", "leftOf", "(I)I"⟩ ⟨"AidRegisterModel", "leftOf", "(I)I"⟩ ∈ lw_all := qin_0 (i := 68) rfl rfl
theorem qs_69 : Cond.selects "AidRegisterModel" ⟨"AidRegisterModel", "leftOfGift", "(I)I"⟩ ⟨"AidRegisterModel", "leftOfGift", "(I)I"⟩ ∈ lw_all := qin_0 (i := 69) rfl rfl
theorem qs_70 : Cond.selects "AidRegisterModel" ⟨"AidRegisterModel", "noPart", "(II)Z"⟩ ⟨"AidRegisterModel", "noPart", "(II)Z"⟩ ∈ lw_all := qin_0 (i := 70) rfl rfl
theorem qs_71 : Cond.selects "AidRegisterModel" ⟨"AidRegisterModel", "reasonOf", "(I)I"⟩ ⟨"AidRegisterModel", "reasonOf", "(I)I"⟩ ∈ lw_all := qin_0 (i := 71) rfl rfl
theorem qs_72 : Cond.selects "AidRegisterModel" ⟨"AidRegisterModel", "noDonor", "(I)Z"⟩ ⟨"AidRegisterModel", "noDonor", "(I)Z"⟩ ∈ lw_all := qin_0 (i := 72) rfl rfl
theorem qs_73 : Cond.selects "AidRegisterModel" ⟨"AidRegisterModel", "sumOf", "(III)I"⟩ ⟨"AidRegisterModel", "sumOf", "(III)I"⟩ ∈ lw_all := qin_0 (i := 73) rfl rfl
theorem qs_74 : Cond.selects "AidRegisterModel" ⟨"AidRegisterModel", "isPart", "(I)Z"⟩ ⟨"AidRegisterModel", "isPart", "(I)Z"⟩ ∈ lw_all := qin_0 (i := 74) rfl rfl
theorem qs_75 : Cond.selects "AidRegisterModel" ⟨"AidRegisterModel", "noSpan", "(II)Z"⟩ ⟨"AidRegisterModel", "noSpan", "(II)Z"⟩ ∈ lw_all := qin_0 (i := 75) rfl rfl
theorem qs_76 : Cond.selects "AidRegisterModel" ⟨"AidRegisterModel", "isNeedless", "(I)Z"⟩ ⟨"AidRegisterModel", "isNeedless", "(I)Z"⟩ ∈ lw_all := qin_0 (i := 76) rfl rfl
theorem qs_77 : Cond.selects "AidRegisterModel" ⟨"AidRegisterModel", "remembers", "()V"⟩ ⟨"AidRegisterModel", "remembers", "()V"⟩ ∈ lw_all := qin_0 (i := 77) rfl rfl
theorem qs_78 : Cond.selects "AidRegisterModel" ⟨"AidRegisterModel", "declares", "(III)V"⟩ ⟨"AidRegisterModel", "declares", "(III)V"⟩ ∈ lw_all := qin_0 (i := 78) rfl rfl
theorem qs_79 : Cond.selects "AidRegisterModel" ⟨"AidRegisterModel", "isDonorOf", "(II)Z"⟩ ⟨"AidRegisterModel", "isDonorOf", "(II)Z"⟩ ∈ lw_all := qin_0 (i := 79) rfl rfl
theorem qs_80 : Cond.selects "AidRegisterModel" ⟨"AidRegisterModel", "canSplit", "(I)Z"⟩ ⟨"AidRegisterModel", "canSplit", "(I)Z"⟩ ∈ lw_all := qin_0 (i := 80) rfl rfl
theorem qs_81 : Cond.selects "AidRegisterModel" ⟨"AidRegisterModel", "splits", "(IIII)V"⟩ ⟨"AidRegisterModel", "splits", "(IIII)V"⟩ ∈ lw_all := qin_0 (i := 81) rfl rfl
theorem qs_82 : Cond.selects "AidRegisterModel" ⟨"AidRegisterModel", "claimOf", "(II)I"⟩ ⟨"AidRegisterModel", "claimOf", "(II)I"⟩ ∈ lw_all := qin_0 (i := 82) rfl rfl
theorem qs_83 : Cond.selects "AidRegisterModel" ⟨"AidRegisterModel", "over", "(I)I"⟩ ⟨"AidRegisterModel", "over", "(I)I"⟩ ∈ lw_all := qin_0 (i := 83) rfl rfl
theorem qs_84 : Cond.selects "AidRegisterModel" ⟨"AidRegisterModel", "allAid", "()I"⟩ ⟨"AidRegisterModel", "allAid", "()I"⟩ ∈ lw_all := qin_0 (i := 84) rfl rfl
theorem qs_85 : Cond.selects "AidRegisterModel" ⟨"AidRegisterModel", "under", "(I)I"⟩ ⟨"AidRegisterModel", "under", "(I)I"⟩ ∈ lw_all := qin_0 (i := 85) rfl rfl
theorem qs_86 : Cond.selects "AidRegisterModel" ⟨"AidRegisterModel", "aidWith", "(III)I"⟩ ⟨"AidRegisterModel", "aidWith", "(III)I"⟩ ∈ lw_all := qin_0 (i := 86) rfl rfl
theorem qs_87 : Cond.selects "AidRegisterModel" ⟨"AidRegisterModel", "isDonorThere", "(II)Z"⟩ ⟨"AidRegisterModel", "isDonorThere", "(II)Z"⟩ ∈ lw_all := qin_0 (i := 87) rfl rfl
theorem qs_88 : Cond.selects "AidRegisterModel" ⟨"AidRegisterModel", "begins", "()V"⟩ ⟨"AidRegisterModel", "begins", "()V"⟩ ∈ lw_all := qin_0 (i := 88) rfl rfl
theorem qs_89 : Cond.selects "AidRegisterModel" ⟨"AidRegisterModel", "ends", "()V"⟩ ⟨"AidRegisterModel", "ends", "()V"⟩ ∈ lw_all := qin_0 (i := 89) rfl rfl
theorem qs_90 : Cond.selects "AidRegisterModel" ⟨"AidRegisterModel", "noSample", "(I)Z"⟩ ⟨"AidRegisterModel", "noSample", "(I)Z"⟩ ∈ lw_all := qin_0 (i := 90) rfl rfl
theorem qs_91 : Cond.selects "AidRegisterModel" ⟨"AidRegisterModel", "draws", "(II)V"⟩ ⟨"AidRegisterModel", "draws", "(II)V"⟩ ∈ lw_all := qin_0 (i := 91) rfl rfl
theorem qs_92 : Cond.selects "AidRegisterModel" ⟨"AidRegisterModel", "writeNumber", "(I)V"⟩ ⟨"AidRegisterModel", "writeNumber", "(I)V"⟩ ∈ lw_all := qin_0 (i := 92) rfl rfl
theorem qs_93 : Cond.selects "AidRegisterModel" ⟨"AidRegisterModel", "write", "(I)V"⟩ ⟨"AidRegisterModel", "write", "(I)V"⟩ ∈ lw_all := qin_0 (i := 93) rfl rfl
theorem qw_0 : (Jvm.Cond.initialized "AidRegisterLaw") ∈ lw_all := qin_1 (i := 0) rfl rfl
theorem qw_1 : (Jvm.Cond.initialized "AidRegister") ∈ lw_all := qin_1 (i := 1) rfl rfl
theorem qw_2 : (Jvm.Cond.initialized "AidRegister$Ledger") ∈ lw_all := qin_1 (i := 2) rfl rfl
theorem qw_3 : (Jvm.Cond.initialized "AidRegister$Declarations") ∈ lw_all := qin_1 (i := 3) rfl rfl
theorem qw_4 : (Jvm.Cond.initialized "AidRegister$Gifts") ∈ lw_all := qin_1 (i := 4) rfl rfl
theorem qw_5 : (Jvm.Cond.initialized "AidRegister$Claims") ∈ lw_all := qin_1 (i := 5) rfl rfl
theorem qw_6 : (Jvm.Cond.initialized "AidRegister$SetupReader") ∈ lw_all := qin_1 (i := 6) rfl rfl
theorem qw_7 : (Jvm.Cond.initialized "AidRegister$Drawing") ∈ lw_all := qin_1 (i := 7) rfl rfl
theorem qw_8 : (Jvm.Cond.initialized "AidRegister$Printout") ∈ lw_all := qin_1 (i := 8) rfl rfl
theorem qw_9 : (Jvm.Cond.initialized "AidRegisterModel") ∈ lw_all := qin_1 (i := 9) rfl rfl
theorem qw_10 : (Jvm.Cond.initialized "java/lang/Math") ∈ lw_all := qin_1 (i := 10) rfl rfl
theorem qw_11 : (Jvm.Cond.initialized "java/util/Arrays") ∈ lw_all := qin_1 (i := 11) rfl rfl
theorem qw_12 : (Jvm.Cond.initialized "java/lang/System") ∈ lw_all := qin_1 (i := 12) rfl rfl
theorem qw_13 : (Jvm.Cond.initialized "java/lang/String") ∈ lw_all := qin_1 (i := 13) rfl rfl
theorem qw_14 : (Jvm.Cond.initialized "java/lang/StringLatin1") ∈ lw_all := qin_1 (i := 14) rfl rfl
theorem qw_15 : (Jvm.Cond.initialized "jdk/internal/util/Preconditions") ∈ lw_all := qin_1 (i := 15) rfl rfl
theorem qw_16 : (Jvm.Cond.initialized "java/lang/StringUTF16") ∈ lw_all := qin_1 (i := 16) rfl rfl
theorem qw_17 : (Jvm.Cond.initialized "java/lang/Throwable") ∈ lw_all := qin_1 (i := 17) rfl rfl
theorem qw_18 : (Jvm.Cond.initialized "java/lang/Exception") ∈ lw_all := qin_1 (i := 18) rfl rfl
theorem qw_19 : (Jvm.Cond.initialized "java/lang/RuntimeException") ∈ lw_all := qin_1 (i := 19) rfl rfl
theorem qw_20 : (Jvm.Cond.initialized "java/lang/IllegalArgumentException") ∈ lw_all := qin_1 (i := 20) rfl rfl
theorem qw_21 : (Jvm.Cond.initialized "java/lang/IndexOutOfBoundsException") ∈ lw_all := qin_1 (i := 21) rfl rfl
theorem qw_22 : (Jvm.Cond.initialized "java/lang/IllegalStateException") ∈ lw_all := qin_1 (i := 22) rfl rfl
theorem qw_23 : (Jvm.Cond.classLink "AidRegisterLaw" (8 : Nat) "AidRegister") ∈ lw_all := qin_1 (i := 23) rfl rfl
theorem qw_24 : (Jvm.Cond.instantiable "AidRegister" (14 : Nat)) ∈ lw_all := qin_1 (i := 24) rfl rfl
theorem qw_25 : (Jvm.Cond.methodLink "AidRegisterLaw" (132 : Nat) ({ cls := "AidRegister", name := "<init>", desc := "()V" } : Jvm.MethodName)) ∈ lw_all := qin_1 (i := 25) rfl rfl
theorem qw_26 : (Jvm.Cond.instanceMethod ({ cls := "AidRegister", name := "<init>", desc := "()V" } : Jvm.MethodName)) ∈ lw_all := qin_1 (i := 26) rfl rfl
theorem qw_27 : (Jvm.Cond.code ({ cls := "AidRegister", name := "<init>", desc := "()V" } : Jvm.MethodName) prog_1_method_1_code (1 : Nat) (Option.none : Option Jvm.ClassFile.FieldType)) ∈ lw_all := qin_1 (i := 27) rfl rfl
theorem qw_28 : (Jvm.Cond.methodLink "AidRegister" (3 : Nat) ({ cls := "java/lang/Object", name := "<init>", desc := "()V" } : Jvm.MethodName)) ∈ lw_all := qin_1 (i := 28) rfl rfl
theorem qw_29 : (Jvm.Cond.instanceMethod ({ cls := "java/lang/Object", name := "<init>", desc := "()V" } : Jvm.MethodName)) ∈ lw_all := qin_1 (i := 29) rfl rfl
theorem qw_30 : (Jvm.Cond.code ({ cls := "java/lang/Object", name := "<init>", desc := "()V" } : Jvm.MethodName) object_method_1_code (1 : Nat) (Option.none : Option Jvm.ClassFile.FieldType)) ∈ lw_all := qin_1 (i := 30) rfl rfl
theorem qw_31 : (Jvm.Cond.classLink "AidRegister" (20 : Nat) "AidRegister$Ledger") ∈ lw_all := qin_1 (i := 31) rfl rfl
theorem qw_32 : (Jvm.Cond.instantiable "AidRegister$Ledger" (12 : Nat)) ∈ lw_all := qin_1 (i := 32) rfl rfl
theorem qw_33 : (Jvm.Cond.methodLink "AidRegister" (22 : Nat) ({ cls := "AidRegister$Ledger", name := "<init>", desc := "()V" } : Jvm.MethodName)) ∈ lw_all := qin_1 (i := 33) rfl rfl
theorem qw_34 : (Jvm.Cond.instanceMethod ({ cls := "AidRegister$Ledger", name := "<init>", desc := "()V" } : Jvm.MethodName)) ∈ lw_all := qin_1 (i := 34) rfl rfl
theorem qw_35 : (Jvm.Cond.code ({ cls := "AidRegister$Ledger", name := "<init>", desc := "()V" } : Jvm.MethodName) prog_6_method_1_code (1 : Nat) (Option.none : Option Jvm.ClassFile.FieldType)) ∈ lw_all := qin_1 (i := 35) rfl rfl
theorem qw_36 : (Jvm.Cond.methodLink "AidRegister$Ledger" (3 : Nat) ({ cls := "java/lang/Object", name := "<init>", desc := "()V" } : Jvm.MethodName)) ∈ lw_all := qin_1 (i := 36) rfl rfl
theorem qw_37 : (Jvm.Cond.classLink "AidRegister$Ledger" (15 : Nat) "AidRegister$Declarations") ∈ lw_all := qin_1 (i := 37) rfl rfl
theorem qw_38 : (Jvm.Cond.instantiable "AidRegister$Declarations" (4 : Nat)) ∈ lw_all := qin_1 (i := 38) rfl rfl
theorem qw_40 : (Jvm.Cond.instanceMethod ({ cls := "AidRegister$Declarations", name := "<init>", desc := "()V" } : Jvm.MethodName)) ∈ lw_all := qin_1 (i := 40) rfl rfl
theorem qw_41 : (Jvm.Cond.code ({ cls := "AidRegister$Declarations", name := "<init>", desc := "()V" } : Jvm.MethodName) prog_3_method_1_code (1 : Nat) (Option.none : Option Jvm.ClassFile.FieldType)) ∈ lw_all := qin_1 (i := 41) rfl rfl
theorem qw_42 : (Jvm.Cond.methodLink "AidRegister$Declarations" (3 : Nat) ({ cls := "java/lang/Object", name := "<init>", desc := "()V" } : Jvm.MethodName)) ∈ lw_all := qin_1 (i := 42) rfl rfl
theorem qw_43 : (Jvm.Cond.fieldLink "AidRegister$Declarations" (21 : Nat) "AidRegister$Declarations" "count" "I") ∈ lw_all := qin_1 (i := 43) rfl rfl
theorem qw_44 : (Jvm.Cond.fieldLink "AidRegister$Ledger" (78 : Nat) "AidRegister$Declarations" "count" "I") ∈ lw_all := qin_1 (i := 44) rfl rfl
theorem qw_45 : (Jvm.Cond.fieldLink "AidRegister" (102 : Nat) "AidRegister$Declarations" "count" "I") ∈ lw_all := qin_1 (i := 45) rfl rfl
theorem qw_46 : (Jvm.Cond.fieldLink "AidRegister$Declarations" (9 : Nat) "AidRegister$Declarations" "donors" "[I") ∈ lw_all := qin_1 (i := 46) rfl rfl
theorem qw_47 : (Jvm.Cond.fieldLink "AidRegister" (138 : Nat) "AidRegister$Declarations" "donors" "[I") ∈ lw_all := qin_1 (i := 47) rfl rfl
theorem qw_48 : (Jvm.Cond.fieldLink "AidRegister$Declarations" (15 : Nat) "AidRegister$Declarations" "firsts" "[I") ∈ lw_all := qin_1 (i := 48) rfl rfl
theorem qw_49 : (Jvm.Cond.fieldLink "AidRegister" (142 : Nat) "AidRegister$Declarations" "firsts" "[I") ∈ lw_all := qin_1 (i := 49) rfl rfl
theorem qw_50 : (Jvm.Cond.fieldLink "AidRegister$Declarations" (18 : Nat) "AidRegister$Declarations" "lasts" "[I") ∈ lw_all := qin_1 (i := 50) rfl rfl
theorem qw_51 : (Jvm.Cond.fieldLink "AidRegister" (145 : Nat) "AidRegister$Declarations" "lasts" "[I") ∈ lw_all := qin_1 (i := 51) rfl rfl
theorem qw_52 : (Jvm.Cond.lays "AidRegister$Declarations" "AidRegister$Declarations" "count" "I") ∈ lw_all := qin_1 (i := 52) rfl rfl
theorem qw_54 : (Jvm.Cond.laysFinal "AidRegister$Declarations" "AidRegister$Declarations" "donors" "[I") ∈ lw_all := qin_1 (i := 54) rfl rfl
theorem qw_56 : (Jvm.Cond.laysFinal "AidRegister$Declarations" "AidRegister$Declarations" "firsts" "[I") ∈ lw_all := qin_1 (i := 56) rfl rfl
theorem qw_58 : (Jvm.Cond.laysFinal "AidRegister$Declarations" "AidRegister$Declarations" "lasts" "[I") ∈ lw_all := qin_1 (i := 58) rfl rfl
theorem qw_61 : (Jvm.Cond.arrayClass Jvm.ClassFile.FieldType.byte) ∈ lw_all := qin_1 (i := 61) rfl rfl
theorem qw_62 : (Jvm.Cond.arrayClass Jvm.ClassFile.FieldType.int) ∈ lw_all := qin_1 (i := 62) rfl rfl
theorem qw_63 : (Jvm.Cond.classLink "AidRegister$Ledger" (22 : Nat) "AidRegister$Gifts") ∈ lw_all := qin_1 (i := 63) rfl rfl
theorem qw_64 : (Jvm.Cond.instantiable "AidRegister$Gifts" (12 : Nat)) ∈ lw_all := qin_1 (i := 64) rfl rfl
theorem qw_66 : (Jvm.Cond.instanceMethod ({ cls := "AidRegister$Gifts", name := "<init>", desc := "()V" } : Jvm.MethodName)) ∈ lw_all := qin_1 (i := 66) rfl rfl
theorem qw_67 : (Jvm.Cond.code ({ cls := "AidRegister$Gifts", name := "<init>", desc := "()V" } : Jvm.MethodName) prog_5_method_1_code (1 : Nat) (Option.none : Option Jvm.ClassFile.FieldType)) ∈ lw_all := qin_1 (i := 67) rfl rfl
theorem qw_68 : (Jvm.Cond.methodLink "AidRegister$Gifts" (3 : Nat) ({ cls := "java/lang/Object", name := "<init>", desc := "()V" } : Jvm.MethodName)) ∈ lw_all := qin_1 (i := 68) rfl rfl
theorem qw_69 : (Jvm.Cond.fieldLink "AidRegister$Gifts" (45 : Nat) "AidRegister$Gifts" "count" "I") ∈ lw_all := qin_1 (i := 69) rfl rfl
theorem qw_70 : (Jvm.Cond.fieldLink "AidRegister$Ledger" (81 : Nat) "AidRegister$Gifts" "count" "I") ∈ lw_all := qin_1 (i := 70) rfl rfl
theorem qw_71 : (Jvm.Cond.fieldLink "AidRegister" (90 : Nat) "AidRegister$Gifts" "count" "I") ∈ lw_all := qin_1 (i := 71) rfl rfl
theorem qw_72 : (Jvm.Cond.fieldLink "AidRegister$SetupReader" (148 : Nat) "AidRegister$Gifts" "count" "I") ∈ lw_all := qin_1 (i := 72) rfl rfl
theorem qw_73 : (Jvm.Cond.fieldLink "AidRegister$Gifts" (9 : Nat) "AidRegister$Gifts" "days" "[I") ∈ lw_all := qin_1 (i := 73) rfl rfl
theorem qw_74 : (Jvm.Cond.fieldLink "AidRegister$Ledger" (113 : Nat) "AidRegister$Gifts" "days" "[I") ∈ lw_all := qin_1 (i := 74) rfl rfl
theorem qw_75 : (Jvm.Cond.fieldLink "AidRegister" (155 : Nat) "AidRegister$Gifts" "days" "[I") ∈ lw_all := qin_1 (i := 75) rfl rfl
theorem qw_76 : (Jvm.Cond.fieldLink "AidRegister$Gifts" (15 : Nat) "AidRegister$Gifts" "amounts" "[I") ∈ lw_all := qin_1 (i := 76) rfl rfl
theorem qw_77 : (Jvm.Cond.fieldLink "AidRegister$Ledger" (132 : Nat) "AidRegister$Gifts" "amounts" "[I") ∈ lw_all := qin_1 (i := 77) rfl rfl
theorem qw_78 : (Jvm.Cond.fieldLink "AidRegister" (158 : Nat) "AidRegister$Gifts" "amounts" "[I") ∈ lw_all := qin_1 (i := 78) rfl rfl
theorem qw_79 : (Jvm.Cond.fieldLink "AidRegister$Gifts" (18 : Nat) "AidRegister$Gifts" "benefits" "[I") ∈ lw_all := qin_1 (i := 79) rfl rfl
theorem qw_80 : (Jvm.Cond.fieldLink "AidRegister$Ledger" (129 : Nat) "AidRegister$Gifts" "benefits" "[I") ∈ lw_all := qin_1 (i := 80) rfl rfl
theorem qw_81 : (Jvm.Cond.fieldLink "AidRegister" (161 : Nat) "AidRegister$Gifts" "benefits" "[I") ∈ lw_all := qin_1 (i := 81) rfl rfl
theorem qw_82 : (Jvm.Cond.fieldLink "AidRegister$Gifts" (21 : Nat) "AidRegister$Gifts" "refunds" "[I") ∈ lw_all := qin_1 (i := 82) rfl rfl
theorem qw_83 : (Jvm.Cond.fieldLink "AidRegister$Gifts" (24 : Nat) "AidRegister$Gifts" "partCounts" "[I") ∈ lw_all := qin_1 (i := 83) rfl rfl
theorem qw_84 : (Jvm.Cond.fieldLink "AidRegister$Ledger" (96 : Nat) "AidRegister$Gifts" "partCounts" "[I") ∈ lw_all := qin_1 (i := 84) rfl rfl
theorem qw_85 : (Jvm.Cond.fieldLink "AidRegister" (164 : Nat) "AidRegister$Gifts" "partCounts" "[I") ∈ lw_all := qin_1 (i := 85) rfl rfl
theorem qw_86 : (Jvm.Cond.fieldLink "AidRegister$Gifts" (27 : Nat) "AidRegister$Gifts" "byDay" "[I") ∈ lw_all := qin_1 (i := 86) rfl rfl
theorem qw_87 : (Jvm.Cond.fieldLink "AidRegister$Ledger" (83 : Nat) "AidRegister$Gifts" "byDay" "[I") ∈ lw_all := qin_1 (i := 87) rfl rfl
theorem qw_88 : (Jvm.Cond.fieldLink "AidRegister$Gifts" (30 : Nat) "AidRegister$Gifts" "partDonors" "[I") ∈ lw_all := qin_1 (i := 88) rfl rfl
theorem qw_89 : (Jvm.Cond.fieldLink "AidRegister$Ledger" (103 : Nat) "AidRegister$Gifts" "partDonors" "[I") ∈ lw_all := qin_1 (i := 89) rfl rfl
theorem qw_90 : (Jvm.Cond.fieldLink "AidRegister" (182 : Nat) "AidRegister$Gifts" "partDonors" "[I") ∈ lw_all := qin_1 (i := 90) rfl rfl
theorem qw_91 : (Jvm.Cond.fieldLink "AidRegister$Gifts" (33 : Nat) "AidRegister$Gifts" "partWeights" "[I") ∈ lw_all := qin_1 (i := 91) rfl rfl
theorem qw_92 : (Jvm.Cond.fieldLink "AidRegister$Gifts" (36 : Nat) "AidRegister$Gifts" "partAmounts" "[I") ∈ lw_all := qin_1 (i := 92) rfl rfl
theorem qw_93 : (Jvm.Cond.fieldLink "AidRegister" (185 : Nat) "AidRegister$Gifts" "partAmounts" "[I") ∈ lw_all := qin_1 (i := 93) rfl rfl
theorem qw_94 : (Jvm.Cond.fieldLink "AidRegister$Gifts" (39 : Nat) "AidRegister$Gifts" "partRefunds" "[I") ∈ lw_all := qin_1 (i := 94) rfl rfl
theorem qw_95 : (Jvm.Cond.fieldLink "AidRegister$Gifts" (42 : Nat) "AidRegister$Gifts" "partClaims" "[I") ∈ lw_all := qin_1 (i := 95) rfl rfl
theorem qw_96 : (Jvm.Cond.fieldLink "AidRegister$Drawing" (46 : Nat) "AidRegister$Gifts" "partClaims" "[I") ∈ lw_all := qin_1 (i := 96) rfl rfl
theorem qw_97 : (Jvm.Cond.fieldLink "AidRegister$Ledger" (135 : Nat) "AidRegister$Gifts" "partClaims" "[I") ∈ lw_all := qin_1 (i := 97) rfl rfl
theorem qw_98 : (Jvm.Cond.fieldLink "AidRegister" (197 : Nat) "AidRegister$Gifts" "partClaims" "[I") ∈ lw_all := qin_1 (i := 98) rfl rfl
theorem qw_99 : (Jvm.Cond.lays "AidRegister$Gifts" "AidRegister$Gifts" "count" "I") ∈ lw_all := qin_1 (i := 99) rfl rfl
theorem qw_101 : (Jvm.Cond.laysFinal "AidRegister$Gifts" "AidRegister$Gifts" "days" "[I") ∈ lw_all := qin_1 (i := 101) rfl rfl
theorem qw_103 : (Jvm.Cond.laysFinal "AidRegister$Gifts" "AidRegister$Gifts" "amounts" "[I") ∈ lw_all := qin_1 (i := 103) rfl rfl
theorem qw_105 : (Jvm.Cond.laysFinal "AidRegister$Gifts" "AidRegister$Gifts" "benefits" "[I") ∈ lw_all := qin_1 (i := 105) rfl rfl
theorem qw_107 : (Jvm.Cond.laysFinal "AidRegister$Gifts" "AidRegister$Gifts" "refunds" "[I") ∈ lw_all := qin_1 (i := 107) rfl rfl
theorem qw_109 : (Jvm.Cond.laysFinal "AidRegister$Gifts" "AidRegister$Gifts" "partCounts" "[I") ∈ lw_all := qin_1 (i := 109) rfl rfl
theorem qw_111 : (Jvm.Cond.laysFinal "AidRegister$Gifts" "AidRegister$Gifts" "byDay" "[I") ∈ lw_all := qin_1 (i := 111) rfl rfl
theorem qw_113 : (Jvm.Cond.laysFinal "AidRegister$Gifts" "AidRegister$Gifts" "partDonors" "[I") ∈ lw_all := qin_1 (i := 113) rfl rfl
theorem qw_115 : (Jvm.Cond.laysFinal "AidRegister$Gifts" "AidRegister$Gifts" "partWeights" "[I") ∈ lw_all := qin_1 (i := 115) rfl rfl
theorem qw_117 : (Jvm.Cond.laysFinal "AidRegister$Gifts" "AidRegister$Gifts" "partAmounts" "[I") ∈ lw_all := qin_1 (i := 117) rfl rfl
theorem qw_119 : (Jvm.Cond.laysFinal "AidRegister$Gifts" "AidRegister$Gifts" "partRefunds" "[I") ∈ lw_all := qin_1 (i := 119) rfl rfl
theorem qw_121 : (Jvm.Cond.laysFinal "AidRegister$Gifts" "AidRegister$Gifts" "partClaims" "[I") ∈ lw_all := qin_1 (i := 121) rfl rfl
theorem qw_124 : (Jvm.Cond.classLink "AidRegister$Ledger" (29 : Nat) "AidRegister$Claims") ∈ lw_all := qin_1 (i := 124) rfl rfl
theorem qw_125 : (Jvm.Cond.instantiable "AidRegister$Claims" (2 : Nat)) ∈ lw_all := qin_1 (i := 125) rfl rfl
theorem qw_127 : (Jvm.Cond.instanceMethod ({ cls := "AidRegister$Claims", name := "<init>", desc := "()V" } : Jvm.MethodName)) ∈ lw_all := qin_1 (i := 127) rfl rfl
theorem qw_128 : (Jvm.Cond.code ({ cls := "AidRegister$Claims", name := "<init>", desc := "()V" } : Jvm.MethodName) prog_2_method_1_code (1 : Nat) (Option.none : Option Jvm.ClassFile.FieldType)) ∈ lw_all := qin_1 (i := 128) rfl rfl
theorem qw_129 : (Jvm.Cond.methodLink "AidRegister$Claims" (3 : Nat) ({ cls := "java/lang/Object", name := "<init>", desc := "()V" } : Jvm.MethodName)) ∈ lw_all := qin_1 (i := 129) rfl rfl
theorem qw_130 : (Jvm.Cond.fieldLink "AidRegister$Claims" (15 : Nat) "AidRegister$Claims" "count" "I") ∈ lw_all := qin_1 (i := 130) rfl rfl
theorem qw_131 : (Jvm.Cond.fieldLink "AidRegister$Ledger" (82 : Nat) "AidRegister$Claims" "count" "I") ∈ lw_all := qin_1 (i := 131) rfl rfl
theorem qw_132 : (Jvm.Cond.fieldLink "AidRegister" (113 : Nat) "AidRegister$Claims" "count" "I") ∈ lw_all := qin_1 (i := 132) rfl rfl
theorem qw_133 : (Jvm.Cond.fieldLink "AidRegister$Claims" (11 : Nat) "AidRegister$Claims" "cells" "[I") ∈ lw_all := qin_1 (i := 133) rfl rfl
theorem qw_134 : (Jvm.Cond.fieldLink "AidRegister" (293 : Nat) "AidRegister$Claims" "cells" "[I") ∈ lw_all := qin_1 (i := 134) rfl rfl
theorem qw_135 : (Jvm.Cond.lays "AidRegister$Claims" "AidRegister$Claims" "count" "I") ∈ lw_all := qin_1 (i := 135) rfl rfl
theorem qw_137 : (Jvm.Cond.laysFinal "AidRegister$Claims" "AidRegister$Claims" "cells" "[I") ∈ lw_all := qin_1 (i := 137) rfl rfl
theorem qw_140 : (Jvm.Cond.methodLink "AidRegister$Ledger" (48 : Nat) ({ cls := "AidRegister$Ledger", name := "clear", desc := "()V" } : Jvm.MethodName)) ∈ lw_all := qin_1 (i := 140) rfl rfl
theorem qw_141 : (Jvm.Cond.instanceMethod ({ cls := "AidRegister$Ledger", name := "clear", desc := "()V" } : Jvm.MethodName)) ∈ lw_all := qin_1 (i := 141) rfl rfl
theorem qw_142 : (Jvm.Cond.selects "AidRegister$Ledger" ({ cls := "AidRegister$Ledger", name := "clear", desc := "()V" } : Jvm.MethodName) ({ cls := "AidRegister$Ledger", name := "clear", desc := "()V" } : Jvm.MethodName)) ∈ lw_all := qin_1 (i := 142) rfl rfl
theorem qw_143 : (Jvm.Cond.code ({ cls := "AidRegister$Ledger", name := "clear", desc := "()V" } : Jvm.MethodName) prog_6_method_3_code (1 : Nat) (Option.none : Option Jvm.ClassFile.FieldType)) ∈ lw_all := qin_1 (i := 143) rfl rfl
theorem qw_144 : (Jvm.Cond.fieldLink "AidRegister$Ledger" (51 : Nat) "AidRegister$Ledger" "rate" "I") ∈ lw_all := qin_1 (i := 144) rfl rfl
theorem qw_145 : (Jvm.Cond.fieldLink "AidRegister" (116 : Nat) "AidRegister$Ledger" "rate" "I") ∈ lw_all := qin_1 (i := 145) rfl rfl
theorem qw_146 : (Jvm.Cond.fieldLink "AidRegister$SetupReader" (151 : Nat) "AidRegister$Ledger" "rate" "I") ∈ lw_all := qin_1 (i := 146) rfl rfl
theorem qw_147 : (Jvm.Cond.fieldLink "AidRegister$Ledger" (55 : Nat) "AidRegister$Ledger" "window" "I") ∈ lw_all := qin_1 (i := 147) rfl rfl
theorem qw_148 : (Jvm.Cond.fieldLink "AidRegister" (119 : Nat) "AidRegister$Ledger" "window" "I") ∈ lw_all := qin_1 (i := 148) rfl rfl
theorem qw_149 : (Jvm.Cond.fieldLink "AidRegister$SetupReader" (154 : Nat) "AidRegister$Ledger" "window" "I") ∈ lw_all := qin_1 (i := 149) rfl rfl
theorem qw_150 : (Jvm.Cond.fieldLink "AidRegister$Ledger" (58 : Nat) "AidRegister$Ledger" "benefitLimit" "I") ∈ lw_all := qin_1 (i := 150) rfl rfl
theorem qw_151 : (Jvm.Cond.fieldLink "AidRegister" (122 : Nat) "AidRegister$Ledger" "benefitLimit" "I") ∈ lw_all := qin_1 (i := 151) rfl rfl
theorem qw_152 : (Jvm.Cond.fieldLink "AidRegister$SetupReader" (157 : Nat) "AidRegister$Ledger" "benefitLimit" "I") ∈ lw_all := qin_1 (i := 152) rfl rfl
theorem qw_153 : (Jvm.Cond.fieldLink "AidRegister$Ledger" (61 : Nat) "AidRegister$Ledger" "donorCount" "I") ∈ lw_all := qin_1 (i := 153) rfl rfl
theorem qw_154 : (Jvm.Cond.fieldLink "AidRegister$SetupReader" (99 : Nat) "AidRegister$Ledger" "donorCount" "I") ∈ lw_all := qin_1 (i := 154) rfl rfl
theorem qw_155 : (Jvm.Cond.fieldLink "AidRegister" (95 : Nat) "AidRegister$Ledger" "donorCount" "I") ∈ lw_all := qin_1 (i := 155) rfl rfl
theorem qw_156 : (Jvm.Cond.fieldLink "AidRegister$Ledger" (9 : Nat) "AidRegister$Ledger" "taxLimits" "[I") ∈ lw_all := qin_1 (i := 156) rfl rfl
theorem qw_157 : (Jvm.Cond.fieldLink "AidRegister" (214 : Nat) "AidRegister$Ledger" "taxLimits" "[I") ∈ lw_all := qin_1 (i := 157) rfl rfl
theorem qw_158 : (Jvm.Cond.fieldLink "AidRegister$Ledger" (18 : Nat) "AidRegister$Ledger" "declarations" "LAidRegister$Declarations;") ∈ lw_all := qin_1 (i := 158) rfl rfl
theorem qw_159 : (Jvm.Cond.fieldLink "AidRegister$SetupReader" (112 : Nat) "AidRegister$Ledger" "declarations" "LAidRegister$Declarations;") ∈ lw_all := qin_1 (i := 159) rfl rfl
theorem qw_160 : (Jvm.Cond.fieldLink "AidRegister" (98 : Nat) "AidRegister$Ledger" "declarations" "LAidRegister$Declarations;") ∈ lw_all := qin_1 (i := 160) rfl rfl
theorem qw_161 : (Jvm.Cond.fieldLink "AidRegister$Ledger" (25 : Nat) "AidRegister$Ledger" "gifts" "LAidRegister$Gifts;") ∈ lw_all := qin_1 (i := 161) rfl rfl
theorem qw_162 : (Jvm.Cond.fieldLink "AidRegister$SetupReader" (129 : Nat) "AidRegister$Ledger" "gifts" "LAidRegister$Gifts;") ∈ lw_all := qin_1 (i := 162) rfl rfl
theorem qw_163 : (Jvm.Cond.fieldLink "AidRegister" (86 : Nat) "AidRegister$Ledger" "gifts" "LAidRegister$Gifts;") ∈ lw_all := qin_1 (i := 163) rfl rfl
theorem qw_164 : (Jvm.Cond.fieldLink "AidRegister$Ledger" (32 : Nat) "AidRegister$Ledger" "claims" "LAidRegister$Claims;") ∈ lw_all := qin_1 (i := 164) rfl rfl
theorem qw_165 : (Jvm.Cond.fieldLink "AidRegister" (109 : Nat) "AidRegister$Ledger" "claims" "LAidRegister$Claims;") ∈ lw_all := qin_1 (i := 165) rfl rfl
theorem qw_166 : (Jvm.Cond.fieldLink "AidRegister$Ledger" (36 : Nat) "AidRegister$Ledger" "openWishes" "[I") ∈ lw_all := qin_1 (i := 166) rfl rfl
theorem qw_167 : (Jvm.Cond.fieldLink "AidRegister$Ledger" (39 : Nat) "AidRegister$Ledger" "wishes" "[I") ∈ lw_all := qin_1 (i := 167) rfl rfl
theorem qw_168 : (Jvm.Cond.fieldLink "AidRegister" (191 : Nat) "AidRegister$Ledger" "wishes" "[I") ∈ lw_all := qin_1 (i := 168) rfl rfl
theorem qw_169 : (Jvm.Cond.fieldLink "AidRegister$Ledger" (42 : Nat) "AidRegister$Ledger" "aids" "[I") ∈ lw_all := qin_1 (i := 169) rfl rfl
theorem qw_170 : (Jvm.Cond.fieldLink "AidRegister" (194 : Nat) "AidRegister$Ledger" "aids" "[I") ∈ lw_all := qin_1 (i := 170) rfl rfl
theorem qw_171 : (Jvm.Cond.fieldLink "AidRegister$Ledger" (45 : Nat) "AidRegister$Ledger" "usedOfLimits" "[I") ∈ lw_all := qin_1 (i := 171) rfl rfl
theorem qw_172 : (Jvm.Cond.lays "AidRegister$Ledger" "AidRegister$Ledger" "rate" "I") ∈ lw_all := qin_1 (i := 172) rfl rfl
theorem qw_174 : (Jvm.Cond.lays "AidRegister$Ledger" "AidRegister$Ledger" "window" "I") ∈ lw_all := qin_1 (i := 174) rfl rfl
theorem qw_176 : (Jvm.Cond.lays "AidRegister$Ledger" "AidRegister$Ledger" "benefitLimit" "I") ∈ lw_all := qin_1 (i := 176) rfl rfl
theorem qw_178 : (Jvm.Cond.lays "AidRegister$Ledger" "AidRegister$Ledger" "donorCount" "I") ∈ lw_all := qin_1 (i := 178) rfl rfl
theorem qw_180 : (Jvm.Cond.laysFinal "AidRegister$Ledger" "AidRegister$Ledger" "taxLimits" "[I") ∈ lw_all := qin_1 (i := 180) rfl rfl
theorem qw_182 : (Jvm.Cond.laysFinal "AidRegister$Ledger" "AidRegister$Ledger" "declarations" "LAidRegister$Declarations;") ∈ lw_all := qin_1 (i := 182) rfl rfl
theorem qw_184 : (Jvm.Cond.laysFinal "AidRegister$Ledger" "AidRegister$Ledger" "gifts" "LAidRegister$Gifts;") ∈ lw_all := qin_1 (i := 184) rfl rfl
theorem qw_186 : (Jvm.Cond.laysFinal "AidRegister$Ledger" "AidRegister$Ledger" "claims" "LAidRegister$Claims;") ∈ lw_all := qin_1 (i := 186) rfl rfl
theorem qw_188 : (Jvm.Cond.laysFinal "AidRegister$Ledger" "AidRegister$Ledger" "openWishes" "[I") ∈ lw_all := qin_1 (i := 188) rfl rfl
theorem qw_190 : (Jvm.Cond.laysFinal "AidRegister$Ledger" "AidRegister$Ledger" "wishes" "[I") ∈ lw_all := qin_1 (i := 190) rfl rfl
theorem qw_192 : (Jvm.Cond.laysFinal "AidRegister$Ledger" "AidRegister$Ledger" "aids" "[I") ∈ lw_all := qin_1 (i := 192) rfl rfl
theorem qw_194 : (Jvm.Cond.laysFinal "AidRegister$Ledger" "AidRegister$Ledger" "usedOfLimits" "[I") ∈ lw_all := qin_1 (i := 194) rfl rfl
theorem qw_198 : (Jvm.Cond.classLink "AidRegister" (37 : Nat) "AidRegister$SetupReader") ∈ lw_all := qin_1 (i := 198) rfl rfl
theorem qw_199 : (Jvm.Cond.instantiable "AidRegister$SetupReader" (11 : Nat)) ∈ lw_all := qin_1 (i := 199) rfl rfl
theorem qw_200 : (Jvm.Cond.methodLink "AidRegister" (39 : Nat) ({ cls := "AidRegister$SetupReader", name := "<init>", desc := "([BLAidRegister$Ledger;)V" } : Jvm.MethodName)) ∈ lw_all := qin_1 (i := 200) rfl rfl
theorem qw_201 : (Jvm.Cond.instanceMethod ({ cls := "AidRegister$SetupReader", name := "<init>", desc := "([BLAidRegister$Ledger;)V" } : Jvm.MethodName)) ∈ lw_all := qin_1 (i := 201) rfl rfl
theorem qw_202 : (Jvm.Cond.code ({ cls := "AidRegister$SetupReader", name := "<init>", desc := "([BLAidRegister$Ledger;)V" } : Jvm.MethodName) prog_8_method_1_code (3 : Nat) (Option.none : Option Jvm.ClassFile.FieldType)) ∈ lw_all := qin_1 (i := 202) rfl rfl
theorem qw_203 : (Jvm.Cond.methodLink "AidRegister$SetupReader" (3 : Nat) ({ cls := "java/lang/Object", name := "<init>", desc := "()V" } : Jvm.MethodName)) ∈ lw_all := qin_1 (i := 203) rfl rfl
theorem qw_204 : (Jvm.Cond.fieldLink "AidRegister$SetupReader" (36 : Nat) "AidRegister$SetupReader" "error" "I") ∈ lw_all := qin_1 (i := 204) rfl rfl
theorem qw_205 : (Jvm.Cond.fieldLink "AidRegister" (70 : Nat) "AidRegister$SetupReader" "error" "I") ∈ lw_all := qin_1 (i := 205) rfl rfl
theorem qw_206 : (Jvm.Cond.fieldLink "AidRegister$SetupReader" (39 : Nat) "AidRegister$SetupReader" "errorPlace" "I") ∈ lw_all := qin_1 (i := 206) rfl rfl
theorem qw_207 : (Jvm.Cond.fieldLink "AidRegister" (71 : Nat) "AidRegister$SetupReader" "errorPlace" "I") ∈ lw_all := qin_1 (i := 207) rfl rfl
theorem qw_208 : (Jvm.Cond.fieldLink "AidRegister$SetupReader" (15 : Nat) "AidRegister$SetupReader" "text" "[B") ∈ lw_all := qin_1 (i := 208) rfl rfl
theorem qw_209 : (Jvm.Cond.fieldLink "AidRegister$SetupReader" (19 : Nat) "AidRegister$SetupReader" "target" "LAidRegister$Ledger;") ∈ lw_all := qin_1 (i := 209) rfl rfl
theorem qw_210 : (Jvm.Cond.fieldLink "AidRegister$SetupReader" (29 : Nat) "AidRegister$SetupReader" "length" "I") ∈ lw_all := qin_1 (i := 210) rfl rfl
theorem qw_211 : (Jvm.Cond.fieldLink "AidRegister$SetupReader" (160 : Nat) "AidRegister$SetupReader" "start" "I") ∈ lw_all := qin_1 (i := 211) rfl rfl
theorem qw_212 : (Jvm.Cond.fieldLink "AidRegister$SetupReader" (33 : Nat) "AidRegister$SetupReader" "at" "I") ∈ lw_all := qin_1 (i := 212) rfl rfl
theorem qw_213 : (Jvm.Cond.fieldLink "AidRegister$SetupReader" (54 : Nat) "AidRegister$SetupReader" "kind" "I") ∈ lw_all := qin_1 (i := 213) rfl rfl
theorem qw_214 : (Jvm.Cond.fieldLink "AidRegister$SetupReader" (57 : Nat) "AidRegister$SetupReader" "word" "J") ∈ lw_all := qin_1 (i := 214) rfl rfl
theorem qw_215 : (Jvm.Cond.fieldLink "AidRegister$SetupReader" (42 : Nat) "AidRegister$SetupReader" "rulesTold" "Z") ∈ lw_all := qin_1 (i := 215) rfl rfl
theorem qw_216 : (Jvm.Cond.fieldLink "AidRegister$SetupReader" (9 : Nat) "AidRegister$SetupReader" "names" "[J") ∈ lw_all := qin_1 (i := 216) rfl rfl
theorem qw_217 : (Jvm.Cond.lays "AidRegister$SetupReader" "AidRegister$SetupReader" "error" "I") ∈ lw_all := qin_1 (i := 217) rfl rfl
theorem qw_219 : (Jvm.Cond.lays "AidRegister$SetupReader" "AidRegister$SetupReader" "errorPlace" "I") ∈ lw_all := qin_1 (i := 219) rfl rfl
theorem qw_221 : (Jvm.Cond.laysFinal "AidRegister$SetupReader" "AidRegister$SetupReader" "text" "[B") ∈ lw_all := qin_1 (i := 221) rfl rfl
theorem qw_223 : (Jvm.Cond.laysFinal "AidRegister$SetupReader" "AidRegister$SetupReader" "target" "LAidRegister$Ledger;") ∈ lw_all := qin_1 (i := 223) rfl rfl
theorem qw_225 : (Jvm.Cond.lays "AidRegister$SetupReader" "AidRegister$SetupReader" "length" "I") ∈ lw_all := qin_1 (i := 225) rfl rfl
theorem qw_227 : (Jvm.Cond.lays "AidRegister$SetupReader" "AidRegister$SetupReader" "start" "I") ∈ lw_all := qin_1 (i := 227) rfl rfl
theorem qw_229 : (Jvm.Cond.lays "AidRegister$SetupReader" "AidRegister$SetupReader" "at" "I") ∈ lw_all := qin_1 (i := 229) rfl rfl
theorem qw_231 : (Jvm.Cond.lays "AidRegister$SetupReader" "AidRegister$SetupReader" "kind" "I") ∈ lw_all := qin_1 (i := 231) rfl rfl
theorem qw_233 : (Jvm.Cond.lays "AidRegister$SetupReader" "AidRegister$SetupReader" "word" "J") ∈ lw_all := qin_1 (i := 233) rfl rfl
theorem qw_235 : (Jvm.Cond.lays "AidRegister$SetupReader" "AidRegister$SetupReader" "rulesTold" "Z") ∈ lw_all := qin_1 (i := 235) rfl rfl
theorem qw_237 : (Jvm.Cond.laysFinal "AidRegister$SetupReader" "AidRegister$SetupReader" "names" "[J") ∈ lw_all := qin_1 (i := 237) rfl rfl
theorem qw_240 : (Jvm.Cond.arrayClass Jvm.ClassFile.FieldType.long) ∈ lw_all := qin_2 (i := 0) rfl rfl
theorem qw_241 : (Jvm.Cond.classLink "AidRegister" (46 : Nat) "AidRegister$Drawing") ∈ lw_all := qin_2 (i := 1) rfl rfl
theorem qw_242 : (Jvm.Cond.instantiable "AidRegister$Drawing" (4 : Nat)) ∈ lw_all := qin_2 (i := 2) rfl rfl
theorem qw_244 : (Jvm.Cond.instanceMethod ({ cls := "AidRegister$Drawing", name := "<init>", desc := "()V" } : Jvm.MethodName)) ∈ lw_all := qin_2 (i := 4) rfl rfl
theorem qw_245 : (Jvm.Cond.code ({ cls := "AidRegister$Drawing", name := "<init>", desc := "()V" } : Jvm.MethodName) prog_4_method_1_code (1 : Nat) (Option.none : Option Jvm.ClassFile.FieldType)) ∈ lw_all := qin_2 (i := 5) rfl rfl
theorem qw_246 : (Jvm.Cond.methodLink "AidRegister$Drawing" (3 : Nat) ({ cls := "java/lang/Object", name := "<init>", desc := "()V" } : Jvm.MethodName)) ∈ lw_all := qin_2 (i := 6) rfl rfl
theorem qw_247 : (Jvm.Cond.fieldLink "AidRegister$Drawing" (9 : Nat) "AidRegister$Drawing" "drawn" "[I") ∈ lw_all := qin_2 (i := 7) rfl rfl
theorem qw_248 : (Jvm.Cond.fieldLink "AidRegister" (340 : Nat) "AidRegister$Drawing" "drawn" "[I") ∈ lw_all := qin_2 (i := 8) rfl rfl
theorem qw_249 : (Jvm.Cond.fieldLink "AidRegister$Drawing" (22 : Nat) "AidRegister$Drawing" "drawnCount" "I") ∈ lw_all := qin_2 (i := 9) rfl rfl
theorem qw_250 : (Jvm.Cond.fieldLink "AidRegister" (337 : Nat) "AidRegister$Drawing" "drawnCount" "I") ∈ lw_all := qin_2 (i := 10) rfl rfl
theorem qw_251 : (Jvm.Cond.fieldLink "AidRegister$Drawing" (15 : Nat) "AidRegister$Drawing" "pool" "[I") ∈ lw_all := qin_2 (i := 11) rfl rfl
theorem qw_252 : (Jvm.Cond.fieldLink "AidRegister$Drawing" (26 : Nat) "AidRegister$Drawing" "poolCount" "I") ∈ lw_all := qin_2 (i := 12) rfl rfl
theorem qw_253 : (Jvm.Cond.laysFinal "AidRegister$Drawing" "AidRegister$Drawing" "drawn" "[I") ∈ lw_all := qin_2 (i := 13) rfl rfl
theorem qw_255 : (Jvm.Cond.lays "AidRegister$Drawing" "AidRegister$Drawing" "drawnCount" "I") ∈ lw_all := qin_2 (i := 15) rfl rfl
theorem qw_257 : (Jvm.Cond.laysFinal "AidRegister$Drawing" "AidRegister$Drawing" "pool" "[I") ∈ lw_all := qin_2 (i := 17) rfl rfl
theorem qw_259 : (Jvm.Cond.lays "AidRegister$Drawing" "AidRegister$Drawing" "poolCount" "I") ∈ lw_all := qin_2 (i := 19) rfl rfl
theorem qw_262 : (Jvm.Cond.classLink "AidRegister" (53 : Nat) "AidRegister$Printout") ∈ lw_all := qin_2 (i := 22) rfl rfl
theorem qw_263 : (Jvm.Cond.instantiable "AidRegister$Printout" (2 : Nat)) ∈ lw_all := qin_2 (i := 23) rfl rfl
theorem qw_265 : (Jvm.Cond.instanceMethod ({ cls := "AidRegister$Printout", name := "<init>", desc := "()V" } : Jvm.MethodName)) ∈ lw_all := qin_2 (i := 25) rfl rfl
theorem qw_266 : (Jvm.Cond.code ({ cls := "AidRegister$Printout", name := "<init>", desc := "()V" } : Jvm.MethodName) prog_7_method_1_code (1 : Nat) (Option.none : Option Jvm.ClassFile.FieldType)) ∈ lw_all := qin_2 (i := 26) rfl rfl
theorem qw_267 : (Jvm.Cond.methodLink "AidRegister$Printout" (3 : Nat) ({ cls := "java/lang/Object", name := "<init>", desc := "()V" } : Jvm.MethodName)) ∈ lw_all := qin_2 (i := 27) rfl rfl
theorem qw_268 : (Jvm.Cond.fieldLink "AidRegister$Printout" (9 : Nat) "AidRegister$Printout" "bytes" "[B") ∈ lw_all := qin_2 (i := 28) rfl rfl
theorem qw_269 : (Jvm.Cond.fieldLink "AidRegister" (367 : Nat) "AidRegister$Printout" "bytes" "[B") ∈ lw_all := qin_2 (i := 29) rfl rfl
theorem qw_270 : (Jvm.Cond.fieldLink "AidRegister$Printout" (15 : Nat) "AidRegister$Printout" "length" "I") ∈ lw_all := qin_2 (i := 30) rfl rfl
theorem qw_271 : (Jvm.Cond.fieldLink "AidRegister" (364 : Nat) "AidRegister$Printout" "length" "I") ∈ lw_all := qin_2 (i := 31) rfl rfl
theorem qw_272 : (Jvm.Cond.laysFinal "AidRegister$Printout" "AidRegister$Printout" "bytes" "[B") ∈ lw_all := qin_2 (i := 32) rfl rfl
theorem qw_274 : (Jvm.Cond.lays "AidRegister$Printout" "AidRegister$Printout" "length" "I") ∈ lw_all := qin_2 (i := 34) rfl rfl
theorem qw_277 : (Jvm.Cond.fieldLink "AidRegister" (9 : Nat) "AidRegister" "input" "[B") ∈ lw_all := qin_2 (i := 37) rfl rfl
theorem qw_278 : (Jvm.Cond.fieldLink "AidRegister" (60 : Nat) "AidRegister" "inputLength" "I") ∈ lw_all := qin_2 (i := 38) rfl rfl
theorem qw_279 : (Jvm.Cond.fieldLink "AidRegister" (13 : Nat) "AidRegister" "error" "I") ∈ lw_all := qin_2 (i := 39) rfl rfl
theorem qw_280 : (Jvm.Cond.fieldLink "AidRegister" (17 : Nat) "AidRegister" "errorPlace" "I") ∈ lw_all := qin_2 (i := 40) rfl rfl
theorem qw_281 : (Jvm.Cond.fieldLink "AidRegister" (23 : Nat) "AidRegister" "now" "LAidRegister$Ledger;") ∈ lw_all := qin_2 (i := 41) rfl rfl
theorem qw_282 : (Jvm.Cond.fieldLink "AidRegister" (27 : Nat) "AidRegister" "trial" "LAidRegister$Ledger;") ∈ lw_all := qin_2 (i := 42) rfl rfl
theorem qw_283 : (Jvm.Cond.fieldLink "AidRegister" (30 : Nat) "AidRegister" "saved" "LAidRegister$Ledger;") ∈ lw_all := qin_2 (i := 43) rfl rfl
theorem qw_284 : (Jvm.Cond.fieldLink "AidRegister" (82 : Nat) "AidRegister" "isSaved" "Z") ∈ lw_all := qin_2 (i := 44) rfl rfl
theorem qw_285 : (Jvm.Cond.fieldLink "AidRegister" (33 : Nat) "AidRegister" "past" "[LAidRegister$Ledger;") ∈ lw_all := qin_2 (i := 45) rfl rfl
theorem qw_286 : (Jvm.Cond.fieldLink "AidRegister" (370 : Nat) "AidRegister" "pastPlace" "I") ∈ lw_all := qin_2 (i := 46) rfl rfl
theorem qw_287 : (Jvm.Cond.fieldLink "AidRegister" (79 : Nat) "AidRegister" "pastCount" "I") ∈ lw_all := qin_2 (i := 47) rfl rfl
theorem qw_288 : (Jvm.Cond.fieldLink "AidRegister" (42 : Nat) "AidRegister" "reader" "LAidRegister$SetupReader;") ∈ lw_all := qin_2 (i := 48) rfl rfl
theorem qw_289 : (Jvm.Cond.fieldLink "AidRegister" (49 : Nat) "AidRegister" "drawing" "LAidRegister$Drawing;") ∈ lw_all := qin_2 (i := 49) rfl rfl
theorem qw_290 : (Jvm.Cond.fieldLink "AidRegister" (56 : Nat) "AidRegister" "output" "LAidRegister$Printout;") ∈ lw_all := qin_2 (i := 50) rfl rfl
theorem qw_291 : (Jvm.Cond.laysFinal "AidRegister" "AidRegister" "input" "[B") ∈ lw_all := qin_2 (i := 51) rfl rfl
theorem qw_293 : (Jvm.Cond.lays "AidRegister" "AidRegister" "inputLength" "I") ∈ lw_all := qin_2 (i := 53) rfl rfl
theorem qw_295 : (Jvm.Cond.lays "AidRegister" "AidRegister" "error" "I") ∈ lw_all := qin_2 (i := 55) rfl rfl
theorem qw_297 : (Jvm.Cond.lays "AidRegister" "AidRegister" "errorPlace" "I") ∈ lw_all := qin_2 (i := 57) rfl rfl
theorem qw_299 : (Jvm.Cond.laysFinal "AidRegister" "AidRegister" "now" "LAidRegister$Ledger;") ∈ lw_all := qin_2 (i := 59) rfl rfl
theorem qw_301 : (Jvm.Cond.laysFinal "AidRegister" "AidRegister" "trial" "LAidRegister$Ledger;") ∈ lw_all := qin_2 (i := 61) rfl rfl
theorem qw_303 : (Jvm.Cond.laysFinal "AidRegister" "AidRegister" "saved" "LAidRegister$Ledger;") ∈ lw_all := qin_2 (i := 63) rfl rfl
theorem qw_305 : (Jvm.Cond.lays "AidRegister" "AidRegister" "isSaved" "Z") ∈ lw_all := qin_2 (i := 65) rfl rfl
theorem qw_307 : (Jvm.Cond.laysFinal "AidRegister" "AidRegister" "past" "[LAidRegister$Ledger;") ∈ lw_all := qin_2 (i := 67) rfl rfl
theorem qw_309 : (Jvm.Cond.lays "AidRegister" "AidRegister" "pastPlace" "I") ∈ lw_all := qin_2 (i := 69) rfl rfl
theorem qw_311 : (Jvm.Cond.lays "AidRegister" "AidRegister" "pastCount" "I") ∈ lw_all := qin_2 (i := 71) rfl rfl
theorem qw_313 : (Jvm.Cond.laysFinal "AidRegister" "AidRegister" "reader" "LAidRegister$SetupReader;") ∈ lw_all := qin_2 (i := 73) rfl rfl
theorem qw_315 : (Jvm.Cond.laysFinal "AidRegister" "AidRegister" "drawing" "LAidRegister$Drawing;") ∈ lw_all := qin_2 (i := 75) rfl rfl
theorem qw_317 : (Jvm.Cond.laysFinal "AidRegister" "AidRegister" "output" "LAidRegister$Printout;") ∈ lw_all := qin_2 (i := 77) rfl rfl
theorem qw_320 : (Jvm.Cond.methodLink "AidRegisterLaw" (136 : Nat) ({ cls := "AidRegister", name := "appendInput", desc := "(IIIII)I" } : Jvm.MethodName)) ∈ lw_all := qin_2 (i := 80) rfl rfl
theorem qw_321 : (Jvm.Cond.instanceMethod ({ cls := "AidRegister", name := "appendInput", desc := "(IIIII)I" } : Jvm.MethodName)) ∈ lw_all := qin_2 (i := 81) rfl rfl
theorem qw_322 : (Jvm.Cond.selects "AidRegister" ({ cls := "AidRegister", name := "appendInput", desc := "(IIIII)I" } : Jvm.MethodName) ({ cls := "AidRegister", name := "appendInput", desc := "(IIIII)I" } : Jvm.MethodName)) ∈ lw_all := qin_2 (i := 82) rfl rfl
theorem qw_323 : (Jvm.Cond.code ({ cls := "AidRegister", name := "appendInput", desc := "(IIIII)I" } : Jvm.MethodName) prog_1_method_2_code (6 : Nat) (Option.some Jvm.ClassFile.FieldType.int)) ∈ lw_all := qin_2 (i := 83) rfl rfl
theorem qw_324 : (Jvm.Cond.methodLink "AidRegister" (63 : Nat) ({ cls := "AidRegister", name := "appendBytes", desc := "(I)V" } : Jvm.MethodName)) ∈ lw_all := qin_2 (i := 84) rfl rfl
theorem qw_326 : (Jvm.Cond.instanceMethod ({ cls := "AidRegister", name := "appendBytes", desc := "(I)V" } : Jvm.MethodName)) ∈ lw_all := qin_2 (i := 86) rfl rfl
theorem qw_327 : (Jvm.Cond.code ({ cls := "AidRegister", name := "appendBytes", desc := "(I)V" } : Jvm.MethodName) prog_1_method_3_code (3 : Nat) (Option.none : Option Jvm.ClassFile.FieldType)) ∈ lw_all := qin_2 (i := 87) rfl rfl
theorem qw_328 : (Jvm.Cond.methodLink "AidRegisterLaw" (141 : Nat) ({ cls := "AidRegister", name := "truncateInput", desc := "(I)Z" } : Jvm.MethodName)) ∈ lw_all := qin_2 (i := 88) rfl rfl
theorem qw_329 : (Jvm.Cond.instanceMethod ({ cls := "AidRegister", name := "truncateInput", desc := "(I)Z" } : Jvm.MethodName)) ∈ lw_all := qin_2 (i := 89) rfl rfl
theorem qw_330 : (Jvm.Cond.selects "AidRegister" ({ cls := "AidRegister", name := "truncateInput", desc := "(I)Z" } : Jvm.MethodName) ({ cls := "AidRegister", name := "truncateInput", desc := "(I)Z" } : Jvm.MethodName)) ∈ lw_all := qin_2 (i := 90) rfl rfl
theorem qw_331 : (Jvm.Cond.code ({ cls := "AidRegister", name := "truncateInput", desc := "(I)Z" } : Jvm.MethodName) prog_1_method_4_code (2 : Nat) (Option.some Jvm.ClassFile.FieldType.boolean)) ∈ lw_all := qin_2 (i := 91) rfl rfl
theorem qw_332 : (Jvm.Cond.methodLink "AidRegisterLaw" (146 : Nat) ({ cls := "AidRegister", name := "loadRegister", desc := "()I" } : Jvm.MethodName)) ∈ lw_all := qin_2 (i := 92) rfl rfl
theorem qw_333 : (Jvm.Cond.instanceMethod ({ cls := "AidRegister", name := "loadRegister", desc := "()I" } : Jvm.MethodName)) ∈ lw_all := qin_2 (i := 93) rfl rfl
theorem qw_334 : (Jvm.Cond.selects "AidRegister" ({ cls := "AidRegister", name := "loadRegister", desc := "()I" } : Jvm.MethodName) ({ cls := "AidRegister", name := "loadRegister", desc := "()I" } : Jvm.MethodName)) ∈ lw_all := qin_2 (i := 94) rfl rfl
theorem qw_335 : (Jvm.Cond.code ({ cls := "AidRegister", name := "loadRegister", desc := "()I" } : Jvm.MethodName) prog_1_method_5_code (1 : Nat) (Option.some Jvm.ClassFile.FieldType.int)) ∈ lw_all := qin_2 (i := 95) rfl rfl
theorem qw_336 : (Jvm.Cond.methodLink "AidRegister" (67 : Nat) ({ cls := "AidRegister$SetupReader", name := "readAll", desc := "(I)V" } : Jvm.MethodName)) ∈ lw_all := qin_2 (i := 96) rfl rfl
theorem qw_337 : (Jvm.Cond.instanceMethod ({ cls := "AidRegister$SetupReader", name := "readAll", desc := "(I)V" } : Jvm.MethodName)) ∈ lw_all := qin_2 (i := 97) rfl rfl
theorem qw_338 : (Jvm.Cond.selects "AidRegister$SetupReader" ({ cls := "AidRegister$SetupReader", name := "readAll", desc := "(I)V" } : Jvm.MethodName) ({ cls := "AidRegister$SetupReader", name := "readAll", desc := "(I)V" } : Jvm.MethodName)) ∈ lw_all := qin_2 (i := 98) rfl rfl
theorem qw_339 : (Jvm.Cond.code ({ cls := "AidRegister$SetupReader", name := "readAll", desc := "(I)V" } : Jvm.MethodName) prog_8_method_2_code (3 : Nat) (Option.none : Option Jvm.ClassFile.FieldType)) ∈ lw_all := qin_2 (i := 99) rfl rfl
theorem qw_340 : (Jvm.Cond.methodLink "AidRegister$SetupReader" (23 : Nat) ({ cls := "java/lang/Math", name := "min", desc := "(II)I" } : Jvm.MethodName)) ∈ lw_all := qin_2 (i := 100) rfl rfl
theorem qw_341 : (Jvm.Cond.static ({ cls := "java/lang/Math", name := "min", desc := "(II)I" } : Jvm.MethodName)) ∈ lw_all := qin_2 (i := 101) rfl rfl
theorem qw_342 : (Jvm.Cond.code ({ cls := "java/lang/Math", name := "min", desc := "(II)I" } : Jvm.MethodName) prog_15_method_69_code (2 : Nat) (Option.some Jvm.ClassFile.FieldType.int)) ∈ lw_all := qin_2 (i := 102) rfl rfl
theorem qw_343 : (Jvm.Cond.methodLink "AidRegister$SetupReader" (46 : Nat) ({ cls := "AidRegister$Ledger", name := "clear", desc := "()V" } : Jvm.MethodName)) ∈ lw_all := qin_2 (i := 103) rfl rfl
theorem qw_344 : (Jvm.Cond.methodLink "AidRegister$SetupReader" (51 : Nat) ({ cls := "AidRegister$SetupReader", name := "advance", desc := "()V" } : Jvm.MethodName)) ∈ lw_all := qin_2 (i := 104) rfl rfl
theorem qw_346 : (Jvm.Cond.instanceMethod ({ cls := "AidRegister$SetupReader", name := "advance", desc := "()V" } : Jvm.MethodName)) ∈ lw_all := qin_2 (i := 106) rfl rfl
theorem qw_347 : (Jvm.Cond.code ({ cls := "AidRegister$SetupReader", name := "advance", desc := "()V" } : Jvm.MethodName) prog_8_method_15_code (1 : Nat) (Option.none : Option Jvm.ClassFile.FieldType)) ∈ lw_all := qin_2 (i := 107) rfl rfl
theorem qw_348 : (Jvm.Cond.methodLink "AidRegister$SetupReader" (166 : Nat) ({ cls := "AidRegister$SetupReader", name := "kindAt", desc := "(I)I" } : Jvm.MethodName)) ∈ lw_all := qin_2 (i := 108) rfl rfl
theorem qw_350 : (Jvm.Cond.instanceMethod ({ cls := "AidRegister$SetupReader", name := "kindAt", desc := "(I)I" } : Jvm.MethodName)) ∈ lw_all := qin_2 (i := 110) rfl rfl
theorem qw_351 : (Jvm.Cond.code ({ cls := "AidRegister$SetupReader", name := "kindAt", desc := "(I)I" } : Jvm.MethodName) prog_8_method_16_code (3 : Nat) (Option.some Jvm.ClassFile.FieldType.int)) ∈ lw_all := qin_2 (i := 111) rfl rfl
theorem qw_352 : (Jvm.Cond.methodLink "AidRegister$SetupReader" (170 : Nat) ({ cls := "AidRegister$SetupReader", name := "packedWord", desc := "()J" } : Jvm.MethodName)) ∈ lw_all := qin_2 (i := 112) rfl rfl
theorem qw_354 : (Jvm.Cond.instanceMethod ({ cls := "AidRegister$SetupReader", name := "packedWord", desc := "()J" } : Jvm.MethodName)) ∈ lw_all := qin_2 (i := 114) rfl rfl
theorem qw_355 : (Jvm.Cond.code ({ cls := "AidRegister$SetupReader", name := "packedWord", desc := "()J" } : Jvm.MethodName) prog_8_method_17_code (4 : Nat) (Option.some Jvm.ClassFile.FieldType.long)) ∈ lw_all := qin_2 (i := 115) rfl rfl
theorem qw_356 : (Jvm.Cond.constantLong "AidRegister$SetupReader" (61 : Nat) (431366238066 : Int64)) ∈ lw_all := qin_2 (i := 116) rfl rfl
theorem qw_357 : (Jvm.Cond.methodLink "AidRegister$SetupReader" (63 : Nat) ({ cls := "AidRegister$SetupReader", name := "readDonor", desc := "()V" } : Jvm.MethodName)) ∈ lw_all := qin_2 (i := 117) rfl rfl
theorem qw_359 : (Jvm.Cond.instanceMethod ({ cls := "AidRegister$SetupReader", name := "readDonor", desc := "()V" } : Jvm.MethodName)) ∈ lw_all := qin_2 (i := 119) rfl rfl
theorem qw_360 : (Jvm.Cond.code ({ cls := "AidRegister$SetupReader", name := "readDonor", desc := "()V" } : Jvm.MethodName) prog_8_method_3_code (5 : Nat) (Option.none : Option Jvm.ClassFile.FieldType)) ∈ lw_all := qin_2 (i := 120) rfl rfl
theorem qw_361 : (Jvm.Cond.methodLink "AidRegister$SetupReader" (95 : Nat) ({ cls := "AidRegister$SetupReader", name := "fail", desc := "(I)V" } : Jvm.MethodName)) ∈ lw_all := qin_2 (i := 121) rfl rfl
theorem qw_363 : (Jvm.Cond.instanceMethod ({ cls := "AidRegister$SetupReader", name := "fail", desc := "(I)V" } : Jvm.MethodName)) ∈ lw_all := qin_2 (i := 123) rfl rfl
theorem qw_364 : (Jvm.Cond.code ({ cls := "AidRegister$SetupReader", name := "fail", desc := "(I)V" } : Jvm.MethodName) prog_8_method_18_code (2 : Nat) (Option.none : Option Jvm.ClassFile.FieldType)) ∈ lw_all := qin_2 (i := 124) rfl rfl
theorem qw_365 : (Jvm.Cond.methodLink "AidRegister$SetupReader" (102 : Nat) ({ cls := "AidRegister$SetupReader", name := "namedDonor", desc := "()I" } : Jvm.MethodName)) ∈ lw_all := qin_2 (i := 125) rfl rfl
theorem qw_367 : (Jvm.Cond.instanceMethod ({ cls := "AidRegister$SetupReader", name := "namedDonor", desc := "()I" } : Jvm.MethodName)) ∈ lw_all := qin_2 (i := 127) rfl rfl
theorem qw_368 : (Jvm.Cond.code ({ cls := "AidRegister$SetupReader", name := "namedDonor", desc := "()I" } : Jvm.MethodName) prog_8_method_13_code (2 : Nat) (Option.some Jvm.ClassFile.FieldType.int)) ∈ lw_all := qin_2 (i := 128) rfl rfl
theorem qw_369 : (Jvm.Cond.methodLink "AidRegister$SetupReader" (163 : Nat) ({ cls := "AidRegister$SetupReader", name := "isFirstWord", desc := "()Z" } : Jvm.MethodName)) ∈ lw_all := qin_2 (i := 129) rfl rfl
theorem qw_371 : (Jvm.Cond.instanceMethod ({ cls := "AidRegister$SetupReader", name := "isFirstWord", desc := "()Z" } : Jvm.MethodName)) ∈ lw_all := qin_2 (i := 131) rfl rfl
theorem qw_372 : (Jvm.Cond.code ({ cls := "AidRegister$SetupReader", name := "isFirstWord", desc := "()Z" } : Jvm.MethodName) prog_8_method_14_code (1 : Nat) (Option.some Jvm.ClassFile.FieldType.boolean)) ∈ lw_all := qin_2 (i := 132) rfl rfl
theorem qw_373 : (Jvm.Cond.constantLong "AidRegister$SetupReader" (66 : Nat) (28258975365558885 : Int64)) ∈ lw_all := qin_2 (i := 133) rfl rfl
theorem qw_374 : (Jvm.Cond.constantLong "AidRegister$SetupReader" (71 : Nat) (1734960756 : Int64)) ∈ lw_all := qin_2 (i := 134) rfl rfl
theorem qw_375 : (Jvm.Cond.constantLong "AidRegister$SetupReader" (76 : Nat) (495807392116 : Int64)) ∈ lw_all := qin_2 (i := 135) rfl rfl
theorem qw_376 : (Jvm.Cond.constantLong "AidRegister$SetupReader" (81 : Nat) (1667330920 : Int64)) ∈ lw_all := qin_2 (i := 136) rfl rfl
theorem qw_377 : (Jvm.Cond.constantLong "AidRegister$SetupReader" (90 : Nat) (491596309875 : Int64)) ∈ lw_all := qin_2 (i := 137) rfl rfl
theorem qw_378 : (Jvm.Cond.constant "AidRegister$SetupReader" (105 : Nat) (999999 : Int32)) ∈ lw_all := qin_2 (i := 138) rfl rfl
theorem qw_379 : (Jvm.Cond.methodLink "AidRegister$SetupReader" (106 : Nat) ({ cls := "AidRegister$SetupReader", name := "readNumber", desc := "(II)I" } : Jvm.MethodName)) ∈ lw_all := qin_2 (i := 139) rfl rfl
theorem qw_381 : (Jvm.Cond.instanceMethod ({ cls := "AidRegister$SetupReader", name := "readNumber", desc := "(II)I" } : Jvm.MethodName)) ∈ lw_all := qin_2 (i := 141) rfl rfl
theorem qw_382 : (Jvm.Cond.code ({ cls := "AidRegister$SetupReader", name := "readNumber", desc := "(II)I" } : Jvm.MethodName) prog_8_method_10_code (5 : Nat) (Option.some Jvm.ClassFile.FieldType.int)) ∈ lw_all := qin_2 (i := 142) rfl rfl
theorem qw_383 : (Jvm.Cond.methodLink "AidRegister$SetupReader" (87 : Nat) ({ cls := "AidRegister$SetupReader", name := "readSemicolon", desc := "()V" } : Jvm.MethodName)) ∈ lw_all := qin_2 (i := 143) rfl rfl
theorem qw_385 : (Jvm.Cond.instanceMethod ({ cls := "AidRegister$SetupReader", name := "readSemicolon", desc := "()V" } : Jvm.MethodName)) ∈ lw_all := qin_2 (i := 145) rfl rfl
theorem qw_386 : (Jvm.Cond.code ({ cls := "AidRegister$SetupReader", name := "readSemicolon", desc := "()V" } : Jvm.MethodName) prog_8_method_11_code (1 : Nat) (Option.none : Option Jvm.ClassFile.FieldType)) ∈ lw_all := qin_2 (i := 146) rfl rfl
theorem qw_387 : (Jvm.Cond.methodLink "AidRegister$SetupReader" (109 : Nat) ({ cls := "AidRegister$Ledger", name := "addDonor", desc := "(I)V" } : Jvm.MethodName)) ∈ lw_all := qin_2 (i := 147) rfl rfl
theorem qw_388 : (Jvm.Cond.instanceMethod ({ cls := "AidRegister$Ledger", name := "addDonor", desc := "(I)V" } : Jvm.MethodName)) ∈ lw_all := qin_2 (i := 148) rfl rfl
theorem qw_389 : (Jvm.Cond.selects "AidRegister$Ledger" ({ cls := "AidRegister$Ledger", name := "addDonor", desc := "(I)V" } : Jvm.MethodName) ({ cls := "AidRegister$Ledger", name := "addDonor", desc := "(I)V" } : Jvm.MethodName)) ∈ lw_all := qin_2 (i := 149) rfl rfl
theorem qw_390 : (Jvm.Cond.code ({ cls := "AidRegister$Ledger", name := "addDonor", desc := "(I)V" } : Jvm.MethodName) prog_6_method_4_code (2 : Nat) (Option.none : Option Jvm.ClassFile.FieldType)) ∈ lw_all := qin_2 (i := 150) rfl rfl
theorem qw_391 : (Jvm.Cond.methodLink "AidRegister$SetupReader" (68 : Nat) ({ cls := "AidRegister$SetupReader", name := "readDeclaration", desc := "()V" } : Jvm.MethodName)) ∈ lw_all := qin_2 (i := 151) rfl rfl
theorem qw_393 : (Jvm.Cond.instanceMethod ({ cls := "AidRegister$SetupReader", name := "readDeclaration", desc := "()V" } : Jvm.MethodName)) ∈ lw_all := qin_2 (i := 153) rfl rfl
theorem qw_394 : (Jvm.Cond.code ({ cls := "AidRegister$SetupReader", name := "readDeclaration", desc := "()V" } : Jvm.MethodName) prog_8_method_4_code (4 : Nat) (Option.none : Option Jvm.ClassFile.FieldType)) ∈ lw_all := qin_2 (i := 154) rfl rfl
theorem qw_395 : (Jvm.Cond.methodLink "AidRegister$SetupReader" (116 : Nat) ({ cls := "AidRegister$Declarations", name := "isFull", desc := "()Z" } : Jvm.MethodName)) ∈ lw_all := qin_2 (i := 155) rfl rfl
theorem qw_396 : (Jvm.Cond.instanceMethod ({ cls := "AidRegister$Declarations", name := "isFull", desc := "()Z" } : Jvm.MethodName)) ∈ lw_all := qin_2 (i := 156) rfl rfl
theorem qw_397 : (Jvm.Cond.selects "AidRegister$Declarations" ({ cls := "AidRegister$Declarations", name := "isFull", desc := "()Z" } : Jvm.MethodName) ({ cls := "AidRegister$Declarations", name := "isFull", desc := "()Z" } : Jvm.MethodName)) ∈ lw_all := qin_2 (i := 157) rfl rfl
theorem qw_398 : (Jvm.Cond.code ({ cls := "AidRegister$Declarations", name := "isFull", desc := "()Z" } : Jvm.MethodName) prog_3_method_3_code (1 : Nat) (Option.some Jvm.ClassFile.FieldType.boolean)) ∈ lw_all := qin_2 (i := 158) rfl rfl
theorem qw_399 : (Jvm.Cond.methodLink "AidRegister$SetupReader" (122 : Nat) ({ cls := "AidRegister$SetupReader", name := "knownDonor", desc := "()I" } : Jvm.MethodName)) ∈ lw_all := qin_2 (i := 159) rfl rfl
theorem qw_401 : (Jvm.Cond.instanceMethod ({ cls := "AidRegister$SetupReader", name := "knownDonor", desc := "()I" } : Jvm.MethodName)) ∈ lw_all := qin_2 (i := 161) rfl rfl
theorem qw_402 : (Jvm.Cond.code ({ cls := "AidRegister$SetupReader", name := "knownDonor", desc := "()I" } : Jvm.MethodName) prog_8_method_12_code (2 : Nat) (Option.some Jvm.ClassFile.FieldType.int)) ∈ lw_all := qin_2 (i := 162) rfl rfl
theorem qw_403 : (Jvm.Cond.methodLink "AidRegister$SetupReader" (125 : Nat) ({ cls := "AidRegister$Declarations", name := "add", desc := "(III)I" } : Jvm.MethodName)) ∈ lw_all := qin_2 (i := 163) rfl rfl
theorem qw_404 : (Jvm.Cond.instanceMethod ({ cls := "AidRegister$Declarations", name := "add", desc := "(III)I" } : Jvm.MethodName)) ∈ lw_all := qin_2 (i := 164) rfl rfl
theorem qw_405 : (Jvm.Cond.selects "AidRegister$Declarations" ({ cls := "AidRegister$Declarations", name := "add", desc := "(III)I" } : Jvm.MethodName) ({ cls := "AidRegister$Declarations", name := "add", desc := "(III)I" } : Jvm.MethodName)) ∈ lw_all := qin_2 (i := 165) rfl rfl
theorem qw_406 : (Jvm.Cond.code ({ cls := "AidRegister$Declarations", name := "add", desc := "(III)I" } : Jvm.MethodName) prog_3_method_4_code (4 : Nat) (Option.some Jvm.ClassFile.FieldType.int)) ∈ lw_all := qin_2 (i := 166) rfl rfl
theorem qw_407 : (Jvm.Cond.methodLink "AidRegister$Declarations" (29 : Nat) ({ cls := "AidRegister$Declarations", name := "isFull", desc := "()Z" } : Jvm.MethodName)) ∈ lw_all := qin_2 (i := 167) rfl rfl
theorem qw_408 : (Jvm.Cond.methodLink "AidRegister$SetupReader" (73 : Nat) ({ cls := "AidRegister$SetupReader", name := "readGift", desc := "()V" } : Jvm.MethodName)) ∈ lw_all := qin_2 (i := 168) rfl rfl
theorem qw_410 : (Jvm.Cond.instanceMethod ({ cls := "AidRegister$SetupReader", name := "readGift", desc := "()V" } : Jvm.MethodName)) ∈ lw_all := qin_2 (i := 170) rfl rfl
theorem qw_411 : (Jvm.Cond.code ({ cls := "AidRegister$SetupReader", name := "readGift", desc := "()V" } : Jvm.MethodName) prog_8_method_5_code (3 : Nat) (Option.none : Option Jvm.ClassFile.FieldType)) ∈ lw_all := qin_2 (i := 171) rfl rfl
theorem qw_412 : (Jvm.Cond.methodLink "AidRegister$SetupReader" (83 : Nat) ({ cls := "AidRegister$SetupReader", name := "readGiftHead", desc := "()I" } : Jvm.MethodName)) ∈ lw_all := qin_2 (i := 172) rfl rfl
theorem qw_414 : (Jvm.Cond.instanceMethod ({ cls := "AidRegister$SetupReader", name := "readGiftHead", desc := "()I" } : Jvm.MethodName)) ∈ lw_all := qin_2 (i := 174) rfl rfl
theorem qw_415 : (Jvm.Cond.code ({ cls := "AidRegister$SetupReader", name := "readGiftHead", desc := "()I" } : Jvm.MethodName) prog_8_method_7_code (4 : Nat) (Option.some Jvm.ClassFile.FieldType.int)) ∈ lw_all := qin_2 (i := 175) rfl rfl
theorem qw_416 : (Jvm.Cond.methodLink "AidRegister$SetupReader" (142 : Nat) ({ cls := "AidRegister$Gifts", name := "isFull", desc := "()Z" } : Jvm.MethodName)) ∈ lw_all := qin_2 (i := 176) rfl rfl
theorem qw_417 : (Jvm.Cond.instanceMethod ({ cls := "AidRegister$Gifts", name := "isFull", desc := "()Z" } : Jvm.MethodName)) ∈ lw_all := qin_2 (i := 177) rfl rfl
theorem qw_418 : (Jvm.Cond.selects "AidRegister$Gifts" ({ cls := "AidRegister$Gifts", name := "isFull", desc := "()Z" } : Jvm.MethodName) ({ cls := "AidRegister$Gifts", name := "isFull", desc := "()Z" } : Jvm.MethodName)) ∈ lw_all := qin_2 (i := 178) rfl rfl
theorem qw_419 : (Jvm.Cond.code ({ cls := "AidRegister$Gifts", name := "isFull", desc := "()Z" } : Jvm.MethodName) prog_5_method_3_code (1 : Nat) (Option.some Jvm.ClassFile.FieldType.boolean)) ∈ lw_all := qin_2 (i := 179) rfl rfl
theorem qw_420 : (Jvm.Cond.methodLink "AidRegister$SetupReader" (143 : Nat) ({ cls := "AidRegister$Gifts", name := "add", desc := "(III)I" } : Jvm.MethodName)) ∈ lw_all := qin_2 (i := 180) rfl rfl
theorem qw_421 : (Jvm.Cond.instanceMethod ({ cls := "AidRegister$Gifts", name := "add", desc := "(III)I" } : Jvm.MethodName)) ∈ lw_all := qin_2 (i := 181) rfl rfl
theorem qw_422 : (Jvm.Cond.selects "AidRegister$Gifts" ({ cls := "AidRegister$Gifts", name := "add", desc := "(III)I" } : Jvm.MethodName) ({ cls := "AidRegister$Gifts", name := "add", desc := "(III)I" } : Jvm.MethodName)) ∈ lw_all := qin_2 (i := 182) rfl rfl
theorem qw_423 : (Jvm.Cond.code ({ cls := "AidRegister$Gifts", name := "add", desc := "(III)I" } : Jvm.MethodName) prog_5_method_4_code (6 : Nat) (Option.some Jvm.ClassFile.FieldType.int)) ∈ lw_all := qin_2 (i := 183) rfl rfl
theorem qw_424 : (Jvm.Cond.methodLink "AidRegister$Gifts" (53 : Nat) ({ cls := "AidRegister$Gifts", name := "isFull", desc := "()Z" } : Jvm.MethodName)) ∈ lw_all := qin_2 (i := 184) rfl rfl
theorem qw_425 : (Jvm.Cond.methodLink "AidRegister$SetupReader" (133 : Nat) ({ cls := "AidRegister$Gifts", name := "addPart", desc := "(III)V" } : Jvm.MethodName)) ∈ lw_all := qin_2 (i := 185) rfl rfl
theorem qw_426 : (Jvm.Cond.instanceMethod ({ cls := "AidRegister$Gifts", name := "addPart", desc := "(III)V" } : Jvm.MethodName)) ∈ lw_all := qin_2 (i := 186) rfl rfl
theorem qw_427 : (Jvm.Cond.selects "AidRegister$Gifts" ({ cls := "AidRegister$Gifts", name := "addPart", desc := "(III)V" } : Jvm.MethodName) ({ cls := "AidRegister$Gifts", name := "addPart", desc := "(III)V" } : Jvm.MethodName)) ∈ lw_all := qin_2 (i := 187) rfl rfl
theorem qw_428 : (Jvm.Cond.code ({ cls := "AidRegister$Gifts", name := "addPart", desc := "(III)V" } : Jvm.MethodName) prog_5_method_5_code (5 : Nat) (Option.none : Option Jvm.ClassFile.FieldType)) ∈ lw_all := qin_2 (i := 188) rfl rfl
theorem qw_429 : (Jvm.Cond.methodLink "AidRegister$Gifts" (57 : Nat) ({ cls := "AidRegister$Gifts", name := "shareOut", desc := "(I)V" } : Jvm.MethodName)) ∈ lw_all := qin_2 (i := 189) rfl rfl
theorem qw_430 : (Jvm.Cond.instanceMethod ({ cls := "AidRegister$Gifts", name := "shareOut", desc := "(I)V" } : Jvm.MethodName)) ∈ lw_all := qin_2 (i := 190) rfl rfl
theorem qw_431 : (Jvm.Cond.selects "AidRegister$Gifts" ({ cls := "AidRegister$Gifts", name := "shareOut", desc := "(I)V" } : Jvm.MethodName) ({ cls := "AidRegister$Gifts", name := "shareOut", desc := "(I)V" } : Jvm.MethodName)) ∈ lw_all := qin_2 (i := 191) rfl rfl
theorem qw_432 : (Jvm.Cond.code ({ cls := "AidRegister$Gifts", name := "shareOut", desc := "(I)V" } : Jvm.MethodName) prog_5_method_6_code (6 : Nat) (Option.none : Option Jvm.ClassFile.FieldType)) ∈ lw_all := qin_2 (i := 192) rfl rfl
theorem qw_433 : (Jvm.Cond.methodLink "AidRegister$SetupReader" (78 : Nat) ({ cls := "AidRegister$SetupReader", name := "readSplit", desc := "()V" } : Jvm.MethodName)) ∈ lw_all := qin_2 (i := 193) rfl rfl
theorem qw_435 : (Jvm.Cond.instanceMethod ({ cls := "AidRegister$SetupReader", name := "readSplit", desc := "()V" } : Jvm.MethodName)) ∈ lw_all := qin_2 (i := 195) rfl rfl
theorem qw_436 : (Jvm.Cond.code ({ cls := "AidRegister$SetupReader", name := "readSplit", desc := "()V" } : Jvm.MethodName) prog_8_method_6_code (2 : Nat) (Option.none : Option Jvm.ClassFile.FieldType)) ∈ lw_all := qin_2 (i := 196) rfl rfl
theorem qw_437 : (Jvm.Cond.methodLink "AidRegister$SetupReader" (139 : Nat) ({ cls := "AidRegister$SetupReader", name := "readShare", desc := "(I)V" } : Jvm.MethodName)) ∈ lw_all := qin_2 (i := 197) rfl rfl
theorem qw_439 : (Jvm.Cond.instanceMethod ({ cls := "AidRegister$SetupReader", name := "readShare", desc := "(I)V" } : Jvm.MethodName)) ∈ lw_all := qin_2 (i := 199) rfl rfl
theorem qw_440 : (Jvm.Cond.code ({ cls := "AidRegister$SetupReader", name := "readShare", desc := "(I)V" } : Jvm.MethodName) prog_8_method_8_code (4 : Nat) (Option.none : Option Jvm.ClassFile.FieldType)) ∈ lw_all := qin_2 (i := 200) rfl rfl
theorem qw_441 : (Jvm.Cond.methodLink "AidRegister$SetupReader" (144 : Nat) ({ cls := "AidRegister$Gifts", name := "hasDonor", desc := "(II)Z" } : Jvm.MethodName)) ∈ lw_all := qin_2 (i := 201) rfl rfl
theorem qw_442 : (Jvm.Cond.instanceMethod ({ cls := "AidRegister$Gifts", name := "hasDonor", desc := "(II)Z" } : Jvm.MethodName)) ∈ lw_all := qin_2 (i := 202) rfl rfl
theorem qw_443 : (Jvm.Cond.selects "AidRegister$Gifts" ({ cls := "AidRegister$Gifts", name := "hasDonor", desc := "(II)Z" } : Jvm.MethodName) ({ cls := "AidRegister$Gifts", name := "hasDonor", desc := "(II)Z" } : Jvm.MethodName)) ∈ lw_all := qin_2 (i := 203) rfl rfl
theorem qw_444 : (Jvm.Cond.code ({ cls := "AidRegister$Gifts", name := "hasDonor", desc := "(II)Z" } : Jvm.MethodName) prog_5_method_11_code (4 : Nat) (Option.some Jvm.ClassFile.FieldType.boolean)) ∈ lw_all := qin_2 (i := 204) rfl rfl
theorem qw_445 : (Jvm.Cond.methodLink "AidRegister$SetupReader" (92 : Nat) ({ cls := "AidRegister$SetupReader", name := "readRules", desc := "()V" } : Jvm.MethodName)) ∈ lw_all := qin_2 (i := 205) rfl rfl
theorem qw_447 : (Jvm.Cond.instanceMethod ({ cls := "AidRegister$SetupReader", name := "readRules", desc := "()V" } : Jvm.MethodName)) ∈ lw_all := qin_2 (i := 207) rfl rfl
theorem qw_448 : (Jvm.Cond.code ({ cls := "AidRegister$SetupReader", name := "readRules", desc := "()V" } : Jvm.MethodName) prog_8_method_9_code (1 : Nat) (Option.none : Option Jvm.ClassFile.FieldType)) ∈ lw_all := qin_2 (i := 208) rfl rfl
theorem qw_449 : (Jvm.Cond.methodLink "AidRegister" (72 : Nat) ({ cls := "AidRegister$Ledger", name := "settle", desc := "()V" } : Jvm.MethodName)) ∈ lw_all := qin_2 (i := 209) rfl rfl
theorem qw_450 : (Jvm.Cond.instanceMethod ({ cls := "AidRegister$Ledger", name := "settle", desc := "()V" } : Jvm.MethodName)) ∈ lw_all := qin_2 (i := 210) rfl rfl
theorem qw_451 : (Jvm.Cond.selects "AidRegister$Ledger" ({ cls := "AidRegister$Ledger", name := "settle", desc := "()V" } : Jvm.MethodName) ({ cls := "AidRegister$Ledger", name := "settle", desc := "()V" } : Jvm.MethodName)) ∈ lw_all := qin_2 (i := 211) rfl rfl
theorem qw_452 : (Jvm.Cond.code ({ cls := "AidRegister$Ledger", name := "settle", desc := "()V" } : Jvm.MethodName) prog_6_method_5_code (5 : Nat) (Option.none : Option Jvm.ClassFile.FieldType)) ∈ lw_all := qin_2 (i := 212) rfl rfl
theorem qw_453 : (Jvm.Cond.methodLink "AidRegister$Ledger" (86 : Nat) ({ cls := "AidRegister$Gifts", name := "yearOf", desc := "(I)I" } : Jvm.MethodName)) ∈ lw_all := qin_2 (i := 213) rfl rfl
theorem qw_454 : (Jvm.Cond.instanceMethod ({ cls := "AidRegister$Gifts", name := "yearOf", desc := "(I)I" } : Jvm.MethodName)) ∈ lw_all := qin_2 (i := 214) rfl rfl
theorem qw_455 : (Jvm.Cond.selects "AidRegister$Gifts" ({ cls := "AidRegister$Gifts", name := "yearOf", desc := "(I)I" } : Jvm.MethodName) ({ cls := "AidRegister$Gifts", name := "yearOf", desc := "(I)I" } : Jvm.MethodName)) ∈ lw_all := qin_2 (i := 215) rfl rfl
theorem qw_456 : (Jvm.Cond.code ({ cls := "AidRegister$Gifts", name := "yearOf", desc := "(I)I" } : Jvm.MethodName) prog_5_method_16_code (2 : Nat) (Option.some Jvm.ClassFile.FieldType.int)) ∈ lw_all := qin_2 (i := 216) rfl rfl
theorem qw_457 : (Jvm.Cond.methodLink "AidRegister$Ledger" (90 : Nat) ({ cls := "java/util/Arrays", name := "fill", desc := "([II)V" } : Jvm.MethodName)) ∈ lw_all := qin_2 (i := 217) rfl rfl
theorem qw_458 : (Jvm.Cond.static ({ cls := "java/util/Arrays", name := "fill", desc := "([II)V" } : Jvm.MethodName)) ∈ lw_all := qin_2 (i := 218) rfl rfl
theorem qw_459 : (Jvm.Cond.code ({ cls := "java/util/Arrays", name := "fill", desc := "([II)V" } : Jvm.MethodName) prog_22_method_103_code (4 : Nat) (Option.none : Option Jvm.ClassFile.FieldType)) ∈ lw_all := qin_2 (i := 219) rfl rfl
theorem qw_460 : (Jvm.Cond.methodLink "AidRegister$Ledger" (99 : Nat) ({ cls := "AidRegister$Ledger", name := "settlePart", desc := "(II)V" } : Jvm.MethodName)) ∈ lw_all := qin_2 (i := 220) rfl rfl
theorem qw_462 : (Jvm.Cond.instanceMethod ({ cls := "AidRegister$Ledger", name := "settlePart", desc := "(II)V" } : Jvm.MethodName)) ∈ lw_all := qin_2 (i := 222) rfl rfl
theorem qw_463 : (Jvm.Cond.code ({ cls := "AidRegister$Ledger", name := "settlePart", desc := "(II)V" } : Jvm.MethodName) prog_6_method_6_code (4 : Nat) (Option.none : Option Jvm.ClassFile.FieldType)) ∈ lw_all := qin_2 (i := 223) rfl rfl
theorem qw_464 : (Jvm.Cond.methodLink "AidRegister$Ledger" (106 : Nat) ({ cls := "AidRegister$Ledger", name := "isSpoilt", desc := "(I)Z" } : Jvm.MethodName)) ∈ lw_all := qin_2 (i := 224) rfl rfl
theorem qw_465 : (Jvm.Cond.instanceMethod ({ cls := "AidRegister$Ledger", name := "isSpoilt", desc := "(I)Z" } : Jvm.MethodName)) ∈ lw_all := qin_2 (i := 225) rfl rfl
theorem qw_466 : (Jvm.Cond.selects "AidRegister$Ledger" ({ cls := "AidRegister$Ledger", name := "isSpoilt", desc := "(I)Z" } : Jvm.MethodName) ({ cls := "AidRegister$Ledger", name := "isSpoilt", desc := "(I)Z" } : Jvm.MethodName)) ∈ lw_all := qin_2 (i := 226) rfl rfl
theorem qw_467 : (Jvm.Cond.code ({ cls := "AidRegister$Ledger", name := "isSpoilt", desc := "(I)Z" } : Jvm.MethodName) prog_6_method_8_code (2 : Nat) (Option.some Jvm.ClassFile.FieldType.boolean)) ∈ lw_all := qin_2 (i := 227) rfl rfl
theorem qw_468 : (Jvm.Cond.methodLink "AidRegister$Ledger" (110 : Nat) ({ cls := "AidRegister$Ledger", name := "fullAid", desc := "(I)I" } : Jvm.MethodName)) ∈ lw_all := qin_2 (i := 228) rfl rfl
theorem qw_469 : (Jvm.Cond.instanceMethod ({ cls := "AidRegister$Ledger", name := "fullAid", desc := "(I)I" } : Jvm.MethodName)) ∈ lw_all := qin_2 (i := 229) rfl rfl
theorem qw_470 : (Jvm.Cond.selects "AidRegister$Ledger" ({ cls := "AidRegister$Ledger", name := "fullAid", desc := "(I)I" } : Jvm.MethodName) ({ cls := "AidRegister$Ledger", name := "fullAid", desc := "(I)I" } : Jvm.MethodName)) ∈ lw_all := qin_2 (i := 230) rfl rfl
theorem qw_471 : (Jvm.Cond.code ({ cls := "AidRegister$Ledger", name := "fullAid", desc := "(I)I" } : Jvm.MethodName) prog_6_method_7_code (2 : Nat) (Option.some Jvm.ClassFile.FieldType.int)) ∈ lw_all := qin_2 (i := 231) rfl rfl
theorem qw_472 : (Jvm.Cond.methodLink "AidRegister$Ledger" (126 : Nat) ({ cls := "AidRegister$Gifts", name := "leftOfPart", desc := "(I)I" } : Jvm.MethodName)) ∈ lw_all := qin_2 (i := 232) rfl rfl
theorem qw_473 : (Jvm.Cond.instanceMethod ({ cls := "AidRegister$Gifts", name := "leftOfPart", desc := "(I)I" } : Jvm.MethodName)) ∈ lw_all := qin_2 (i := 233) rfl rfl
theorem qw_474 : (Jvm.Cond.selects "AidRegister$Gifts" ({ cls := "AidRegister$Gifts", name := "leftOfPart", desc := "(I)I" } : Jvm.MethodName) ({ cls := "AidRegister$Gifts", name := "leftOfPart", desc := "(I)I" } : Jvm.MethodName)) ∈ lw_all := qin_2 (i := 234) rfl rfl
theorem qw_475 : (Jvm.Cond.code ({ cls := "AidRegister$Gifts", name := "leftOfPart", desc := "(I)I" } : Jvm.MethodName) prog_5_method_18_code (2 : Nat) (Option.some Jvm.ClassFile.FieldType.int)) ∈ lw_all := qin_2 (i := 235) rfl rfl
theorem qw_476 : (Jvm.Cond.methodLink "AidRegister$Ledger" (116 : Nat) ({ cls := "AidRegister$Declarations", name := "covers", desc := "(II)Z" } : Jvm.MethodName)) ∈ lw_all := qin_2 (i := 236) rfl rfl
theorem qw_477 : (Jvm.Cond.instanceMethod ({ cls := "AidRegister$Declarations", name := "covers", desc := "(II)Z" } : Jvm.MethodName)) ∈ lw_all := qin_2 (i := 237) rfl rfl
theorem qw_478 : (Jvm.Cond.selects "AidRegister$Declarations" ({ cls := "AidRegister$Declarations", name := "covers", desc := "(II)Z" } : Jvm.MethodName) ({ cls := "AidRegister$Declarations", name := "covers", desc := "(II)Z" } : Jvm.MethodName)) ∈ lw_all := qin_2 (i := 238) rfl rfl
theorem qw_479 : (Jvm.Cond.code ({ cls := "AidRegister$Declarations", name := "covers", desc := "(II)Z" } : Jvm.MethodName) prog_3_method_8_code (4 : Nat) (Option.some Jvm.ClassFile.FieldType.boolean)) ∈ lw_all := qin_2 (i := 239) rfl rfl
theorem qw_480 : (Jvm.Cond.methodLink "AidRegister$Declarations" (42 : Nat) ({ cls := "AidRegister$Declarations", name := "isOn", desc := "(III)Z" } : Jvm.MethodName)) ∈ lw_all := qin_3 (i := 0) rfl rfl
theorem qw_481 : (Jvm.Cond.instanceMethod ({ cls := "AidRegister$Declarations", name := "isOn", desc := "(III)Z" } : Jvm.MethodName)) ∈ lw_all := qin_3 (i := 1) rfl rfl
theorem qw_482 : (Jvm.Cond.selects "AidRegister$Declarations" ({ cls := "AidRegister$Declarations", name := "isOn", desc := "(III)Z" } : Jvm.MethodName) ({ cls := "AidRegister$Declarations", name := "isOn", desc := "(III)Z" } : Jvm.MethodName)) ∈ lw_all := qin_3 (i := 2) rfl rfl
theorem qw_483 : (Jvm.Cond.code ({ cls := "AidRegister$Declarations", name := "isOn", desc := "(III)Z" } : Jvm.MethodName) prog_3_method_7_code (4 : Nat) (Option.some Jvm.ClassFile.FieldType.boolean)) ∈ lw_all := qin_3 (i := 3) rfl rfl
theorem qw_484 : (Jvm.Cond.methodLink "AidRegister$Ledger" (120 : Nat) ({ cls := "java/lang/Math", name := "min", desc := "(II)I" } : Jvm.MethodName)) ∈ lw_all := qin_3 (i := 4) rfl rfl
theorem qw_485 : (Jvm.Cond.methodLink "AidRegister" (75 : Nat) ({ cls := "AidRegister$Ledger", name := "become", desc := "(LAidRegister$Ledger;)V" } : Jvm.MethodName)) ∈ lw_all := qin_3 (i := 5) rfl rfl
theorem qw_486 : (Jvm.Cond.instanceMethod ({ cls := "AidRegister$Ledger", name := "become", desc := "(LAidRegister$Ledger;)V" } : Jvm.MethodName)) ∈ lw_all := qin_3 (i := 6) rfl rfl
theorem qw_487 : (Jvm.Cond.selects "AidRegister$Ledger" ({ cls := "AidRegister$Ledger", name := "become", desc := "(LAidRegister$Ledger;)V" } : Jvm.MethodName) ({ cls := "AidRegister$Ledger", name := "become", desc := "(LAidRegister$Ledger;)V" } : Jvm.MethodName)) ∈ lw_all := qin_3 (i := 7) rfl rfl
theorem qw_488 : (Jvm.Cond.code ({ cls := "AidRegister$Ledger", name := "become", desc := "(LAidRegister$Ledger;)V" } : Jvm.MethodName) prog_6_method_2_code (2 : Nat) (Option.none : Option Jvm.ClassFile.FieldType)) ∈ lw_all := qin_3 (i := 8) rfl rfl
theorem qw_490 : (Jvm.Cond.static ({ cls := "AidRegister", name := "copyRow", desc := "([I[I)V" } : Jvm.MethodName)) ∈ lw_all := qin_3 (i := 10) rfl rfl
theorem qw_491 : (Jvm.Cond.code ({ cls := "AidRegister", name := "copyRow", desc := "([I[I)V" } : Jvm.MethodName) prog_1_method_61_code (2 : Nat) (Option.none : Option Jvm.ClassFile.FieldType)) ∈ lw_all := qin_3 (i := 11) rfl rfl
theorem qw_492 : (Jvm.Cond.methodLink "AidRegister" (375 : Nat) ({ cls := "java/lang/Math", name := "min", desc := "(II)I" } : Jvm.MethodName)) ∈ lw_all := qin_3 (i := 12) rfl rfl
theorem qw_493 : (Jvm.Cond.methodLink "AidRegister" (390 : Nat) ({ cls := "java/lang/System", name := "arraycopy", desc := "(Ljava/lang/Object;ILjava/lang/Object;II)V" } : Jvm.MethodName)) ∈ lw_all := qin_3 (i := 13) rfl rfl
theorem qw_494 : (Jvm.Cond.static ({ cls := "java/lang/System", name := "arraycopy", desc := "(Ljava/lang/Object;ILjava/lang/Object;II)V" } : Jvm.MethodName)) ∈ lw_all := qin_3 (i := 14) rfl rfl
theorem qw_495 : (Jvm.Cond.native ({ cls := "java/lang/System", name := "arraycopy", desc := "(Ljava/lang/Object;ILjava/lang/Object;II)V" } : Jvm.MethodName)) ∈ lw_all := qin_3 (i := 15) rfl rfl
theorem qw_496 : (Jvm.Cond.methodLink "AidRegister$Ledger" (68 : Nat) ({ cls := "AidRegister$Declarations", name := "become", desc := "(LAidRegister$Declarations;)V" } : Jvm.MethodName)) ∈ lw_all := qin_3 (i := 16) rfl rfl
theorem qw_497 : (Jvm.Cond.instanceMethod ({ cls := "AidRegister$Declarations", name := "become", desc := "(LAidRegister$Declarations;)V" } : Jvm.MethodName)) ∈ lw_all := qin_3 (i := 17) rfl rfl
theorem qw_498 : (Jvm.Cond.selects "AidRegister$Declarations" ({ cls := "AidRegister$Declarations", name := "become", desc := "(LAidRegister$Declarations;)V" } : Jvm.MethodName) ({ cls := "AidRegister$Declarations", name := "become", desc := "(LAidRegister$Declarations;)V" } : Jvm.MethodName)) ∈ lw_all := qin_3 (i := 18) rfl rfl
theorem qw_499 : (Jvm.Cond.code ({ cls := "AidRegister$Declarations", name := "become", desc := "(LAidRegister$Declarations;)V" } : Jvm.MethodName) prog_3_method_2_code (2 : Nat) (Option.none : Option Jvm.ClassFile.FieldType)) ∈ lw_all := qin_3 (i := 19) rfl rfl
theorem qw_501 : (Jvm.Cond.methodLink "AidRegister$Ledger" (72 : Nat) ({ cls := "AidRegister$Gifts", name := "become", desc := "(LAidRegister$Gifts;)V" } : Jvm.MethodName)) ∈ lw_all := qin_3 (i := 21) rfl rfl
theorem qw_502 : (Jvm.Cond.instanceMethod ({ cls := "AidRegister$Gifts", name := "become", desc := "(LAidRegister$Gifts;)V" } : Jvm.MethodName)) ∈ lw_all := qin_3 (i := 22) rfl rfl
theorem qw_503 : (Jvm.Cond.selects "AidRegister$Gifts" ({ cls := "AidRegister$Gifts", name := "become", desc := "(LAidRegister$Gifts;)V" } : Jvm.MethodName) ({ cls := "AidRegister$Gifts", name := "become", desc := "(LAidRegister$Gifts;)V" } : Jvm.MethodName)) ∈ lw_all := qin_3 (i := 23) rfl rfl
theorem qw_504 : (Jvm.Cond.code ({ cls := "AidRegister$Gifts", name := "become", desc := "(LAidRegister$Gifts;)V" } : Jvm.MethodName) prog_5_method_2_code (2 : Nat) (Option.none : Option Jvm.ClassFile.FieldType)) ∈ lw_all := qin_3 (i := 24) rfl rfl
theorem qw_506 : (Jvm.Cond.methodLink "AidRegister$Ledger" (75 : Nat) ({ cls := "AidRegister$Claims", name := "become", desc := "(LAidRegister$Claims;)V" } : Jvm.MethodName)) ∈ lw_all := qin_3 (i := 26) rfl rfl
theorem qw_507 : (Jvm.Cond.instanceMethod ({ cls := "AidRegister$Claims", name := "become", desc := "(LAidRegister$Claims;)V" } : Jvm.MethodName)) ∈ lw_all := qin_3 (i := 27) rfl rfl
theorem qw_508 : (Jvm.Cond.selects "AidRegister$Claims" ({ cls := "AidRegister$Claims", name := "become", desc := "(LAidRegister$Claims;)V" } : Jvm.MethodName) ({ cls := "AidRegister$Claims", name := "become", desc := "(LAidRegister$Claims;)V" } : Jvm.MethodName)) ∈ lw_all := qin_3 (i := 28) rfl rfl
theorem qw_509 : (Jvm.Cond.code ({ cls := "AidRegister$Claims", name := "become", desc := "(LAidRegister$Claims;)V" } : Jvm.MethodName) prog_2_method_2_code (2 : Nat) (Option.none : Option Jvm.ClassFile.FieldType)) ∈ lw_all := qin_3 (i := 29) rfl rfl
theorem qw_511 : (Jvm.Cond.methodLink "AidRegisterLaw" (150 : Nat) ({ cls := "AidRegister", name := "errorCode", desc := "()I" } : Jvm.MethodName)) ∈ lw_all := qin_3 (i := 31) rfl rfl
theorem qw_512 : (Jvm.Cond.instanceMethod ({ cls := "AidRegister", name := "errorCode", desc := "()I" } : Jvm.MethodName)) ∈ lw_all := qin_3 (i := 32) rfl rfl
theorem qw_513 : (Jvm.Cond.selects "AidRegister" ({ cls := "AidRegister", name := "errorCode", desc := "()I" } : Jvm.MethodName) ({ cls := "AidRegister", name := "errorCode", desc := "()I" } : Jvm.MethodName)) ∈ lw_all := qin_3 (i := 33) rfl rfl
theorem qw_514 : (Jvm.Cond.code ({ cls := "AidRegister", name := "errorCode", desc := "()I" } : Jvm.MethodName) prog_1_method_6_code (1 : Nat) (Option.some Jvm.ClassFile.FieldType.int)) ∈ lw_all := qin_3 (i := 34) rfl rfl
theorem qw_515 : (Jvm.Cond.methodLink "AidRegisterLaw" (154 : Nat) ({ cls := "AidRegister", name := "errorOffset", desc := "()I" } : Jvm.MethodName)) ∈ lw_all := qin_3 (i := 35) rfl rfl
theorem qw_516 : (Jvm.Cond.instanceMethod ({ cls := "AidRegister", name := "errorOffset", desc := "()I" } : Jvm.MethodName)) ∈ lw_all := qin_3 (i := 36) rfl rfl
theorem qw_517 : (Jvm.Cond.selects "AidRegister" ({ cls := "AidRegister", name := "errorOffset", desc := "()I" } : Jvm.MethodName) ({ cls := "AidRegister", name := "errorOffset", desc := "()I" } : Jvm.MethodName)) ∈ lw_all := qin_3 (i := 37) rfl rfl
theorem qw_518 : (Jvm.Cond.code ({ cls := "AidRegister", name := "errorOffset", desc := "()I" } : Jvm.MethodName) prog_1_method_7_code (1 : Nat) (Option.some Jvm.ClassFile.FieldType.int)) ∈ lw_all := qin_3 (i := 38) rfl rfl
theorem qw_519 : (Jvm.Cond.methodLink "AidRegisterLaw" (232 : Nat) ({ cls := "AidRegister", name := "overclaimed", desc := "()I" } : Jvm.MethodName)) ∈ lw_all := qin_3 (i := 39) rfl rfl
theorem qw_520 : (Jvm.Cond.instanceMethod ({ cls := "AidRegister", name := "overclaimed", desc := "()I" } : Jvm.MethodName)) ∈ lw_all := qin_3 (i := 40) rfl rfl
theorem qw_521 : (Jvm.Cond.selects "AidRegister" ({ cls := "AidRegister", name := "overclaimed", desc := "()I" } : Jvm.MethodName) ({ cls := "AidRegister", name := "overclaimed", desc := "()I" } : Jvm.MethodName)) ∈ lw_all := qin_3 (i := 41) rfl rfl
theorem qw_522 : (Jvm.Cond.code ({ cls := "AidRegister", name := "overclaimed", desc := "()I" } : Jvm.MethodName) prog_1_method_29_code (3 : Nat) (Option.some Jvm.ClassFile.FieldType.int)) ∈ lw_all := qin_3 (i := 42) rfl rfl
theorem qw_523 : (Jvm.Cond.methodLink "AidRegister" (300 : Nat) ({ cls := "AidRegister$Gifts", name := "slotCount", desc := "()I" } : Jvm.MethodName)) ∈ lw_all := qin_3 (i := 43) rfl rfl
theorem qw_524 : (Jvm.Cond.instanceMethod ({ cls := "AidRegister$Gifts", name := "slotCount", desc := "()I" } : Jvm.MethodName)) ∈ lw_all := qin_3 (i := 44) rfl rfl
theorem qw_525 : (Jvm.Cond.selects "AidRegister$Gifts" ({ cls := "AidRegister$Gifts", name := "slotCount", desc := "()I" } : Jvm.MethodName) ({ cls := "AidRegister$Gifts", name := "slotCount", desc := "()I" } : Jvm.MethodName)) ∈ lw_all := qin_3 (i := 45) rfl rfl
theorem qw_526 : (Jvm.Cond.code ({ cls := "AidRegister$Gifts", name := "slotCount", desc := "()I" } : Jvm.MethodName) prog_5_method_12_code (1 : Nat) (Option.some Jvm.ClassFile.FieldType.int)) ∈ lw_all := qin_3 (i := 46) rfl rfl
theorem qw_527 : (Jvm.Cond.methodLink "AidRegister" (303 : Nat) ({ cls := "AidRegister$Ledger", name := "tooMuch", desc := "(I)I" } : Jvm.MethodName)) ∈ lw_all := qin_3 (i := 47) rfl rfl
theorem qw_528 : (Jvm.Cond.instanceMethod ({ cls := "AidRegister$Ledger", name := "tooMuch", desc := "(I)I" } : Jvm.MethodName)) ∈ lw_all := qin_3 (i := 48) rfl rfl
theorem qw_529 : (Jvm.Cond.selects "AidRegister$Ledger" ({ cls := "AidRegister$Ledger", name := "tooMuch", desc := "(I)I" } : Jvm.MethodName) ({ cls := "AidRegister$Ledger", name := "tooMuch", desc := "(I)I" } : Jvm.MethodName)) ∈ lw_all := qin_3 (i := 49) rfl rfl
theorem qw_530 : (Jvm.Cond.code ({ cls := "AidRegister$Ledger", name := "tooMuch", desc := "(I)I" } : Jvm.MethodName) prog_6_method_19_code (2 : Nat) (Option.some Jvm.ClassFile.FieldType.int)) ∈ lw_all := qin_3 (i := 50) rfl rfl
theorem qw_531 : (Jvm.Cond.methodLink "AidRegister$Ledger" (154 : Nat) ({ cls := "AidRegister$Gifts", name := "isPart", desc := "(I)Z" } : Jvm.MethodName)) ∈ lw_all := qin_3 (i := 51) rfl rfl
theorem qw_532 : (Jvm.Cond.instanceMethod ({ cls := "AidRegister$Gifts", name := "isPart", desc := "(I)Z" } : Jvm.MethodName)) ∈ lw_all := qin_3 (i := 52) rfl rfl
theorem qw_533 : (Jvm.Cond.selects "AidRegister$Gifts" ({ cls := "AidRegister$Gifts", name := "isPart", desc := "(I)Z" } : Jvm.MethodName) ({ cls := "AidRegister$Gifts", name := "isPart", desc := "(I)Z" } : Jvm.MethodName)) ∈ lw_all := qin_3 (i := 53) rfl rfl
theorem qw_534 : (Jvm.Cond.code ({ cls := "AidRegister$Gifts", name := "isPart", desc := "(I)Z" } : Jvm.MethodName) prog_5_method_13_code (2 : Nat) (Option.some Jvm.ClassFile.FieldType.boolean)) ∈ lw_all := qin_3 (i := 54) rfl rfl
theorem qw_535 : (Jvm.Cond.methodLink "AidRegister$Ledger" (173 : Nat) ({ cls := "java/lang/Math", name := "max", desc := "(II)I" } : Jvm.MethodName)) ∈ lw_all := qin_3 (i := 55) rfl rfl
theorem qw_536 : (Jvm.Cond.static ({ cls := "java/lang/Math", name := "max", desc := "(II)I" } : Jvm.MethodName)) ∈ lw_all := qin_3 (i := 56) rfl rfl
theorem qw_537 : (Jvm.Cond.code ({ cls := "java/lang/Math", name := "max", desc := "(II)I" } : Jvm.MethodName) prog_15_method_65_code (2 : Nat) (Option.some Jvm.ClassFile.FieldType.int)) ∈ lw_all := qin_3 (i := 57) rfl rfl
theorem qw_538 : (Jvm.Cond.methodLink "AidRegisterLaw" (236 : Nat) ({ cls := "AidRegister", name := "totalAid", desc := "()I" } : Jvm.MethodName)) ∈ lw_all := qin_3 (i := 58) rfl rfl
theorem qw_539 : (Jvm.Cond.instanceMethod ({ cls := "AidRegister", name := "totalAid", desc := "()I" } : Jvm.MethodName)) ∈ lw_all := qin_3 (i := 59) rfl rfl
theorem qw_540 : (Jvm.Cond.selects "AidRegister" ({ cls := "AidRegister", name := "totalAid", desc := "()I" } : Jvm.MethodName) ({ cls := "AidRegister", name := "totalAid", desc := "()I" } : Jvm.MethodName)) ∈ lw_all := qin_3 (i := 60) rfl rfl
theorem qw_541 : (Jvm.Cond.code ({ cls := "AidRegister", name := "totalAid", desc := "()I" } : Jvm.MethodName) prog_1_method_30_code (1 : Nat) (Option.some Jvm.ClassFile.FieldType.int)) ∈ lw_all := qin_3 (i := 61) rfl rfl
theorem qw_542 : (Jvm.Cond.methodLink "AidRegister" (306 : Nat) ({ cls := "AidRegister$Ledger", name := "sumOfAll", desc := "(I)I" } : Jvm.MethodName)) ∈ lw_all := qin_3 (i := 62) rfl rfl
theorem qw_543 : (Jvm.Cond.instanceMethod ({ cls := "AidRegister$Ledger", name := "sumOfAll", desc := "(I)I" } : Jvm.MethodName)) ∈ lw_all := qin_3 (i := 63) rfl rfl
theorem qw_544 : (Jvm.Cond.selects "AidRegister$Ledger" ({ cls := "AidRegister$Ledger", name := "sumOfAll", desc := "(I)I" } : Jvm.MethodName) ({ cls := "AidRegister$Ledger", name := "sumOfAll", desc := "(I)I" } : Jvm.MethodName)) ∈ lw_all := qin_3 (i := 64) rfl rfl
theorem qw_545 : (Jvm.Cond.code ({ cls := "AidRegister$Ledger", name := "sumOfAll", desc := "(I)I" } : Jvm.MethodName) prog_6_method_12_code (4 : Nat) (Option.some Jvm.ClassFile.FieldType.int)) ∈ lw_all := qin_3 (i := 65) rfl rfl
theorem qw_546 : (Jvm.Cond.methodLink "AidRegister$Ledger" (141 : Nat) ({ cls := "AidRegister$Ledger", name := "sumOfGift", desc := "(II)I" } : Jvm.MethodName)) ∈ lw_all := qin_3 (i := 66) rfl rfl
theorem qw_547 : (Jvm.Cond.instanceMethod ({ cls := "AidRegister$Ledger", name := "sumOfGift", desc := "(II)I" } : Jvm.MethodName)) ∈ lw_all := qin_3 (i := 67) rfl rfl
theorem qw_548 : (Jvm.Cond.selects "AidRegister$Ledger" ({ cls := "AidRegister$Ledger", name := "sumOfGift", desc := "(II)I" } : Jvm.MethodName) ({ cls := "AidRegister$Ledger", name := "sumOfGift", desc := "(II)I" } : Jvm.MethodName)) ∈ lw_all := qin_3 (i := 68) rfl rfl
theorem qw_549 : (Jvm.Cond.code ({ cls := "AidRegister$Ledger", name := "sumOfGift", desc := "(II)I" } : Jvm.MethodName) prog_6_method_11_code (5 : Nat) (Option.some Jvm.ClassFile.FieldType.int)) ∈ lw_all := qin_3 (i := 69) rfl rfl
theorem qw_550 : (Jvm.Cond.methodLink "AidRegister$Ledger" (138 : Nat) ({ cls := "AidRegister$Ledger", name := "measure", desc := "(II)I" } : Jvm.MethodName)) ∈ lw_all := qin_3 (i := 70) rfl rfl
theorem qw_551 : (Jvm.Cond.instanceMethod ({ cls := "AidRegister$Ledger", name := "measure", desc := "(II)I" } : Jvm.MethodName)) ∈ lw_all := qin_3 (i := 71) rfl rfl
theorem qw_552 : (Jvm.Cond.selects "AidRegister$Ledger" ({ cls := "AidRegister$Ledger", name := "measure", desc := "(II)I" } : Jvm.MethodName) ({ cls := "AidRegister$Ledger", name := "measure", desc := "(II)I" } : Jvm.MethodName)) ∈ lw_all := qin_3 (i := 72) rfl rfl
theorem qw_553 : (Jvm.Cond.code ({ cls := "AidRegister$Ledger", name := "measure", desc := "(II)I" } : Jvm.MethodName) prog_6_method_10_code (3 : Nat) (Option.some Jvm.ClassFile.FieldType.int)) ∈ lw_all := qin_3 (i := 73) rfl rfl
theorem qw_554 : (Jvm.Cond.methodLink "AidRegisterLaw" (243 : Nat) ({ cls := "AidRegister", name := "mostUrgent", desc := "()I" } : Jvm.MethodName)) ∈ lw_all := qin_3 (i := 74) rfl rfl
theorem qw_555 : (Jvm.Cond.instanceMethod ({ cls := "AidRegister", name := "mostUrgent", desc := "()I" } : Jvm.MethodName)) ∈ lw_all := qin_3 (i := 75) rfl rfl
theorem qw_556 : (Jvm.Cond.selects "AidRegister" ({ cls := "AidRegister", name := "mostUrgent", desc := "()I" } : Jvm.MethodName) ({ cls := "AidRegister", name := "mostUrgent", desc := "()I" } : Jvm.MethodName)) ∈ lw_all := qin_3 (i := 76) rfl rfl
theorem qw_557 : (Jvm.Cond.code ({ cls := "AidRegister", name := "mostUrgent", desc := "()I" } : Jvm.MethodName) prog_1_method_32_code (1 : Nat) (Option.some Jvm.ClassFile.FieldType.int)) ∈ lw_all := qin_3 (i := 77) rfl rfl
theorem qw_558 : (Jvm.Cond.methodLink "AidRegister" (312 : Nat) ({ cls := "AidRegister$Ledger", name := "urgentGift", desc := "()I" } : Jvm.MethodName)) ∈ lw_all := qin_3 (i := 78) rfl rfl
theorem qw_559 : (Jvm.Cond.instanceMethod ({ cls := "AidRegister$Ledger", name := "urgentGift", desc := "()I" } : Jvm.MethodName)) ∈ lw_all := qin_3 (i := 79) rfl rfl
theorem qw_560 : (Jvm.Cond.selects "AidRegister$Ledger" ({ cls := "AidRegister$Ledger", name := "urgentGift", desc := "()I" } : Jvm.MethodName) ({ cls := "AidRegister$Ledger", name := "urgentGift", desc := "()I" } : Jvm.MethodName)) ∈ lw_all := qin_3 (i := 80) rfl rfl
theorem qw_561 : (Jvm.Cond.code ({ cls := "AidRegister$Ledger", name := "urgentGift", desc := "()I" } : Jvm.MethodName) prog_6_method_22_code (5 : Nat) (Option.some Jvm.ClassFile.FieldType.int)) ∈ lw_all := qin_3 (i := 81) rfl rfl
theorem qw_562 : (Jvm.Cond.methodLink "AidRegister$Ledger" (179 : Nat) ({ cls := "AidRegister$Ledger", name := "unclaimedOfGift", desc := "(I)I" } : Jvm.MethodName)) ∈ lw_all := qin_3 (i := 82) rfl rfl
theorem qw_563 : (Jvm.Cond.instanceMethod ({ cls := "AidRegister$Ledger", name := "unclaimedOfGift", desc := "(I)I" } : Jvm.MethodName)) ∈ lw_all := qin_3 (i := 83) rfl rfl
theorem qw_564 : (Jvm.Cond.selects "AidRegister$Ledger" ({ cls := "AidRegister$Ledger", name := "unclaimedOfGift", desc := "(I)I" } : Jvm.MethodName) ({ cls := "AidRegister$Ledger", name := "unclaimedOfGift", desc := "(I)I" } : Jvm.MethodName)) ∈ lw_all := qin_3 (i := 84) rfl rfl
theorem qw_565 : (Jvm.Cond.code ({ cls := "AidRegister$Ledger", name := "unclaimedOfGift", desc := "(I)I" } : Jvm.MethodName) prog_6_method_21_code (4 : Nat) (Option.some Jvm.ClassFile.FieldType.int)) ∈ lw_all := qin_3 (i := 85) rfl rfl
theorem qw_566 : (Jvm.Cond.methodLink "AidRegister$Ledger" (176 : Nat) ({ cls := "AidRegister$Ledger", name := "unclaimed", desc := "(I)I" } : Jvm.MethodName)) ∈ lw_all := qin_3 (i := 86) rfl rfl
theorem qw_567 : (Jvm.Cond.instanceMethod ({ cls := "AidRegister$Ledger", name := "unclaimed", desc := "(I)I" } : Jvm.MethodName)) ∈ lw_all := qin_3 (i := 87) rfl rfl
theorem qw_568 : (Jvm.Cond.selects "AidRegister$Ledger" ({ cls := "AidRegister$Ledger", name := "unclaimed", desc := "(I)I" } : Jvm.MethodName) ({ cls := "AidRegister$Ledger", name := "unclaimed", desc := "(I)I" } : Jvm.MethodName)) ∈ lw_all := qin_3 (i := 88) rfl rfl
theorem qw_569 : (Jvm.Cond.code ({ cls := "AidRegister$Ledger", name := "unclaimed", desc := "(I)I" } : Jvm.MethodName) prog_6_method_20_code (2 : Nat) (Option.some Jvm.ClassFile.FieldType.int)) ∈ lw_all := qin_3 (i := 89) rfl rfl
theorem qw_570 : (Jvm.Cond.methodLink "AidRegisterLaw" (262 : Nat) ({ cls := "AidRegister", name := "bestYear", desc := "()I" } : Jvm.MethodName)) ∈ lw_all := qin_3 (i := 90) rfl rfl
theorem qw_571 : (Jvm.Cond.instanceMethod ({ cls := "AidRegister", name := "bestYear", desc := "()I" } : Jvm.MethodName)) ∈ lw_all := qin_3 (i := 91) rfl rfl
theorem qw_572 : (Jvm.Cond.selects "AidRegister" ({ cls := "AidRegister", name := "bestYear", desc := "()I" } : Jvm.MethodName) ({ cls := "AidRegister", name := "bestYear", desc := "()I" } : Jvm.MethodName)) ∈ lw_all := qin_3 (i := 92) rfl rfl
theorem qw_573 : (Jvm.Cond.code ({ cls := "AidRegister", name := "bestYear", desc := "()I" } : Jvm.MethodName) prog_1_method_38_code (1 : Nat) (Option.some Jvm.ClassFile.FieldType.int)) ∈ lw_all := qin_3 (i := 93) rfl rfl
theorem qw_574 : (Jvm.Cond.methodLink "AidRegister" (321 : Nat) ({ cls := "AidRegister$Ledger", name := "yearOfMostAid", desc := "()I" } : Jvm.MethodName)) ∈ lw_all := qin_3 (i := 94) rfl rfl
theorem qw_575 : (Jvm.Cond.instanceMethod ({ cls := "AidRegister$Ledger", name := "yearOfMostAid", desc := "()I" } : Jvm.MethodName)) ∈ lw_all := qin_3 (i := 95) rfl rfl
theorem qw_576 : (Jvm.Cond.selects "AidRegister$Ledger" ({ cls := "AidRegister$Ledger", name := "yearOfMostAid", desc := "()I" } : Jvm.MethodName) ({ cls := "AidRegister$Ledger", name := "yearOfMostAid", desc := "()I" } : Jvm.MethodName)) ∈ lw_all := qin_3 (i := 96) rfl rfl
theorem qw_577 : (Jvm.Cond.code ({ cls := "AidRegister$Ledger", name := "yearOfMostAid", desc := "()I" } : Jvm.MethodName) prog_6_method_26_code (7 : Nat) (Option.some Jvm.ClassFile.FieldType.int)) ∈ lw_all := qin_3 (i := 97) rfl rfl
theorem qw_578 : (Jvm.Cond.methodLink "AidRegisterLaw" (272 : Nat) ({ cls := "AidRegister", name := "bestAsked", desc := "()I" } : Jvm.MethodName)) ∈ lw_all := qin_3 (i := 98) rfl rfl
theorem qw_579 : (Jvm.Cond.instanceMethod ({ cls := "AidRegister", name := "bestAsked", desc := "()I" } : Jvm.MethodName)) ∈ lw_all := qin_3 (i := 99) rfl rfl
theorem qw_580 : (Jvm.Cond.selects "AidRegister" ({ cls := "AidRegister", name := "bestAsked", desc := "()I" } : Jvm.MethodName) ({ cls := "AidRegister", name := "bestAsked", desc := "()I" } : Jvm.MethodName)) ∈ lw_all := qin_3 (i := 100) rfl rfl
theorem qw_581 : (Jvm.Cond.code ({ cls := "AidRegister", name := "bestAsked", desc := "()I" } : Jvm.MethodName) prog_1_method_41_code (5 : Nat) (Option.some Jvm.ClassFile.FieldType.int)) ∈ lw_all := qin_3 (i := 101) rfl rfl
theorem qw_582 : (Jvm.Cond.methodLink "AidRegister" (327 : Nat) ({ cls := "AidRegister$Ledger", name := "growthWith", desc := "(III)I" } : Jvm.MethodName)) ∈ lw_all := qin_3 (i := 102) rfl rfl
theorem qw_583 : (Jvm.Cond.instanceMethod ({ cls := "AidRegister$Ledger", name := "growthWith", desc := "(III)I" } : Jvm.MethodName)) ∈ lw_all := qin_3 (i := 103) rfl rfl
theorem qw_584 : (Jvm.Cond.selects "AidRegister$Ledger" ({ cls := "AidRegister$Ledger", name := "growthWith", desc := "(III)I" } : Jvm.MethodName) ({ cls := "AidRegister$Ledger", name := "growthWith", desc := "(III)I" } : Jvm.MethodName)) ∈ lw_all := qin_3 (i := 104) rfl rfl
theorem qw_585 : (Jvm.Cond.code ({ cls := "AidRegister$Ledger", name := "growthWith", desc := "(III)I" } : Jvm.MethodName) prog_6_method_27_code (4 : Nat) (Option.some Jvm.ClassFile.FieldType.int)) ∈ lw_all := qin_3 (i := 105) rfl rfl
theorem qw_586 : (Jvm.Cond.methodLink "AidRegister$Ledger" (185 : Nat) ({ cls := "AidRegister$Ledger", name := "aidWith", desc := "(III)I" } : Jvm.MethodName)) ∈ lw_all := qin_3 (i := 106) rfl rfl
theorem qw_588 : (Jvm.Cond.instanceMethod ({ cls := "AidRegister$Ledger", name := "aidWith", desc := "(III)I" } : Jvm.MethodName)) ∈ lw_all := qin_3 (i := 108) rfl rfl
theorem qw_589 : (Jvm.Cond.code ({ cls := "AidRegister$Ledger", name := "aidWith", desc := "(III)I" } : Jvm.MethodName) prog_6_method_28_code (10 : Nat) (Option.some Jvm.ClassFile.FieldType.int)) ∈ lw_all := qin_3 (i := 109) rfl rfl
theorem qw_590 : (Jvm.Cond.methodLink "AidRegister$Ledger" (192 : Nat) ({ cls := "AidRegister$Ledger", name := "wishOf", desc := "(IIZ)I" } : Jvm.MethodName)) ∈ lw_all := qin_3 (i := 110) rfl rfl
theorem qw_592 : (Jvm.Cond.instanceMethod ({ cls := "AidRegister$Ledger", name := "wishOf", desc := "(IIZ)I" } : Jvm.MethodName)) ∈ lw_all := qin_3 (i := 112) rfl rfl
theorem qw_593 : (Jvm.Cond.code ({ cls := "AidRegister$Ledger", name := "wishOf", desc := "(IIZ)I" } : Jvm.MethodName) prog_6_method_29_code (6 : Nat) (Option.some Jvm.ClassFile.FieldType.int)) ∈ lw_all := qin_3 (i := 113) rfl rfl
theorem qw_594 : (Jvm.Cond.methodLink "AidRegister$Ledger" (189 : Nat) ({ cls := "AidRegister$Ledger", name := "sumOfDonor", desc := "(III)I" } : Jvm.MethodName)) ∈ lw_all := qin_3 (i := 114) rfl rfl
theorem qw_595 : (Jvm.Cond.instanceMethod ({ cls := "AidRegister$Ledger", name := "sumOfDonor", desc := "(III)I" } : Jvm.MethodName)) ∈ lw_all := qin_3 (i := 115) rfl rfl
theorem qw_596 : (Jvm.Cond.selects "AidRegister$Ledger" ({ cls := "AidRegister$Ledger", name := "sumOfDonor", desc := "(III)I" } : Jvm.MethodName) ({ cls := "AidRegister$Ledger", name := "sumOfDonor", desc := "(III)I" } : Jvm.MethodName)) ∈ lw_all := qin_3 (i := 116) rfl rfl
theorem qw_597 : (Jvm.Cond.code ({ cls := "AidRegister$Ledger", name := "sumOfDonor", desc := "(III)I" } : Jvm.MethodName) prog_6_method_13_code (7 : Nat) (Option.some Jvm.ClassFile.FieldType.int)) ∈ lw_all := qin_3 (i := 117) rfl rfl
theorem qw_598 : (Jvm.Cond.methodLink "AidRegister$Ledger" (144 : Nat) ({ cls := "AidRegister$Gifts", name := "slotCount", desc := "()I" } : Jvm.MethodName)) ∈ lw_all := qin_3 (i := 118) rfl rfl
theorem qw_599 : (Jvm.Cond.methodLink "AidRegister$Ledger" (148 : Nat) ({ cls := "AidRegister$Gifts", name := "isPartOf", desc := "(II)Z" } : Jvm.MethodName)) ∈ lw_all := qin_3 (i := 119) rfl rfl
theorem qw_600 : (Jvm.Cond.instanceMethod ({ cls := "AidRegister$Gifts", name := "isPartOf", desc := "(II)Z" } : Jvm.MethodName)) ∈ lw_all := qin_3 (i := 120) rfl rfl
theorem qw_601 : (Jvm.Cond.selects "AidRegister$Gifts" ({ cls := "AidRegister$Gifts", name := "isPartOf", desc := "(II)Z" } : Jvm.MethodName) ({ cls := "AidRegister$Gifts", name := "isPartOf", desc := "(II)Z" } : Jvm.MethodName)) ∈ lw_all := qin_3 (i := 121) rfl rfl
theorem qw_602 : (Jvm.Cond.code ({ cls := "AidRegister$Gifts", name := "isPartOf", desc := "(II)Z" } : Jvm.MethodName) prog_5_method_14_code (3 : Nat) (Option.some Jvm.ClassFile.FieldType.boolean)) ∈ lw_all := qin_3 (i := 122) rfl rfl
theorem qw_603 : (Jvm.Cond.methodLink "AidRegister$Gifts" (75 : Nat) ({ cls := "AidRegister$Gifts", name := "isPart", desc := "(I)Z" } : Jvm.MethodName)) ∈ lw_all := qin_3 (i := 123) rfl rfl
theorem qw_604 : (Jvm.Cond.methodLink "AidRegisterLaw" (292 : Nat) ({ cls := "AidRegister", name := "aidShare", desc := "()F" } : Jvm.MethodName)) ∈ lw_all := qin_3 (i := 124) rfl rfl
theorem qw_605 : (Jvm.Cond.instanceMethod ({ cls := "AidRegister", name := "aidShare", desc := "()F" } : Jvm.MethodName)) ∈ lw_all := qin_3 (i := 125) rfl rfl
theorem qw_606 : (Jvm.Cond.selects "AidRegister" ({ cls := "AidRegister", name := "aidShare", desc := "()F" } : Jvm.MethodName) ({ cls := "AidRegister", name := "aidShare", desc := "()F" } : Jvm.MethodName)) ∈ lw_all := qin_3 (i := 126) rfl rfl
theorem qw_607 : (Jvm.Cond.code ({ cls := "AidRegister", name := "aidShare", desc := "()F" } : Jvm.MethodName) prog_1_method_47_code (2 : Nat) (Option.some Jvm.ClassFile.FieldType.float)) ∈ lw_all := qin_3 (i := 127) rfl rfl
theorem qw_608 : (Jvm.Cond.methodLink "AidRegister" (343 : Nat) ({ cls := "AidRegister$Gifts", name := "leftOfAll", desc := "()I" } : Jvm.MethodName)) ∈ lw_all := qin_3 (i := 128) rfl rfl
theorem qw_609 : (Jvm.Cond.instanceMethod ({ cls := "AidRegister$Gifts", name := "leftOfAll", desc := "()I" } : Jvm.MethodName)) ∈ lw_all := qin_3 (i := 129) rfl rfl
theorem qw_610 : (Jvm.Cond.selects "AidRegister$Gifts" ({ cls := "AidRegister$Gifts", name := "leftOfAll", desc := "()I" } : Jvm.MethodName) ({ cls := "AidRegister$Gifts", name := "leftOfAll", desc := "()I" } : Jvm.MethodName)) ∈ lw_all := qin_3 (i := 130) rfl rfl
theorem qw_611 : (Jvm.Cond.code ({ cls := "AidRegister$Gifts", name := "leftOfAll", desc := "()I" } : Jvm.MethodName) prog_5_method_19_code (3 : Nat) (Option.some Jvm.ClassFile.FieldType.int)) ∈ lw_all := qin_3 (i := 131) rfl rfl
theorem qw_612 : (Jvm.Cond.methodLink "AidRegister$Gifts" (79 : Nat) ({ cls := "AidRegister$Gifts", name := "leftOf", desc := "(I)I" } : Jvm.MethodName)) ∈ lw_all := qin_3 (i := 132) rfl rfl
theorem qw_613 : (Jvm.Cond.instanceMethod ({ cls := "AidRegister$Gifts", name := "leftOf", desc := "(I)I" } : Jvm.MethodName)) ∈ lw_all := qin_3 (i := 133) rfl rfl
theorem qw_614 : (Jvm.Cond.selects "AidRegister$Gifts" ({ cls := "AidRegister$Gifts", name := "leftOf", desc := "(I)I" } : Jvm.MethodName) ({ cls := "AidRegister$Gifts", name := "leftOf", desc := "(I)I" } : Jvm.MethodName)) ∈ lw_all := qin_3 (i := 134) rfl rfl
theorem qw_615 : (Jvm.Cond.code ({ cls := "AidRegister$Gifts", name := "leftOf", desc := "(I)I" } : Jvm.MethodName) prog_5_method_17_code (2 : Nat) (Option.some Jvm.ClassFile.FieldType.int)) ∈ lw_all := qin_3 (i := 135) rfl rfl
theorem qw_616 : (Jvm.Cond.methodLink "AidRegisterLaw" (297 : Nat) ({ cls := "AidRegister", name := "meanGift", desc := "()D" } : Jvm.MethodName)) ∈ lw_all := qin_3 (i := 136) rfl rfl
theorem qw_617 : (Jvm.Cond.instanceMethod ({ cls := "AidRegister", name := "meanGift", desc := "()D" } : Jvm.MethodName)) ∈ lw_all := qin_3 (i := 137) rfl rfl
theorem qw_618 : (Jvm.Cond.selects "AidRegister" ({ cls := "AidRegister", name := "meanGift", desc := "()D" } : Jvm.MethodName) ({ cls := "AidRegister", name := "meanGift", desc := "()D" } : Jvm.MethodName)) ∈ lw_all := qin_3 (i := 138) rfl rfl
theorem qw_619 : (Jvm.Cond.code ({ cls := "AidRegister", name := "meanGift", desc := "()D" } : Jvm.MethodName) prog_1_method_48_code (2 : Nat) (Option.some Jvm.ClassFile.FieldType.double)) ∈ lw_all := qin_3 (i := 139) rfl rfl
theorem qw_620 : (Jvm.Cond.methodLink "AidRegister" (346 : Nat) ({ cls := "AidRegister$Gifts", name := "countLeft", desc := "()I" } : Jvm.MethodName)) ∈ lw_all := qin_3 (i := 140) rfl rfl
theorem qw_621 : (Jvm.Cond.instanceMethod ({ cls := "AidRegister$Gifts", name := "countLeft", desc := "()I" } : Jvm.MethodName)) ∈ lw_all := qin_3 (i := 141) rfl rfl
theorem qw_622 : (Jvm.Cond.selects "AidRegister$Gifts" ({ cls := "AidRegister$Gifts", name := "countLeft", desc := "()I" } : Jvm.MethodName) ({ cls := "AidRegister$Gifts", name := "countLeft", desc := "()I" } : Jvm.MethodName)) ∈ lw_all := qin_3 (i := 142) rfl rfl
theorem qw_623 : (Jvm.Cond.code ({ cls := "AidRegister$Gifts", name := "countLeft", desc := "()I" } : Jvm.MethodName) prog_5_method_20_code (3 : Nat) (Option.some Jvm.ClassFile.FieldType.int)) ∈ lw_all := qin_3 (i := 143) rfl rfl
theorem qw_624 : (Jvm.Cond.methodLink "AidRegisterLaw" (305 : Nat) ({ cls := "AidRegister", name := "outputByte", desc := "(I)I" } : Jvm.MethodName)) ∈ lw_all := qin_3 (i := 144) rfl rfl
theorem qw_625 : (Jvm.Cond.instanceMethod ({ cls := "AidRegister", name := "outputByte", desc := "(I)I" } : Jvm.MethodName)) ∈ lw_all := qin_3 (i := 145) rfl rfl
theorem qw_626 : (Jvm.Cond.selects "AidRegister" ({ cls := "AidRegister", name := "outputByte", desc := "(I)I" } : Jvm.MethodName) ({ cls := "AidRegister", name := "outputByte", desc := "(I)I" } : Jvm.MethodName)) ∈ lw_all := qin_3 (i := 146) rfl rfl
theorem qw_627 : (Jvm.Cond.code ({ cls := "AidRegister", name := "outputByte", desc := "(I)I" } : Jvm.MethodName) prog_1_method_50_code (2 : Nat) (Option.some Jvm.ClassFile.FieldType.int)) ∈ lw_all := qin_3 (i := 147) rfl rfl
theorem qw_628 : (Jvm.Cond.methodLink "AidRegisterLaw" (309 : Nat) ({ cls := "AidRegister", name := "undo", desc := "()I" } : Jvm.MethodName)) ∈ lw_all := qin_3 (i := 148) rfl rfl
theorem qw_629 : (Jvm.Cond.instanceMethod ({ cls := "AidRegister", name := "undo", desc := "()I" } : Jvm.MethodName)) ∈ lw_all := qin_3 (i := 149) rfl rfl
theorem qw_630 : (Jvm.Cond.selects "AidRegister" ({ cls := "AidRegister", name := "undo", desc := "()I" } : Jvm.MethodName) ({ cls := "AidRegister", name := "undo", desc := "()I" } : Jvm.MethodName)) ∈ lw_all := qin_3 (i := 150) rfl rfl
theorem qw_631 : (Jvm.Cond.code ({ cls := "AidRegister", name := "undo", desc := "()I" } : Jvm.MethodName) prog_1_method_51_code (3 : Nat) (Option.some Jvm.ClassFile.FieldType.int)) ∈ lw_all := qin_3 (i := 151) rfl rfl
theorem qw_632 : (Jvm.Cond.methodLink "AidRegisterLaw" (313 : Nat) ({ cls := "AidRegister", name := "saveState", desc := "()I" } : Jvm.MethodName)) ∈ lw_all := qin_3 (i := 152) rfl rfl
theorem qw_633 : (Jvm.Cond.instanceMethod ({ cls := "AidRegister", name := "saveState", desc := "()I" } : Jvm.MethodName)) ∈ lw_all := qin_3 (i := 153) rfl rfl
theorem qw_634 : (Jvm.Cond.selects "AidRegister" ({ cls := "AidRegister", name := "saveState", desc := "()I" } : Jvm.MethodName) ({ cls := "AidRegister", name := "saveState", desc := "()I" } : Jvm.MethodName)) ∈ lw_all := qin_3 (i := 154) rfl rfl
theorem qw_635 : (Jvm.Cond.code ({ cls := "AidRegister", name := "saveState", desc := "()I" } : Jvm.MethodName) prog_1_method_52_code (1 : Nat) (Option.some Jvm.ClassFile.FieldType.int)) ∈ lw_all := qin_3 (i := 155) rfl rfl
theorem qw_636 : (Jvm.Cond.methodLink "AidRegisterLaw" (158 : Nat) ({ cls := "AidRegisterLaw", name := "count", desc := "(LAidRegister;I[J)I" } : Jvm.MethodName)) ∈ lw_all := qin_3 (i := 156) rfl rfl
theorem qw_637 : (Jvm.Cond.static ({ cls := "AidRegisterLaw", name := "count", desc := "(LAidRegister;I[J)I" } : Jvm.MethodName)) ∈ lw_all := qin_3 (i := 157) rfl rfl
theorem qw_639 : (Jvm.Cond.classLink "AidRegisterLaw" (13 : Nat) "java/lang/IllegalArgumentException") ∈ lw_all := qin_3 (i := 159) rfl rfl
theorem qw_640 : (Jvm.Cond.methodLink "AidRegisterLaw" (7 : Nat) ({ cls := "AidRegister", name := "count", desc := "(I)I" } : Jvm.MethodName)) ∈ lw_all := qin_3 (i := 160) rfl rfl
theorem qw_641 : (Jvm.Cond.instanceMethod ({ cls := "AidRegister", name := "count", desc := "(I)I" } : Jvm.MethodName)) ∈ lw_all := qin_3 (i := 161) rfl rfl
theorem qw_642 : (Jvm.Cond.selects "AidRegister" ({ cls := "AidRegister", name := "count", desc := "(I)I" } : Jvm.MethodName) ({ cls := "AidRegister", name := "count", desc := "(I)I" } : Jvm.MethodName)) ∈ lw_all := qin_3 (i := 162) rfl rfl
theorem qw_643 : (Jvm.Cond.code ({ cls := "AidRegister", name := "count", desc := "(I)I" } : Jvm.MethodName) prog_1_method_8_code (2 : Nat) (Option.some Jvm.ClassFile.FieldType.int)) ∈ lw_all := qin_3 (i := 163) rfl rfl
theorem qw_644 : (Jvm.Cond.methodLink "AidRegister" (105 : Nat) ({ cls := "AidRegister$Gifts", name := "countWithoutParts", desc := "()I" } : Jvm.MethodName)) ∈ lw_all := qin_3 (i := 164) rfl rfl
theorem qw_645 : (Jvm.Cond.instanceMethod ({ cls := "AidRegister$Gifts", name := "countWithoutParts", desc := "()I" } : Jvm.MethodName)) ∈ lw_all := qin_3 (i := 165) rfl rfl
theorem qw_646 : (Jvm.Cond.selects "AidRegister$Gifts" ({ cls := "AidRegister$Gifts", name := "countWithoutParts", desc := "()I" } : Jvm.MethodName) ({ cls := "AidRegister$Gifts", name := "countWithoutParts", desc := "()I" } : Jvm.MethodName)) ∈ lw_all := qin_3 (i := 166) rfl rfl
theorem qw_647 : (Jvm.Cond.code ({ cls := "AidRegister$Gifts", name := "countWithoutParts", desc := "()I" } : Jvm.MethodName) prog_5_method_21_code (3 : Nat) (Option.some Jvm.ClassFile.FieldType.int)) ∈ lw_all := qin_3 (i := 167) rfl rfl
theorem qw_648 : (Jvm.Cond.methodLink "AidRegister" (125 : Nat) ({ cls := "AidRegister$Ledger", name := "countSpoilt", desc := "()I" } : Jvm.MethodName)) ∈ lw_all := qin_3 (i := 168) rfl rfl
theorem qw_649 : (Jvm.Cond.instanceMethod ({ cls := "AidRegister$Ledger", name := "countSpoilt", desc := "()I" } : Jvm.MethodName)) ∈ lw_all := qin_3 (i := 169) rfl rfl
theorem qw_650 : (Jvm.Cond.selects "AidRegister$Ledger" ({ cls := "AidRegister$Ledger", name := "countSpoilt", desc := "()I" } : Jvm.MethodName) ({ cls := "AidRegister$Ledger", name := "countSpoilt", desc := "()I" } : Jvm.MethodName)) ∈ lw_all := qin_3 (i := 170) rfl rfl
theorem qw_651 : (Jvm.Cond.code ({ cls := "AidRegister$Ledger", name := "countSpoilt", desc := "()I" } : Jvm.MethodName) prog_6_method_9_code (3 : Nat) (Option.some Jvm.ClassFile.FieldType.int)) ∈ lw_all := qin_3 (i := 171) rfl rfl
theorem qw_652 : (Jvm.Cond.classLink "AidRegister" (128 : Nat) "java/lang/IllegalArgumentException") ∈ lw_all := qin_3 (i := 172) rfl rfl
theorem qw_653 : (Jvm.Cond.instantiable "java/lang/IllegalArgumentException" (6 : Nat)) ∈ lw_all := qin_3 (i := 173) rfl rfl
theorem qw_661 : (Jvm.Cond.selects "java/lang/IllegalArgumentException" ({ cls := "java/lang/Throwable", name := "fillInStackTrace", desc := "(I)Ljava/lang/Throwable;" } : Jvm.MethodName) ({ cls := "java/lang/Throwable", name := "fillInStackTrace", desc := "(I)Ljava/lang/Throwable;" } : Jvm.MethodName)) ∈ lw_all := qin_3 (i := 181) rfl rfl
theorem qw_662 : (Jvm.Cond.selects "java/lang/IllegalArgumentException" ({ cls := "java/lang/Throwable", name := "fillInStackTrace", desc := "()Ljava/lang/Throwable;" } : Jvm.MethodName) ({ cls := "java/lang/Throwable", name := "fillInStackTrace", desc := "()Ljava/lang/Throwable;" } : Jvm.MethodName)) ∈ lw_all := qin_3 (i := 182) rfl rfl
theorem qw_663 : (Jvm.Cond.lays "java/lang/IllegalArgumentException" "java/lang/Throwable" "cause" "Ljava/lang/Throwable;") ∈ lw_all := qin_3 (i := 183) rfl rfl
theorem qw_664 : (Jvm.Cond.lays "java/lang/Throwable" "java/lang/Throwable" "cause" "Ljava/lang/Throwable;") ∈ lw_all := qin_3 (i := 184) rfl rfl
theorem qw_665 : (Jvm.Cond.lays "java/lang/IllegalArgumentException" "java/lang/Throwable" "stackTrace" "[Ljava/lang/StackTraceElement;") ∈ lw_all := qin_3 (i := 185) rfl rfl
theorem qw_666 : (Jvm.Cond.lays "java/lang/Throwable" "java/lang/Throwable" "stackTrace" "[Ljava/lang/StackTraceElement;") ∈ lw_all := qin_3 (i := 186) rfl rfl
theorem qw_667 : (Jvm.Cond.lays "java/lang/IllegalArgumentException" "java/lang/Throwable" "suppressedExceptions" "Ljava/util/List;") ∈ lw_all := qin_3 (i := 187) rfl rfl
theorem qw_668 : (Jvm.Cond.lays "java/lang/Throwable" "java/lang/Throwable" "suppressedExceptions" "Ljava/util/List;") ∈ lw_all := qin_3 (i := 188) rfl rfl
theorem qw_669 : (Jvm.Cond.lays "java/lang/IllegalArgumentException" "java/lang/Throwable" "detailMessage" "Ljava/lang/String;") ∈ lw_all := qin_3 (i := 189) rfl rfl
theorem qw_670 : (Jvm.Cond.lays "java/lang/Throwable" "java/lang/Throwable" "detailMessage" "Ljava/lang/String;") ∈ lw_all := qin_3 (i := 190) rfl rfl
theorem qw_671 : (Jvm.Cond.lays "java/lang/IllegalArgumentException" "java/lang/Throwable" "backtrace" "Ljava/lang/Object;") ∈ lw_all := qin_3 (i := 191) rfl rfl
theorem qw_672 : (Jvm.Cond.lays "java/lang/Throwable" "java/lang/Throwable" "backtrace" "Ljava/lang/Object;") ∈ lw_all := qin_3 (i := 192) rfl rfl
theorem qw_673 : (Jvm.Cond.fieldLink "java/lang/Throwable" (198 : Nat) "java/lang/Throwable" "backtrace" "Ljava/lang/Object;") ∈ lw_all := qin_3 (i := 193) rfl rfl
theorem qw_675 : (Jvm.Cond.instanceMethod ({ cls := "java/lang/Throwable", name := "<init>", desc := "()V" } : Jvm.MethodName)) ∈ lw_all := qin_3 (i := 195) rfl rfl
theorem qw_676 : (Jvm.Cond.code ({ cls := "java/lang/Throwable", name := "<init>", desc := "()V" } : Jvm.MethodName) prog_21_method_1_code (1 : Nat) (Option.none : Option Jvm.ClassFile.FieldType)) ∈ lw_all := qin_3 (i := 196) rfl rfl
theorem qw_677 : (Jvm.Cond.methodLink "java/lang/Throwable" (1 : Nat) ({ cls := "java/lang/Object", name := "<init>", desc := "()V" } : Jvm.MethodName)) ∈ lw_all := qin_3 (i := 197) rfl rfl
theorem qw_678 : (Jvm.Cond.fieldLink "java/lang/Throwable" (13 : Nat) "java/lang/Throwable" "UNASSIGNED_STACK" "[Ljava/lang/StackTraceElement;") ∈ lw_all := qin_3 (i := 198) rfl rfl
theorem qw_680 : (Jvm.Cond.fieldLink "java/lang/Throwable" (20 : Nat) "java/lang/Throwable" "SUPPRESSED_SENTINEL" "Ljava/util/List;") ∈ lw_all := qin_3 (i := 200) rfl rfl
theorem qw_682 : (Jvm.Cond.methodLink "java/lang/Throwable" (27 : Nat) ({ cls := "java/lang/Throwable", name := "fillInStackTrace", desc := "()Ljava/lang/Throwable;" } : Jvm.MethodName)) ∈ lw_all := qin_3 (i := 202) rfl rfl
theorem qw_683 : (Jvm.Cond.instanceMethod ({ cls := "java/lang/Throwable", name := "fillInStackTrace", desc := "()Ljava/lang/Throwable;" } : Jvm.MethodName)) ∈ lw_all := qin_3 (i := 203) rfl rfl
theorem qw_685 : (Jvm.Cond.selects "java/lang/IllegalStateException" ({ cls := "java/lang/Throwable", name := "fillInStackTrace", desc := "()Ljava/lang/Throwable;" } : Jvm.MethodName) ({ cls := "java/lang/Throwable", name := "fillInStackTrace", desc := "()Ljava/lang/Throwable;" } : Jvm.MethodName)) ∈ lw_all := qin_3 (i := 205) rfl rfl
theorem qw_686 : (Jvm.Cond.selects "java/lang/IndexOutOfBoundsException" ({ cls := "java/lang/Throwable", name := "fillInStackTrace", desc := "()Ljava/lang/Throwable;" } : Jvm.MethodName) ({ cls := "java/lang/Throwable", name := "fillInStackTrace", desc := "()Ljava/lang/Throwable;" } : Jvm.MethodName)) ∈ lw_all := qin_3 (i := 206) rfl rfl
theorem qw_688 : (Jvm.Cond.methodLink "java/lang/Throwable" (202 : Nat) ({ cls := "java/lang/Throwable", name := "fillInStackTrace", desc := "(I)Ljava/lang/Throwable;" } : Jvm.MethodName)) ∈ lw_all := qin_3 (i := 208) rfl rfl
theorem qw_690 : (Jvm.Cond.instanceMethod ({ cls := "java/lang/Throwable", name := "fillInStackTrace", desc := "(I)Ljava/lang/Throwable;" } : Jvm.MethodName)) ∈ lw_all := qin_3 (i := 210) rfl rfl
theorem qw_691 : (Jvm.Cond.instantiable "java/lang/Throwable" (6 : Nat)) ∈ lw_all := qin_3 (i := 211) rfl rfl
theorem qw_692 : (Jvm.Cond.native ({ cls := "java/lang/Throwable", name := "fillInStackTrace", desc := "(I)Ljava/lang/Throwable;" } : Jvm.MethodName)) ∈ lw_all := qin_3 (i := 212) rfl rfl
theorem qw_694 : (Jvm.Cond.methodLink "AidRegister" (132 : Nat) ({ cls := "java/lang/IllegalArgumentException", name := "<init>", desc := "(Ljava/lang/String;)V" } : Jvm.MethodName)) ∈ lw_all := qin_3 (i := 214) rfl rfl
theorem qw_695 : (Jvm.Cond.instanceMethod ({ cls := "java/lang/IllegalArgumentException", name := "<init>", desc := "(Ljava/lang/String;)V" } : Jvm.MethodName)) ∈ lw_all := qin_3 (i := 215) rfl rfl
theorem qw_696 : (Jvm.Cond.code ({ cls := "java/lang/IllegalArgumentException", name := "<init>", desc := "(Ljava/lang/String;)V" } : Jvm.MethodName) prog_12_method_2_code (2 : Nat) (Option.none : Option Jvm.ClassFile.FieldType)) ∈ lw_all := qin_3 (i := 216) rfl rfl
theorem qw_697 : (Jvm.Cond.methodLink "java/lang/IllegalArgumentException" (7 : Nat) ({ cls := "java/lang/RuntimeException", name := "<init>", desc := "(Ljava/lang/String;)V" } : Jvm.MethodName)) ∈ lw_all := qin_3 (i := 217) rfl rfl
theorem qw_698 : (Jvm.Cond.instanceMethod ({ cls := "java/lang/RuntimeException", name := "<init>", desc := "(Ljava/lang/String;)V" } : Jvm.MethodName)) ∈ lw_all := qin_3 (i := 218) rfl rfl
theorem qw_699 : (Jvm.Cond.code ({ cls := "java/lang/RuntimeException", name := "<init>", desc := "(Ljava/lang/String;)V" } : Jvm.MethodName) prog_16_method_2_code (2 : Nat) (Option.none : Option Jvm.ClassFile.FieldType)) ∈ lw_all := qin_3 (i := 219) rfl rfl
theorem qw_700 : (Jvm.Cond.methodLink "java/lang/RuntimeException" (7 : Nat) ({ cls := "java/lang/Exception", name := "<init>", desc := "(Ljava/lang/String;)V" } : Jvm.MethodName)) ∈ lw_all := qin_3 (i := 220) rfl rfl
theorem qw_701 : (Jvm.Cond.instanceMethod ({ cls := "java/lang/Exception", name := "<init>", desc := "(Ljava/lang/String;)V" } : Jvm.MethodName)) ∈ lw_all := qin_3 (i := 221) rfl rfl
theorem qw_702 : (Jvm.Cond.code ({ cls := "java/lang/Exception", name := "<init>", desc := "(Ljava/lang/String;)V" } : Jvm.MethodName) prog_11_method_2_code (2 : Nat) (Option.none : Option Jvm.ClassFile.FieldType)) ∈ lw_all := qin_3 (i := 222) rfl rfl
theorem qw_703 : (Jvm.Cond.methodLink "java/lang/Exception" (7 : Nat) ({ cls := "java/lang/Throwable", name := "<init>", desc := "(Ljava/lang/String;)V" } : Jvm.MethodName)) ∈ lw_all := qin_3 (i := 223) rfl rfl
theorem qw_704 : (Jvm.Cond.instanceMethod ({ cls := "java/lang/Throwable", name := "<init>", desc := "(Ljava/lang/String;)V" } : Jvm.MethodName)) ∈ lw_all := qin_3 (i := 224) rfl rfl
theorem qw_705 : (Jvm.Cond.code ({ cls := "java/lang/Throwable", name := "<init>", desc := "(Ljava/lang/String;)V" } : Jvm.MethodName) prog_21_method_2_code (2 : Nat) (Option.none : Option Jvm.ClassFile.FieldType)) ∈ lw_all := qin_3 (i := 225) rfl rfl
theorem qw_706 : (Jvm.Cond.fieldLink "java/lang/Throwable" (198 : Nat) "java/lang/Throwable" "backtrace" "Ljava/lang/Object;") ∈ lw_all := qin_3 (i := 226) rfl rfl
theorem qw_707 : (Jvm.Cond.fieldLink "java/lang/Throwable" (31 : Nat) "java/lang/Throwable" "detailMessage" "Ljava/lang/String;") ∈ lw_all := qin_3 (i := 227) rfl rfl
theorem qw_708 : (Jvm.Cond.fieldLink "java/lang/Throwable" (7 : Nat) "java/lang/Throwable" "cause" "Ljava/lang/Throwable;") ∈ lw_all := qin_3 (i := 228) rfl rfl
theorem qw_709 : (Jvm.Cond.fieldLink "java/lang/Throwable" (17 : Nat) "java/lang/Throwable" "stackTrace" "[Ljava/lang/StackTraceElement;") ∈ lw_all := qin_3 (i := 229) rfl rfl
theorem qw_710 : (Jvm.Cond.fieldLink "java/lang/Throwable" (24 : Nat) "java/lang/Throwable" "suppressedExceptions" "Ljava/util/List;") ∈ lw_all := qin_3 (i := 230) rfl rfl
theorem qw_715 : (Jvm.Cond.lays "java/lang/IllegalArgumentException" "java/lang/Throwable" "depth" "I") ∈ lw_all := qin_3 (i := 235) rfl rfl
theorem qw_719 : (Jvm.Cond.methodLink "AidRegisterLaw" (167 : Nat) ({ cls := "AidRegisterLaw", name := "declaration", desc := "(LAidRegister;II[J)I" } : Jvm.MethodName)) ∈ lw_all := qin_3 (i := 239) rfl rfl
theorem qw_720 : (Jvm.Cond.static ({ cls := "AidRegisterLaw", name := "declaration", desc := "(LAidRegister;II[J)I" } : Jvm.MethodName)) ∈ lw_all := qin_4 (i := 0) rfl rfl
theorem qw_722 : (Jvm.Cond.classLink "AidRegisterLaw" (19 : Nat) "java/lang/IndexOutOfBoundsException") ∈ lw_all := qin_4 (i := 2) rfl rfl
theorem qw_723 : (Jvm.Cond.methodLink "AidRegisterLaw" (15 : Nat) ({ cls := "AidRegister", name := "declaration", desc := "(II)I" } : Jvm.MethodName)) ∈ lw_all := qin_4 (i := 3) rfl rfl
theorem qw_724 : (Jvm.Cond.instanceMethod ({ cls := "AidRegister", name := "declaration", desc := "(II)I" } : Jvm.MethodName)) ∈ lw_all := qin_4 (i := 4) rfl rfl
theorem qw_725 : (Jvm.Cond.selects "AidRegister" ({ cls := "AidRegister", name := "declaration", desc := "(II)I" } : Jvm.MethodName) ({ cls := "AidRegister", name := "declaration", desc := "(II)I" } : Jvm.MethodName)) ∈ lw_all := qin_4 (i := 5) rfl rfl
theorem qw_726 : (Jvm.Cond.code ({ cls := "AidRegister", name := "declaration", desc := "(II)I" } : Jvm.MethodName) prog_1_method_9_code (3 : Nat) (Option.some Jvm.ClassFile.FieldType.int)) ∈ lw_all := qin_4 (i := 6) rfl rfl
theorem qw_727 : (Jvm.Cond.methodLink "AidRegister" (135 : Nat) ({ cls := "AidRegister", name := "needDeclaration", desc := "(I)V" } : Jvm.MethodName)) ∈ lw_all := qin_4 (i := 7) rfl rfl
theorem qw_729 : (Jvm.Cond.instanceMethod ({ cls := "AidRegister", name := "needDeclaration", desc := "(I)V" } : Jvm.MethodName)) ∈ lw_all := qin_4 (i := 9) rfl rfl
theorem qw_730 : (Jvm.Cond.code ({ cls := "AidRegister", name := "needDeclaration", desc := "(I)V" } : Jvm.MethodName) prog_1_method_56_code (2 : Nat) (Option.none : Option Jvm.ClassFile.FieldType)) ∈ lw_all := qin_4 (i := 10) rfl rfl
theorem qw_731 : (Jvm.Cond.classLink "AidRegister" (288 : Nat) "java/lang/IndexOutOfBoundsException") ∈ lw_all := qin_4 (i := 11) rfl rfl
theorem qw_732 : (Jvm.Cond.instantiable "java/lang/IndexOutOfBoundsException" (6 : Nat)) ∈ lw_all := qin_4 (i := 12) rfl rfl
theorem qw_734 : (Jvm.Cond.selects "java/lang/IndexOutOfBoundsException" ({ cls := "java/lang/Throwable", name := "fillInStackTrace", desc := "(I)Ljava/lang/Throwable;" } : Jvm.MethodName) ({ cls := "java/lang/Throwable", name := "fillInStackTrace", desc := "(I)Ljava/lang/Throwable;" } : Jvm.MethodName)) ∈ lw_all := qin_4 (i := 14) rfl rfl
theorem qw_735 : (Jvm.Cond.lays "java/lang/IndexOutOfBoundsException" "java/lang/Throwable" "cause" "Ljava/lang/Throwable;") ∈ lw_all := qin_4 (i := 15) rfl rfl
theorem qw_736 : (Jvm.Cond.lays "java/lang/IndexOutOfBoundsException" "java/lang/Throwable" "stackTrace" "[Ljava/lang/StackTraceElement;") ∈ lw_all := qin_4 (i := 16) rfl rfl
theorem qw_737 : (Jvm.Cond.lays "java/lang/IndexOutOfBoundsException" "java/lang/Throwable" "suppressedExceptions" "Ljava/util/List;") ∈ lw_all := qin_4 (i := 17) rfl rfl
theorem qw_738 : (Jvm.Cond.lays "java/lang/IndexOutOfBoundsException" "java/lang/Throwable" "detailMessage" "Ljava/lang/String;") ∈ lw_all := qin_4 (i := 18) rfl rfl
theorem qw_739 : (Jvm.Cond.lays "java/lang/IndexOutOfBoundsException" "java/lang/Throwable" "backtrace" "Ljava/lang/Object;") ∈ lw_all := qin_4 (i := 19) rfl rfl
theorem qw_741 : (Jvm.Cond.methodLink "AidRegister" (292 : Nat) ({ cls := "java/lang/IndexOutOfBoundsException", name := "<init>", desc := "(Ljava/lang/String;)V" } : Jvm.MethodName)) ∈ lw_all := qin_4 (i := 21) rfl rfl
theorem qw_742 : (Jvm.Cond.instanceMethod ({ cls := "java/lang/IndexOutOfBoundsException", name := "<init>", desc := "(Ljava/lang/String;)V" } : Jvm.MethodName)) ∈ lw_all := qin_4 (i := 22) rfl rfl
theorem qw_743 : (Jvm.Cond.code ({ cls := "java/lang/IndexOutOfBoundsException", name := "<init>", desc := "(Ljava/lang/String;)V" } : Jvm.MethodName) prog_14_method_2_code (2 : Nat) (Option.none : Option Jvm.ClassFile.FieldType)) ∈ lw_all := qin_4 (i := 23) rfl rfl
theorem qw_744 : (Jvm.Cond.methodLink "java/lang/IndexOutOfBoundsException" (7 : Nat) ({ cls := "java/lang/RuntimeException", name := "<init>", desc := "(Ljava/lang/String;)V" } : Jvm.MethodName)) ∈ lw_all := qin_4 (i := 24) rfl rfl
theorem qw_745 : (Jvm.Cond.lays "java/lang/IndexOutOfBoundsException" "java/lang/Throwable" "depth" "I") ∈ lw_all := qin_4 (i := 25) rfl rfl
theorem qw_747 : (Jvm.Cond.methodLink "AidRegister" (148 : Nat) ({ cls := "AidRegister$Declarations", name := "daysOf", desc := "(I)I" } : Jvm.MethodName)) ∈ lw_all := qin_4 (i := 27) rfl rfl
theorem qw_748 : (Jvm.Cond.instanceMethod ({ cls := "AidRegister$Declarations", name := "daysOf", desc := "(I)I" } : Jvm.MethodName)) ∈ lw_all := qin_4 (i := 28) rfl rfl
theorem qw_749 : (Jvm.Cond.selects "AidRegister$Declarations" ({ cls := "AidRegister$Declarations", name := "daysOf", desc := "(I)I" } : Jvm.MethodName) ({ cls := "AidRegister$Declarations", name := "daysOf", desc := "(I)I" } : Jvm.MethodName)) ∈ lw_all := qin_4 (i := 29) rfl rfl
theorem qw_750 : (Jvm.Cond.code ({ cls := "AidRegister$Declarations", name := "daysOf", desc := "(I)I" } : Jvm.MethodName) prog_3_method_6_code (2 : Nat) (Option.some Jvm.ClassFile.FieldType.int)) ∈ lw_all := qin_4 (i := 30) rfl rfl
theorem qw_751 : (Jvm.Cond.methodLink "AidRegister$Declarations" (39 : Nat) ({ cls := "java/lang/Math", name := "max", desc := "(II)I" } : Jvm.MethodName)) ∈ lw_all := qin_4 (i := 31) rfl rfl
theorem qw_752 : (Jvm.Cond.methodLink "AidRegisterLaw" (171 : Nat) ({ cls := "AidRegisterLaw", name := "gift", desc := "(LAidRegister;II[J)I" } : Jvm.MethodName)) ∈ lw_all := qin_4 (i := 32) rfl rfl
theorem qw_753 : (Jvm.Cond.static ({ cls := "AidRegisterLaw", name := "gift", desc := "(LAidRegister;II[J)I" } : Jvm.MethodName)) ∈ lw_all := qin_4 (i := 33) rfl rfl
theorem qw_755 : (Jvm.Cond.methodLink "AidRegisterLaw" (21 : Nat) ({ cls := "AidRegister", name := "gift", desc := "(II)I" } : Jvm.MethodName)) ∈ lw_all := qin_4 (i := 35) rfl rfl
theorem qw_756 : (Jvm.Cond.instanceMethod ({ cls := "AidRegister", name := "gift", desc := "(II)I" } : Jvm.MethodName)) ∈ lw_all := qin_4 (i := 36) rfl rfl
theorem qw_757 : (Jvm.Cond.selects "AidRegister" ({ cls := "AidRegister", name := "gift", desc := "(II)I" } : Jvm.MethodName) ({ cls := "AidRegister", name := "gift", desc := "(II)I" } : Jvm.MethodName)) ∈ lw_all := qin_4 (i := 37) rfl rfl
theorem qw_758 : (Jvm.Cond.code ({ cls := "AidRegister", name := "gift", desc := "(II)I" } : Jvm.MethodName) prog_1_method_10_code (3 : Nat) (Option.some Jvm.ClassFile.FieldType.int)) ∈ lw_all := qin_4 (i := 38) rfl rfl
theorem qw_759 : (Jvm.Cond.methodLink "AidRegister" (152 : Nat) ({ cls := "AidRegister", name := "needGift", desc := "(I)V" } : Jvm.MethodName)) ∈ lw_all := qin_4 (i := 39) rfl rfl
theorem qw_761 : (Jvm.Cond.instanceMethod ({ cls := "AidRegister", name := "needGift", desc := "(I)V" } : Jvm.MethodName)) ∈ lw_all := qin_4 (i := 41) rfl rfl
theorem qw_762 : (Jvm.Cond.code ({ cls := "AidRegister", name := "needGift", desc := "(I)V" } : Jvm.MethodName) prog_1_method_57_code (2 : Nat) (Option.none : Option Jvm.ClassFile.FieldType)) ∈ lw_all := qin_4 (i := 42) rfl rfl
theorem qw_764 : (Jvm.Cond.methodLink "AidRegister" (167 : Nat) ({ cls := "AidRegister$Gifts", name := "leftOf", desc := "(I)I" } : Jvm.MethodName)) ∈ lw_all := qin_4 (i := 44) rfl rfl
theorem qw_765 : (Jvm.Cond.methodLink "AidRegister" (170 : Nat) ({ cls := "AidRegister$Ledger", name := "isSpoilt", desc := "(I)Z" } : Jvm.MethodName)) ∈ lw_all := qin_4 (i := 45) rfl rfl
theorem qw_766 : (Jvm.Cond.methodLink "AidRegister" (174 : Nat) ({ cls := "AidRegister$Ledger", name := "sumOfGift", desc := "(II)I" } : Jvm.MethodName)) ∈ lw_all := qin_4 (i := 46) rfl rfl
theorem qw_767 : (Jvm.Cond.methodLink "AidRegisterLaw" (174 : Nat) ({ cls := "AidRegisterLaw", name := "part", desc := "(LAidRegister;III[J)I" } : Jvm.MethodName)) ∈ lw_all := qin_4 (i := 47) rfl rfl
theorem qw_768 : (Jvm.Cond.static ({ cls := "AidRegisterLaw", name := "part", desc := "(LAidRegister;III[J)I" } : Jvm.MethodName)) ∈ lw_all := qin_4 (i := 48) rfl rfl
theorem qw_770 : (Jvm.Cond.methodLink "AidRegisterLaw" (24 : Nat) ({ cls := "AidRegister", name := "part", desc := "(III)I" } : Jvm.MethodName)) ∈ lw_all := qin_4 (i := 50) rfl rfl
theorem qw_771 : (Jvm.Cond.instanceMethod ({ cls := "AidRegister", name := "part", desc := "(III)I" } : Jvm.MethodName)) ∈ lw_all := qin_4 (i := 51) rfl rfl
theorem qw_772 : (Jvm.Cond.selects "AidRegister" ({ cls := "AidRegister", name := "part", desc := "(III)I" } : Jvm.MethodName) ({ cls := "AidRegister", name := "part", desc := "(III)I" } : Jvm.MethodName)) ∈ lw_all := qin_4 (i := 52) rfl rfl
theorem qw_773 : (Jvm.Cond.code ({ cls := "AidRegister", name := "part", desc := "(III)I" } : Jvm.MethodName) prog_1_method_11_code (5 : Nat) (Option.some Jvm.ClassFile.FieldType.int)) ∈ lw_all := qin_4 (i := 53) rfl rfl
theorem qw_774 : (Jvm.Cond.methodLink "AidRegister" (178 : Nat) ({ cls := "AidRegister", name := "needPart", desc := "(II)V" } : Jvm.MethodName)) ∈ lw_all := qin_4 (i := 54) rfl rfl
theorem qw_776 : (Jvm.Cond.instanceMethod ({ cls := "AidRegister", name := "needPart", desc := "(II)V" } : Jvm.MethodName)) ∈ lw_all := qin_4 (i := 56) rfl rfl
theorem qw_777 : (Jvm.Cond.code ({ cls := "AidRegister", name := "needPart", desc := "(II)V" } : Jvm.MethodName) prog_1_method_58_code (3 : Nat) (Option.none : Option Jvm.ClassFile.FieldType)) ∈ lw_all := qin_4 (i := 57) rfl rfl
theorem qw_779 : (Jvm.Cond.methodLink "AidRegister" (188 : Nat) ({ cls := "AidRegister$Gifts", name := "leftOfPart", desc := "(I)I" } : Jvm.MethodName)) ∈ lw_all := qin_4 (i := 59) rfl rfl
theorem qw_780 : (Jvm.Cond.methodLink "AidRegisterLaw" (178 : Nat) ({ cls := "AidRegisterLaw", name := "reason", desc := "(LAidRegister;II[J)I" } : Jvm.MethodName)) ∈ lw_all := qin_4 (i := 60) rfl rfl
theorem qw_781 : (Jvm.Cond.static ({ cls := "AidRegisterLaw", name := "reason", desc := "(LAidRegister;II[J)I" } : Jvm.MethodName)) ∈ lw_all := qin_4 (i := 61) rfl rfl
theorem qw_783 : (Jvm.Cond.methodLink "AidRegisterLaw" (28 : Nat) ({ cls := "AidRegister", name := "reason", desc := "(II)I" } : Jvm.MethodName)) ∈ lw_all := qin_4 (i := 63) rfl rfl
theorem qw_784 : (Jvm.Cond.instanceMethod ({ cls := "AidRegister", name := "reason", desc := "(II)I" } : Jvm.MethodName)) ∈ lw_all := qin_4 (i := 64) rfl rfl
theorem qw_785 : (Jvm.Cond.selects "AidRegister" ({ cls := "AidRegister", name := "reason", desc := "(II)I" } : Jvm.MethodName) ({ cls := "AidRegister", name := "reason", desc := "(II)I" } : Jvm.MethodName)) ∈ lw_all := qin_4 (i := 65) rfl rfl
theorem qw_786 : (Jvm.Cond.code ({ cls := "AidRegister", name := "reason", desc := "(II)I" } : Jvm.MethodName) prog_1_method_12_code (3 : Nat) (Option.some Jvm.ClassFile.FieldType.int)) ∈ lw_all := qin_4 (i := 66) rfl rfl
theorem qw_787 : (Jvm.Cond.methodLink "AidRegister" (200 : Nat) ({ cls := "AidRegister$Ledger", name := "reasonOf", desc := "(I)I" } : Jvm.MethodName)) ∈ lw_all := qin_4 (i := 67) rfl rfl
theorem qw_788 : (Jvm.Cond.instanceMethod ({ cls := "AidRegister$Ledger", name := "reasonOf", desc := "(I)I" } : Jvm.MethodName)) ∈ lw_all := qin_4 (i := 68) rfl rfl
theorem qw_789 : (Jvm.Cond.selects "AidRegister$Ledger" ({ cls := "AidRegister$Ledger", name := "reasonOf", desc := "(I)I" } : Jvm.MethodName) ({ cls := "AidRegister$Ledger", name := "reasonOf", desc := "(I)I" } : Jvm.MethodName)) ∈ lw_all := qin_4 (i := 69) rfl rfl
theorem qw_790 : (Jvm.Cond.code ({ cls := "AidRegister$Ledger", name := "reasonOf", desc := "(I)I" } : Jvm.MethodName) prog_6_method_14_code (3 : Nat) (Option.some Jvm.ClassFile.FieldType.int)) ∈ lw_all := qin_4 (i := 70) rfl rfl
theorem qw_791 : (Jvm.Cond.methodLink "AidRegister$Ledger" (151 : Nat) ({ cls := "AidRegister$Gifts", name := "dayOfPart", desc := "(I)I" } : Jvm.MethodName)) ∈ lw_all := qin_4 (i := 71) rfl rfl
theorem qw_792 : (Jvm.Cond.instanceMethod ({ cls := "AidRegister$Gifts", name := "dayOfPart", desc := "(I)I" } : Jvm.MethodName)) ∈ lw_all := qin_4 (i := 72) rfl rfl
theorem qw_793 : (Jvm.Cond.selects "AidRegister$Gifts" ({ cls := "AidRegister$Gifts", name := "dayOfPart", desc := "(I)I" } : Jvm.MethodName) ({ cls := "AidRegister$Gifts", name := "dayOfPart", desc := "(I)I" } : Jvm.MethodName)) ∈ lw_all := qin_4 (i := 73) rfl rfl
theorem qw_794 : (Jvm.Cond.code ({ cls := "AidRegister$Gifts", name := "dayOfPart", desc := "(I)I" } : Jvm.MethodName) prog_5_method_15_code (2 : Nat) (Option.some Jvm.ClassFile.FieldType.int)) ∈ lw_all := qin_4 (i := 74) rfl rfl
theorem qw_795 : (Jvm.Cond.methodLink "AidRegisterLaw" (181 : Nat) ({ cls := "AidRegisterLaw", name := "donor", desc := "(LAidRegister;III[J)I" } : Jvm.MethodName)) ∈ lw_all := qin_4 (i := 75) rfl rfl
theorem qw_796 : (Jvm.Cond.static ({ cls := "AidRegisterLaw", name := "donor", desc := "(LAidRegister;III[J)I" } : Jvm.MethodName)) ∈ lw_all := qin_4 (i := 76) rfl rfl
theorem qw_798 : (Jvm.Cond.methodLink "AidRegisterLaw" (31 : Nat) ({ cls := "AidRegister", name := "donor", desc := "(III)I" } : Jvm.MethodName)) ∈ lw_all := qin_4 (i := 78) rfl rfl
theorem qw_799 : (Jvm.Cond.instanceMethod ({ cls := "AidRegister", name := "donor", desc := "(III)I" } : Jvm.MethodName)) ∈ lw_all := qin_4 (i := 79) rfl rfl
theorem qw_800 : (Jvm.Cond.selects "AidRegister" ({ cls := "AidRegister", name := "donor", desc := "(III)I" } : Jvm.MethodName) ({ cls := "AidRegister", name := "donor", desc := "(III)I" } : Jvm.MethodName)) ∈ lw_all := qin_4 (i := 80) rfl rfl
theorem qw_801 : (Jvm.Cond.code ({ cls := "AidRegister", name := "donor", desc := "(III)I" } : Jvm.MethodName) prog_1_method_13_code (4 : Nat) (Option.some Jvm.ClassFile.FieldType.int)) ∈ lw_all := qin_4 (i := 81) rfl rfl
theorem qw_802 : (Jvm.Cond.methodLink "AidRegister" (203 : Nat) ({ cls := "AidRegister", name := "needDonor", desc := "(I)V" } : Jvm.MethodName)) ∈ lw_all := qin_4 (i := 82) rfl rfl
theorem qw_804 : (Jvm.Cond.instanceMethod ({ cls := "AidRegister", name := "needDonor", desc := "(I)V" } : Jvm.MethodName)) ∈ lw_all := qin_4 (i := 84) rfl rfl
theorem qw_805 : (Jvm.Cond.code ({ cls := "AidRegister", name := "needDonor", desc := "(I)V" } : Jvm.MethodName) prog_1_method_55_code (2 : Nat) (Option.none : Option Jvm.ClassFile.FieldType)) ∈ lw_all := qin_4 (i := 85) rfl rfl
theorem qw_807 : (Jvm.Cond.methodLink "AidRegister" (206 : Nat) ({ cls := "AidRegister", name := "needRange", desc := "(III)V" } : Jvm.MethodName)) ∈ lw_all := qin_4 (i := 87) rfl rfl
theorem qw_808 : (Jvm.Cond.static ({ cls := "AidRegister", name := "needRange", desc := "(III)V" } : Jvm.MethodName)) ∈ lw_all := qin_4 (i := 88) rfl rfl
theorem qw_809 : (Jvm.Cond.code ({ cls := "AidRegister", name := "needRange", desc := "(III)V" } : Jvm.MethodName) prog_1_method_60_code (3 : Nat) (Option.none : Option Jvm.ClassFile.FieldType)) ∈ lw_all := qin_4 (i := 89) rfl rfl
theorem qw_811 : (Jvm.Cond.methodLink "AidRegister" (210 : Nat) ({ cls := "AidRegister$Ledger", name := "sumOfDonor", desc := "(III)I" } : Jvm.MethodName)) ∈ lw_all := qin_4 (i := 91) rfl rfl
theorem qw_812 : (Jvm.Cond.methodLink "AidRegisterLaw" (184 : Nat) ({ cls := "AidRegisterLaw", name := "taxLimit", desc := "(LAidRegister;I[J)I" } : Jvm.MethodName)) ∈ lw_all := qin_4 (i := 92) rfl rfl
theorem qw_813 : (Jvm.Cond.static ({ cls := "AidRegisterLaw", name := "taxLimit", desc := "(LAidRegister;I[J)I" } : Jvm.MethodName)) ∈ lw_all := qin_4 (i := 93) rfl rfl
theorem qw_815 : (Jvm.Cond.methodLink "AidRegisterLaw" (34 : Nat) ({ cls := "AidRegister", name := "taxLimit", desc := "(I)I" } : Jvm.MethodName)) ∈ lw_all := qin_4 (i := 95) rfl rfl
theorem qw_816 : (Jvm.Cond.instanceMethod ({ cls := "AidRegister", name := "taxLimit", desc := "(I)I" } : Jvm.MethodName)) ∈ lw_all := qin_4 (i := 96) rfl rfl
theorem qw_817 : (Jvm.Cond.selects "AidRegister" ({ cls := "AidRegister", name := "taxLimit", desc := "(I)I" } : Jvm.MethodName) ({ cls := "AidRegister", name := "taxLimit", desc := "(I)I" } : Jvm.MethodName)) ∈ lw_all := qin_4 (i := 97) rfl rfl
theorem qw_818 : (Jvm.Cond.code ({ cls := "AidRegister", name := "taxLimit", desc := "(I)I" } : Jvm.MethodName) prog_1_method_14_code (2 : Nat) (Option.some Jvm.ClassFile.FieldType.int)) ∈ lw_all := qin_4 (i := 98) rfl rfl
theorem qw_819 : (Jvm.Cond.methodLink "AidRegisterLaw" (187 : Nat) ({ cls := "AidRegisterLaw", name := "isDeclared", desc := "(LAidRegister;II[J)I" } : Jvm.MethodName)) ∈ lw_all := qin_4 (i := 99) rfl rfl
theorem qw_820 : (Jvm.Cond.static ({ cls := "AidRegisterLaw", name := "isDeclared", desc := "(LAidRegister;II[J)I" } : Jvm.MethodName)) ∈ lw_all := qin_4 (i := 100) rfl rfl
theorem qw_822 : (Jvm.Cond.methodLink "AidRegisterLaw" (37 : Nat) ({ cls := "AidRegister", name := "isDeclared", desc := "(II)Z" } : Jvm.MethodName)) ∈ lw_all := qin_4 (i := 102) rfl rfl
theorem qw_823 : (Jvm.Cond.instanceMethod ({ cls := "AidRegister", name := "isDeclared", desc := "(II)Z" } : Jvm.MethodName)) ∈ lw_all := qin_4 (i := 103) rfl rfl
theorem qw_824 : (Jvm.Cond.selects "AidRegister" ({ cls := "AidRegister", name := "isDeclared", desc := "(II)Z" } : Jvm.MethodName) ({ cls := "AidRegister", name := "isDeclared", desc := "(II)Z" } : Jvm.MethodName)) ∈ lw_all := qin_4 (i := 104) rfl rfl
theorem qw_825 : (Jvm.Cond.code ({ cls := "AidRegister", name := "isDeclared", desc := "(II)Z" } : Jvm.MethodName) prog_1_method_15_code (3 : Nat) (Option.some Jvm.ClassFile.FieldType.boolean)) ∈ lw_all := qin_4 (i := 105) rfl rfl
theorem qw_826 : (Jvm.Cond.methodLink "AidRegister" (217 : Nat) ({ cls := "AidRegister$Declarations", name := "covers", desc := "(II)Z" } : Jvm.MethodName)) ∈ lw_all := qin_4 (i := 106) rfl rfl
theorem qw_827 : (Jvm.Cond.methodLink "AidRegisterLaw" (190 : Nat) ({ cls := "AidRegisterLaw", name := "coverage", desc := "(LAidRegister;III[J)I" } : Jvm.MethodName)) ∈ lw_all := qin_4 (i := 107) rfl rfl
theorem qw_828 : (Jvm.Cond.static ({ cls := "AidRegisterLaw", name := "coverage", desc := "(LAidRegister;III[J)I" } : Jvm.MethodName)) ∈ lw_all := qin_4 (i := 108) rfl rfl
theorem qw_830 : (Jvm.Cond.methodLink "AidRegisterLaw" (41 : Nat) ({ cls := "AidRegister", name := "coverage", desc := "(III)I" } : Jvm.MethodName)) ∈ lw_all := qin_4 (i := 110) rfl rfl
theorem qw_831 : (Jvm.Cond.instanceMethod ({ cls := "AidRegister", name := "coverage", desc := "(III)I" } : Jvm.MethodName)) ∈ lw_all := qin_4 (i := 111) rfl rfl
theorem qw_832 : (Jvm.Cond.selects "AidRegister" ({ cls := "AidRegister", name := "coverage", desc := "(III)I" } : Jvm.MethodName) ({ cls := "AidRegister", name := "coverage", desc := "(III)I" } : Jvm.MethodName)) ∈ lw_all := qin_4 (i := 112) rfl rfl
theorem qw_833 : (Jvm.Cond.code ({ cls := "AidRegister", name := "coverage", desc := "(III)I" } : Jvm.MethodName) prog_1_method_16_code (4 : Nat) (Option.some Jvm.ClassFile.FieldType.int)) ∈ lw_all := qin_4 (i := 113) rfl rfl
theorem qw_834 : (Jvm.Cond.methodLink "AidRegister" (221 : Nat) ({ cls := "AidRegister", name := "needSpan", desc := "(II)V" } : Jvm.MethodName)) ∈ lw_all := qin_4 (i := 114) rfl rfl
theorem qw_835 : (Jvm.Cond.static ({ cls := "AidRegister", name := "needSpan", desc := "(II)V" } : Jvm.MethodName)) ∈ lw_all := qin_4 (i := 115) rfl rfl
theorem qw_836 : (Jvm.Cond.code ({ cls := "AidRegister", name := "needSpan", desc := "(II)V" } : Jvm.MethodName) prog_1_method_59_code (2 : Nat) (Option.none : Option Jvm.ClassFile.FieldType)) ∈ lw_all := qin_4 (i := 116) rfl rfl
theorem qw_837 : (Jvm.Cond.methodLink "AidRegister" (224 : Nat) ({ cls := "AidRegister$Declarations", name := "coveredWithin", desc := "(III)I" } : Jvm.MethodName)) ∈ lw_all := qin_4 (i := 117) rfl rfl
theorem qw_838 : (Jvm.Cond.instanceMethod ({ cls := "AidRegister$Declarations", name := "coveredWithin", desc := "(III)I" } : Jvm.MethodName)) ∈ lw_all := qin_4 (i := 118) rfl rfl
theorem qw_839 : (Jvm.Cond.selects "AidRegister$Declarations" ({ cls := "AidRegister$Declarations", name := "coveredWithin", desc := "(III)I" } : Jvm.MethodName) ({ cls := "AidRegister$Declarations", name := "coveredWithin", desc := "(III)I" } : Jvm.MethodName)) ∈ lw_all := qin_4 (i := 119) rfl rfl
theorem qw_840 : (Jvm.Cond.code ({ cls := "AidRegister$Declarations", name := "coveredWithin", desc := "(III)I" } : Jvm.MethodName) prog_3_method_11_code (8 : Nat) (Option.some Jvm.ClassFile.FieldType.int)) ∈ lw_all := qin_4 (i := 120) rfl rfl
theorem qw_841 : (Jvm.Cond.methodLink "AidRegister$Declarations" (46 : Nat) ({ cls := "AidRegister$Declarations", name := "coveredFrom", desc := "(II)I" } : Jvm.MethodName)) ∈ lw_all := qin_4 (i := 121) rfl rfl
theorem qw_842 : (Jvm.Cond.instanceMethod ({ cls := "AidRegister$Declarations", name := "coveredFrom", desc := "(II)I" } : Jvm.MethodName)) ∈ lw_all := qin_4 (i := 122) rfl rfl
theorem qw_843 : (Jvm.Cond.selects "AidRegister$Declarations" ({ cls := "AidRegister$Declarations", name := "coveredFrom", desc := "(II)I" } : Jvm.MethodName) ({ cls := "AidRegister$Declarations", name := "coveredFrom", desc := "(II)I" } : Jvm.MethodName)) ∈ lw_all := qin_4 (i := 123) rfl rfl
theorem qw_844 : (Jvm.Cond.code ({ cls := "AidRegister$Declarations", name := "coveredFrom", desc := "(II)I" } : Jvm.MethodName) prog_3_method_10_code (6 : Nat) (Option.some Jvm.ClassFile.FieldType.int)) ∈ lw_all := qin_4 (i := 124) rfl rfl
theorem qw_845 : (Jvm.Cond.methodLink "AidRegister$Declarations" (33 : Nat) ({ cls := "java/lang/Math", name := "min", desc := "(II)I" } : Jvm.MethodName)) ∈ lw_all := qin_4 (i := 125) rfl rfl
theorem qw_846 : (Jvm.Cond.methodLink "AidRegister$Declarations" (49 : Nat) ({ cls := "AidRegister$Declarations", name := "openFrom", desc := "(III)I" } : Jvm.MethodName)) ∈ lw_all := qin_4 (i := 126) rfl rfl
theorem qw_847 : (Jvm.Cond.instanceMethod ({ cls := "AidRegister$Declarations", name := "openFrom", desc := "(III)I" } : Jvm.MethodName)) ∈ lw_all := qin_4 (i := 127) rfl rfl
theorem qw_848 : (Jvm.Cond.selects "AidRegister$Declarations" ({ cls := "AidRegister$Declarations", name := "openFrom", desc := "(III)I" } : Jvm.MethodName) ({ cls := "AidRegister$Declarations", name := "openFrom", desc := "(III)I" } : Jvm.MethodName)) ∈ lw_all := qin_4 (i := 128) rfl rfl
theorem qw_849 : (Jvm.Cond.code ({ cls := "AidRegister$Declarations", name := "openFrom", desc := "(III)I" } : Jvm.MethodName) prog_3_method_9_code (8 : Nat) (Option.some Jvm.ClassFile.FieldType.int)) ∈ lw_all := qin_4 (i := 129) rfl rfl
theorem qw_850 : (Jvm.Cond.methodLink "AidRegisterLaw" (193 : Nat) ({ cls := "AidRegisterLaw", name := "gap", desc := "(LAidRegister;IIZ[J)I" } : Jvm.MethodName)) ∈ lw_all := qin_4 (i := 130) rfl rfl
theorem qw_851 : (Jvm.Cond.static ({ cls := "AidRegisterLaw", name := "gap", desc := "(LAidRegister;IIZ[J)I" } : Jvm.MethodName)) ∈ lw_all := qin_4 (i := 131) rfl rfl
theorem qw_853 : (Jvm.Cond.methodLink "AidRegisterLaw" (44 : Nat) ({ cls := "AidRegister", name := "gap", desc := "(IIZ)I" } : Jvm.MethodName)) ∈ lw_all := qin_4 (i := 133) rfl rfl
theorem qw_854 : (Jvm.Cond.instanceMethod ({ cls := "AidRegister", name := "gap", desc := "(IIZ)I" } : Jvm.MethodName)) ∈ lw_all := qin_4 (i := 134) rfl rfl
theorem qw_855 : (Jvm.Cond.selects "AidRegister" ({ cls := "AidRegister", name := "gap", desc := "(IIZ)I" } : Jvm.MethodName) ({ cls := "AidRegister", name := "gap", desc := "(IIZ)I" } : Jvm.MethodName)) ∈ lw_all := qin_4 (i := 135) rfl rfl
theorem qw_856 : (Jvm.Cond.code ({ cls := "AidRegister", name := "gap", desc := "(IIZ)I" } : Jvm.MethodName) prog_1_method_17_code (4 : Nat) (Option.some Jvm.ClassFile.FieldType.int)) ∈ lw_all := qin_4 (i := 136) rfl rfl
theorem qw_857 : (Jvm.Cond.methodLink "AidRegister" (227 : Nat) ({ cls := "AidRegister$Declarations", name := "endOfGap", desc := "(IIZ)I" } : Jvm.MethodName)) ∈ lw_all := qin_4 (i := 137) rfl rfl
theorem qw_858 : (Jvm.Cond.instanceMethod ({ cls := "AidRegister$Declarations", name := "endOfGap", desc := "(IIZ)I" } : Jvm.MethodName)) ∈ lw_all := qin_4 (i := 138) rfl rfl
theorem qw_859 : (Jvm.Cond.selects "AidRegister$Declarations" ({ cls := "AidRegister$Declarations", name := "endOfGap", desc := "(IIZ)I" } : Jvm.MethodName) ({ cls := "AidRegister$Declarations", name := "endOfGap", desc := "(IIZ)I" } : Jvm.MethodName)) ∈ lw_all := qin_4 (i := 139) rfl rfl
theorem qw_860 : (Jvm.Cond.code ({ cls := "AidRegister$Declarations", name := "endOfGap", desc := "(IIZ)I" } : Jvm.MethodName) prog_3_method_12_code (7 : Nat) (Option.some Jvm.ClassFile.FieldType.int)) ∈ lw_all := qin_4 (i := 140) rfl rfl
theorem qw_861 : (Jvm.Cond.methodLink "AidRegisterLaw" (197 : Nat) ({ cls := "AidRegisterLaw", name := "needless", desc := "(LAidRegister;I[J)I" } : Jvm.MethodName)) ∈ lw_all := qin_4 (i := 141) rfl rfl
theorem qw_862 : (Jvm.Cond.static ({ cls := "AidRegisterLaw", name := "needless", desc := "(LAidRegister;I[J)I" } : Jvm.MethodName)) ∈ lw_all := qin_4 (i := 142) rfl rfl
theorem qw_864 : (Jvm.Cond.methodLink "AidRegisterLaw" (48 : Nat) ({ cls := "AidRegister", name := "needless", desc := "(I)I" } : Jvm.MethodName)) ∈ lw_all := qin_4 (i := 144) rfl rfl
theorem qw_865 : (Jvm.Cond.instanceMethod ({ cls := "AidRegister", name := "needless", desc := "(I)I" } : Jvm.MethodName)) ∈ lw_all := qin_4 (i := 145) rfl rfl
theorem qw_866 : (Jvm.Cond.selects "AidRegister" ({ cls := "AidRegister", name := "needless", desc := "(I)I" } : Jvm.MethodName) ({ cls := "AidRegister", name := "needless", desc := "(I)I" } : Jvm.MethodName)) ∈ lw_all := qin_4 (i := 146) rfl rfl
theorem qw_867 : (Jvm.Cond.code ({ cls := "AidRegister", name := "needless", desc := "(I)I" } : Jvm.MethodName) prog_1_method_18_code (2 : Nat) (Option.some Jvm.ClassFile.FieldType.int)) ∈ lw_all := qin_4 (i := 147) rfl rfl
theorem qw_868 : (Jvm.Cond.methodLink "AidRegister" (231 : Nat) ({ cls := "AidRegister$Declarations", name := "countNeedless", desc := "(I)I" } : Jvm.MethodName)) ∈ lw_all := qin_4 (i := 148) rfl rfl
theorem qw_869 : (Jvm.Cond.instanceMethod ({ cls := "AidRegister$Declarations", name := "countNeedless", desc := "(I)I" } : Jvm.MethodName)) ∈ lw_all := qin_4 (i := 149) rfl rfl
theorem qw_870 : (Jvm.Cond.selects "AidRegister$Declarations" ({ cls := "AidRegister$Declarations", name := "countNeedless", desc := "(I)I" } : Jvm.MethodName) ({ cls := "AidRegister$Declarations", name := "countNeedless", desc := "(I)I" } : Jvm.MethodName)) ∈ lw_all := qin_4 (i := 150) rfl rfl
theorem qw_871 : (Jvm.Cond.code ({ cls := "AidRegister$Declarations", name := "countNeedless", desc := "(I)I" } : Jvm.MethodName) prog_3_method_14_code (4 : Nat) (Option.some Jvm.ClassFile.FieldType.int)) ∈ lw_all := qin_4 (i := 151) rfl rfl
theorem qw_872 : (Jvm.Cond.methodLink "AidRegisterLaw" (200 : Nat) ({ cls := "AidRegisterLaw", name := "declare", desc := "(LAidRegister;III[J)I" } : Jvm.MethodName)) ∈ lw_all := qin_4 (i := 152) rfl rfl
theorem qw_873 : (Jvm.Cond.static ({ cls := "AidRegisterLaw", name := "declare", desc := "(LAidRegister;III[J)I" } : Jvm.MethodName)) ∈ lw_all := qin_4 (i := 153) rfl rfl
theorem qw_875 : (Jvm.Cond.classLink "AidRegisterLaw" (54 : Nat) "java/lang/IllegalStateException") ∈ lw_all := qin_4 (i := 155) rfl rfl
theorem qw_876 : (Jvm.Cond.methodLink "AidRegisterLaw" (51 : Nat) ({ cls := "AidRegister", name := "declare", desc := "(III)I" } : Jvm.MethodName)) ∈ lw_all := qin_4 (i := 156) rfl rfl
theorem qw_877 : (Jvm.Cond.instanceMethod ({ cls := "AidRegister", name := "declare", desc := "(III)I" } : Jvm.MethodName)) ∈ lw_all := qin_4 (i := 157) rfl rfl
theorem qw_878 : (Jvm.Cond.selects "AidRegister" ({ cls := "AidRegister", name := "declare", desc := "(III)I" } : Jvm.MethodName) ({ cls := "AidRegister", name := "declare", desc := "(III)I" } : Jvm.MethodName)) ∈ lw_all := qin_4 (i := 158) rfl rfl
theorem qw_879 : (Jvm.Cond.code ({ cls := "AidRegister", name := "declare", desc := "(III)I" } : Jvm.MethodName) prog_1_method_19_code (5 : Nat) (Option.some Jvm.ClassFile.FieldType.int)) ∈ lw_all := qin_4 (i := 159) rfl rfl
theorem qw_880 : (Jvm.Cond.methodLink "AidRegister" (234 : Nat) ({ cls := "AidRegister$Declarations", name := "isFull", desc := "()Z" } : Jvm.MethodName)) ∈ lw_all := qin_4 (i := 160) rfl rfl
theorem qw_881 : (Jvm.Cond.classLink "AidRegister" (238 : Nat) "java/lang/IllegalStateException") ∈ lw_all := qin_4 (i := 161) rfl rfl
theorem qw_882 : (Jvm.Cond.instantiable "java/lang/IllegalStateException" (6 : Nat)) ∈ lw_all := qin_4 (i := 162) rfl rfl
theorem qw_884 : (Jvm.Cond.selects "java/lang/IllegalStateException" ({ cls := "java/lang/Throwable", name := "fillInStackTrace", desc := "(I)Ljava/lang/Throwable;" } : Jvm.MethodName) ({ cls := "java/lang/Throwable", name := "fillInStackTrace", desc := "(I)Ljava/lang/Throwable;" } : Jvm.MethodName)) ∈ lw_all := qin_4 (i := 164) rfl rfl
theorem qw_885 : (Jvm.Cond.lays "java/lang/IllegalStateException" "java/lang/Throwable" "cause" "Ljava/lang/Throwable;") ∈ lw_all := qin_4 (i := 165) rfl rfl
theorem qw_886 : (Jvm.Cond.lays "java/lang/IllegalStateException" "java/lang/Throwable" "stackTrace" "[Ljava/lang/StackTraceElement;") ∈ lw_all := qin_4 (i := 166) rfl rfl
theorem qw_887 : (Jvm.Cond.lays "java/lang/IllegalStateException" "java/lang/Throwable" "suppressedExceptions" "Ljava/util/List;") ∈ lw_all := qin_4 (i := 167) rfl rfl
theorem qw_888 : (Jvm.Cond.lays "java/lang/IllegalStateException" "java/lang/Throwable" "detailMessage" "Ljava/lang/String;") ∈ lw_all := qin_4 (i := 168) rfl rfl
theorem qw_889 : (Jvm.Cond.lays "java/lang/IllegalStateException" "java/lang/Throwable" "backtrace" "Ljava/lang/Object;") ∈ lw_all := qin_4 (i := 169) rfl rfl
theorem qw_891 : (Jvm.Cond.methodLink "AidRegister" (242 : Nat) ({ cls := "java/lang/IllegalStateException", name := "<init>", desc := "(Ljava/lang/String;)V" } : Jvm.MethodName)) ∈ lw_all := qin_4 (i := 171) rfl rfl
theorem qw_892 : (Jvm.Cond.instanceMethod ({ cls := "java/lang/IllegalStateException", name := "<init>", desc := "(Ljava/lang/String;)V" } : Jvm.MethodName)) ∈ lw_all := qin_4 (i := 172) rfl rfl
theorem qw_893 : (Jvm.Cond.code ({ cls := "java/lang/IllegalStateException", name := "<init>", desc := "(Ljava/lang/String;)V" } : Jvm.MethodName) prog_13_method_2_code (2 : Nat) (Option.none : Option Jvm.ClassFile.FieldType)) ∈ lw_all := qin_4 (i := 173) rfl rfl
theorem qw_894 : (Jvm.Cond.methodLink "java/lang/IllegalStateException" (7 : Nat) ({ cls := "java/lang/RuntimeException", name := "<init>", desc := "(Ljava/lang/String;)V" } : Jvm.MethodName)) ∈ lw_all := qin_4 (i := 174) rfl rfl
theorem qw_895 : (Jvm.Cond.lays "java/lang/IllegalStateException" "java/lang/Throwable" "depth" "I") ∈ lw_all := qin_4 (i := 175) rfl rfl
theorem qw_897 : (Jvm.Cond.methodLink "AidRegister" (243 : Nat) ({ cls := "AidRegister", name := "remember", desc := "()V" } : Jvm.MethodName)) ∈ lw_all := qin_4 (i := 177) rfl rfl
theorem qw_899 : (Jvm.Cond.instanceMethod ({ cls := "AidRegister", name := "remember", desc := "()V" } : Jvm.MethodName)) ∈ lw_all := qin_4 (i := 179) rfl rfl
theorem qw_900 : (Jvm.Cond.code ({ cls := "AidRegister", name := "remember", desc := "()V" } : Jvm.MethodName) prog_1_method_54_code (2 : Nat) (Option.none : Option Jvm.ClassFile.FieldType)) ∈ lw_all := qin_4 (i := 180) rfl rfl
theorem qw_901 : (Jvm.Cond.methodLink "AidRegister" (246 : Nat) ({ cls := "AidRegister$Declarations", name := "add", desc := "(III)I" } : Jvm.MethodName)) ∈ lw_all := qin_4 (i := 181) rfl rfl
theorem qw_902 : (Jvm.Cond.methodLink "AidRegisterLaw" (203 : Nat) ({ cls := "AidRegisterLaw", name := "revoke", desc := "(LAidRegister;II[J)I" } : Jvm.MethodName)) ∈ lw_all := qin_4 (i := 182) rfl rfl
theorem qw_903 : (Jvm.Cond.static ({ cls := "AidRegisterLaw", name := "revoke", desc := "(LAidRegister;II[J)I" } : Jvm.MethodName)) ∈ lw_all := qin_4 (i := 183) rfl rfl
theorem qw_905 : (Jvm.Cond.methodLink "AidRegisterLaw" (56 : Nat) ({ cls := "AidRegister", name := "revoke", desc := "(II)I" } : Jvm.MethodName)) ∈ lw_all := qin_4 (i := 185) rfl rfl
theorem qw_906 : (Jvm.Cond.instanceMethod ({ cls := "AidRegister", name := "revoke", desc := "(II)I" } : Jvm.MethodName)) ∈ lw_all := qin_4 (i := 186) rfl rfl
theorem qw_907 : (Jvm.Cond.selects "AidRegister" ({ cls := "AidRegister", name := "revoke", desc := "(II)I" } : Jvm.MethodName) ({ cls := "AidRegister", name := "revoke", desc := "(II)I" } : Jvm.MethodName)) ∈ lw_all := qin_4 (i := 187) rfl rfl
theorem qw_908 : (Jvm.Cond.code ({ cls := "AidRegister", name := "revoke", desc := "(II)I" } : Jvm.MethodName) prog_1_method_20_code (4 : Nat) (Option.some Jvm.ClassFile.FieldType.int)) ∈ lw_all := qin_4 (i := 188) rfl rfl
theorem qw_909 : (Jvm.Cond.methodLink "AidRegister" (249 : Nat) ({ cls := "AidRegister$Declarations", name := "cutFrom", desc := "(II)V" } : Jvm.MethodName)) ∈ lw_all := qin_4 (i := 189) rfl rfl
theorem qw_910 : (Jvm.Cond.instanceMethod ({ cls := "AidRegister$Declarations", name := "cutFrom", desc := "(II)V" } : Jvm.MethodName)) ∈ lw_all := qin_4 (i := 190) rfl rfl
theorem qw_911 : (Jvm.Cond.selects "AidRegister$Declarations" ({ cls := "AidRegister$Declarations", name := "cutFrom", desc := "(II)V" } : Jvm.MethodName) ({ cls := "AidRegister$Declarations", name := "cutFrom", desc := "(II)V" } : Jvm.MethodName)) ∈ lw_all := qin_4 (i := 191) rfl rfl
theorem qw_912 : (Jvm.Cond.code ({ cls := "AidRegister$Declarations", name := "cutFrom", desc := "(II)V" } : Jvm.MethodName) prog_3_method_5_code (3 : Nat) (Option.none : Option Jvm.ClassFile.FieldType)) ∈ lw_all := qin_4 (i := 192) rfl rfl
theorem qw_913 : (Jvm.Cond.methodLink "AidRegisterLaw" (206 : Nat) ({ cls := "AidRegisterLaw", name := "addGift", desc := "(LAidRegister;IIII[J)I" } : Jvm.MethodName)) ∈ lw_all := qin_4 (i := 193) rfl rfl
theorem qw_914 : (Jvm.Cond.static ({ cls := "AidRegisterLaw", name := "addGift", desc := "(LAidRegister;IIII[J)I" } : Jvm.MethodName)) ∈ lw_all := qin_4 (i := 194) rfl rfl
theorem qw_916 : (Jvm.Cond.methodLink "AidRegisterLaw" (59 : Nat) ({ cls := "AidRegister", name := "addGift", desc := "(IIII)I" } : Jvm.MethodName)) ∈ lw_all := qin_4 (i := 196) rfl rfl
theorem qw_917 : (Jvm.Cond.instanceMethod ({ cls := "AidRegister", name := "addGift", desc := "(IIII)I" } : Jvm.MethodName)) ∈ lw_all := qin_4 (i := 197) rfl rfl
theorem qw_918 : (Jvm.Cond.selects "AidRegister" ({ cls := "AidRegister", name := "addGift", desc := "(IIII)I" } : Jvm.MethodName) ({ cls := "AidRegister", name := "addGift", desc := "(IIII)I" } : Jvm.MethodName)) ∈ lw_all := qin_4 (i := 198) rfl rfl
theorem qw_919 : (Jvm.Cond.code ({ cls := "AidRegister", name := "addGift", desc := "(IIII)I" } : Jvm.MethodName) prog_1_method_21_code (6 : Nat) (Option.some Jvm.ClassFile.FieldType.int)) ∈ lw_all := qin_4 (i := 199) rfl rfl
theorem qw_920 : (Jvm.Cond.constant "AidRegister" (252 : Nat) (999999 : Int32)) ∈ lw_all := qin_4 (i := 200) rfl rfl
theorem qw_921 : (Jvm.Cond.methodLink "AidRegister" (253 : Nat) ({ cls := "AidRegister$Gifts", name := "isFull", desc := "()Z" } : Jvm.MethodName)) ∈ lw_all := qin_4 (i := 201) rfl rfl
theorem qw_923 : (Jvm.Cond.methodLink "AidRegister" (256 : Nat) ({ cls := "AidRegister$Gifts", name := "add", desc := "(III)I" } : Jvm.MethodName)) ∈ lw_all := qin_4 (i := 203) rfl rfl
theorem qw_924 : (Jvm.Cond.methodLink "AidRegister" (257 : Nat) ({ cls := "AidRegister$Gifts", name := "addPart", desc := "(III)V" } : Jvm.MethodName)) ∈ lw_all := qin_4 (i := 204) rfl rfl
theorem qw_925 : (Jvm.Cond.methodLink "AidRegisterLaw" (210 : Nat) ({ cls := "AidRegisterLaw", name := "split", desc := "(LAidRegister;IIII[J)I" } : Jvm.MethodName)) ∈ lw_all := qin_4 (i := 205) rfl rfl
theorem qw_926 : (Jvm.Cond.static ({ cls := "AidRegisterLaw", name := "split", desc := "(LAidRegister;IIII[J)I" } : Jvm.MethodName)) ∈ lw_all := qin_4 (i := 206) rfl rfl
theorem qw_928 : (Jvm.Cond.methodLink "AidRegisterLaw" (63 : Nat) ({ cls := "AidRegister", name := "split", desc := "(IIII)I" } : Jvm.MethodName)) ∈ lw_all := qin_4 (i := 208) rfl rfl
theorem qw_929 : (Jvm.Cond.instanceMethod ({ cls := "AidRegister", name := "split", desc := "(IIII)I" } : Jvm.MethodName)) ∈ lw_all := qin_4 (i := 209) rfl rfl
theorem qw_930 : (Jvm.Cond.selects "AidRegister" ({ cls := "AidRegister", name := "split", desc := "(IIII)I" } : Jvm.MethodName) ({ cls := "AidRegister", name := "split", desc := "(IIII)I" } : Jvm.MethodName)) ∈ lw_all := qin_4 (i := 210) rfl rfl
theorem qw_931 : (Jvm.Cond.code ({ cls := "AidRegister", name := "split", desc := "(IIII)I" } : Jvm.MethodName) prog_1_method_22_code (5 : Nat) (Option.some Jvm.ClassFile.FieldType.int)) ∈ lw_all := qin_4 (i := 211) rfl rfl
theorem qw_932 : (Jvm.Cond.methodLink "AidRegister" (260 : Nat) ({ cls := "AidRegister$Gifts", name := "isAllOf", desc := "(II)Z" } : Jvm.MethodName)) ∈ lw_all := qin_4 (i := 212) rfl rfl
theorem qw_933 : (Jvm.Cond.instanceMethod ({ cls := "AidRegister$Gifts", name := "isAllOf", desc := "(II)Z" } : Jvm.MethodName)) ∈ lw_all := qin_4 (i := 213) rfl rfl
theorem qw_934 : (Jvm.Cond.selects "AidRegister$Gifts" ({ cls := "AidRegister$Gifts", name := "isAllOf", desc := "(II)Z" } : Jvm.MethodName) ({ cls := "AidRegister$Gifts", name := "isAllOf", desc := "(II)Z" } : Jvm.MethodName)) ∈ lw_all := qin_4 (i := 214) rfl rfl
theorem qw_935 : (Jvm.Cond.code ({ cls := "AidRegister$Gifts", name := "isAllOf", desc := "(II)Z" } : Jvm.MethodName) prog_5_method_10_code (3 : Nat) (Option.some Jvm.ClassFile.FieldType.boolean)) ∈ lw_all := qin_4 (i := 215) rfl rfl
theorem qw_937 : (Jvm.Cond.methodLink "AidRegister" (265 : Nat) ({ cls := "AidRegister$Gifts", name := "isWhole", desc := "(I)Z" } : Jvm.MethodName)) ∈ lw_all := qin_4 (i := 217) rfl rfl
theorem qw_938 : (Jvm.Cond.instanceMethod ({ cls := "AidRegister$Gifts", name := "isWhole", desc := "(I)Z" } : Jvm.MethodName)) ∈ lw_all := qin_4 (i := 218) rfl rfl
theorem qw_939 : (Jvm.Cond.selects "AidRegister$Gifts" ({ cls := "AidRegister$Gifts", name := "isWhole", desc := "(I)Z" } : Jvm.MethodName) ({ cls := "AidRegister$Gifts", name := "isWhole", desc := "(I)Z" } : Jvm.MethodName)) ∈ lw_all := qin_4 (i := 219) rfl rfl
theorem qw_940 : (Jvm.Cond.code ({ cls := "AidRegister$Gifts", name := "isWhole", desc := "(I)Z" } : Jvm.MethodName) prog_5_method_9_code (2 : Nat) (Option.some Jvm.ClassFile.FieldType.boolean)) ∈ lw_all := qin_4 (i := 220) rfl rfl
theorem qw_942 : (Jvm.Cond.methodLink "AidRegister" (270 : Nat) ({ cls := "AidRegister$Gifts", name := "divide", desc := "(IIII)V" } : Jvm.MethodName)) ∈ lw_all := qin_4 (i := 222) rfl rfl
theorem qw_943 : (Jvm.Cond.instanceMethod ({ cls := "AidRegister$Gifts", name := "divide", desc := "(IIII)V" } : Jvm.MethodName)) ∈ lw_all := qin_4 (i := 223) rfl rfl
theorem qw_944 : (Jvm.Cond.selects "AidRegister$Gifts" ({ cls := "AidRegister$Gifts", name := "divide", desc := "(IIII)V" } : Jvm.MethodName) ({ cls := "AidRegister$Gifts", name := "divide", desc := "(IIII)V" } : Jvm.MethodName)) ∈ lw_all := qin_4 (i := 224) rfl rfl
theorem qw_945 : (Jvm.Cond.code ({ cls := "AidRegister$Gifts", name := "divide", desc := "(IIII)V" } : Jvm.MethodName) prog_5_method_7_code (5 : Nat) (Option.none : Option Jvm.ClassFile.FieldType)) ∈ lw_all := qin_4 (i := 225) rfl rfl
theorem qw_946 : (Jvm.Cond.methodLink "AidRegister$Gifts" (61 : Nat) ({ cls := "AidRegister$Gifts", name := "addPart", desc := "(III)V" } : Jvm.MethodName)) ∈ lw_all := qin_4 (i := 226) rfl rfl
theorem qw_947 : (Jvm.Cond.methodLink "AidRegisterLaw" (213 : Nat) ({ cls := "AidRegisterLaw", name := "refund", desc := "(LAidRegister;II[J)I" } : Jvm.MethodName)) ∈ lw_all := qin_4 (i := 227) rfl rfl
theorem qw_948 : (Jvm.Cond.static ({ cls := "AidRegisterLaw", name := "refund", desc := "(LAidRegister;II[J)I" } : Jvm.MethodName)) ∈ lw_all := qin_4 (i := 228) rfl rfl
theorem qw_950 : (Jvm.Cond.methodLink "AidRegisterLaw" (66 : Nat) ({ cls := "AidRegister", name := "refund", desc := "(II)I" } : Jvm.MethodName)) ∈ lw_all := qin_4 (i := 230) rfl rfl
theorem qw_951 : (Jvm.Cond.instanceMethod ({ cls := "AidRegister", name := "refund", desc := "(II)I" } : Jvm.MethodName)) ∈ lw_all := qin_4 (i := 231) rfl rfl
theorem qw_952 : (Jvm.Cond.selects "AidRegister" ({ cls := "AidRegister", name := "refund", desc := "(II)I" } : Jvm.MethodName) ({ cls := "AidRegister", name := "refund", desc := "(II)I" } : Jvm.MethodName)) ∈ lw_all := qin_4 (i := 232) rfl rfl
theorem qw_953 : (Jvm.Cond.code ({ cls := "AidRegister", name := "refund", desc := "(II)I" } : Jvm.MethodName) prog_1_method_23_code (3 : Nat) (Option.some Jvm.ClassFile.FieldType.int)) ∈ lw_all := qin_4 (i := 233) rfl rfl
theorem qw_955 : (Jvm.Cond.methodLink "AidRegister" (276 : Nat) ({ cls := "AidRegister$Gifts", name := "takeBack", desc := "(II)V" } : Jvm.MethodName)) ∈ lw_all := qin_4 (i := 235) rfl rfl
theorem qw_956 : (Jvm.Cond.instanceMethod ({ cls := "AidRegister$Gifts", name := "takeBack", desc := "(II)V" } : Jvm.MethodName)) ∈ lw_all := qin_4 (i := 236) rfl rfl
theorem qw_957 : (Jvm.Cond.selects "AidRegister$Gifts" ({ cls := "AidRegister$Gifts", name := "takeBack", desc := "(II)V" } : Jvm.MethodName) ({ cls := "AidRegister$Gifts", name := "takeBack", desc := "(II)V" } : Jvm.MethodName)) ∈ lw_all := qin_4 (i := 237) rfl rfl
theorem qw_958 : (Jvm.Cond.code ({ cls := "AidRegister$Gifts", name := "takeBack", desc := "(II)V" } : Jvm.MethodName) prog_5_method_8_code (7 : Nat) (Option.none : Option Jvm.ClassFile.FieldType)) ∈ lw_all := qin_4 (i := 238) rfl rfl
theorem qw_959 : (Jvm.Cond.methodLink "AidRegister$Gifts" (65 : Nat) ({ cls := "AidRegister$Gifts", name := "leftOfPart", desc := "(I)I" } : Jvm.MethodName)) ∈ lw_all := qin_4 (i := 239) rfl rfl
theorem qw_960 : (Jvm.Cond.methodLink "AidRegister$Gifts" (69 : Nat) ({ cls := "java/lang/Math", name := "min", desc := "(II)I" } : Jvm.MethodName)) ∈ lw_all := qin_5 (i := 0) rfl rfl
theorem qw_961 : (Jvm.Cond.methodLink "AidRegisterLaw" (216 : Nat) ({ cls := "AidRegisterLaw", name := "setTaxLimit", desc := "(LAidRegister;II[J)I" } : Jvm.MethodName)) ∈ lw_all := qin_5 (i := 1) rfl rfl
theorem qw_962 : (Jvm.Cond.static ({ cls := "AidRegisterLaw", name := "setTaxLimit", desc := "(LAidRegister;II[J)I" } : Jvm.MethodName)) ∈ lw_all := qin_5 (i := 2) rfl rfl
theorem qw_964 : (Jvm.Cond.methodLink "AidRegisterLaw" (69 : Nat) ({ cls := "AidRegister", name := "setTaxLimit", desc := "(II)I" } : Jvm.MethodName)) ∈ lw_all := qin_5 (i := 4) rfl rfl
theorem qw_965 : (Jvm.Cond.instanceMethod ({ cls := "AidRegister", name := "setTaxLimit", desc := "(II)I" } : Jvm.MethodName)) ∈ lw_all := qin_5 (i := 5) rfl rfl
theorem qw_966 : (Jvm.Cond.selects "AidRegister" ({ cls := "AidRegister", name := "setTaxLimit", desc := "(II)I" } : Jvm.MethodName) ({ cls := "AidRegister", name := "setTaxLimit", desc := "(II)I" } : Jvm.MethodName)) ∈ lw_all := qin_5 (i := 6) rfl rfl
theorem qw_967 : (Jvm.Cond.code ({ cls := "AidRegister", name := "setTaxLimit", desc := "(II)I" } : Jvm.MethodName) prog_1_method_24_code (4 : Nat) (Option.some Jvm.ClassFile.FieldType.int)) ∈ lw_all := qin_5 (i := 7) rfl rfl
theorem qw_968 : (Jvm.Cond.methodLink "AidRegisterLaw" (219 : Nat) ({ cls := "AidRegisterLaw", name := "setRate", desc := "(LAidRegister;I[J)I" } : Jvm.MethodName)) ∈ lw_all := qin_5 (i := 8) rfl rfl
theorem qw_969 : (Jvm.Cond.static ({ cls := "AidRegisterLaw", name := "setRate", desc := "(LAidRegister;I[J)I" } : Jvm.MethodName)) ∈ lw_all := qin_5 (i := 9) rfl rfl
theorem qw_971 : (Jvm.Cond.methodLink "AidRegisterLaw" (72 : Nat) ({ cls := "AidRegister", name := "setRate", desc := "(I)I" } : Jvm.MethodName)) ∈ lw_all := qin_5 (i := 11) rfl rfl
theorem qw_972 : (Jvm.Cond.instanceMethod ({ cls := "AidRegister", name := "setRate", desc := "(I)I" } : Jvm.MethodName)) ∈ lw_all := qin_5 (i := 12) rfl rfl
theorem qw_973 : (Jvm.Cond.selects "AidRegister" ({ cls := "AidRegister", name := "setRate", desc := "(I)I" } : Jvm.MethodName) ({ cls := "AidRegister", name := "setRate", desc := "(I)I" } : Jvm.MethodName)) ∈ lw_all := qin_5 (i := 13) rfl rfl
theorem qw_974 : (Jvm.Cond.code ({ cls := "AidRegister", name := "setRate", desc := "(I)I" } : Jvm.MethodName) prog_1_method_25_code (3 : Nat) (Option.some Jvm.ClassFile.FieldType.int)) ∈ lw_all := qin_5 (i := 14) rfl rfl
theorem qw_975 : (Jvm.Cond.methodLink "AidRegisterLaw" (222 : Nat) ({ cls := "AidRegisterLaw", name := "claim", desc := "(LAidRegister;I[J)I" } : Jvm.MethodName)) ∈ lw_all := qin_5 (i := 15) rfl rfl
theorem qw_976 : (Jvm.Cond.static ({ cls := "AidRegisterLaw", name := "claim", desc := "(LAidRegister;I[J)I" } : Jvm.MethodName)) ∈ lw_all := qin_5 (i := 16) rfl rfl
theorem qw_978 : (Jvm.Cond.methodLink "AidRegisterLaw" (75 : Nat) ({ cls := "AidRegister", name := "claim", desc := "(I)I" } : Jvm.MethodName)) ∈ lw_all := qin_5 (i := 18) rfl rfl
theorem qw_979 : (Jvm.Cond.instanceMethod ({ cls := "AidRegister", name := "claim", desc := "(I)I" } : Jvm.MethodName)) ∈ lw_all := qin_5 (i := 19) rfl rfl
theorem qw_980 : (Jvm.Cond.selects "AidRegister" ({ cls := "AidRegister", name := "claim", desc := "(I)I" } : Jvm.MethodName) ({ cls := "AidRegister", name := "claim", desc := "(I)I" } : Jvm.MethodName)) ∈ lw_all := qin_5 (i := 20) rfl rfl
theorem qw_981 : (Jvm.Cond.code ({ cls := "AidRegister", name := "claim", desc := "(I)I" } : Jvm.MethodName) prog_1_method_26_code (2 : Nat) (Option.some Jvm.ClassFile.FieldType.int)) ∈ lw_all := qin_5 (i := 21) rfl rfl
theorem qw_982 : (Jvm.Cond.methodLink "AidRegister" (279 : Nat) ({ cls := "AidRegister$Claims", name := "isFull", desc := "()Z" } : Jvm.MethodName)) ∈ lw_all := qin_5 (i := 22) rfl rfl
theorem qw_983 : (Jvm.Cond.instanceMethod ({ cls := "AidRegister$Claims", name := "isFull", desc := "()Z" } : Jvm.MethodName)) ∈ lw_all := qin_5 (i := 23) rfl rfl
theorem qw_984 : (Jvm.Cond.selects "AidRegister$Claims" ({ cls := "AidRegister$Claims", name := "isFull", desc := "()Z" } : Jvm.MethodName) ({ cls := "AidRegister$Claims", name := "isFull", desc := "()Z" } : Jvm.MethodName)) ∈ lw_all := qin_5 (i := 24) rfl rfl
theorem qw_985 : (Jvm.Cond.code ({ cls := "AidRegister$Claims", name := "isFull", desc := "()Z" } : Jvm.MethodName) prog_2_method_3_code (1 : Nat) (Option.some Jvm.ClassFile.FieldType.boolean)) ∈ lw_all := qin_5 (i := 25) rfl rfl
theorem qw_986 : (Jvm.Cond.methodLink "AidRegister" (280 : Nat) ({ cls := "AidRegister$Claims", name := "latestDay", desc := "()I" } : Jvm.MethodName)) ∈ lw_all := qin_5 (i := 26) rfl rfl
theorem qw_987 : (Jvm.Cond.instanceMethod ({ cls := "AidRegister$Claims", name := "latestDay", desc := "()I" } : Jvm.MethodName)) ∈ lw_all := qin_5 (i := 27) rfl rfl
theorem qw_988 : (Jvm.Cond.selects "AidRegister$Claims" ({ cls := "AidRegister$Claims", name := "latestDay", desc := "()I" } : Jvm.MethodName) ({ cls := "AidRegister$Claims", name := "latestDay", desc := "()I" } : Jvm.MethodName)) ∈ lw_all := qin_5 (i := 28) rfl rfl
theorem qw_989 : (Jvm.Cond.code ({ cls := "AidRegister$Claims", name := "latestDay", desc := "()I" } : Jvm.MethodName) prog_2_method_4_code (1 : Nat) (Option.some Jvm.ClassFile.FieldType.int)) ∈ lw_all := qin_5 (i := 29) rfl rfl
theorem qw_991 : (Jvm.Cond.methodLink "AidRegister" (285 : Nat) ({ cls := "AidRegister$Ledger", name := "makeClaim", desc := "(I)I" } : Jvm.MethodName)) ∈ lw_all := qin_5 (i := 31) rfl rfl
theorem qw_992 : (Jvm.Cond.instanceMethod ({ cls := "AidRegister$Ledger", name := "makeClaim", desc := "(I)I" } : Jvm.MethodName)) ∈ lw_all := qin_5 (i := 32) rfl rfl
theorem qw_993 : (Jvm.Cond.selects "AidRegister$Ledger" ({ cls := "AidRegister$Ledger", name := "makeClaim", desc := "(I)I" } : Jvm.MethodName) ({ cls := "AidRegister$Ledger", name := "makeClaim", desc := "(I)I" } : Jvm.MethodName)) ∈ lw_all := qin_5 (i := 33) rfl rfl
theorem qw_994 : (Jvm.Cond.code ({ cls := "AidRegister$Ledger", name := "makeClaim", desc := "(I)I" } : Jvm.MethodName) prog_6_method_17_code (4 : Nat) (Option.some Jvm.ClassFile.FieldType.int)) ∈ lw_all := qin_5 (i := 34) rfl rfl
theorem qw_995 : (Jvm.Cond.methodLink "AidRegister$Ledger" (160 : Nat) ({ cls := "AidRegister$Claims", name := "begin", desc := "(I)V" } : Jvm.MethodName)) ∈ lw_all := qin_5 (i := 35) rfl rfl
theorem qw_996 : (Jvm.Cond.instanceMethod ({ cls := "AidRegister$Claims", name := "begin", desc := "(I)V" } : Jvm.MethodName)) ∈ lw_all := qin_5 (i := 36) rfl rfl
theorem qw_997 : (Jvm.Cond.selects "AidRegister$Claims" ({ cls := "AidRegister$Claims", name := "begin", desc := "(I)V" } : Jvm.MethodName) ({ cls := "AidRegister$Claims", name := "begin", desc := "(I)V" } : Jvm.MethodName)) ∈ lw_all := qin_5 (i := 37) rfl rfl
theorem qw_998 : (Jvm.Cond.code ({ cls := "AidRegister$Claims", name := "begin", desc := "(I)V" } : Jvm.MethodName) prog_2_method_5_code (4 : Nat) (Option.none : Option Jvm.ClassFile.FieldType)) ∈ lw_all := qin_5 (i := 38) rfl rfl
theorem qw_999 : (Jvm.Cond.methodLink "AidRegister$Claims" (23 : Nat) ({ cls := "AidRegister$Claims", name := "isFull", desc := "()Z" } : Jvm.MethodName)) ∈ lw_all := qin_5 (i := 39) rfl rfl
theorem qw_1000 : (Jvm.Cond.methodLink "AidRegister$Ledger" (164 : Nat) ({ cls := "AidRegister$Ledger", name := "differenceOn", desc := "(II)I" } : Jvm.MethodName)) ∈ lw_all := qin_5 (i := 40) rfl rfl
theorem qw_1001 : (Jvm.Cond.instanceMethod ({ cls := "AidRegister$Ledger", name := "differenceOn", desc := "(II)I" } : Jvm.MethodName)) ∈ lw_all := qin_5 (i := 41) rfl rfl
theorem qw_1002 : (Jvm.Cond.selects "AidRegister$Ledger" ({ cls := "AidRegister$Ledger", name := "differenceOn", desc := "(II)I" } : Jvm.MethodName) ({ cls := "AidRegister$Ledger", name := "differenceOn", desc := "(II)I" } : Jvm.MethodName)) ∈ lw_all := qin_5 (i := 42) rfl rfl
theorem qw_1003 : (Jvm.Cond.code ({ cls := "AidRegister$Ledger", name := "differenceOn", desc := "(II)I" } : Jvm.MethodName) prog_6_method_16_code (5 : Nat) (Option.some Jvm.ClassFile.FieldType.int)) ∈ lw_all := qin_5 (i := 43) rfl rfl
theorem qw_1004 : (Jvm.Cond.methodLink "AidRegister$Ledger" (167 : Nat) ({ cls := "AidRegister$Claims", name := "enter", desc := "(I)V" } : Jvm.MethodName)) ∈ lw_all := qin_5 (i := 44) rfl rfl
theorem qw_1005 : (Jvm.Cond.instanceMethod ({ cls := "AidRegister$Claims", name := "enter", desc := "(I)V" } : Jvm.MethodName)) ∈ lw_all := qin_5 (i := 45) rfl rfl
theorem qw_1006 : (Jvm.Cond.selects "AidRegister$Claims" ({ cls := "AidRegister$Claims", name := "enter", desc := "(I)V" } : Jvm.MethodName) ({ cls := "AidRegister$Claims", name := "enter", desc := "(I)V" } : Jvm.MethodName)) ∈ lw_all := qin_5 (i := 46) rfl rfl
theorem qw_1007 : (Jvm.Cond.code ({ cls := "AidRegister$Claims", name := "enter", desc := "(I)V" } : Jvm.MethodName) prog_2_method_6_code (3 : Nat) (Option.none : Option Jvm.ClassFile.FieldType)) ∈ lw_all := qin_5 (i := 47) rfl rfl
theorem qw_1008 : (Jvm.Cond.methodLink "AidRegister$Ledger" (170 : Nat) ({ cls := "AidRegister$Claims", name := "latestBalance", desc := "()I" } : Jvm.MethodName)) ∈ lw_all := qin_5 (i := 48) rfl rfl
theorem qw_1009 : (Jvm.Cond.instanceMethod ({ cls := "AidRegister$Claims", name := "latestBalance", desc := "()I" } : Jvm.MethodName)) ∈ lw_all := qin_5 (i := 49) rfl rfl
theorem qw_1010 : (Jvm.Cond.selects "AidRegister$Claims" ({ cls := "AidRegister$Claims", name := "latestBalance", desc := "()I" } : Jvm.MethodName) ({ cls := "AidRegister$Claims", name := "latestBalance", desc := "()I" } : Jvm.MethodName)) ∈ lw_all := qin_5 (i := 50) rfl rfl
theorem qw_1011 : (Jvm.Cond.code ({ cls := "AidRegister$Claims", name := "latestBalance", desc := "()I" } : Jvm.MethodName) prog_2_method_7_code (2 : Nat) (Option.some Jvm.ClassFile.FieldType.int)) ∈ lw_all := qin_5 (i := 51) rfl rfl
theorem qw_1012 : (Jvm.Cond.methodLink "AidRegisterLaw" (225 : Nat) ({ cls := "AidRegisterLaw", name := "claimed", desc := "(LAidRegister;II[J)I" } : Jvm.MethodName)) ∈ lw_all := qin_5 (i := 52) rfl rfl
theorem qw_1013 : (Jvm.Cond.static ({ cls := "AidRegisterLaw", name := "claimed", desc := "(LAidRegister;II[J)I" } : Jvm.MethodName)) ∈ lw_all := qin_5 (i := 53) rfl rfl
theorem qw_1015 : (Jvm.Cond.methodLink "AidRegisterLaw" (78 : Nat) ({ cls := "AidRegister", name := "claimed", desc := "(II)I" } : Jvm.MethodName)) ∈ lw_all := qin_5 (i := 55) rfl rfl
theorem qw_1016 : (Jvm.Cond.instanceMethod ({ cls := "AidRegister", name := "claimed", desc := "(II)I" } : Jvm.MethodName)) ∈ lw_all := qin_5 (i := 56) rfl rfl
theorem qw_1017 : (Jvm.Cond.selects "AidRegister" ({ cls := "AidRegister", name := "claimed", desc := "(II)I" } : Jvm.MethodName) ({ cls := "AidRegister", name := "claimed", desc := "(II)I" } : Jvm.MethodName)) ∈ lw_all := qin_5 (i := 57) rfl rfl
theorem qw_1018 : (Jvm.Cond.code ({ cls := "AidRegister", name := "claimed", desc := "(II)I" } : Jvm.MethodName) prog_1_method_27_code (3 : Nat) (Option.some Jvm.ClassFile.FieldType.int)) ∈ lw_all := qin_5 (i := 58) rfl rfl
theorem qw_1020 : (Jvm.Cond.methodLink "AidRegisterLaw" (228 : Nat) ({ cls := "AidRegisterLaw", name := "claimable", desc := "(LAidRegister;IZ[J)I" } : Jvm.MethodName)) ∈ lw_all := qin_5 (i := 60) rfl rfl
theorem qw_1021 : (Jvm.Cond.static ({ cls := "AidRegisterLaw", name := "claimable", desc := "(LAidRegister;IZ[J)I" } : Jvm.MethodName)) ∈ lw_all := qin_5 (i := 61) rfl rfl
theorem qw_1023 : (Jvm.Cond.methodLink "AidRegisterLaw" (81 : Nat) ({ cls := "AidRegister", name := "claimable", desc := "(IZ)I" } : Jvm.MethodName)) ∈ lw_all := qin_5 (i := 63) rfl rfl
theorem qw_1024 : (Jvm.Cond.instanceMethod ({ cls := "AidRegister", name := "claimable", desc := "(IZ)I" } : Jvm.MethodName)) ∈ lw_all := qin_5 (i := 64) rfl rfl
theorem qw_1025 : (Jvm.Cond.selects "AidRegister" ({ cls := "AidRegister", name := "claimable", desc := "(IZ)I" } : Jvm.MethodName) ({ cls := "AidRegister", name := "claimable", desc := "(IZ)I" } : Jvm.MethodName)) ∈ lw_all := qin_5 (i := 65) rfl rfl
theorem qw_1026 : (Jvm.Cond.code ({ cls := "AidRegister", name := "claimable", desc := "(IZ)I" } : Jvm.MethodName) prog_1_method_28_code (3 : Nat) (Option.some Jvm.ClassFile.FieldType.int)) ∈ lw_all := qin_5 (i := 66) rfl rfl
theorem qw_1027 : (Jvm.Cond.methodLink "AidRegister" (296 : Nat) ({ cls := "AidRegister$Ledger", name := "forecast", desc := "(IZ)I" } : Jvm.MethodName)) ∈ lw_all := qin_5 (i := 67) rfl rfl
theorem qw_1028 : (Jvm.Cond.instanceMethod ({ cls := "AidRegister$Ledger", name := "forecast", desc := "(IZ)I" } : Jvm.MethodName)) ∈ lw_all := qin_5 (i := 68) rfl rfl
theorem qw_1029 : (Jvm.Cond.selects "AidRegister$Ledger" ({ cls := "AidRegister$Ledger", name := "forecast", desc := "(IZ)I" } : Jvm.MethodName) ({ cls := "AidRegister$Ledger", name := "forecast", desc := "(IZ)I" } : Jvm.MethodName)) ∈ lw_all := qin_5 (i := 69) rfl rfl
theorem qw_1030 : (Jvm.Cond.code ({ cls := "AidRegister$Ledger", name := "forecast", desc := "(IZ)I" } : Jvm.MethodName) prog_6_method_18_code (6 : Nat) (Option.some Jvm.ClassFile.FieldType.int)) ∈ lw_all := qin_5 (i := 70) rfl rfl
theorem qw_1031 : (Jvm.Cond.methodLink "AidRegisterLaw" (240 : Nat) ({ cls := "AidRegisterLaw", name := "lost", desc := "(LAidRegister;I[J)I" } : Jvm.MethodName)) ∈ lw_all := qin_5 (i := 71) rfl rfl
theorem qw_1032 : (Jvm.Cond.static ({ cls := "AidRegisterLaw", name := "lost", desc := "(LAidRegister;I[J)I" } : Jvm.MethodName)) ∈ lw_all := qin_5 (i := 72) rfl rfl
theorem qw_1034 : (Jvm.Cond.methodLink "AidRegisterLaw" (85 : Nat) ({ cls := "AidRegister", name := "lost", desc := "(I)I" } : Jvm.MethodName)) ∈ lw_all := qin_5 (i := 74) rfl rfl
theorem qw_1035 : (Jvm.Cond.instanceMethod ({ cls := "AidRegister", name := "lost", desc := "(I)I" } : Jvm.MethodName)) ∈ lw_all := qin_5 (i := 75) rfl rfl
theorem qw_1036 : (Jvm.Cond.selects "AidRegister" ({ cls := "AidRegister", name := "lost", desc := "(I)I" } : Jvm.MethodName) ({ cls := "AidRegister", name := "lost", desc := "(I)I" } : Jvm.MethodName)) ∈ lw_all := qin_5 (i := 76) rfl rfl
theorem qw_1037 : (Jvm.Cond.code ({ cls := "AidRegister", name := "lost", desc := "(I)I" } : Jvm.MethodName) prog_1_method_31_code (2 : Nat) (Option.some Jvm.ClassFile.FieldType.int)) ∈ lw_all := qin_5 (i := 77) rfl rfl
theorem qw_1038 : (Jvm.Cond.methodLink "AidRegister" (309 : Nat) ({ cls := "AidRegister$Ledger", name := "lostBy", desc := "(I)I" } : Jvm.MethodName)) ∈ lw_all := qin_5 (i := 78) rfl rfl
theorem qw_1039 : (Jvm.Cond.instanceMethod ({ cls := "AidRegister$Ledger", name := "lostBy", desc := "(I)I" } : Jvm.MethodName)) ∈ lw_all := qin_5 (i := 79) rfl rfl
theorem qw_1040 : (Jvm.Cond.selects "AidRegister$Ledger" ({ cls := "AidRegister$Ledger", name := "lostBy", desc := "(I)I" } : Jvm.MethodName) ({ cls := "AidRegister$Ledger", name := "lostBy", desc := "(I)I" } : Jvm.MethodName)) ∈ lw_all := qin_5 (i := 80) rfl rfl
theorem qw_1041 : (Jvm.Cond.code ({ cls := "AidRegister$Ledger", name := "lostBy", desc := "(I)I" } : Jvm.MethodName) prog_6_method_15_code (4 : Nat) (Option.some Jvm.ClassFile.FieldType.int)) ∈ lw_all := qin_5 (i := 81) rfl rfl
theorem qw_1042 : (Jvm.Cond.methodLink "AidRegister$Ledger" (157 : Nat) ({ cls := "AidRegister$Ledger", name := "reasonOf", desc := "(I)I" } : Jvm.MethodName)) ∈ lw_all := qin_5 (i := 82) rfl rfl
theorem qw_1043 : (Jvm.Cond.methodLink "AidRegisterLaw" (247 : Nat) ({ cls := "AidRegisterLaw", name := "limitedYears", desc := "(LAidRegister;I[J)I" } : Jvm.MethodName)) ∈ lw_all := qin_5 (i := 83) rfl rfl
theorem qw_1044 : (Jvm.Cond.static ({ cls := "AidRegisterLaw", name := "limitedYears", desc := "(LAidRegister;I[J)I" } : Jvm.MethodName)) ∈ lw_all := qin_5 (i := 84) rfl rfl
theorem qw_1046 : (Jvm.Cond.methodLink "AidRegisterLaw" (88 : Nat) ({ cls := "AidRegister", name := "limitedYears", desc := "(I)I" } : Jvm.MethodName)) ∈ lw_all := qin_5 (i := 86) rfl rfl
theorem qw_1047 : (Jvm.Cond.instanceMethod ({ cls := "AidRegister", name := "limitedYears", desc := "(I)I" } : Jvm.MethodName)) ∈ lw_all := qin_5 (i := 87) rfl rfl
theorem qw_1048 : (Jvm.Cond.selects "AidRegister" ({ cls := "AidRegister", name := "limitedYears", desc := "(I)I" } : Jvm.MethodName) ({ cls := "AidRegister", name := "limitedYears", desc := "(I)I" } : Jvm.MethodName)) ∈ lw_all := qin_5 (i := 88) rfl rfl
theorem qw_1049 : (Jvm.Cond.code ({ cls := "AidRegister", name := "limitedYears", desc := "(I)I" } : Jvm.MethodName) prog_1_method_33_code (2 : Nat) (Option.some Jvm.ClassFile.FieldType.int)) ∈ lw_all := qin_5 (i := 89) rfl rfl
theorem qw_1050 : (Jvm.Cond.methodLink "AidRegister" (315 : Nat) ({ cls := "AidRegister$Ledger", name := "countLimitedYears", desc := "(I)I" } : Jvm.MethodName)) ∈ lw_all := qin_5 (i := 90) rfl rfl
theorem qw_1051 : (Jvm.Cond.instanceMethod ({ cls := "AidRegister$Ledger", name := "countLimitedYears", desc := "(I)I" } : Jvm.MethodName)) ∈ lw_all := qin_5 (i := 91) rfl rfl
theorem qw_1052 : (Jvm.Cond.selects "AidRegister$Ledger" ({ cls := "AidRegister$Ledger", name := "countLimitedYears", desc := "(I)I" } : Jvm.MethodName) ({ cls := "AidRegister$Ledger", name := "countLimitedYears", desc := "(I)I" } : Jvm.MethodName)) ∈ lw_all := qin_5 (i := 92) rfl rfl
theorem qw_1053 : (Jvm.Cond.code ({ cls := "AidRegister$Ledger", name := "countLimitedYears", desc := "(I)I" } : Jvm.MethodName) prog_6_method_24_code (6 : Nat) (Option.some Jvm.ClassFile.FieldType.int)) ∈ lw_all := qin_5 (i := 93) rfl rfl
theorem qw_1054 : (Jvm.Cond.methodLink "AidRegister$Ledger" (182 : Nat) ({ cls := "AidRegister$Ledger", name := "isLimited", desc := "(II)Z" } : Jvm.MethodName)) ∈ lw_all := qin_5 (i := 94) rfl rfl
theorem qw_1056 : (Jvm.Cond.instanceMethod ({ cls := "AidRegister$Ledger", name := "isLimited", desc := "(II)Z" } : Jvm.MethodName)) ∈ lw_all := qin_5 (i := 96) rfl rfl
theorem qw_1057 : (Jvm.Cond.code ({ cls := "AidRegister$Ledger", name := "isLimited", desc := "(II)Z" } : Jvm.MethodName) prog_6_method_25_code (5 : Nat) (Option.some Jvm.ClassFile.FieldType.boolean)) ∈ lw_all := qin_5 (i := 97) rfl rfl
theorem qw_1058 : (Jvm.Cond.methodLink "AidRegisterLaw" (250 : Nat) ({ cls := "AidRegisterLaw", name := "expiring", desc := "(LAidRegister;II[J)I" } : Jvm.MethodName)) ∈ lw_all := qin_5 (i := 98) rfl rfl
theorem qw_1059 : (Jvm.Cond.static ({ cls := "AidRegisterLaw", name := "expiring", desc := "(LAidRegister;II[J)I" } : Jvm.MethodName)) ∈ lw_all := qin_5 (i := 99) rfl rfl
theorem qw_1061 : (Jvm.Cond.methodLink "AidRegisterLaw" (91 : Nat) ({ cls := "AidRegister", name := "expiring", desc := "(II)I" } : Jvm.MethodName)) ∈ lw_all := qin_5 (i := 101) rfl rfl
theorem qw_1062 : (Jvm.Cond.instanceMethod ({ cls := "AidRegister", name := "expiring", desc := "(II)I" } : Jvm.MethodName)) ∈ lw_all := qin_5 (i := 102) rfl rfl
theorem qw_1063 : (Jvm.Cond.selects "AidRegister" ({ cls := "AidRegister", name := "expiring", desc := "(II)I" } : Jvm.MethodName) ({ cls := "AidRegister", name := "expiring", desc := "(II)I" } : Jvm.MethodName)) ∈ lw_all := qin_5 (i := 103) rfl rfl
theorem qw_1064 : (Jvm.Cond.code ({ cls := "AidRegister", name := "expiring", desc := "(II)I" } : Jvm.MethodName) prog_1_method_34_code (3 : Nat) (Option.some Jvm.ClassFile.FieldType.int)) ∈ lw_all := qin_5 (i := 104) rfl rfl
theorem qw_1065 : (Jvm.Cond.methodLink "AidRegister" (318 : Nat) ({ cls := "AidRegister$Ledger", name := "openUntil", desc := "(II)I" } : Jvm.MethodName)) ∈ lw_all := qin_5 (i := 105) rfl rfl
theorem qw_1066 : (Jvm.Cond.instanceMethod ({ cls := "AidRegister$Ledger", name := "openUntil", desc := "(II)I" } : Jvm.MethodName)) ∈ lw_all := qin_5 (i := 106) rfl rfl
theorem qw_1067 : (Jvm.Cond.selects "AidRegister$Ledger" ({ cls := "AidRegister$Ledger", name := "openUntil", desc := "(II)I" } : Jvm.MethodName) ({ cls := "AidRegister$Ledger", name := "openUntil", desc := "(II)I" } : Jvm.MethodName)) ∈ lw_all := qin_5 (i := 107) rfl rfl
theorem qw_1068 : (Jvm.Cond.code ({ cls := "AidRegister$Ledger", name := "openUntil", desc := "(II)I" } : Jvm.MethodName) prog_6_method_23_code (6 : Nat) (Option.some Jvm.ClassFile.FieldType.int)) ∈ lw_all := qin_5 (i := 108) rfl rfl
theorem qw_1069 : (Jvm.Cond.methodLink "AidRegisterLaw" (253 : Nat) ({ cls := "AidRegisterLaw", name := "useOf", desc := "(LAidRegister;I[J)I" } : Jvm.MethodName)) ∈ lw_all := qin_5 (i := 109) rfl rfl
theorem qw_1070 : (Jvm.Cond.static ({ cls := "AidRegisterLaw", name := "useOf", desc := "(LAidRegister;I[J)I" } : Jvm.MethodName)) ∈ lw_all := qin_5 (i := 110) rfl rfl
theorem qw_1072 : (Jvm.Cond.methodLink "AidRegisterLaw" (94 : Nat) ({ cls := "AidRegister", name := "useOf", desc := "(I)I" } : Jvm.MethodName)) ∈ lw_all := qin_5 (i := 112) rfl rfl
theorem qw_1073 : (Jvm.Cond.instanceMethod ({ cls := "AidRegister", name := "useOf", desc := "(I)I" } : Jvm.MethodName)) ∈ lw_all := qin_5 (i := 113) rfl rfl
theorem qw_1074 : (Jvm.Cond.selects "AidRegister" ({ cls := "AidRegister", name := "useOf", desc := "(I)I" } : Jvm.MethodName) ({ cls := "AidRegister", name := "useOf", desc := "(I)I" } : Jvm.MethodName)) ∈ lw_all := qin_5 (i := 114) rfl rfl
theorem qw_1075 : (Jvm.Cond.code ({ cls := "AidRegister", name := "useOf", desc := "(I)I" } : Jvm.MethodName) prog_1_method_35_code (2 : Nat) (Option.some Jvm.ClassFile.FieldType.int)) ∈ lw_all := qin_5 (i := 115) rfl rfl
theorem qw_1076 : (Jvm.Cond.methodLink "AidRegisterLaw" (256 : Nat) ({ cls := "AidRegisterLaw", name := "benefitRoom", desc := "(LAidRegister;I[J)I" } : Jvm.MethodName)) ∈ lw_all := qin_5 (i := 116) rfl rfl
theorem qw_1077 : (Jvm.Cond.static ({ cls := "AidRegisterLaw", name := "benefitRoom", desc := "(LAidRegister;I[J)I" } : Jvm.MethodName)) ∈ lw_all := qin_5 (i := 117) rfl rfl
theorem qw_1079 : (Jvm.Cond.methodLink "AidRegisterLaw" (97 : Nat) ({ cls := "AidRegister", name := "benefitRoom", desc := "(I)I" } : Jvm.MethodName)) ∈ lw_all := qin_5 (i := 119) rfl rfl
theorem qw_1080 : (Jvm.Cond.instanceMethod ({ cls := "AidRegister", name := "benefitRoom", desc := "(I)I" } : Jvm.MethodName)) ∈ lw_all := qin_5 (i := 120) rfl rfl
theorem qw_1081 : (Jvm.Cond.selects "AidRegister" ({ cls := "AidRegister", name := "benefitRoom", desc := "(I)I" } : Jvm.MethodName) ({ cls := "AidRegister", name := "benefitRoom", desc := "(I)I" } : Jvm.MethodName)) ∈ lw_all := qin_5 (i := 121) rfl rfl
theorem qw_1082 : (Jvm.Cond.code ({ cls := "AidRegister", name := "benefitRoom", desc := "(I)I" } : Jvm.MethodName) prog_1_method_36_code (2 : Nat) (Option.some Jvm.ClassFile.FieldType.int)) ∈ lw_all := qin_5 (i := 122) rfl rfl
theorem qw_1083 : (Jvm.Cond.methodLink "AidRegisterLaw" (259 : Nat) ({ cls := "AidRegisterLaw", name := "topDonor", desc := "(LAidRegister;I[J)I" } : Jvm.MethodName)) ∈ lw_all := qin_5 (i := 123) rfl rfl
theorem qw_1084 : (Jvm.Cond.static ({ cls := "AidRegisterLaw", name := "topDonor", desc := "(LAidRegister;I[J)I" } : Jvm.MethodName)) ∈ lw_all := qin_5 (i := 124) rfl rfl
theorem qw_1086 : (Jvm.Cond.methodLink "AidRegisterLaw" (100 : Nat) ({ cls := "AidRegister", name := "topDonor", desc := "(I)I" } : Jvm.MethodName)) ∈ lw_all := qin_5 (i := 126) rfl rfl
theorem qw_1087 : (Jvm.Cond.instanceMethod ({ cls := "AidRegister", name := "topDonor", desc := "(I)I" } : Jvm.MethodName)) ∈ lw_all := qin_5 (i := 127) rfl rfl
theorem qw_1088 : (Jvm.Cond.selects "AidRegister" ({ cls := "AidRegister", name := "topDonor", desc := "(I)I" } : Jvm.MethodName) ({ cls := "AidRegister", name := "topDonor", desc := "(I)I" } : Jvm.MethodName)) ∈ lw_all := qin_5 (i := 128) rfl rfl
theorem qw_1089 : (Jvm.Cond.code ({ cls := "AidRegister", name := "topDonor", desc := "(I)I" } : Jvm.MethodName) prog_1_method_37_code (6 : Nat) (Option.some Jvm.ClassFile.FieldType.int)) ∈ lw_all := qin_5 (i := 129) rfl rfl
theorem qw_1090 : (Jvm.Cond.methodLink "AidRegisterLaw" (266 : Nat) ({ cls := "AidRegisterLaw", name := "longestSpan", desc := "(LAidRegister;I[J)I" } : Jvm.MethodName)) ∈ lw_all := qin_5 (i := 130) rfl rfl
theorem qw_1091 : (Jvm.Cond.static ({ cls := "AidRegisterLaw", name := "longestSpan", desc := "(LAidRegister;I[J)I" } : Jvm.MethodName)) ∈ lw_all := qin_5 (i := 131) rfl rfl
theorem qw_1093 : (Jvm.Cond.methodLink "AidRegisterLaw" (103 : Nat) ({ cls := "AidRegister", name := "longestSpan", desc := "(I)I" } : Jvm.MethodName)) ∈ lw_all := qin_5 (i := 133) rfl rfl
theorem qw_1094 : (Jvm.Cond.instanceMethod ({ cls := "AidRegister", name := "longestSpan", desc := "(I)I" } : Jvm.MethodName)) ∈ lw_all := qin_5 (i := 134) rfl rfl
theorem qw_1095 : (Jvm.Cond.selects "AidRegister" ({ cls := "AidRegister", name := "longestSpan", desc := "(I)I" } : Jvm.MethodName) ({ cls := "AidRegister", name := "longestSpan", desc := "(I)I" } : Jvm.MethodName)) ∈ lw_all := qin_5 (i := 135) rfl rfl
theorem qw_1096 : (Jvm.Cond.code ({ cls := "AidRegister", name := "longestSpan", desc := "(I)I" } : Jvm.MethodName) prog_1_method_39_code (2 : Nat) (Option.some Jvm.ClassFile.FieldType.int)) ∈ lw_all := qin_5 (i := 136) rfl rfl
theorem qw_1097 : (Jvm.Cond.methodLink "AidRegister" (324 : Nat) ({ cls := "AidRegister$Declarations", name := "longestRun", desc := "(I)I" } : Jvm.MethodName)) ∈ lw_all := qin_5 (i := 137) rfl rfl
theorem qw_1098 : (Jvm.Cond.instanceMethod ({ cls := "AidRegister$Declarations", name := "longestRun", desc := "(I)I" } : Jvm.MethodName)) ∈ lw_all := qin_5 (i := 138) rfl rfl
theorem qw_1099 : (Jvm.Cond.selects "AidRegister$Declarations" ({ cls := "AidRegister$Declarations", name := "longestRun", desc := "(I)I" } : Jvm.MethodName) ({ cls := "AidRegister$Declarations", name := "longestRun", desc := "(I)I" } : Jvm.MethodName)) ∈ lw_all := qin_5 (i := 139) rfl rfl
theorem qw_1100 : (Jvm.Cond.code ({ cls := "AidRegister$Declarations", name := "longestRun", desc := "(I)I" } : Jvm.MethodName) prog_3_method_13_code (6 : Nat) (Option.some Jvm.ClassFile.FieldType.int)) ∈ lw_all := qin_5 (i := 140) rfl rfl
theorem qw_1101 : (Jvm.Cond.methodLink "AidRegisterLaw" (269 : Nat) ({ cls := "AidRegisterLaw", name := "gainOf", desc := "(LAidRegister;III[J)I" } : Jvm.MethodName)) ∈ lw_all := qin_5 (i := 141) rfl rfl
theorem qw_1102 : (Jvm.Cond.static ({ cls := "AidRegisterLaw", name := "gainOf", desc := "(LAidRegister;III[J)I" } : Jvm.MethodName)) ∈ lw_all := qin_5 (i := 142) rfl rfl
theorem qw_1104 : (Jvm.Cond.methodLink "AidRegisterLaw" (106 : Nat) ({ cls := "AidRegister", name := "gainOf", desc := "(III)I" } : Jvm.MethodName)) ∈ lw_all := qin_5 (i := 144) rfl rfl
theorem qw_1105 : (Jvm.Cond.instanceMethod ({ cls := "AidRegister", name := "gainOf", desc := "(III)I" } : Jvm.MethodName)) ∈ lw_all := qin_5 (i := 145) rfl rfl
theorem qw_1106 : (Jvm.Cond.selects "AidRegister" ({ cls := "AidRegister", name := "gainOf", desc := "(III)I" } : Jvm.MethodName) ({ cls := "AidRegister", name := "gainOf", desc := "(III)I" } : Jvm.MethodName)) ∈ lw_all := qin_5 (i := 146) rfl rfl
theorem qw_1107 : (Jvm.Cond.code ({ cls := "AidRegister", name := "gainOf", desc := "(III)I" } : Jvm.MethodName) prog_1_method_40_code (4 : Nat) (Option.some Jvm.ClassFile.FieldType.int)) ∈ lw_all := qin_5 (i := 147) rfl rfl
theorem qw_1108 : (Jvm.Cond.methodLink "AidRegisterLaw" (276 : Nat) ({ cls := "AidRegisterLaw", name := "neededSpan", desc := "(LAidRegister;IZ[J)I" } : Jvm.MethodName)) ∈ lw_all := qin_5 (i := 148) rfl rfl
theorem qw_1109 : (Jvm.Cond.static ({ cls := "AidRegisterLaw", name := "neededSpan", desc := "(LAidRegister;IZ[J)I" } : Jvm.MethodName)) ∈ lw_all := qin_5 (i := 149) rfl rfl
theorem qw_1111 : (Jvm.Cond.methodLink "AidRegisterLaw" (109 : Nat) ({ cls := "AidRegister", name := "neededSpan", desc := "(IZ)I" } : Jvm.MethodName)) ∈ lw_all := qin_5 (i := 151) rfl rfl
theorem qw_1112 : (Jvm.Cond.instanceMethod ({ cls := "AidRegister", name := "neededSpan", desc := "(IZ)I" } : Jvm.MethodName)) ∈ lw_all := qin_5 (i := 152) rfl rfl
theorem qw_1113 : (Jvm.Cond.selects "AidRegister" ({ cls := "AidRegister", name := "neededSpan", desc := "(IZ)I" } : Jvm.MethodName) ({ cls := "AidRegister", name := "neededSpan", desc := "(IZ)I" } : Jvm.MethodName)) ∈ lw_all := qin_5 (i := 153) rfl rfl
theorem qw_1114 : (Jvm.Cond.code ({ cls := "AidRegister", name := "neededSpan", desc := "(IZ)I" } : Jvm.MethodName) prog_1_method_42_code (3 : Nat) (Option.some Jvm.ClassFile.FieldType.int)) ∈ lw_all := qin_5 (i := 154) rfl rfl
theorem qw_1115 : (Jvm.Cond.methodLink "AidRegister" (330 : Nat) ({ cls := "AidRegister$Ledger", name := "endOfNeed", desc := "(IZ)I" } : Jvm.MethodName)) ∈ lw_all := qin_5 (i := 155) rfl rfl
theorem qw_1116 : (Jvm.Cond.instanceMethod ({ cls := "AidRegister$Ledger", name := "endOfNeed", desc := "(IZ)I" } : Jvm.MethodName)) ∈ lw_all := qin_5 (i := 156) rfl rfl
theorem qw_1117 : (Jvm.Cond.selects "AidRegister$Ledger" ({ cls := "AidRegister$Ledger", name := "endOfNeed", desc := "(IZ)I" } : Jvm.MethodName) ({ cls := "AidRegister$Ledger", name := "endOfNeed", desc := "(IZ)I" } : Jvm.MethodName)) ∈ lw_all := qin_5 (i := 157) rfl rfl
theorem qw_1118 : (Jvm.Cond.code ({ cls := "AidRegister$Ledger", name := "endOfNeed", desc := "(IZ)I" } : Jvm.MethodName) prog_6_method_30_code (9 : Nat) (Option.some Jvm.ClassFile.FieldType.int)) ∈ lw_all := qin_5 (i := 158) rfl rfl
theorem qw_1119 : (Jvm.Cond.methodLink "AidRegisterLaw" (279 : Nat) ({ cls := "AidRegisterLaw", name := "gainOfSplit", desc := "(LAidRegister;II[J)I" } : Jvm.MethodName)) ∈ lw_all := qin_5 (i := 159) rfl rfl
theorem qw_1120 : (Jvm.Cond.static ({ cls := "AidRegisterLaw", name := "gainOfSplit", desc := "(LAidRegister;II[J)I" } : Jvm.MethodName)) ∈ lw_all := qin_5 (i := 160) rfl rfl
theorem qw_1122 : (Jvm.Cond.methodLink "AidRegisterLaw" (112 : Nat) ({ cls := "AidRegister", name := "gainOfSplit", desc := "(II)I" } : Jvm.MethodName)) ∈ lw_all := qin_5 (i := 162) rfl rfl
theorem qw_1123 : (Jvm.Cond.instanceMethod ({ cls := "AidRegister", name := "gainOfSplit", desc := "(II)I" } : Jvm.MethodName)) ∈ lw_all := qin_5 (i := 163) rfl rfl
theorem qw_1124 : (Jvm.Cond.selects "AidRegister" ({ cls := "AidRegister", name := "gainOfSplit", desc := "(II)I" } : Jvm.MethodName) ({ cls := "AidRegister", name := "gainOfSplit", desc := "(II)I" } : Jvm.MethodName)) ∈ lw_all := qin_5 (i := 164) rfl rfl
theorem qw_1125 : (Jvm.Cond.code ({ cls := "AidRegister", name := "gainOfSplit", desc := "(II)I" } : Jvm.MethodName) prog_1_method_43_code (3 : Nat) (Option.some Jvm.ClassFile.FieldType.int)) ∈ lw_all := qin_5 (i := 165) rfl rfl
theorem qw_1126 : (Jvm.Cond.methodLink "AidRegisterLaw" (282 : Nat) ({ cls := "AidRegisterLaw", name := "sample", desc := "(LAidRegister;III[J)I" } : Jvm.MethodName)) ∈ lw_all := qin_5 (i := 166) rfl rfl
theorem qw_1127 : (Jvm.Cond.static ({ cls := "AidRegisterLaw", name := "sample", desc := "(LAidRegister;III[J)I" } : Jvm.MethodName)) ∈ lw_all := qin_5 (i := 167) rfl rfl
theorem qw_1129 : (Jvm.Cond.methodLink "AidRegisterLaw" (115 : Nat) ({ cls := "AidRegister", name := "sample", desc := "(III)I" } : Jvm.MethodName)) ∈ lw_all := qin_5 (i := 169) rfl rfl
theorem qw_1130 : (Jvm.Cond.instanceMethod ({ cls := "AidRegister", name := "sample", desc := "(III)I" } : Jvm.MethodName)) ∈ lw_all := qin_5 (i := 170) rfl rfl
theorem qw_1131 : (Jvm.Cond.selects "AidRegister" ({ cls := "AidRegister", name := "sample", desc := "(III)I" } : Jvm.MethodName) ({ cls := "AidRegister", name := "sample", desc := "(III)I" } : Jvm.MethodName)) ∈ lw_all := qin_5 (i := 171) rfl rfl
theorem qw_1132 : (Jvm.Cond.code ({ cls := "AidRegister", name := "sample", desc := "(III)I" } : Jvm.MethodName) prog_1_method_44_code (4 : Nat) (Option.some Jvm.ClassFile.FieldType.int)) ∈ lw_all := qin_5 (i := 172) rfl rfl
theorem qw_1133 : (Jvm.Cond.methodLink "AidRegister" (333 : Nat) ({ cls := "AidRegister$Drawing", name := "draw", desc := "(LAidRegister$Gifts;II)V" } : Jvm.MethodName)) ∈ lw_all := qin_5 (i := 173) rfl rfl
theorem qw_1134 : (Jvm.Cond.instanceMethod ({ cls := "AidRegister$Drawing", name := "draw", desc := "(LAidRegister$Gifts;II)V" } : Jvm.MethodName)) ∈ lw_all := qin_5 (i := 174) rfl rfl
theorem qw_1135 : (Jvm.Cond.selects "AidRegister$Drawing" ({ cls := "AidRegister$Drawing", name := "draw", desc := "(LAidRegister$Gifts;II)V" } : Jvm.MethodName) ({ cls := "AidRegister$Drawing", name := "draw", desc := "(LAidRegister$Gifts;II)V" } : Jvm.MethodName)) ∈ lw_all := qin_5 (i := 175) rfl rfl
theorem qw_1136 : (Jvm.Cond.code ({ cls := "AidRegister$Drawing", name := "draw", desc := "(LAidRegister$Gifts;II)V" } : Jvm.MethodName) prog_4_method_2_code (6 : Nat) (Option.none : Option Jvm.ClassFile.FieldType)) ∈ lw_all := qin_5 (i := 176) rfl rfl
theorem qw_1137 : (Jvm.Cond.methodLink "AidRegister$Drawing" (18 : Nat) ({ cls := "AidRegister$Drawing", name := "fillPool", desc := "(LAidRegister$Gifts;)V" } : Jvm.MethodName)) ∈ lw_all := qin_5 (i := 177) rfl rfl
theorem qw_1139 : (Jvm.Cond.instanceMethod ({ cls := "AidRegister$Drawing", name := "fillPool", desc := "(LAidRegister$Gifts;)V" } : Jvm.MethodName)) ∈ lw_all := qin_5 (i := 179) rfl rfl
theorem qw_1140 : (Jvm.Cond.code ({ cls := "AidRegister$Drawing", name := "fillPool", desc := "(LAidRegister$Gifts;)V" } : Jvm.MethodName) prog_4_method_3_code (3 : Nat) (Option.none : Option Jvm.ClassFile.FieldType)) ∈ lw_all := qin_5 (i := 180) rfl rfl
theorem qw_1141 : (Jvm.Cond.methodLink "AidRegister$Drawing" (36 : Nat) ({ cls := "AidRegister$Gifts", name := "slotCount", desc := "()I" } : Jvm.MethodName)) ∈ lw_all := qin_5 (i := 181) rfl rfl
theorem qw_1142 : (Jvm.Cond.methodLink "AidRegister$Drawing" (42 : Nat) ({ cls := "AidRegister$Gifts", name := "isPart", desc := "(I)Z" } : Jvm.MethodName)) ∈ lw_all := qin_5 (i := 182) rfl rfl
theorem qw_1143 : (Jvm.Cond.constant "AidRegister$Drawing" (29 : Nat) (1103515245 : Int32)) ∈ lw_all := qin_5 (i := 183) rfl rfl
theorem qw_1144 : (Jvm.Cond.constant "AidRegister$Drawing" (30 : Nat) (2147483647 : Int32)) ∈ lw_all := qin_5 (i := 184) rfl rfl
theorem qw_1145 : (Jvm.Cond.constant "AidRegister$Drawing" (31 : Nat) (65536 : Int32)) ∈ lw_all := qin_5 (i := 185) rfl rfl
theorem qw_1146 : (Jvm.Cond.methodLink "AidRegister$Drawing" (32 : Nat) ({ cls := "AidRegister$Drawing", name := "dropFromPool", desc := "(I)V" } : Jvm.MethodName)) ∈ lw_all := qin_5 (i := 186) rfl rfl
theorem qw_1148 : (Jvm.Cond.instanceMethod ({ cls := "AidRegister$Drawing", name := "dropFromPool", desc := "(I)V" } : Jvm.MethodName)) ∈ lw_all := qin_5 (i := 188) rfl rfl
theorem qw_1149 : (Jvm.Cond.code ({ cls := "AidRegister$Drawing", name := "dropFromPool", desc := "(I)V" } : Jvm.MethodName) prog_4_method_4_code (3 : Nat) (Option.none : Option Jvm.ClassFile.FieldType)) ∈ lw_all := qin_5 (i := 189) rfl rfl
theorem qw_1150 : (Jvm.Cond.methodLink "AidRegisterLaw" (285 : Nat) ({ cls := "AidRegisterLaw", name := "wrongIn", desc := "(LAidRegister;II[J)I" } : Jvm.MethodName)) ∈ lw_all := qin_5 (i := 190) rfl rfl
theorem qw_1151 : (Jvm.Cond.static ({ cls := "AidRegisterLaw", name := "wrongIn", desc := "(LAidRegister;II[J)I" } : Jvm.MethodName)) ∈ lw_all := qin_5 (i := 191) rfl rfl
theorem qw_1153 : (Jvm.Cond.methodLink "AidRegisterLaw" (118 : Nat) ({ cls := "AidRegister", name := "wrongIn", desc := "(II)I" } : Jvm.MethodName)) ∈ lw_all := qin_5 (i := 193) rfl rfl
theorem qw_1154 : (Jvm.Cond.instanceMethod ({ cls := "AidRegister", name := "wrongIn", desc := "(II)I" } : Jvm.MethodName)) ∈ lw_all := qin_5 (i := 194) rfl rfl
theorem qw_1155 : (Jvm.Cond.selects "AidRegister" ({ cls := "AidRegister", name := "wrongIn", desc := "(II)I" } : Jvm.MethodName) ({ cls := "AidRegister", name := "wrongIn", desc := "(II)I" } : Jvm.MethodName)) ∈ lw_all := qin_5 (i := 195) rfl rfl
theorem qw_1156 : (Jvm.Cond.code ({ cls := "AidRegister", name := "wrongIn", desc := "(II)I" } : Jvm.MethodName) prog_1_method_45_code (5 : Nat) (Option.some Jvm.ClassFile.FieldType.int)) ∈ lw_all := qin_5 (i := 196) rfl rfl
theorem qw_1157 : (Jvm.Cond.methodLink "AidRegisterLaw" (288 : Nat) ({ cls := "AidRegisterLaw", name := "estimate", desc := "(LAidRegister;II[D)I" } : Jvm.MethodName)) ∈ lw_all := qin_5 (i := 197) rfl rfl
theorem qw_1158 : (Jvm.Cond.static ({ cls := "AidRegisterLaw", name := "estimate", desc := "(LAidRegister;II[D)I" } : Jvm.MethodName)) ∈ lw_all := qin_5 (i := 198) rfl rfl
theorem qw_1160 : (Jvm.Cond.methodLink "AidRegisterLaw" (121 : Nat) ({ cls := "AidRegister", name := "estimate", desc := "(II)D" } : Jvm.MethodName)) ∈ lw_all := qin_5 (i := 200) rfl rfl
theorem qw_1161 : (Jvm.Cond.instanceMethod ({ cls := "AidRegister", name := "estimate", desc := "(II)D" } : Jvm.MethodName)) ∈ lw_all := qin_5 (i := 201) rfl rfl
theorem qw_1162 : (Jvm.Cond.selects "AidRegister" ({ cls := "AidRegister", name := "estimate", desc := "(II)D" } : Jvm.MethodName) ({ cls := "AidRegister", name := "estimate", desc := "(II)D" } : Jvm.MethodName)) ∈ lw_all := qin_5 (i := 202) rfl rfl
theorem qw_1163 : (Jvm.Cond.code ({ cls := "AidRegister", name := "estimate", desc := "(II)D" } : Jvm.MethodName) prog_1_method_46_code (6 : Nat) (Option.some Jvm.ClassFile.FieldType.double)) ∈ lw_all := qin_5 (i := 203) rfl rfl
theorem qw_1164 : (Jvm.Cond.methodLink "AidRegisterLaw" (302 : Nat) ({ cls := "AidRegisterLaw", name := "printStatement", desc := "(LAidRegister;I[J)I" } : Jvm.MethodName)) ∈ lw_all := qin_5 (i := 204) rfl rfl
theorem qw_1165 : (Jvm.Cond.static ({ cls := "AidRegisterLaw", name := "printStatement", desc := "(LAidRegister;I[J)I" } : Jvm.MethodName)) ∈ lw_all := qin_5 (i := 205) rfl rfl
theorem qw_1167 : (Jvm.Cond.methodLink "AidRegisterLaw" (125 : Nat) ({ cls := "AidRegister", name := "printStatement", desc := "(I)I" } : Jvm.MethodName)) ∈ lw_all := qin_5 (i := 207) rfl rfl
theorem qw_1168 : (Jvm.Cond.instanceMethod ({ cls := "AidRegister", name := "printStatement", desc := "(I)I" } : Jvm.MethodName)) ∈ lw_all := qin_5 (i := 208) rfl rfl
theorem qw_1169 : (Jvm.Cond.selects "AidRegister" ({ cls := "AidRegister", name := "printStatement", desc := "(I)I" } : Jvm.MethodName) ({ cls := "AidRegister", name := "printStatement", desc := "(I)I" } : Jvm.MethodName)) ∈ lw_all := qin_5 (i := 209) rfl rfl
theorem qw_1170 : (Jvm.Cond.code ({ cls := "AidRegister", name := "printStatement", desc := "(I)I" } : Jvm.MethodName) prog_1_method_49_code (3 : Nat) (Option.some Jvm.ClassFile.FieldType.int)) ∈ lw_all := qin_5 (i := 210) rfl rfl
theorem qw_1171 : (Jvm.Cond.methodLink "AidRegister" (349 : Nat) ({ cls := "AidRegister$Printout", name := "clear", desc := "()V" } : Jvm.MethodName)) ∈ lw_all := qin_5 (i := 211) rfl rfl
theorem qw_1172 : (Jvm.Cond.instanceMethod ({ cls := "AidRegister$Printout", name := "clear", desc := "()V" } : Jvm.MethodName)) ∈ lw_all := qin_5 (i := 212) rfl rfl
theorem qw_1173 : (Jvm.Cond.selects "AidRegister$Printout" ({ cls := "AidRegister$Printout", name := "clear", desc := "()V" } : Jvm.MethodName) ({ cls := "AidRegister$Printout", name := "clear", desc := "()V" } : Jvm.MethodName)) ∈ lw_all := qin_5 (i := 213) rfl rfl
theorem qw_1174 : (Jvm.Cond.code ({ cls := "AidRegister$Printout", name := "clear", desc := "()V" } : Jvm.MethodName) prog_7_method_2_code (1 : Nat) (Option.none : Option Jvm.ClassFile.FieldType)) ∈ lw_all := qin_5 (i := 214) rfl rfl
theorem qw_1175 : (Jvm.Cond.methodLink "AidRegister" (352 : Nat) ({ cls := "AidRegister$Gifts", name := "isPartOf", desc := "(II)Z" } : Jvm.MethodName)) ∈ lw_all := qin_5 (i := 215) rfl rfl
theorem qw_1176 : (Jvm.Cond.methodLink "AidRegister" (355 : Nat) ({ cls := "AidRegister$Gifts", name := "dayOfPart", desc := "(I)I" } : Jvm.MethodName)) ∈ lw_all := qin_5 (i := 216) rfl rfl
theorem qw_1177 : (Jvm.Cond.methodLink "AidRegister" (358 : Nat) ({ cls := "AidRegister$Printout", name := "putNumber", desc := "(I)V" } : Jvm.MethodName)) ∈ lw_all := qin_5 (i := 217) rfl rfl
theorem qw_1178 : (Jvm.Cond.instanceMethod ({ cls := "AidRegister$Printout", name := "putNumber", desc := "(I)V" } : Jvm.MethodName)) ∈ lw_all := qin_5 (i := 218) rfl rfl
theorem qw_1179 : (Jvm.Cond.selects "AidRegister$Printout" ({ cls := "AidRegister$Printout", name := "putNumber", desc := "(I)V" } : Jvm.MethodName) ({ cls := "AidRegister$Printout", name := "putNumber", desc := "(I)V" } : Jvm.MethodName)) ∈ lw_all := qin_5 (i := 219) rfl rfl
theorem qw_1180 : (Jvm.Cond.code ({ cls := "AidRegister$Printout", name := "putNumber", desc := "(I)V" } : Jvm.MethodName) prog_7_method_4_code (3 : Nat) (Option.none : Option Jvm.ClassFile.FieldType)) ∈ lw_all := qin_5 (i := 220) rfl rfl
theorem qw_1181 : (Jvm.Cond.constant "AidRegister$Printout" (19 : Nat) (100000 : Int32)) ∈ lw_all := qin_5 (i := 221) rfl rfl
theorem qw_1182 : (Jvm.Cond.methodLink "AidRegister$Printout" (20 : Nat) ({ cls := "AidRegister$Printout", name := "putByte", desc := "(I)V" } : Jvm.MethodName)) ∈ lw_all := qin_5 (i := 222) rfl rfl
theorem qw_1183 : (Jvm.Cond.instanceMethod ({ cls := "AidRegister$Printout", name := "putByte", desc := "(I)V" } : Jvm.MethodName)) ∈ lw_all := qin_5 (i := 223) rfl rfl
theorem qw_1184 : (Jvm.Cond.selects "AidRegister$Printout" ({ cls := "AidRegister$Printout", name := "putByte", desc := "(I)V" } : Jvm.MethodName) ({ cls := "AidRegister$Printout", name := "putByte", desc := "(I)V" } : Jvm.MethodName)) ∈ lw_all := qin_5 (i := 224) rfl rfl
theorem qw_1185 : (Jvm.Cond.code ({ cls := "AidRegister$Printout", name := "putByte", desc := "(I)V" } : Jvm.MethodName) prog_7_method_3_code (2 : Nat) (Option.none : Option Jvm.ClassFile.FieldType)) ∈ lw_all := qin_5 (i := 225) rfl rfl
theorem qw_1186 : (Jvm.Cond.methodLink "AidRegister" (361 : Nat) ({ cls := "AidRegister$Printout", name := "putByte", desc := "(I)V" } : Jvm.MethodName)) ∈ lw_all := qin_5 (i := 226) rfl rfl
theorem qw_1187 : (Jvm.Cond.methodLink "AidRegisterLaw" (317 : Nat) ({ cls := "AidRegisterLaw", name := "restoreState", desc := "(LAidRegister;[J)I" } : Jvm.MethodName)) ∈ lw_all := qin_5 (i := 227) rfl rfl
theorem qw_1188 : (Jvm.Cond.static ({ cls := "AidRegisterLaw", name := "restoreState", desc := "(LAidRegister;[J)I" } : Jvm.MethodName)) ∈ lw_all := qin_5 (i := 228) rfl rfl
theorem qw_1190 : (Jvm.Cond.methodLink "AidRegisterLaw" (128 : Nat) ({ cls := "AidRegister", name := "restoreState", desc := "()I" } : Jvm.MethodName)) ∈ lw_all := qin_5 (i := 230) rfl rfl
theorem qw_1191 : (Jvm.Cond.instanceMethod ({ cls := "AidRegister", name := "restoreState", desc := "()I" } : Jvm.MethodName)) ∈ lw_all := qin_5 (i := 231) rfl rfl
theorem qw_1192 : (Jvm.Cond.selects "AidRegister" ({ cls := "AidRegister", name := "restoreState", desc := "()I" } : Jvm.MethodName) ({ cls := "AidRegister", name := "restoreState", desc := "()I" } : Jvm.MethodName)) ∈ lw_all := qin_5 (i := 232) rfl rfl
theorem qw_1193 : (Jvm.Cond.code ({ cls := "AidRegister", name := "restoreState", desc := "()I" } : Jvm.MethodName) prog_1_method_53_code (1 : Nat) (Option.some Jvm.ClassFile.FieldType.int)) ∈ lw_all := qin_5 (i := 233) rfl rfl
theorem qw_1195 : (Jvm.Cond.classLink "AidRegisterLaw" (133 : Nat) "AidRegisterModel") ∈ lw_all := qin_5 (i := 235) rfl rfl
theorem qw_1196 : (Jvm.Cond.instantiable "AidRegisterModel" (32 : Nat)) ∈ lw_all := qin_5 (i := 236) rfl rfl
theorem qw_1197 : (Jvm.Cond.methodLink "AidRegisterLaw" (135 : Nat) ({ cls := "AidRegisterModel", name := "<init>", desc := "()V" } : Jvm.MethodName)) ∈ lw_all := qin_5 (i := 237) rfl rfl
theorem qw_1198 : (Jvm.Cond.instanceMethod ({ cls := "AidRegisterModel", name := "<init>", desc := "()V" } : Jvm.MethodName)) ∈ lw_all := qin_5 (i := 238) rfl rfl
theorem qw_1199 : (Jvm.Cond.code ({ cls := "AidRegisterModel", name := "<init>", desc := "()V" } : Jvm.MethodName) prog_10_method_1_code (1 : Nat) (Option.none : Option Jvm.ClassFile.FieldType)) ∈ lw_all := qin_5 (i := 239) rfl rfl
theorem qw_1200 : (Jvm.Cond.methodLink "AidRegisterModel" (1 : Nat) ({ cls := "java/lang/Object", name := "<init>", desc := "()V" } : Jvm.MethodName)) ∈ lw_all := qin_6 (i := 0) rfl rfl
theorem qw_1201 : (Jvm.Cond.methodLink "AidRegisterModel" (62 : Nat) ({ cls := "AidRegisterModel", name := "clear", desc := "()V" } : Jvm.MethodName)) ∈ lw_all := qin_6 (i := 1) rfl rfl
theorem qw_1203 : (Jvm.Cond.instanceMethod ({ cls := "AidRegisterModel", name := "clear", desc := "()V" } : Jvm.MethodName)) ∈ lw_all := qin_6 (i := 3) rfl rfl
theorem qw_1204 : (Jvm.Cond.code ({ cls := "AidRegisterModel", name := "clear", desc := "()V" } : Jvm.MethodName) prog_10_method_6_code (2 : Nat) (Option.none : Option Jvm.ClassFile.FieldType)) ∈ lw_all := qin_6 (i := 4) rfl rfl
theorem qw_1205 : (Jvm.Cond.fieldLink "AidRegisterModel" (7 : Nat) "AidRegisterModel" "w" "[I") ∈ lw_all := qin_6 (i := 5) rfl rfl
theorem qw_1206 : (Jvm.Cond.fieldLink "AidRegisterModel" (13 : Nat) "AidRegisterModel" "wKept" "[I") ∈ lw_all := qin_6 (i := 6) rfl rfl
theorem qw_1207 : (Jvm.Cond.fieldLink "AidRegisterModel" (16 : Nat) "AidRegisterModel" "savedRow" "[I") ∈ lw_all := qin_6 (i := 7) rfl rfl
theorem qw_1208 : (Jvm.Cond.fieldLink "AidRegisterModel" (19 : Nat) "AidRegisterModel" "aside" "[I") ∈ lw_all := qin_6 (i := 8) rfl rfl
theorem qw_1209 : (Jvm.Cond.fieldLink "AidRegisterModel" (22 : Nat) "AidRegisterModel" "past" "[I") ∈ lw_all := qin_6 (i := 9) rfl rfl
theorem qw_1210 : (Jvm.Cond.fieldLink "AidRegisterModel" (68 : Nat) "AidRegisterModel" "pastMany" "I") ∈ lw_all := qin_6 (i := 10) rfl rfl
theorem qw_1211 : (Jvm.Cond.fieldLink "AidRegisterModel" (258 : Nat) "AidRegisterModel" "isSaved" "Z") ∈ lw_all := qin_6 (i := 11) rfl rfl
theorem qw_1212 : (Jvm.Cond.fieldLink "AidRegisterModel" (25 : Nat) "AidRegisterModel" "names" "[I") ∈ lw_all := qin_6 (i := 12) rfl rfl
theorem qw_1213 : (Jvm.Cond.fieldLink "AidRegisterModel" (28 : Nat) "AidRegisterModel" "namesKept" "[I") ∈ lw_all := qin_6 (i := 13) rfl rfl
theorem qw_1214 : (Jvm.Cond.fieldLink "AidRegisterModel" (65 : Nat) "AidRegisterModel" "thrown" "I") ∈ lw_all := qin_6 (i := 14) rfl rfl
theorem qw_1215 : (Jvm.Cond.fieldLink "AidRegisterModel" (31 : Nat) "AidRegisterModel" "order" "[I") ∈ lw_all := qin_6 (i := 15) rfl rfl
theorem qw_1216 : (Jvm.Cond.fieldLink "AidRegisterModel" (34 : Nat) "AidRegisterModel" "had" "[I") ∈ lw_all := qin_6 (i := 16) rfl rfl
theorem qw_1217 : (Jvm.Cond.fieldLink "AidRegisterModel" (37 : Nat) "AidRegisterModel" "aid" "[I") ∈ lw_all := qin_6 (i := 17) rfl rfl
theorem qw_1218 : (Jvm.Cond.fieldLink "AidRegisterModel" (40 : Nat) "AidRegisterModel" "wish" "[I") ∈ lw_all := qin_6 (i := 18) rfl rfl
theorem qw_1219 : (Jvm.Cond.fieldLink "AidRegisterModel" (43 : Nat) "AidRegisterModel" "input" "[I") ∈ lw_all := qin_6 (i := 19) rfl rfl
theorem qw_1220 : (Jvm.Cond.fieldLink "AidRegisterModel" (127 : Nat) "AidRegisterModel" "inputMany" "I") ∈ lw_all := qin_6 (i := 20) rfl rfl
theorem qw_1221 : (Jvm.Cond.fieldLink "AidRegisterModel" (255 : Nat) "AidRegisterModel" "lastError" "I") ∈ lw_all := qin_6 (i := 21) rfl rfl
theorem qw_1222 : (Jvm.Cond.fieldLink "AidRegisterModel" (46 : Nat) "AidRegisterModel" "lastOffset" "I") ∈ lw_all := qin_6 (i := 22) rfl rfl
theorem qw_1223 : (Jvm.Cond.fieldLink "AidRegisterModel" (149 : Nat) "AidRegisterModel" "error" "I") ∈ lw_all := qin_6 (i := 23) rfl rfl
theorem qw_1224 : (Jvm.Cond.fieldLink "AidRegisterModel" (152 : Nat) "AidRegisterModel" "offset" "I") ∈ lw_all := qin_6 (i := 24) rfl rfl
theorem qw_1225 : (Jvm.Cond.fieldLink "AidRegisterModel" (134 : Nat) "AidRegisterModel" "nextByte" "I") ∈ lw_all := qin_6 (i := 25) rfl rfl
theorem qw_1226 : (Jvm.Cond.fieldLink "AidRegisterModel" (140 : Nat) "AidRegisterModel" "begin" "I") ∈ lw_all := qin_6 (i := 26) rfl rfl
theorem qw_1227 : (Jvm.Cond.fieldLink "AidRegisterModel" (143 : Nat) "AidRegisterModel" "value" "I") ∈ lw_all := qin_6 (i := 27) rfl rfl
theorem qw_1228 : (Jvm.Cond.fieldLink "AidRegisterModel" (146 : Nat) "AidRegisterModel" "token" "I") ∈ lw_all := qin_6 (i := 28) rfl rfl
theorem qw_1229 : (Jvm.Cond.fieldLink "AidRegisterModel" (227 : Nat) "AidRegisterModel" "hasRules" "Z") ∈ lw_all := qin_6 (i := 29) rfl rfl
theorem qw_1230 : (Jvm.Cond.fieldLink "AidRegisterModel" (50 : Nat) "AidRegisterModel" "weights" "[I") ∈ lw_all := qin_6 (i := 30) rfl rfl
theorem qw_1231 : (Jvm.Cond.fieldLink "AidRegisterModel" (53 : Nat) "AidRegisterModel" "open" "[I") ∈ lw_all := qin_6 (i := 31) rfl rfl
theorem qw_1232 : (Jvm.Cond.fieldLink "AidRegisterModel" (344 : Nat) "AidRegisterModel" "openMany" "I") ∈ lw_all := qin_6 (i := 32) rfl rfl
theorem qw_1233 : (Jvm.Cond.fieldLink "AidRegisterModel" (56 : Nat) "AidRegisterModel" "drawn" "[I") ∈ lw_all := qin_6 (i := 33) rfl rfl
theorem qw_1234 : (Jvm.Cond.fieldLink "AidRegisterModel" (347 : Nat) "AidRegisterModel" "drawnMany" "I") ∈ lw_all := qin_6 (i := 34) rfl rfl
theorem qw_1235 : (Jvm.Cond.fieldLink "AidRegisterModel" (59 : Nat) "AidRegisterModel" "output" "[I") ∈ lw_all := qin_6 (i := 35) rfl rfl
theorem qw_1236 : (Jvm.Cond.fieldLink "AidRegisterModel" (360 : Nat) "AidRegisterModel" "outputMany" "I") ∈ lw_all := qin_6 (i := 36) rfl rfl
theorem qw_1237 : (Jvm.Cond.laysFinal "AidRegisterModel" "AidRegisterModel" "w" "[I") ∈ lw_all := qin_6 (i := 37) rfl rfl
theorem qw_1239 : (Jvm.Cond.laysFinal "AidRegisterModel" "AidRegisterModel" "wKept" "[I") ∈ lw_all := qin_6 (i := 39) rfl rfl
theorem qw_1241 : (Jvm.Cond.laysFinal "AidRegisterModel" "AidRegisterModel" "savedRow" "[I") ∈ lw_all := qin_6 (i := 41) rfl rfl
theorem qw_1243 : (Jvm.Cond.laysFinal "AidRegisterModel" "AidRegisterModel" "aside" "[I") ∈ lw_all := qin_6 (i := 43) rfl rfl
theorem qw_1245 : (Jvm.Cond.laysFinal "AidRegisterModel" "AidRegisterModel" "past" "[I") ∈ lw_all := qin_6 (i := 45) rfl rfl
theorem qw_1247 : (Jvm.Cond.lays "AidRegisterModel" "AidRegisterModel" "pastMany" "I") ∈ lw_all := qin_6 (i := 47) rfl rfl
theorem qw_1249 : (Jvm.Cond.lays "AidRegisterModel" "AidRegisterModel" "isSaved" "Z") ∈ lw_all := qin_6 (i := 49) rfl rfl
theorem qw_1251 : (Jvm.Cond.laysFinal "AidRegisterModel" "AidRegisterModel" "names" "[I") ∈ lw_all := qin_6 (i := 51) rfl rfl
theorem qw_1253 : (Jvm.Cond.laysFinal "AidRegisterModel" "AidRegisterModel" "namesKept" "[I") ∈ lw_all := qin_6 (i := 53) rfl rfl
theorem qw_1255 : (Jvm.Cond.lays "AidRegisterModel" "AidRegisterModel" "thrown" "I") ∈ lw_all := qin_6 (i := 55) rfl rfl
theorem qw_1257 : (Jvm.Cond.laysFinal "AidRegisterModel" "AidRegisterModel" "order" "[I") ∈ lw_all := qin_6 (i := 57) rfl rfl
theorem qw_1259 : (Jvm.Cond.laysFinal "AidRegisterModel" "AidRegisterModel" "had" "[I") ∈ lw_all := qin_6 (i := 59) rfl rfl
theorem qw_1261 : (Jvm.Cond.laysFinal "AidRegisterModel" "AidRegisterModel" "aid" "[I") ∈ lw_all := qin_6 (i := 61) rfl rfl
theorem qw_1263 : (Jvm.Cond.laysFinal "AidRegisterModel" "AidRegisterModel" "wish" "[I") ∈ lw_all := qin_6 (i := 63) rfl rfl
theorem qw_1265 : (Jvm.Cond.laysFinal "AidRegisterModel" "AidRegisterModel" "input" "[I") ∈ lw_all := qin_6 (i := 65) rfl rfl
theorem qw_1267 : (Jvm.Cond.lays "AidRegisterModel" "AidRegisterModel" "inputMany" "I") ∈ lw_all := qin_6 (i := 67) rfl rfl
theorem qw_1269 : (Jvm.Cond.lays "AidRegisterModel" "AidRegisterModel" "lastError" "I") ∈ lw_all := qin_6 (i := 69) rfl rfl
theorem qw_1271 : (Jvm.Cond.lays "AidRegisterModel" "AidRegisterModel" "lastOffset" "I") ∈ lw_all := qin_6 (i := 71) rfl rfl
theorem qw_1273 : (Jvm.Cond.lays "AidRegisterModel" "AidRegisterModel" "error" "I") ∈ lw_all := qin_6 (i := 73) rfl rfl
theorem qw_1275 : (Jvm.Cond.lays "AidRegisterModel" "AidRegisterModel" "offset" "I") ∈ lw_all := qin_6 (i := 75) rfl rfl
theorem qw_1277 : (Jvm.Cond.lays "AidRegisterModel" "AidRegisterModel" "nextByte" "I") ∈ lw_all := qin_6 (i := 77) rfl rfl
theorem qw_1279 : (Jvm.Cond.lays "AidRegisterModel" "AidRegisterModel" "begin" "I") ∈ lw_all := qin_6 (i := 79) rfl rfl
theorem qw_1281 : (Jvm.Cond.lays "AidRegisterModel" "AidRegisterModel" "value" "I") ∈ lw_all := qin_6 (i := 81) rfl rfl
theorem qw_1283 : (Jvm.Cond.lays "AidRegisterModel" "AidRegisterModel" "token" "I") ∈ lw_all := qin_6 (i := 83) rfl rfl
theorem qw_1285 : (Jvm.Cond.lays "AidRegisterModel" "AidRegisterModel" "hasRules" "Z") ∈ lw_all := qin_6 (i := 85) rfl rfl
theorem qw_1287 : (Jvm.Cond.laysFinal "AidRegisterModel" "AidRegisterModel" "weights" "[I") ∈ lw_all := qin_6 (i := 87) rfl rfl
theorem qw_1289 : (Jvm.Cond.laysFinal "AidRegisterModel" "AidRegisterModel" "open" "[I") ∈ lw_all := qin_6 (i := 89) rfl rfl
theorem qw_1291 : (Jvm.Cond.lays "AidRegisterModel" "AidRegisterModel" "openMany" "I") ∈ lw_all := qin_6 (i := 91) rfl rfl
theorem qw_1293 : (Jvm.Cond.laysFinal "AidRegisterModel" "AidRegisterModel" "drawn" "[I") ∈ lw_all := qin_6 (i := 93) rfl rfl
theorem qw_1295 : (Jvm.Cond.lays "AidRegisterModel" "AidRegisterModel" "drawnMany" "I") ∈ lw_all := qin_6 (i := 95) rfl rfl
theorem qw_1297 : (Jvm.Cond.laysFinal "AidRegisterModel" "AidRegisterModel" "output" "[I") ∈ lw_all := qin_6 (i := 97) rfl rfl
theorem qw_1299 : (Jvm.Cond.lays "AidRegisterModel" "AidRegisterModel" "outputMany" "I") ∈ lw_all := qin_6 (i := 99) rfl rfl
theorem qw_1302 : (Jvm.Cond.methodLink "AidRegisterLaw" (164 : Nat) ({ cls := "AidRegisterModel", name := "thrown", desc := "()I" } : Jvm.MethodName)) ∈ lw_all := qin_6 (i := 102) rfl rfl
theorem qw_1303 : (Jvm.Cond.instanceMethod ({ cls := "AidRegisterModel", name := "thrown", desc := "()I" } : Jvm.MethodName)) ∈ lw_all := qin_6 (i := 103) rfl rfl
theorem qw_1304 : (Jvm.Cond.selects "AidRegisterModel" ({ cls := "AidRegisterModel", name := "thrown", desc := "()I" } : Jvm.MethodName) ({ cls := "AidRegisterModel", name := "thrown", desc := "()I" } : Jvm.MethodName)) ∈ lw_all := qin_6 (i := 104) rfl rfl
theorem qw_1305 : (Jvm.Cond.code ({ cls := "AidRegisterModel", name := "thrown", desc := "()I" } : Jvm.MethodName) prog_10_method_2_code (1 : Nat) (Option.some Jvm.ClassFile.FieldType.int)) ∈ lw_all := qin_6 (i := 105) rfl rfl
theorem qw_1306 : (Jvm.Cond.methodLink "AidRegisterLaw" (140 : Nat) ({ cls := "AidRegisterModel", name := "appendInput", desc := "(IIIII)I" } : Jvm.MethodName)) ∈ lw_all := qin_6 (i := 106) rfl rfl
theorem qw_1307 : (Jvm.Cond.instanceMethod ({ cls := "AidRegisterModel", name := "appendInput", desc := "(IIIII)I" } : Jvm.MethodName)) ∈ lw_all := qin_6 (i := 107) rfl rfl
theorem qw_1308 : (Jvm.Cond.selects "AidRegisterModel" ({ cls := "AidRegisterModel", name := "appendInput", desc := "(IIIII)I" } : Jvm.MethodName) ({ cls := "AidRegisterModel", name := "appendInput", desc := "(IIIII)I" } : Jvm.MethodName)) ∈ lw_all := qin_6 (i := 108) rfl rfl
theorem qw_1309 : (Jvm.Cond.code ({ cls := "AidRegisterModel", name := "appendInput", desc := "(IIIII)I" } : Jvm.MethodName) prog_10_method_26_code (6 : Nat) (Option.some Jvm.ClassFile.FieldType.int)) ∈ lw_all := qin_6 (i := 109) rfl rfl
theorem qw_1310 : (Jvm.Cond.methodLink "AidRegisterModel" (130 : Nat) ({ cls := "AidRegisterModel", name := "appendWord", desc := "(I)V" } : Jvm.MethodName)) ∈ lw_all := qin_6 (i := 110) rfl rfl
theorem qw_1312 : (Jvm.Cond.instanceMethod ({ cls := "AidRegisterModel", name := "appendWord", desc := "(I)V" } : Jvm.MethodName)) ∈ lw_all := qin_6 (i := 112) rfl rfl
theorem qw_1313 : (Jvm.Cond.code ({ cls := "AidRegisterModel", name := "appendWord", desc := "(I)V" } : Jvm.MethodName) prog_10_method_25_code (3 : Nat) (Option.none : Option Jvm.ClassFile.FieldType)) ∈ lw_all := qin_6 (i := 113) rfl rfl
theorem qw_1314 : (Jvm.Cond.methodLink "AidRegisterLaw" (145 : Nat) ({ cls := "AidRegisterModel", name := "truncateInput", desc := "(I)Z" } : Jvm.MethodName)) ∈ lw_all := qin_6 (i := 114) rfl rfl
theorem qw_1315 : (Jvm.Cond.instanceMethod ({ cls := "AidRegisterModel", name := "truncateInput", desc := "(I)Z" } : Jvm.MethodName)) ∈ lw_all := qin_6 (i := 115) rfl rfl
theorem qw_1316 : (Jvm.Cond.selects "AidRegisterModel" ({ cls := "AidRegisterModel", name := "truncateInput", desc := "(I)Z" } : Jvm.MethodName) ({ cls := "AidRegisterModel", name := "truncateInput", desc := "(I)Z" } : Jvm.MethodName)) ∈ lw_all := qin_6 (i := 116) rfl rfl
theorem qw_1317 : (Jvm.Cond.code ({ cls := "AidRegisterModel", name := "truncateInput", desc := "(I)Z" } : Jvm.MethodName) prog_10_method_27_code (2 : Nat) (Option.some Jvm.ClassFile.FieldType.boolean)) ∈ lw_all := qin_6 (i := 117) rfl rfl
theorem qw_1318 : (Jvm.Cond.methodLink "AidRegisterModel" (79 : Nat) ({ cls := "AidRegisterModel", name := "inRange", desc := "(III)Z" } : Jvm.MethodName)) ∈ lw_all := qin_6 (i := 118) rfl rfl
theorem qw_1319 : (Jvm.Cond.static ({ cls := "AidRegisterModel", name := "inRange", desc := "(III)Z" } : Jvm.MethodName)) ∈ lw_all := qin_6 (i := 119) rfl rfl
theorem qw_1320 : (Jvm.Cond.code ({ cls := "AidRegisterModel", name := "inRange", desc := "(III)Z" } : Jvm.MethodName) prog_10_method_3_code (3 : Nat) (Option.some Jvm.ClassFile.FieldType.boolean)) ∈ lw_all := qin_6 (i := 120) rfl rfl
theorem qw_1321 : (Jvm.Cond.methodLink "AidRegisterLaw" (149 : Nat) ({ cls := "AidRegisterModel", name := "loadRegister", desc := "()I" } : Jvm.MethodName)) ∈ lw_all := qin_6 (i := 121) rfl rfl
theorem qw_1322 : (Jvm.Cond.instanceMethod ({ cls := "AidRegisterModel", name := "loadRegister", desc := "()I" } : Jvm.MethodName)) ∈ lw_all := qin_6 (i := 122) rfl rfl
theorem qw_1323 : (Jvm.Cond.selects "AidRegisterModel" ({ cls := "AidRegisterModel", name := "loadRegister", desc := "()I" } : Jvm.MethodName) ({ cls := "AidRegisterModel", name := "loadRegister", desc := "()I" } : Jvm.MethodName)) ∈ lw_all := qin_6 (i := 123) rfl rfl
theorem qw_1324 : (Jvm.Cond.code ({ cls := "AidRegisterModel", name := "loadRegister", desc := "()I" } : Jvm.MethodName) prog_10_method_50_code (2 : Nat) (Option.some Jvm.ClassFile.FieldType.int)) ∈ lw_all := qin_6 (i := 124) rfl rfl
theorem qw_1325 : (Jvm.Cond.methodLink "AidRegisterModel" (71 : Nat) ({ cls := "AidRegisterModel", name := "copies", desc := "([II[III)V" } : Jvm.MethodName)) ∈ lw_all := qin_6 (i := 125) rfl rfl
theorem qw_1326 : (Jvm.Cond.static ({ cls := "AidRegisterModel", name := "copies", desc := "([II[III)V" } : Jvm.MethodName)) ∈ lw_all := qin_6 (i := 126) rfl rfl
theorem qw_1327 : (Jvm.Cond.code ({ cls := "AidRegisterModel", name := "copies", desc := "([II[III)V" } : Jvm.MethodName) prog_10_method_5_code (6 : Nat) (Option.none : Option Jvm.ClassFile.FieldType)) ∈ lw_all := qin_6 (i := 127) rfl rfl
theorem qw_1328 : (Jvm.Cond.methodLink "AidRegisterModel" (171 : Nat) ({ cls := "AidRegisterModel", name := "advanceToken", desc := "()V" } : Jvm.MethodName)) ∈ lw_all := qin_6 (i := 128) rfl rfl
theorem qw_1330 : (Jvm.Cond.instanceMethod ({ cls := "AidRegisterModel", name := "advanceToken", desc := "()V" } : Jvm.MethodName)) ∈ lw_all := qin_6 (i := 130) rfl rfl
theorem qw_1331 : (Jvm.Cond.code ({ cls := "AidRegisterModel", name := "advanceToken", desc := "()V" } : Jvm.MethodName) prog_10_method_29_code (2 : Nat) (Option.none : Option Jvm.ClassFile.FieldType)) ∈ lw_all := qin_6 (i := 131) rfl rfl
theorem qw_1332 : (Jvm.Cond.methodLink "AidRegisterModel" (137 : Nat) ({ cls := "AidRegisterModel", name := "byteAt", desc := "(I)I" } : Jvm.MethodName)) ∈ lw_all := qin_6 (i := 132) rfl rfl
theorem qw_1334 : (Jvm.Cond.instanceMethod ({ cls := "AidRegisterModel", name := "byteAt", desc := "(I)I" } : Jvm.MethodName)) ∈ lw_all := qin_6 (i := 134) rfl rfl
theorem qw_1335 : (Jvm.Cond.code ({ cls := "AidRegisterModel", name := "byteAt", desc := "(I)I" } : Jvm.MethodName) prog_10_method_28_code (2 : Nat) (Option.some Jvm.ClassFile.FieldType.int)) ∈ lw_all := qin_6 (i := 135) rfl rfl
theorem qw_1336 : (Jvm.Cond.methodLink "AidRegisterModel" (252 : Nat) ({ cls := "AidRegisterModel", name := "readText", desc := "()Z" } : Jvm.MethodName)) ∈ lw_all := qin_6 (i := 136) rfl rfl
theorem qw_1338 : (Jvm.Cond.instanceMethod ({ cls := "AidRegisterModel", name := "readText", desc := "()Z" } : Jvm.MethodName)) ∈ lw_all := qin_6 (i := 138) rfl rfl
theorem qw_1339 : (Jvm.Cond.code ({ cls := "AidRegisterModel", name := "readText", desc := "()Z" } : Jvm.MethodName) prog_10_method_49_code (1 : Nat) (Option.some Jvm.ClassFile.FieldType.boolean)) ∈ lw_all := qin_6 (i := 139) rfl rfl
theorem qw_1340 : (Jvm.Cond.methodLink "AidRegisterModel" (249 : Nat) ({ cls := "AidRegisterModel", name := "readStatement", desc := "()Z" } : Jvm.MethodName)) ∈ lw_all := qin_6 (i := 140) rfl rfl
theorem qw_1342 : (Jvm.Cond.instanceMethod ({ cls := "AidRegisterModel", name := "readStatement", desc := "()Z" } : Jvm.MethodName)) ∈ lw_all := qin_6 (i := 142) rfl rfl
theorem qw_1343 : (Jvm.Cond.code ({ cls := "AidRegisterModel", name := "readStatement", desc := "()Z" } : Jvm.MethodName) prog_10_method_48_code (1 : Nat) (Option.some Jvm.ClassFile.FieldType.boolean)) ∈ lw_all := qin_6 (i := 143) rfl rfl
theorem qw_1345 : (Jvm.Cond.methodLink "AidRegisterModel" (176 : Nat) ({ cls := "AidRegisterModel", name := "isWord", desc := "(Ljava/lang/String;)Z" } : Jvm.MethodName)) ∈ lw_all := qin_6 (i := 145) rfl rfl
theorem qw_1347 : (Jvm.Cond.instanceMethod ({ cls := "AidRegisterModel", name := "isWord", desc := "(Ljava/lang/String;)Z" } : Jvm.MethodName)) ∈ lw_all := qin_6 (i := 147) rfl rfl
theorem qw_1348 : (Jvm.Cond.code ({ cls := "AidRegisterModel", name := "isWord", desc := "(Ljava/lang/String;)Z" } : Jvm.MethodName) prog_10_method_32_code (3 : Nat) (Option.some Jvm.ClassFile.FieldType.boolean)) ∈ lw_all := qin_6 (i := 148) rfl rfl
theorem qw_1349 : (Jvm.Cond.methodLink "AidRegisterModel" (155 : Nat) ({ cls := "AidRegisterModel", name := "tokenLength", desc := "()I" } : Jvm.MethodName)) ∈ lw_all := qin_6 (i := 149) rfl rfl
theorem qw_1351 : (Jvm.Cond.instanceMethod ({ cls := "AidRegisterModel", name := "tokenLength", desc := "()I" } : Jvm.MethodName)) ∈ lw_all := qin_6 (i := 151) rfl rfl
theorem qw_1352 : (Jvm.Cond.code ({ cls := "AidRegisterModel", name := "tokenLength", desc := "()I" } : Jvm.MethodName) prog_10_method_30_code (1 : Nat) (Option.some Jvm.ClassFile.FieldType.int)) ∈ lw_all := qin_6 (i := 152) rfl rfl
theorem qw_1353 : (Jvm.Cond.methodLink "AidRegisterModel" (159 : Nat) ({ cls := "java/lang/String", name := "length", desc := "()I" } : Jvm.MethodName)) ∈ lw_all := qin_6 (i := 153) rfl rfl
theorem qw_1354 : (Jvm.Cond.instanceMethod ({ cls := "java/lang/String", name := "length", desc := "()I" } : Jvm.MethodName)) ∈ lw_all := qin_6 (i := 154) rfl rfl
theorem qw_1355 : (Jvm.Cond.selects "java/lang/String" ({ cls := "java/lang/String", name := "length", desc := "()I" } : Jvm.MethodName) ({ cls := "java/lang/String", name := "length", desc := "()I" } : Jvm.MethodName)) ∈ lw_all := qin_6 (i := 155) rfl rfl
theorem qw_1356 : (Jvm.Cond.code ({ cls := "java/lang/String", name := "length", desc := "()I" } : Jvm.MethodName) prog_17_method_54_code (1 : Nat) (Option.some Jvm.ClassFile.FieldType.int)) ∈ lw_all := qin_6 (i := 156) rfl rfl
theorem qw_1357 : (Jvm.Cond.methodLink "java/lang/String" (335 : Nat) ({ cls := "java/lang/String", name := "coder", desc := "()B" } : Jvm.MethodName)) ∈ lw_all := qin_6 (i := 157) rfl rfl
theorem qw_1358 : (Jvm.Cond.instanceMethod ({ cls := "java/lang/String", name := "coder", desc := "()B" } : Jvm.MethodName)) ∈ lw_all := qin_6 (i := 158) rfl rfl
theorem qw_1359 : (Jvm.Cond.selects "java/lang/String" ({ cls := "java/lang/String", name := "coder", desc := "()B" } : Jvm.MethodName) ({ cls := "java/lang/String", name := "coder", desc := "()B" } : Jvm.MethodName)) ∈ lw_all := qin_6 (i := 159) rfl rfl
theorem qw_1360 : (Jvm.Cond.code ({ cls := "java/lang/String", name := "coder", desc := "()B" } : Jvm.MethodName) prog_17_method_152_code (1 : Nat) (Option.some Jvm.ClassFile.FieldType.byte)) ∈ lw_all := qin_6 (i := 160) rfl rfl
theorem qw_1361 : (Jvm.Cond.fieldLink "java/lang/String" (38 : Nat) "java/lang/String" "COMPACT_STRINGS" "Z") ∈ lw_all := qin_6 (i := 161) rfl rfl
theorem qw_1363 : (Jvm.Cond.methodLink "AidRegisterModel" (164 : Nat) ({ cls := "java/lang/String", name := "charAt", desc := "(I)C" } : Jvm.MethodName)) ∈ lw_all := qin_6 (i := 163) rfl rfl
theorem qw_1364 : (Jvm.Cond.instanceMethod ({ cls := "java/lang/String", name := "charAt", desc := "(I)C" } : Jvm.MethodName)) ∈ lw_all := qin_6 (i := 164) rfl rfl
theorem qw_1365 : (Jvm.Cond.selects "java/lang/String" ({ cls := "java/lang/String", name := "charAt", desc := "(I)C" } : Jvm.MethodName) ({ cls := "java/lang/String", name := "charAt", desc := "(I)C" } : Jvm.MethodName)) ∈ lw_all := qin_6 (i := 165) rfl rfl
theorem qw_1366 : (Jvm.Cond.code ({ cls := "java/lang/String", name := "charAt", desc := "(I)C" } : Jvm.MethodName) prog_17_method_56_code (2 : Nat) (Option.some Jvm.ClassFile.FieldType.char)) ∈ lw_all := qin_6 (i := 166) rfl rfl
theorem qw_1367 : (Jvm.Cond.methodLink "java/lang/String" (492 : Nat) ({ cls := "java/lang/String", name := "isLatin1", desc := "()Z" } : Jvm.MethodName)) ∈ lw_all := qin_6 (i := 167) rfl rfl
theorem qw_1368 : (Jvm.Cond.instanceMethod ({ cls := "java/lang/String", name := "isLatin1", desc := "()Z" } : Jvm.MethodName)) ∈ lw_all := qin_6 (i := 168) rfl rfl
theorem qw_1369 : (Jvm.Cond.selects "java/lang/String" ({ cls := "java/lang/String", name := "isLatin1", desc := "()Z" } : Jvm.MethodName) ({ cls := "java/lang/String", name := "isLatin1", desc := "()Z" } : Jvm.MethodName)) ∈ lw_all := qin_6 (i := 169) rfl rfl
theorem qw_1370 : (Jvm.Cond.code ({ cls := "java/lang/String", name := "isLatin1", desc := "()Z" } : Jvm.MethodName) prog_17_method_154_code (1 : Nat) (Option.some Jvm.ClassFile.FieldType.boolean)) ∈ lw_all := qin_6 (i := 170) rfl rfl
theorem qw_1371 : (Jvm.Cond.methodLink "java/lang/String" (495 : Nat) ({ cls := "java/lang/StringLatin1", name := "charAt", desc := "([BI)C" } : Jvm.MethodName)) ∈ lw_all := qin_6 (i := 171) rfl rfl
theorem qw_1372 : (Jvm.Cond.static ({ cls := "java/lang/StringLatin1", name := "charAt", desc := "([BI)C" } : Jvm.MethodName)) ∈ lw_all := qin_6 (i := 172) rfl rfl
theorem qw_1373 : (Jvm.Cond.code ({ cls := "java/lang/StringLatin1", name := "charAt", desc := "([BI)C" } : Jvm.MethodName) prog_18_method_2_code (2 : Nat) (Option.some Jvm.ClassFile.FieldType.char)) ∈ lw_all := qin_6 (i := 173) rfl rfl
theorem qw_1374 : (Jvm.Cond.methodLink "java/lang/StringLatin1" (9 : Nat) ({ cls := "java/lang/String", name := "checkIndex", desc := "(II)V" } : Jvm.MethodName)) ∈ lw_all := qin_6 (i := 174) rfl rfl
theorem qw_1375 : (Jvm.Cond.static ({ cls := "java/lang/String", name := "checkIndex", desc := "(II)V" } : Jvm.MethodName)) ∈ lw_all := qin_6 (i := 175) rfl rfl
theorem qw_1376 : (Jvm.Cond.code ({ cls := "java/lang/String", name := "checkIndex", desc := "(II)V" } : Jvm.MethodName) prog_17_method_155_code (2 : Nat) (Option.none : Option Jvm.ClassFile.FieldType)) ∈ lw_all := qin_6 (i := 176) rfl rfl
theorem qw_1377 : (Jvm.Cond.fieldLink "java/lang/String" (1053 : Nat) "jdk/internal/util/Preconditions" "SIOOBE_FORMATTER" "Ljava/util/function/BiFunction;") ∈ lw_all := qin_6 (i := 177) rfl rfl
theorem qw_1379 : (Jvm.Cond.methodLink "java/lang/String" (1059 : Nat) ({ cls := "jdk/internal/util/Preconditions", name := "checkIndex", desc := "(IILjava/util/function/BiFunction;)I" } : Jvm.MethodName)) ∈ lw_all := qin_6 (i := 179) rfl rfl
theorem qw_1380 : (Jvm.Cond.static ({ cls := "jdk/internal/util/Preconditions", name := "checkIndex", desc := "(IILjava/util/function/BiFunction;)I" } : Jvm.MethodName)) ∈ lw_all := qin_6 (i := 180) rfl rfl
theorem qw_1381 : (Jvm.Cond.code ({ cls := "jdk/internal/util/Preconditions", name := "checkIndex", desc := "(IILjava/util/function/BiFunction;)I" } : Jvm.MethodName) prog_23_method_11_code (3 : Nat) (Option.some Jvm.ClassFile.FieldType.int)) ∈ lw_all := qin_6 (i := 181) rfl rfl
theorem qw_1382 : (Jvm.Cond.methodLink "java/lang/String" (498 : Nat) ({ cls := "java/lang/StringUTF16", name := "charAt", desc := "([BI)C" } : Jvm.MethodName)) ∈ lw_all := qin_6 (i := 182) rfl rfl
theorem qw_1383 : (Jvm.Cond.static ({ cls := "java/lang/StringUTF16", name := "charAt", desc := "([BI)C" } : Jvm.MethodName)) ∈ lw_all := qin_6 (i := 183) rfl rfl
theorem qw_1384 : (Jvm.Cond.code ({ cls := "java/lang/StringUTF16", name := "charAt", desc := "([BI)C" } : Jvm.MethodName) prog_19_method_83_code (2 : Nat) (Option.some Jvm.ClassFile.FieldType.char)) ∈ lw_all := qin_6 (i := 184) rfl rfl
theorem qw_1385 : (Jvm.Cond.methodLink "java/lang/StringUTF16" (67 : Nat) ({ cls := "java/lang/StringUTF16", name := "checkIndex", desc := "(I[B)V" } : Jvm.MethodName)) ∈ lw_all := qin_6 (i := 185) rfl rfl
theorem qw_1386 : (Jvm.Cond.static ({ cls := "java/lang/StringUTF16", name := "checkIndex", desc := "(I[B)V" } : Jvm.MethodName)) ∈ lw_all := qin_6 (i := 186) rfl rfl
theorem qw_1387 : (Jvm.Cond.code ({ cls := "java/lang/StringUTF16", name := "checkIndex", desc := "(I[B)V" } : Jvm.MethodName) prog_19_method_91_code (2 : Nat) (Option.none : Option Jvm.ClassFile.FieldType)) ∈ lw_all := qin_6 (i := 187) rfl rfl
theorem qw_1388 : (Jvm.Cond.methodLink "java/lang/StringUTF16" (48 : Nat) ({ cls := "java/lang/StringUTF16", name := "length", desc := "([B)I" } : Jvm.MethodName)) ∈ lw_all := qin_6 (i := 188) rfl rfl
theorem qw_1389 : (Jvm.Cond.static ({ cls := "java/lang/StringUTF16", name := "length", desc := "([B)I" } : Jvm.MethodName)) ∈ lw_all := qin_6 (i := 189) rfl rfl
theorem qw_1390 : (Jvm.Cond.code ({ cls := "java/lang/StringUTF16", name := "length", desc := "([B)I" } : Jvm.MethodName) prog_19_method_6_code (1 : Nat) (Option.some Jvm.ClassFile.FieldType.int)) ∈ lw_all := qin_6 (i := 190) rfl rfl
theorem qw_1391 : (Jvm.Cond.methodLink "java/lang/StringUTF16" (414 : Nat) ({ cls := "java/lang/String", name := "checkIndex", desc := "(II)V" } : Jvm.MethodName)) ∈ lw_all := qin_6 (i := 191) rfl rfl
theorem qw_1392 : (Jvm.Cond.methodLink "java/lang/StringUTF16" (71 : Nat) ({ cls := "java/lang/StringUTF16", name := "getChar", desc := "([BI)C" } : Jvm.MethodName)) ∈ lw_all := qin_6 (i := 192) rfl rfl
theorem qw_1393 : (Jvm.Cond.static ({ cls := "java/lang/StringUTF16", name := "getChar", desc := "([BI)C" } : Jvm.MethodName)) ∈ lw_all := qin_6 (i := 193) rfl rfl
theorem qw_1394 : (Jvm.Cond.code ({ cls := "java/lang/StringUTF16", name := "getChar", desc := "([BI)C" } : Jvm.MethodName) prog_19_method_5_code (2 : Nat) (Option.some Jvm.ClassFile.FieldType.char)) ∈ lw_all := qin_6 (i := 194) rfl rfl
theorem qw_1395 : (Jvm.Cond.fieldLink "java/lang/StringUTF16" (44 : Nat) "java/lang/StringUTF16" "$assertionsDisabled" "Z") ∈ lw_all := qin_6 (i := 195) rfl rfl
theorem qw_1397 : (Jvm.Cond.fieldLink "java/lang/StringUTF16" (59 : Nat) "java/lang/StringUTF16" "HI_BYTE_SHIFT" "I") ∈ lw_all := qin_6 (i := 197) rfl rfl
theorem qw_1399 : (Jvm.Cond.fieldLink "java/lang/StringUTF16" (63 : Nat) "java/lang/StringUTF16" "LO_BYTE_SHIFT" "I") ∈ lw_all := qin_6 (i := 199) rfl rfl
theorem qw_1401 : (Jvm.Cond.methodLink "AidRegisterModel" (231 : Nat) ({ cls := "AidRegisterModel", name := "readDonor", desc := "()Z" } : Jvm.MethodName)) ∈ lw_all := qin_6 (i := 201) rfl rfl
theorem qw_1403 : (Jvm.Cond.instanceMethod ({ cls := "AidRegisterModel", name := "readDonor", desc := "()Z" } : Jvm.MethodName)) ∈ lw_all := qin_6 (i := 203) rfl rfl
theorem qw_1404 : (Jvm.Cond.code ({ cls := "AidRegisterModel", name := "readDonor", desc := "()Z" } : Jvm.MethodName) prog_10_method_39_code (3 : Nat) (Option.some Jvm.ClassFile.FieldType.boolean)) ∈ lw_all := qin_6 (i := 204) rfl rfl
theorem qw_1405 : (Jvm.Cond.methodLink "AidRegisterModel" (197 : Nat) ({ cls := "AidRegisterModel", name := "starts", desc := "(Z)Z" } : Jvm.MethodName)) ∈ lw_all := qin_6 (i := 205) rfl rfl
theorem qw_1407 : (Jvm.Cond.instanceMethod ({ cls := "AidRegisterModel", name := "starts", desc := "(Z)Z" } : Jvm.MethodName)) ∈ lw_all := qin_6 (i := 207) rfl rfl
theorem qw_1408 : (Jvm.Cond.code ({ cls := "AidRegisterModel", name := "starts", desc := "(Z)Z" } : Jvm.MethodName) prog_10_method_34_code (2 : Nat) (Option.some Jvm.ClassFile.FieldType.boolean)) ∈ lw_all := qin_6 (i := 208) rfl rfl
theorem qw_1409 : (Jvm.Cond.methodLink "AidRegisterModel" (168 : Nat) ({ cls := "AidRegisterModel", name := "failsAt", desc := "(I)Z" } : Jvm.MethodName)) ∈ lw_all := qin_6 (i := 209) rfl rfl
theorem qw_1411 : (Jvm.Cond.instanceMethod ({ cls := "AidRegisterModel", name := "failsAt", desc := "(I)Z" } : Jvm.MethodName)) ∈ lw_all := qin_6 (i := 211) rfl rfl
theorem qw_1412 : (Jvm.Cond.code ({ cls := "AidRegisterModel", name := "failsAt", desc := "(I)Z" } : Jvm.MethodName) prog_10_method_31_code (2 : Nat) (Option.some Jvm.ClassFile.FieldType.boolean)) ∈ lw_all := qin_6 (i := 212) rfl rfl
theorem qw_1413 : (Jvm.Cond.methodLink "AidRegisterModel" (201 : Nat) ({ cls := "AidRegisterModel", name := "isName", desc := "()Z" } : Jvm.MethodName)) ∈ lw_all := qin_6 (i := 213) rfl rfl
theorem qw_1415 : (Jvm.Cond.instanceMethod ({ cls := "AidRegisterModel", name := "isName", desc := "()Z" } : Jvm.MethodName)) ∈ lw_all := qin_6 (i := 215) rfl rfl
theorem qw_1416 : (Jvm.Cond.code ({ cls := "AidRegisterModel", name := "isName", desc := "()Z" } : Jvm.MethodName) prog_10_method_37_code (1 : Nat) (Option.some Jvm.ClassFile.FieldType.boolean)) ∈ lw_all := qin_6 (i := 216) rfl rfl
theorem qw_1417 : (Jvm.Cond.methodLink "AidRegisterModel" (190 : Nat) ({ cls := "AidRegisterModel", name := "isStatement", desc := "()Z" } : Jvm.MethodName)) ∈ lw_all := qin_6 (i := 217) rfl rfl
theorem qw_1419 : (Jvm.Cond.instanceMethod ({ cls := "AidRegisterModel", name := "isStatement", desc := "()Z" } : Jvm.MethodName)) ∈ lw_all := qin_6 (i := 219) rfl rfl
theorem qw_1420 : (Jvm.Cond.code ({ cls := "AidRegisterModel", name := "isStatement", desc := "()Z" } : Jvm.MethodName) prog_10_method_35_code (1 : Nat) (Option.some Jvm.ClassFile.FieldType.boolean)) ∈ lw_all := qin_6 (i := 220) rfl rfl
theorem qw_1426 : (Jvm.Cond.methodLink "AidRegisterModel" (204 : Nat) ({ cls := "AidRegisterModel", name := "find", desc := "()I" } : Jvm.MethodName)) ∈ lw_all := qin_6 (i := 226) rfl rfl
theorem qw_1428 : (Jvm.Cond.instanceMethod ({ cls := "AidRegisterModel", name := "find", desc := "()I" } : Jvm.MethodName)) ∈ lw_all := qin_6 (i := 228) rfl rfl
theorem qw_1429 : (Jvm.Cond.code ({ cls := "AidRegisterModel", name := "find", desc := "()I" } : Jvm.MethodName) prog_10_method_38_code (4 : Nat) (Option.some Jvm.ClassFile.FieldType.int)) ∈ lw_all := qin_6 (i := 229) rfl rfl
theorem qw_1430 : (Jvm.Cond.methodLink "AidRegisterModel" (194 : Nat) ({ cls := "AidRegisterModel", name := "letterHere", desc := "(I)I" } : Jvm.MethodName)) ∈ lw_all := qin_6 (i := 230) rfl rfl
theorem qw_1432 : (Jvm.Cond.instanceMethod ({ cls := "AidRegisterModel", name := "letterHere", desc := "(I)I" } : Jvm.MethodName)) ∈ lw_all := qin_6 (i := 232) rfl rfl
theorem qw_1433 : (Jvm.Cond.code ({ cls := "AidRegisterModel", name := "letterHere", desc := "(I)I" } : Jvm.MethodName) prog_10_method_36_code (2 : Nat) (Option.some Jvm.ClassFile.FieldType.int)) ∈ lw_all := qin_6 (i := 233) rfl rfl
theorem qw_1434 : (Jvm.Cond.constant "AidRegisterModel" (207 : Nat) (999999 : Int32)) ∈ lw_all := qin_6 (i := 234) rfl rfl
theorem qw_1435 : (Jvm.Cond.methodLink "AidRegisterModel" (208 : Nat) ({ cls := "AidRegisterModel", name := "takesInto", desc := "(III)Z" } : Jvm.MethodName)) ∈ lw_all := qin_6 (i := 235) rfl rfl
theorem qw_1437 : (Jvm.Cond.instanceMethod ({ cls := "AidRegisterModel", name := "takesInto", desc := "(III)Z" } : Jvm.MethodName)) ∈ lw_all := qin_6 (i := 237) rfl rfl
theorem qw_1438 : (Jvm.Cond.code ({ cls := "AidRegisterModel", name := "takesInto", desc := "(III)Z" } : Jvm.MethodName) prog_10_method_33_code (4 : Nat) (Option.some Jvm.ClassFile.FieldType.boolean)) ∈ lw_all := qin_6 (i := 238) rfl rfl
theorem qw_1439 : (Jvm.Cond.methodLink "AidRegisterModel" (234 : Nat) ({ cls := "AidRegisterModel", name := "readDeclare", desc := "()Z" } : Jvm.MethodName)) ∈ lw_all := qin_6 (i := 239) rfl rfl
theorem qw_1441 : (Jvm.Cond.instanceMethod ({ cls := "AidRegisterModel", name := "readDeclare", desc := "()Z" } : Jvm.MethodName)) ∈ lw_all := qin_7 (i := 1) rfl rfl
theorem qw_1442 : (Jvm.Cond.code ({ cls := "AidRegisterModel", name := "readDeclare", desc := "()Z" } : Jvm.MethodName) prog_10_method_41_code (2 : Nat) (Option.some Jvm.ClassFile.FieldType.boolean)) ∈ lw_all := qin_7 (i := 2) rfl rfl
theorem qw_1443 : (Jvm.Cond.methodLink "AidRegisterModel" (211 : Nat) ({ cls := "AidRegisterModel", name := "takesDonor", desc := "(I)Z" } : Jvm.MethodName)) ∈ lw_all := qin_7 (i := 3) rfl rfl
theorem qw_1445 : (Jvm.Cond.instanceMethod ({ cls := "AidRegisterModel", name := "takesDonor", desc := "(I)Z" } : Jvm.MethodName)) ∈ lw_all := qin_7 (i := 5) rfl rfl
theorem qw_1446 : (Jvm.Cond.code ({ cls := "AidRegisterModel", name := "takesDonor", desc := "(I)Z" } : Jvm.MethodName) prog_10_method_40_code (3 : Nat) (Option.some Jvm.ClassFile.FieldType.boolean)) ∈ lw_all := qin_7 (i := 6) rfl rfl
theorem qw_1447 : (Jvm.Cond.methodLink "AidRegisterModel" (237 : Nat) ({ cls := "AidRegisterModel", name := "readGift", desc := "()Z" } : Jvm.MethodName)) ∈ lw_all := qin_7 (i := 7) rfl rfl
theorem qw_1449 : (Jvm.Cond.instanceMethod ({ cls := "AidRegisterModel", name := "readGift", desc := "()Z" } : Jvm.MethodName)) ∈ lw_all := qin_7 (i := 9) rfl rfl
theorem qw_1450 : (Jvm.Cond.code ({ cls := "AidRegisterModel", name := "readGift", desc := "()Z" } : Jvm.MethodName) prog_10_method_43_code (2 : Nat) (Option.some Jvm.ClassFile.FieldType.boolean)) ∈ lw_all := qin_7 (i := 10) rfl rfl
theorem qw_1451 : (Jvm.Cond.methodLink "AidRegisterModel" (217 : Nat) ({ cls := "AidRegisterModel", name := "readMoney", desc := "()Z" } : Jvm.MethodName)) ∈ lw_all := qin_7 (i := 11) rfl rfl
theorem qw_1453 : (Jvm.Cond.instanceMethod ({ cls := "AidRegisterModel", name := "readMoney", desc := "()Z" } : Jvm.MethodName)) ∈ lw_all := qin_7 (i := 13) rfl rfl
theorem qw_1454 : (Jvm.Cond.code ({ cls := "AidRegisterModel", name := "readMoney", desc := "()Z" } : Jvm.MethodName) prog_10_method_42_code (2 : Nat) (Option.some Jvm.ClassFile.FieldType.boolean)) ∈ lw_all := qin_7 (i := 14) rfl rfl
theorem qw_1455 : (Jvm.Cond.methodLink "AidRegisterModel" (214 : Nat) ({ cls := "AidRegisterModel", name := "clearsParts", desc := "(I)V" } : Jvm.MethodName)) ∈ lw_all := qin_7 (i := 15) rfl rfl
theorem qw_1457 : (Jvm.Cond.instanceMethod ({ cls := "AidRegisterModel", name := "clearsParts", desc := "(I)V" } : Jvm.MethodName)) ∈ lw_all := qin_7 (i := 17) rfl rfl
theorem qw_1458 : (Jvm.Cond.code ({ cls := "AidRegisterModel", name := "clearsParts", desc := "(I)V" } : Jvm.MethodName) prog_10_method_23_code (4 : Nat) (Option.none : Option Jvm.ClassFile.FieldType)) ∈ lw_all := qin_7 (i := 18) rfl rfl
theorem qw_1459 : (Jvm.Cond.methodLink "AidRegisterModel" (103 : Nat) ({ cls := "AidRegisterModel", name := "partOf", desc := "(II)I" } : Jvm.MethodName)) ∈ lw_all := qin_7 (i := 19) rfl rfl
theorem qw_1460 : (Jvm.Cond.static ({ cls := "AidRegisterModel", name := "partOf", desc := "(II)I" } : Jvm.MethodName)) ∈ lw_all := qin_7 (i := 20) rfl rfl
theorem qw_1461 : (Jvm.Cond.code ({ cls := "AidRegisterModel", name := "partOf", desc := "(II)I" } : Jvm.MethodName) prog_10_method_8_code (2 : Nat) (Option.some Jvm.ClassFile.FieldType.int)) ∈ lw_all := qin_7 (i := 21) rfl rfl
theorem qw_1462 : (Jvm.Cond.methodLink "AidRegisterModel" (220 : Nat) ({ cls := "AidRegisterModel", name := "shares", desc := "(IIIII)V" } : Jvm.MethodName)) ∈ lw_all := qin_7 (i := 22) rfl rfl
theorem qw_1464 : (Jvm.Cond.instanceMethod ({ cls := "AidRegisterModel", name := "shares", desc := "(IIIII)V" } : Jvm.MethodName)) ∈ lw_all := qin_7 (i := 24) rfl rfl
theorem qw_1465 : (Jvm.Cond.code ({ cls := "AidRegisterModel", name := "shares", desc := "(IIIII)V" } : Jvm.MethodName) prog_10_method_22_code (10 : Nat) (Option.none : Option Jvm.ClassFile.FieldType)) ∈ lw_all := qin_7 (i := 25) rfl rfl
theorem qw_1466 : (Jvm.Cond.methodLink "AidRegisterModel" (240 : Nat) ({ cls := "AidRegisterModel", name := "readSplit", desc := "()Z" } : Jvm.MethodName)) ∈ lw_all := qin_7 (i := 26) rfl rfl
theorem qw_1468 : (Jvm.Cond.instanceMethod ({ cls := "AidRegisterModel", name := "readSplit", desc := "()Z" } : Jvm.MethodName)) ∈ lw_all := qin_7 (i := 28) rfl rfl
theorem qw_1469 : (Jvm.Cond.code ({ cls := "AidRegisterModel", name := "readSplit", desc := "()Z" } : Jvm.MethodName) prog_10_method_45_code (3 : Nat) (Option.some Jvm.ClassFile.FieldType.boolean)) ∈ lw_all := qin_7 (i := 29) rfl rfl
theorem qw_1470 : (Jvm.Cond.methodLink "AidRegisterModel" (224 : Nat) ({ cls := "AidRegisterModel", name := "readShare", desc := "(II)Z" } : Jvm.MethodName)) ∈ lw_all := qin_7 (i := 30) rfl rfl
theorem qw_1472 : (Jvm.Cond.instanceMethod ({ cls := "AidRegisterModel", name := "readShare", desc := "(II)Z" } : Jvm.MethodName)) ∈ lw_all := qin_7 (i := 32) rfl rfl
theorem qw_1473 : (Jvm.Cond.code ({ cls := "AidRegisterModel", name := "readShare", desc := "(II)Z" } : Jvm.MethodName) prog_10_method_44_code (6 : Nat) (Option.some Jvm.ClassFile.FieldType.boolean)) ∈ lw_all := qin_7 (i := 33) rfl rfl
theorem qw_1474 : (Jvm.Cond.methodLink "AidRegisterModel" (243 : Nat) ({ cls := "AidRegisterModel", name := "readCash", desc := "()Z" } : Jvm.MethodName)) ∈ lw_all := qin_7 (i := 34) rfl rfl
theorem qw_1476 : (Jvm.Cond.instanceMethod ({ cls := "AidRegisterModel", name := "readCash", desc := "()Z" } : Jvm.MethodName)) ∈ lw_all := qin_7 (i := 36) rfl rfl
theorem qw_1477 : (Jvm.Cond.code ({ cls := "AidRegisterModel", name := "readCash", desc := "()Z" } : Jvm.MethodName) prog_10_method_46_code (1 : Nat) (Option.some Jvm.ClassFile.FieldType.boolean)) ∈ lw_all := qin_7 (i := 37) rfl rfl
theorem qw_1478 : (Jvm.Cond.methodLink "AidRegisterModel" (246 : Nat) ({ cls := "AidRegisterModel", name := "readRules", desc := "()Z" } : Jvm.MethodName)) ∈ lw_all := qin_7 (i := 38) rfl rfl
theorem qw_1480 : (Jvm.Cond.instanceMethod ({ cls := "AidRegisterModel", name := "readRules", desc := "()Z" } : Jvm.MethodName)) ∈ lw_all := qin_7 (i := 40) rfl rfl
theorem qw_1481 : (Jvm.Cond.code ({ cls := "AidRegisterModel", name := "readRules", desc := "()Z" } : Jvm.MethodName) prog_10_method_47_code (2 : Nat) (Option.some Jvm.ClassFile.FieldType.boolean)) ∈ lw_all := qin_7 (i := 41) rfl rfl
theorem qw_1482 : (Jvm.Cond.methodLink "AidRegisterLaw" (153 : Nat) ({ cls := "AidRegisterModel", name := "errorCode", desc := "()I" } : Jvm.MethodName)) ∈ lw_all := qin_7 (i := 42) rfl rfl
theorem qw_1483 : (Jvm.Cond.instanceMethod ({ cls := "AidRegisterModel", name := "errorCode", desc := "()I" } : Jvm.MethodName)) ∈ lw_all := qin_7 (i := 43) rfl rfl
theorem qw_1484 : (Jvm.Cond.selects "AidRegisterModel" ({ cls := "AidRegisterModel", name := "errorCode", desc := "()I" } : Jvm.MethodName) ({ cls := "AidRegisterModel", name := "errorCode", desc := "()I" } : Jvm.MethodName)) ∈ lw_all := qin_7 (i := 44) rfl rfl
theorem qw_1485 : (Jvm.Cond.code ({ cls := "AidRegisterModel", name := "errorCode", desc := "()I" } : Jvm.MethodName) prog_10_method_51_code (1 : Nat) (Option.some Jvm.ClassFile.FieldType.int)) ∈ lw_all := qin_7 (i := 45) rfl rfl
theorem qw_1486 : (Jvm.Cond.methodLink "AidRegisterLaw" (157 : Nat) ({ cls := "AidRegisterModel", name := "errorOffset", desc := "()I" } : Jvm.MethodName)) ∈ lw_all := qin_7 (i := 46) rfl rfl
theorem qw_1487 : (Jvm.Cond.instanceMethod ({ cls := "AidRegisterModel", name := "errorOffset", desc := "()I" } : Jvm.MethodName)) ∈ lw_all := qin_7 (i := 47) rfl rfl
theorem qw_1488 : (Jvm.Cond.selects "AidRegisterModel" ({ cls := "AidRegisterModel", name := "errorOffset", desc := "()I" } : Jvm.MethodName) ({ cls := "AidRegisterModel", name := "errorOffset", desc := "()I" } : Jvm.MethodName)) ∈ lw_all := qin_7 (i := 48) rfl rfl
theorem qw_1489 : (Jvm.Cond.code ({ cls := "AidRegisterModel", name := "errorOffset", desc := "()I" } : Jvm.MethodName) prog_10_method_52_code (1 : Nat) (Option.some Jvm.ClassFile.FieldType.int)) ∈ lw_all := qin_7 (i := 49) rfl rfl
theorem qw_1490 : (Jvm.Cond.methodLink "AidRegisterLaw" (163 : Nat) ({ cls := "AidRegisterModel", name := "count", desc := "(I)I" } : Jvm.MethodName)) ∈ lw_all := qin_7 (i := 50) rfl rfl
theorem qw_1491 : (Jvm.Cond.instanceMethod ({ cls := "AidRegisterModel", name := "count", desc := "(I)I" } : Jvm.MethodName)) ∈ lw_all := qin_7 (i := 51) rfl rfl
theorem qw_1492 : (Jvm.Cond.selects "AidRegisterModel" ({ cls := "AidRegisterModel", name := "count", desc := "(I)I" } : Jvm.MethodName) ({ cls := "AidRegisterModel", name := "count", desc := "(I)I" } : Jvm.MethodName)) ∈ lw_all := qin_7 (i := 52) rfl rfl
theorem qw_1493 : (Jvm.Cond.code ({ cls := "AidRegisterModel", name := "count", desc := "(I)I" } : Jvm.MethodName) prog_10_method_58_code (2 : Nat) (Option.some Jvm.ClassFile.FieldType.int)) ∈ lw_all := qin_7 (i := 53) rfl rfl
theorem qw_1494 : (Jvm.Cond.methodLink "AidRegisterModel" (261 : Nat) ({ cls := "AidRegisterModel", name := "fails", desc := "(ZI)Z" } : Jvm.MethodName)) ∈ lw_all := qin_7 (i := 54) rfl rfl
theorem qw_1496 : (Jvm.Cond.instanceMethod ({ cls := "AidRegisterModel", name := "fails", desc := "(ZI)Z" } : Jvm.MethodName)) ∈ lw_all := qin_7 (i := 56) rfl rfl
theorem qw_1497 : (Jvm.Cond.code ({ cls := "AidRegisterModel", name := "fails", desc := "(ZI)Z" } : Jvm.MethodName) prog_10_method_4_code (3 : Nat) (Option.some Jvm.ClassFile.FieldType.boolean)) ∈ lw_all := qin_7 (i := 57) rfl rfl
theorem qw_1498 : (Jvm.Cond.methodLink "AidRegisterModel" (268 : Nat) ({ cls := "AidRegisterModel", name := "giftsWith", desc := "(Z)I" } : Jvm.MethodName)) ∈ lw_all := qin_7 (i := 58) rfl rfl
theorem qw_1500 : (Jvm.Cond.instanceMethod ({ cls := "AidRegisterModel", name := "giftsWith", desc := "(Z)I" } : Jvm.MethodName)) ∈ lw_all := qin_7 (i := 60) rfl rfl
theorem qw_1501 : (Jvm.Cond.code ({ cls := "AidRegisterModel", name := "giftsWith", desc := "(Z)I" } : Jvm.MethodName) prog_10_method_57_code (4 : Nat) (Option.some Jvm.ClassFile.FieldType.int)) ∈ lw_all := qin_7 (i := 61) rfl rfl
theorem qw_1502 : (Jvm.Cond.methodLink "AidRegisterModel" (89 : Nat) ({ cls := "AidRegisterModel", name := "isSpoilt", desc := "(I)Z" } : Jvm.MethodName)) ∈ lw_all := qin_7 (i := 62) rfl rfl
theorem qw_1504 : (Jvm.Cond.instanceMethod ({ cls := "AidRegisterModel", name := "isSpoilt", desc := "(I)Z" } : Jvm.MethodName)) ∈ lw_all := qin_7 (i := 64) rfl rfl
theorem qw_1505 : (Jvm.Cond.code ({ cls := "AidRegisterModel", name := "isSpoilt", desc := "(I)Z" } : Jvm.MethodName) prog_10_method_13_code (2 : Nat) (Option.some Jvm.ClassFile.FieldType.boolean)) ∈ lw_all := qin_7 (i := 65) rfl rfl
theorem qw_1506 : (Jvm.Cond.methodLink "AidRegisterLaw" (170 : Nat) ({ cls := "AidRegisterModel", name := "declaration", desc := "(II)I" } : Jvm.MethodName)) ∈ lw_all := qin_7 (i := 66) rfl rfl
theorem qw_1507 : (Jvm.Cond.instanceMethod ({ cls := "AidRegisterModel", name := "declaration", desc := "(II)I" } : Jvm.MethodName)) ∈ lw_all := qin_7 (i := 67) rfl rfl
theorem qw_1508 : (Jvm.Cond.selects "AidRegisterModel" ({ cls := "AidRegisterModel", name := "declaration", desc := "(II)I" } : Jvm.MethodName) ({ cls := "AidRegisterModel", name := "declaration", desc := "(II)I" } : Jvm.MethodName)) ∈ lw_all := qin_7 (i := 68) rfl rfl
theorem qw_1509 : (Jvm.Cond.code ({ cls := "AidRegisterModel", name := "declaration", desc := "(II)I" } : Jvm.MethodName) prog_10_method_60_code (3 : Nat) (Option.some Jvm.ClassFile.FieldType.int)) ∈ lw_all := qin_7 (i := 69) rfl rfl
theorem qw_1510 : (Jvm.Cond.methodLink "AidRegisterModel" (272 : Nat) ({ cls := "AidRegisterModel", name := "noDeclaration", desc := "(I)Z" } : Jvm.MethodName)) ∈ lw_all := qin_7 (i := 70) rfl rfl
theorem qw_1512 : (Jvm.Cond.instanceMethod ({ cls := "AidRegisterModel", name := "noDeclaration", desc := "(I)Z" } : Jvm.MethodName)) ∈ lw_all := qin_7 (i := 72) rfl rfl
theorem qw_1513 : (Jvm.Cond.code ({ cls := "AidRegisterModel", name := "noDeclaration", desc := "(I)Z" } : Jvm.MethodName) prog_10_method_54_code (2 : Nat) (Option.some Jvm.ClassFile.FieldType.boolean)) ∈ lw_all := qin_7 (i := 73) rfl rfl
theorem qw_1514 : (Jvm.Cond.methodLink "AidRegisterModel" (275 : Nat) ({ cls := "AidRegisterModel", name := "daysOf", desc := "(I)I" } : Jvm.MethodName)) ∈ lw_all := qin_7 (i := 74) rfl rfl
theorem qw_1516 : (Jvm.Cond.instanceMethod ({ cls := "AidRegisterModel", name := "daysOf", desc := "(I)I" } : Jvm.MethodName)) ∈ lw_all := qin_7 (i := 76) rfl rfl
theorem qw_1517 : (Jvm.Cond.code ({ cls := "AidRegisterModel", name := "daysOf", desc := "(I)I" } : Jvm.MethodName) prog_10_method_59_code (2 : Nat) (Option.some Jvm.ClassFile.FieldType.int)) ∈ lw_all := qin_7 (i := 77) rfl rfl
theorem qw_1518 : (Jvm.Cond.methodLink "AidRegisterModel" (118 : Nat) ({ cls := "java/lang/Math", name := "max", desc := "(II)I" } : Jvm.MethodName)) ∈ lw_all := qin_7 (i := 78) rfl rfl
theorem qw_1519 : (Jvm.Cond.methodLink "AidRegisterLaw" (173 : Nat) ({ cls := "AidRegisterModel", name := "gift", desc := "(II)I" } : Jvm.MethodName)) ∈ lw_all := qin_7 (i := 79) rfl rfl
theorem qw_1520 : (Jvm.Cond.instanceMethod ({ cls := "AidRegisterModel", name := "gift", desc := "(II)I" } : Jvm.MethodName)) ∈ lw_all := qin_7 (i := 80) rfl rfl
theorem qw_1521 : (Jvm.Cond.selects "AidRegisterModel" ({ cls := "AidRegisterModel", name := "gift", desc := "(II)I" } : Jvm.MethodName) ({ cls := "AidRegisterModel", name := "gift", desc := "(II)I" } : Jvm.MethodName)) ∈ lw_all := qin_7 (i := 81) rfl rfl
theorem qw_1522 : (Jvm.Cond.code ({ cls := "AidRegisterModel", name := "gift", desc := "(II)I" } : Jvm.MethodName) prog_10_method_61_code (5 : Nat) (Option.some Jvm.ClassFile.FieldType.int)) ∈ lw_all := qin_7 (i := 82) rfl rfl
theorem qw_1523 : (Jvm.Cond.methodLink "AidRegisterModel" (265 : Nat) ({ cls := "AidRegisterModel", name := "noGift", desc := "(I)Z" } : Jvm.MethodName)) ∈ lw_all := qin_7 (i := 83) rfl rfl
theorem qw_1525 : (Jvm.Cond.instanceMethod ({ cls := "AidRegisterModel", name := "noGift", desc := "(I)Z" } : Jvm.MethodName)) ∈ lw_all := qin_7 (i := 85) rfl rfl
theorem qw_1526 : (Jvm.Cond.code ({ cls := "AidRegisterModel", name := "noGift", desc := "(I)Z" } : Jvm.MethodName) prog_10_method_55_code (2 : Nat) (Option.some Jvm.ClassFile.FieldType.boolean)) ∈ lw_all := qin_7 (i := 86) rfl rfl
theorem qw_1527 : (Jvm.Cond.methodLink "AidRegisterModel" (121 : Nat) ({ cls := "AidRegisterModel", name := "laysAid", desc := "()V" } : Jvm.MethodName)) ∈ lw_all := qin_7 (i := 87) rfl rfl
theorem qw_1529 : (Jvm.Cond.instanceMethod ({ cls := "AidRegisterModel", name := "laysAid", desc := "()V" } : Jvm.MethodName)) ∈ lw_all := qin_7 (i := 89) rfl rfl
theorem qw_1530 : (Jvm.Cond.code ({ cls := "AidRegisterModel", name := "laysAid", desc := "()V" } : Jvm.MethodName) prog_10_method_20_code (5 : Nat) (Option.none : Option Jvm.ClassFile.FieldType)) ∈ lw_all := qin_7 (i := 90) rfl rfl
theorem qw_1531 : (Jvm.Cond.methodLink "AidRegisterModel" (100 : Nat) ({ cls := "AidRegisterModel", name := "laysOrder", desc := "()V" } : Jvm.MethodName)) ∈ lw_all := qin_7 (i := 91) rfl rfl
theorem qw_1533 : (Jvm.Cond.instanceMethod ({ cls := "AidRegisterModel", name := "laysOrder", desc := "()V" } : Jvm.MethodName)) ∈ lw_all := qin_7 (i := 93) rfl rfl
theorem qw_1534 : (Jvm.Cond.code ({ cls := "AidRegisterModel", name := "laysOrder", desc := "()V" } : Jvm.MethodName) prog_10_method_19_code (3 : Nat) (Option.none : Option Jvm.ClassFile.FieldType)) ∈ lw_all := qin_7 (i := 94) rfl rfl
theorem qw_1535 : (Jvm.Cond.methodLink "AidRegisterModel" (107 : Nat) ({ cls := "AidRegisterModel", name := "yearOf", desc := "(I)I" } : Jvm.MethodName)) ∈ lw_all := qin_7 (i := 95) rfl rfl
theorem qw_1537 : (Jvm.Cond.instanceMethod ({ cls := "AidRegisterModel", name := "yearOf", desc := "(I)I" } : Jvm.MethodName)) ∈ lw_all := qin_7 (i := 97) rfl rfl
theorem qw_1538 : (Jvm.Cond.code ({ cls := "AidRegisterModel", name := "yearOf", desc := "(I)I" } : Jvm.MethodName) prog_10_method_16_code (2 : Nat) (Option.some Jvm.ClassFile.FieldType.int)) ∈ lw_all := qin_7 (i := 98) rfl rfl
theorem qw_1539 : (Jvm.Cond.methodLink "AidRegisterModel" (83 : Nat) ({ cls := "AidRegisterModel", name := "dayOf", desc := "(I)I" } : Jvm.MethodName)) ∈ lw_all := qin_7 (i := 99) rfl rfl
theorem qw_1541 : (Jvm.Cond.instanceMethod ({ cls := "AidRegisterModel", name := "dayOf", desc := "(I)I" } : Jvm.MethodName)) ∈ lw_all := qin_7 (i := 101) rfl rfl
theorem qw_1542 : (Jvm.Cond.code ({ cls := "AidRegisterModel", name := "dayOf", desc := "(I)I" } : Jvm.MethodName) prog_10_method_15_code (2 : Nat) (Option.some Jvm.ClassFile.FieldType.int)) ∈ lw_all := qin_7 (i := 102) rfl rfl
theorem qw_1543 : (Jvm.Cond.methodLink "AidRegisterModel" (75 : Nat) ({ cls := "AidRegisterModel", name := "giftOf", desc := "(I)I" } : Jvm.MethodName)) ∈ lw_all := qin_7 (i := 103) rfl rfl
theorem qw_1544 : (Jvm.Cond.static ({ cls := "AidRegisterModel", name := "giftOf", desc := "(I)I" } : Jvm.MethodName)) ∈ lw_all := qin_7 (i := 104) rfl rfl
theorem qw_1545 : (Jvm.Cond.code ({ cls := "AidRegisterModel", name := "giftOf", desc := "(I)I" } : Jvm.MethodName) prog_10_method_9_code (1 : Nat) (Option.some Jvm.ClassFile.FieldType.int)) ∈ lw_all := qin_7 (i := 105) rfl rfl
theorem qw_1546 : (Jvm.Cond.methodLink "AidRegisterModel" (110 : Nat) ({ cls := "AidRegisterModel", name := "wishOf", desc := "(I)I" } : Jvm.MethodName)) ∈ lw_all := qin_7 (i := 106) rfl rfl
theorem qw_1548 : (Jvm.Cond.instanceMethod ({ cls := "AidRegisterModel", name := "wishOf", desc := "(I)I" } : Jvm.MethodName)) ∈ lw_all := qin_7 (i := 108) rfl rfl
theorem qw_1549 : (Jvm.Cond.code ({ cls := "AidRegisterModel", name := "wishOf", desc := "(I)I" } : Jvm.MethodName) prog_10_method_18_code (2 : Nat) (Option.some Jvm.ClassFile.FieldType.int)) ∈ lw_all := qin_7 (i := 109) rfl rfl
theorem qw_1550 : (Jvm.Cond.methodLink "AidRegisterModel" (93 : Nat) ({ cls := "AidRegisterModel", name := "isForced", desc := "(II)Z" } : Jvm.MethodName)) ∈ lw_all := qin_7 (i := 110) rfl rfl
theorem qw_1552 : (Jvm.Cond.instanceMethod ({ cls := "AidRegisterModel", name := "isForced", desc := "(II)Z" } : Jvm.MethodName)) ∈ lw_all := qin_7 (i := 112) rfl rfl
theorem qw_1553 : (Jvm.Cond.code ({ cls := "AidRegisterModel", name := "isForced", desc := "(II)Z" } : Jvm.MethodName) prog_10_method_14_code (4 : Nat) (Option.some Jvm.ClassFile.FieldType.boolean)) ∈ lw_all := qin_7 (i := 113) rfl rfl
theorem qw_1554 : (Jvm.Cond.methodLink "AidRegisterModel" (97 : Nat) ({ cls := "AidRegisterModel", name := "full", desc := "(I)I" } : Jvm.MethodName)) ∈ lw_all := qin_7 (i := 114) rfl rfl
theorem qw_1556 : (Jvm.Cond.instanceMethod ({ cls := "AidRegisterModel", name := "full", desc := "(I)I" } : Jvm.MethodName)) ∈ lw_all := qin_7 (i := 116) rfl rfl
theorem qw_1557 : (Jvm.Cond.code ({ cls := "AidRegisterModel", name := "full", desc := "(I)I" } : Jvm.MethodName) prog_10_method_17_code (2 : Nat) (Option.some Jvm.ClassFile.FieldType.int)) ∈ lw_all := qin_7 (i := 117) rfl rfl
theorem qw_1558 : (Jvm.Cond.methodLink "AidRegisterModel" (86 : Nat) ({ cls := "AidRegisterModel", name := "leftOf", desc := "(I)I" } : Jvm.MethodName)) ∈ lw_all := qin_7 (i := 118) rfl rfl
theorem qw_1560 : (Jvm.Cond.instanceMethod ({ cls := "AidRegisterModel", name := "leftOf", desc := "(I)I" } : Jvm.MethodName)) ∈ lw_all := qin_7 (i := 120) rfl rfl
theorem qw_1561 : (Jvm.Cond.code ({ cls := "AidRegisterModel", name := "leftOf", desc := "(I)I" } : Jvm.MethodName) prog_10_method_11_code (2 : Nat) (Option.some Jvm.ClassFile.FieldType.int)) ∈ lw_all := qin_7 (i := 121) rfl rfl
theorem qw_1562 : (Jvm.Cond.methodLink "AidRegisterModel" (113 : Nat) ({ cls := "java/lang/Math", name := "min", desc := "(II)I" } : Jvm.MethodName)) ∈ lw_all := qin_7 (i := 122) rfl rfl
theorem qw_1563 : (Jvm.Cond.methodLink "AidRegisterModel" (278 : Nat) ({ cls := "AidRegisterModel", name := "leftOfGift", desc := "(I)I" } : Jvm.MethodName)) ∈ lw_all := qin_7 (i := 123) rfl rfl
theorem qw_1565 : (Jvm.Cond.instanceMethod ({ cls := "AidRegisterModel", name := "leftOfGift", desc := "(I)I" } : Jvm.MethodName)) ∈ lw_all := qin_7 (i := 125) rfl rfl
theorem qw_1566 : (Jvm.Cond.code ({ cls := "AidRegisterModel", name := "leftOfGift", desc := "(I)I" } : Jvm.MethodName) prog_10_method_12_code (2 : Nat) (Option.some Jvm.ClassFile.FieldType.int)) ∈ lw_all := qin_7 (i := 126) rfl rfl
theorem qw_1567 : (Jvm.Cond.methodLink "AidRegisterLaw" (177 : Nat) ({ cls := "AidRegisterModel", name := "part", desc := "(III)I" } : Jvm.MethodName)) ∈ lw_all := qin_7 (i := 127) rfl rfl
theorem qw_1568 : (Jvm.Cond.instanceMethod ({ cls := "AidRegisterModel", name := "part", desc := "(III)I" } : Jvm.MethodName)) ∈ lw_all := qin_7 (i := 128) rfl rfl
theorem qw_1569 : (Jvm.Cond.selects "AidRegisterModel" ({ cls := "AidRegisterModel", name := "part", desc := "(III)I" } : Jvm.MethodName) ({ cls := "AidRegisterModel", name := "part", desc := "(III)I" } : Jvm.MethodName)) ∈ lw_all := qin_7 (i := 129) rfl rfl
theorem qw_1570 : (Jvm.Cond.code ({ cls := "AidRegisterModel", name := "part", desc := "(III)I" } : Jvm.MethodName) prog_10_method_62_code (5 : Nat) (Option.some Jvm.ClassFile.FieldType.int)) ∈ lw_all := qin_7 (i := 130) rfl rfl
theorem qw_1571 : (Jvm.Cond.methodLink "AidRegisterModel" (281 : Nat) ({ cls := "AidRegisterModel", name := "noPart", desc := "(II)Z" } : Jvm.MethodName)) ∈ lw_all := qin_7 (i := 131) rfl rfl
theorem qw_1573 : (Jvm.Cond.instanceMethod ({ cls := "AidRegisterModel", name := "noPart", desc := "(II)Z" } : Jvm.MethodName)) ∈ lw_all := qin_7 (i := 133) rfl rfl
theorem qw_1574 : (Jvm.Cond.code ({ cls := "AidRegisterModel", name := "noPart", desc := "(II)Z" } : Jvm.MethodName) prog_10_method_56_code (3 : Nat) (Option.some Jvm.ClassFile.FieldType.boolean)) ∈ lw_all := qin_7 (i := 134) rfl rfl
theorem qw_1575 : (Jvm.Cond.methodLink "AidRegisterLaw" (180 : Nat) ({ cls := "AidRegisterModel", name := "reason", desc := "(II)I" } : Jvm.MethodName)) ∈ lw_all := qin_7 (i := 135) rfl rfl
theorem qw_1576 : (Jvm.Cond.instanceMethod ({ cls := "AidRegisterModel", name := "reason", desc := "(II)I" } : Jvm.MethodName)) ∈ lw_all := qin_7 (i := 136) rfl rfl
theorem qw_1577 : (Jvm.Cond.selects "AidRegisterModel" ({ cls := "AidRegisterModel", name := "reason", desc := "(II)I" } : Jvm.MethodName) ({ cls := "AidRegisterModel", name := "reason", desc := "(II)I" } : Jvm.MethodName)) ∈ lw_all := qin_7 (i := 137) rfl rfl
theorem qw_1578 : (Jvm.Cond.code ({ cls := "AidRegisterModel", name := "reason", desc := "(II)I" } : Jvm.MethodName) prog_10_method_64_code (3 : Nat) (Option.some Jvm.ClassFile.FieldType.int)) ∈ lw_all := qin_7 (i := 138) rfl rfl
theorem qw_1579 : (Jvm.Cond.methodLink "AidRegisterModel" (284 : Nat) ({ cls := "AidRegisterModel", name := "reasonOf", desc := "(I)I" } : Jvm.MethodName)) ∈ lw_all := qin_7 (i := 139) rfl rfl
theorem qw_1581 : (Jvm.Cond.instanceMethod ({ cls := "AidRegisterModel", name := "reasonOf", desc := "(I)I" } : Jvm.MethodName)) ∈ lw_all := qin_7 (i := 141) rfl rfl
theorem qw_1582 : (Jvm.Cond.code ({ cls := "AidRegisterModel", name := "reasonOf", desc := "(I)I" } : Jvm.MethodName) prog_10_method_63_code (2 : Nat) (Option.some Jvm.ClassFile.FieldType.int)) ∈ lw_all := qin_7 (i := 142) rfl rfl
theorem qw_1583 : (Jvm.Cond.methodLink "AidRegisterLaw" (183 : Nat) ({ cls := "AidRegisterModel", name := "donor", desc := "(III)I" } : Jvm.MethodName)) ∈ lw_all := qin_7 (i := 143) rfl rfl
theorem qw_1584 : (Jvm.Cond.instanceMethod ({ cls := "AidRegisterModel", name := "donor", desc := "(III)I" } : Jvm.MethodName)) ∈ lw_all := qin_7 (i := 144) rfl rfl
theorem qw_1585 : (Jvm.Cond.selects "AidRegisterModel" ({ cls := "AidRegisterModel", name := "donor", desc := "(III)I" } : Jvm.MethodName) ({ cls := "AidRegisterModel", name := "donor", desc := "(III)I" } : Jvm.MethodName)) ∈ lw_all := qin_7 (i := 145) rfl rfl
theorem qw_1586 : (Jvm.Cond.code ({ cls := "AidRegisterModel", name := "donor", desc := "(III)I" } : Jvm.MethodName) prog_10_method_66_code (4 : Nat) (Option.some Jvm.ClassFile.FieldType.int)) ∈ lw_all := qin_7 (i := 146) rfl rfl
theorem qw_1587 : (Jvm.Cond.methodLink "AidRegisterModel" (287 : Nat) ({ cls := "AidRegisterModel", name := "noDonor", desc := "(I)Z" } : Jvm.MethodName)) ∈ lw_all := qin_7 (i := 147) rfl rfl
theorem qw_1589 : (Jvm.Cond.instanceMethod ({ cls := "AidRegisterModel", name := "noDonor", desc := "(I)Z" } : Jvm.MethodName)) ∈ lw_all := qin_7 (i := 149) rfl rfl
theorem qw_1590 : (Jvm.Cond.code ({ cls := "AidRegisterModel", name := "noDonor", desc := "(I)Z" } : Jvm.MethodName) prog_10_method_53_code (2 : Nat) (Option.some Jvm.ClassFile.FieldType.boolean)) ∈ lw_all := qin_7 (i := 150) rfl rfl
theorem qw_1591 : (Jvm.Cond.methodLink "AidRegisterModel" (290 : Nat) ({ cls := "AidRegisterModel", name := "sumOf", desc := "(III)I" } : Jvm.MethodName)) ∈ lw_all := qin_7 (i := 151) rfl rfl
theorem qw_1593 : (Jvm.Cond.instanceMethod ({ cls := "AidRegisterModel", name := "sumOf", desc := "(III)I" } : Jvm.MethodName)) ∈ lw_all := qin_7 (i := 153) rfl rfl
theorem qw_1594 : (Jvm.Cond.code ({ cls := "AidRegisterModel", name := "sumOf", desc := "(III)I" } : Jvm.MethodName) prog_10_method_65_code (6 : Nat) (Option.some Jvm.ClassFile.FieldType.int)) ∈ lw_all := qin_7 (i := 154) rfl rfl
theorem qw_1595 : (Jvm.Cond.methodLink "AidRegisterModel" (124 : Nat) ({ cls := "AidRegisterModel", name := "isPart", desc := "(I)Z" } : Jvm.MethodName)) ∈ lw_all := qin_7 (i := 155) rfl rfl
theorem qw_1597 : (Jvm.Cond.instanceMethod ({ cls := "AidRegisterModel", name := "isPart", desc := "(I)Z" } : Jvm.MethodName)) ∈ lw_all := qin_7 (i := 157) rfl rfl
theorem qw_1598 : (Jvm.Cond.code ({ cls := "AidRegisterModel", name := "isPart", desc := "(I)Z" } : Jvm.MethodName) prog_10_method_10_code (2 : Nat) (Option.some Jvm.ClassFile.FieldType.boolean)) ∈ lw_all := qin_7 (i := 158) rfl rfl
theorem qw_1599 : (Jvm.Cond.methodLink "AidRegisterLaw" (186 : Nat) ({ cls := "AidRegisterModel", name := "taxLimit", desc := "(I)I" } : Jvm.MethodName)) ∈ lw_all := qin_7 (i := 159) rfl rfl
theorem qw_1600 : (Jvm.Cond.instanceMethod ({ cls := "AidRegisterModel", name := "taxLimit", desc := "(I)I" } : Jvm.MethodName)) ∈ lw_all := qin_7 (i := 160) rfl rfl
theorem qw_1601 : (Jvm.Cond.selects "AidRegisterModel" ({ cls := "AidRegisterModel", name := "taxLimit", desc := "(I)I" } : Jvm.MethodName) ({ cls := "AidRegisterModel", name := "taxLimit", desc := "(I)I" } : Jvm.MethodName)) ∈ lw_all := qin_7 (i := 161) rfl rfl
theorem qw_1602 : (Jvm.Cond.code ({ cls := "AidRegisterModel", name := "taxLimit", desc := "(I)I" } : Jvm.MethodName) prog_10_method_67_code (2 : Nat) (Option.some Jvm.ClassFile.FieldType.int)) ∈ lw_all := qin_7 (i := 162) rfl rfl
theorem qw_1603 : (Jvm.Cond.methodLink "AidRegisterLaw" (189 : Nat) ({ cls := "AidRegisterModel", name := "isDeclared", desc := "(II)Z" } : Jvm.MethodName)) ∈ lw_all := qin_7 (i := 163) rfl rfl
theorem qw_1604 : (Jvm.Cond.instanceMethod ({ cls := "AidRegisterModel", name := "isDeclared", desc := "(II)Z" } : Jvm.MethodName)) ∈ lw_all := qin_7 (i := 164) rfl rfl
theorem qw_1605 : (Jvm.Cond.selects "AidRegisterModel" ({ cls := "AidRegisterModel", name := "isDeclared", desc := "(II)Z" } : Jvm.MethodName) ({ cls := "AidRegisterModel", name := "isDeclared", desc := "(II)Z" } : Jvm.MethodName)) ∈ lw_all := qin_7 (i := 165) rfl rfl
theorem qw_1606 : (Jvm.Cond.code ({ cls := "AidRegisterModel", name := "isDeclared", desc := "(II)Z" } : Jvm.MethodName) prog_10_method_68_code (3 : Nat) (Option.some Jvm.ClassFile.FieldType.boolean)) ∈ lw_all := qin_7 (i := 166) rfl rfl
theorem qw_1607 : (Jvm.Cond.methodLink "AidRegisterLaw" (192 : Nat) ({ cls := "AidRegisterModel", name := "coverage", desc := "(III)I" } : Jvm.MethodName)) ∈ lw_all := qin_7 (i := 167) rfl rfl
theorem qw_1608 : (Jvm.Cond.instanceMethod ({ cls := "AidRegisterModel", name := "coverage", desc := "(III)I" } : Jvm.MethodName)) ∈ lw_all := qin_7 (i := 168) rfl rfl
theorem qw_1609 : (Jvm.Cond.selects "AidRegisterModel" ({ cls := "AidRegisterModel", name := "coverage", desc := "(III)I" } : Jvm.MethodName) ({ cls := "AidRegisterModel", name := "coverage", desc := "(III)I" } : Jvm.MethodName)) ∈ lw_all := qin_7 (i := 169) rfl rfl
theorem qw_1610 : (Jvm.Cond.code ({ cls := "AidRegisterModel", name := "coverage", desc := "(III)I" } : Jvm.MethodName) prog_10_method_70_code (6 : Nat) (Option.some Jvm.ClassFile.FieldType.int)) ∈ lw_all := qin_7 (i := 170) rfl rfl
theorem qw_1611 : (Jvm.Cond.methodLink "AidRegisterModel" (294 : Nat) ({ cls := "AidRegisterModel", name := "noSpan", desc := "(II)Z" } : Jvm.MethodName)) ∈ lw_all := qin_7 (i := 171) rfl rfl
theorem qw_1613 : (Jvm.Cond.instanceMethod ({ cls := "AidRegisterModel", name := "noSpan", desc := "(II)Z" } : Jvm.MethodName)) ∈ lw_all := qin_7 (i := 173) rfl rfl
theorem qw_1614 : (Jvm.Cond.code ({ cls := "AidRegisterModel", name := "noSpan", desc := "(II)Z" } : Jvm.MethodName) prog_10_method_69_code (3 : Nat) (Option.some Jvm.ClassFile.FieldType.boolean)) ∈ lw_all := qin_7 (i := 174) rfl rfl
theorem qw_1615 : (Jvm.Cond.methodLink "AidRegisterLaw" (196 : Nat) ({ cls := "AidRegisterModel", name := "gap", desc := "(IIZ)I" } : Jvm.MethodName)) ∈ lw_all := qin_7 (i := 175) rfl rfl
theorem qw_1616 : (Jvm.Cond.instanceMethod ({ cls := "AidRegisterModel", name := "gap", desc := "(IIZ)I" } : Jvm.MethodName)) ∈ lw_all := qin_7 (i := 176) rfl rfl
theorem qw_1617 : (Jvm.Cond.selects "AidRegisterModel" ({ cls := "AidRegisterModel", name := "gap", desc := "(IIZ)I" } : Jvm.MethodName) ({ cls := "AidRegisterModel", name := "gap", desc := "(IIZ)I" } : Jvm.MethodName)) ∈ lw_all := qin_7 (i := 177) rfl rfl
theorem qw_1618 : (Jvm.Cond.code ({ cls := "AidRegisterModel", name := "gap", desc := "(IIZ)I" } : Jvm.MethodName) prog_10_method_71_code (8 : Nat) (Option.some Jvm.ClassFile.FieldType.int)) ∈ lw_all := qin_7 (i := 178) rfl rfl
theorem qw_1619 : (Jvm.Cond.methodLink "AidRegisterLaw" (268 : Nat) ({ cls := "AidRegisterModel", name := "longestSpan", desc := "(I)I" } : Jvm.MethodName)) ∈ lw_all := qin_7 (i := 179) rfl rfl
theorem qw_1620 : (Jvm.Cond.instanceMethod ({ cls := "AidRegisterModel", name := "longestSpan", desc := "(I)I" } : Jvm.MethodName)) ∈ lw_all := qin_7 (i := 180) rfl rfl
theorem qw_1621 : (Jvm.Cond.selects "AidRegisterModel" ({ cls := "AidRegisterModel", name := "longestSpan", desc := "(I)I" } : Jvm.MethodName) ({ cls := "AidRegisterModel", name := "longestSpan", desc := "(I)I" } : Jvm.MethodName)) ∈ lw_all := qin_7 (i := 181) rfl rfl
theorem qw_1622 : (Jvm.Cond.code ({ cls := "AidRegisterModel", name := "longestSpan", desc := "(I)I" } : Jvm.MethodName) prog_10_method_73_code (5 : Nat) (Option.some Jvm.ClassFile.FieldType.int)) ∈ lw_all := qin_7 (i := 182) rfl rfl
theorem qw_1623 : (Jvm.Cond.methodLink "AidRegisterLaw" (199 : Nat) ({ cls := "AidRegisterModel", name := "needless", desc := "(I)I" } : Jvm.MethodName)) ∈ lw_all := qin_7 (i := 183) rfl rfl
theorem qw_1624 : (Jvm.Cond.instanceMethod ({ cls := "AidRegisterModel", name := "needless", desc := "(I)I" } : Jvm.MethodName)) ∈ lw_all := qin_7 (i := 184) rfl rfl
theorem qw_1625 : (Jvm.Cond.selects "AidRegisterModel" ({ cls := "AidRegisterModel", name := "needless", desc := "(I)I" } : Jvm.MethodName) ({ cls := "AidRegisterModel", name := "needless", desc := "(I)I" } : Jvm.MethodName)) ∈ lw_all := qin_7 (i := 185) rfl rfl
theorem qw_1626 : (Jvm.Cond.code ({ cls := "AidRegisterModel", name := "needless", desc := "(I)I" } : Jvm.MethodName) prog_10_method_74_code (4 : Nat) (Option.some Jvm.ClassFile.FieldType.int)) ∈ lw_all := qin_7 (i := 186) rfl rfl
theorem qw_1627 : (Jvm.Cond.methodLink "AidRegisterModel" (297 : Nat) ({ cls := "AidRegisterModel", name := "isNeedless", desc := "(I)Z" } : Jvm.MethodName)) ∈ lw_all := qin_7 (i := 187) rfl rfl
theorem qw_1629 : (Jvm.Cond.instanceMethod ({ cls := "AidRegisterModel", name := "isNeedless", desc := "(I)Z" } : Jvm.MethodName)) ∈ lw_all := qin_7 (i := 189) rfl rfl
theorem qw_1630 : (Jvm.Cond.code ({ cls := "AidRegisterModel", name := "isNeedless", desc := "(I)Z" } : Jvm.MethodName) prog_10_method_72_code (6 : Nat) (Option.some Jvm.ClassFile.FieldType.boolean)) ∈ lw_all := qin_7 (i := 190) rfl rfl
theorem qw_1631 : (Jvm.Cond.methodLink "AidRegisterLaw" (202 : Nat) ({ cls := "AidRegisterModel", name := "declare", desc := "(III)I" } : Jvm.MethodName)) ∈ lw_all := qin_7 (i := 191) rfl rfl
theorem qw_1632 : (Jvm.Cond.instanceMethod ({ cls := "AidRegisterModel", name := "declare", desc := "(III)I" } : Jvm.MethodName)) ∈ lw_all := qin_7 (i := 192) rfl rfl
theorem qw_1633 : (Jvm.Cond.selects "AidRegisterModel" ({ cls := "AidRegisterModel", name := "declare", desc := "(III)I" } : Jvm.MethodName) ({ cls := "AidRegisterModel", name := "declare", desc := "(III)I" } : Jvm.MethodName)) ∈ lw_all := qin_7 (i := 193) rfl rfl
theorem qw_1634 : (Jvm.Cond.code ({ cls := "AidRegisterModel", name := "declare", desc := "(III)I" } : Jvm.MethodName) prog_10_method_75_code (4 : Nat) (Option.some Jvm.ClassFile.FieldType.int)) ∈ lw_all := qin_7 (i := 194) rfl rfl
theorem qw_1635 : (Jvm.Cond.methodLink "AidRegisterModel" (300 : Nat) ({ cls := "AidRegisterModel", name := "remembers", desc := "()V" } : Jvm.MethodName)) ∈ lw_all := qin_7 (i := 195) rfl rfl
theorem qw_1637 : (Jvm.Cond.instanceMethod ({ cls := "AidRegisterModel", name := "remembers", desc := "()V" } : Jvm.MethodName)) ∈ lw_all := qin_7 (i := 197) rfl rfl
theorem qw_1638 : (Jvm.Cond.code ({ cls := "AidRegisterModel", name := "remembers", desc := "()V" } : Jvm.MethodName) prog_10_method_7_code (1 : Nat) (Option.none : Option Jvm.ClassFile.FieldType)) ∈ lw_all := qin_7 (i := 198) rfl rfl
theorem qw_1639 : (Jvm.Cond.methodLink "AidRegisterModel" (303 : Nat) ({ cls := "AidRegisterModel", name := "declares", desc := "(III)V" } : Jvm.MethodName)) ∈ lw_all := qin_7 (i := 199) rfl rfl
theorem qw_1641 : (Jvm.Cond.instanceMethod ({ cls := "AidRegisterModel", name := "declares", desc := "(III)V" } : Jvm.MethodName)) ∈ lw_all := qin_7 (i := 201) rfl rfl
theorem qw_1642 : (Jvm.Cond.code ({ cls := "AidRegisterModel", name := "declares", desc := "(III)V" } : Jvm.MethodName) prog_10_method_24_code (5 : Nat) (Option.none : Option Jvm.ClassFile.FieldType)) ∈ lw_all := qin_7 (i := 202) rfl rfl
theorem qw_1643 : (Jvm.Cond.methodLink "AidRegisterLaw" (205 : Nat) ({ cls := "AidRegisterModel", name := "revoke", desc := "(II)I" } : Jvm.MethodName)) ∈ lw_all := qin_7 (i := 203) rfl rfl
theorem qw_1644 : (Jvm.Cond.instanceMethod ({ cls := "AidRegisterModel", name := "revoke", desc := "(II)I" } : Jvm.MethodName)) ∈ lw_all := qin_7 (i := 204) rfl rfl
theorem qw_1645 : (Jvm.Cond.selects "AidRegisterModel" ({ cls := "AidRegisterModel", name := "revoke", desc := "(II)I" } : Jvm.MethodName) ({ cls := "AidRegisterModel", name := "revoke", desc := "(II)I" } : Jvm.MethodName)) ∈ lw_all := qin_7 (i := 205) rfl rfl
theorem qw_1646 : (Jvm.Cond.code ({ cls := "AidRegisterModel", name := "revoke", desc := "(II)I" } : Jvm.MethodName) prog_10_method_76_code (4 : Nat) (Option.some Jvm.ClassFile.FieldType.int)) ∈ lw_all := qin_7 (i := 206) rfl rfl
theorem qw_1647 : (Jvm.Cond.methodLink "AidRegisterLaw" (209 : Nat) ({ cls := "AidRegisterModel", name := "addGift", desc := "(IIII)I" } : Jvm.MethodName)) ∈ lw_all := qin_7 (i := 207) rfl rfl
theorem qw_1648 : (Jvm.Cond.instanceMethod ({ cls := "AidRegisterModel", name := "addGift", desc := "(IIII)I" } : Jvm.MethodName)) ∈ lw_all := qin_7 (i := 208) rfl rfl
theorem qw_1649 : (Jvm.Cond.selects "AidRegisterModel" ({ cls := "AidRegisterModel", name := "addGift", desc := "(IIII)I" } : Jvm.MethodName) ({ cls := "AidRegisterModel", name := "addGift", desc := "(IIII)I" } : Jvm.MethodName)) ∈ lw_all := qin_7 (i := 209) rfl rfl
theorem qw_1650 : (Jvm.Cond.code ({ cls := "AidRegisterModel", name := "addGift", desc := "(IIII)I" } : Jvm.MethodName) prog_10_method_77_code (6 : Nat) (Option.some Jvm.ClassFile.FieldType.int)) ∈ lw_all := qin_7 (i := 210) rfl rfl
theorem qw_1651 : (Jvm.Cond.methodLink "AidRegisterLaw" (212 : Nat) ({ cls := "AidRegisterModel", name := "split", desc := "(IIII)I" } : Jvm.MethodName)) ∈ lw_all := qin_7 (i := 211) rfl rfl
theorem qw_1652 : (Jvm.Cond.instanceMethod ({ cls := "AidRegisterModel", name := "split", desc := "(IIII)I" } : Jvm.MethodName)) ∈ lw_all := qin_7 (i := 212) rfl rfl
theorem qw_1653 : (Jvm.Cond.selects "AidRegisterModel" ({ cls := "AidRegisterModel", name := "split", desc := "(IIII)I" } : Jvm.MethodName) ({ cls := "AidRegisterModel", name := "split", desc := "(IIII)I" } : Jvm.MethodName)) ∈ lw_all := qin_7 (i := 213) rfl rfl
theorem qw_1654 : (Jvm.Cond.code ({ cls := "AidRegisterModel", name := "split", desc := "(IIII)I" } : Jvm.MethodName) prog_10_method_81_code (5 : Nat) (Option.some Jvm.ClassFile.FieldType.int)) ∈ lw_all := qin_7 (i := 214) rfl rfl
theorem qw_1655 : (Jvm.Cond.methodLink "AidRegisterModel" (307 : Nat) ({ cls := "AidRegisterModel", name := "isDonorOf", desc := "(II)Z" } : Jvm.MethodName)) ∈ lw_all := qin_7 (i := 215) rfl rfl
theorem qw_1657 : (Jvm.Cond.instanceMethod ({ cls := "AidRegisterModel", name := "isDonorOf", desc := "(II)Z" } : Jvm.MethodName)) ∈ lw_all := qin_7 (i := 217) rfl rfl
theorem qw_1658 : (Jvm.Cond.code ({ cls := "AidRegisterModel", name := "isDonorOf", desc := "(II)Z" } : Jvm.MethodName) prog_10_method_79_code (3 : Nat) (Option.some Jvm.ClassFile.FieldType.boolean)) ∈ lw_all := qin_7 (i := 218) rfl rfl
theorem qw_1659 : (Jvm.Cond.methodLink "AidRegisterModel" (310 : Nat) ({ cls := "AidRegisterModel", name := "canSplit", desc := "(I)Z" } : Jvm.MethodName)) ∈ lw_all := qin_7 (i := 219) rfl rfl
theorem qw_1661 : (Jvm.Cond.instanceMethod ({ cls := "AidRegisterModel", name := "canSplit", desc := "(I)Z" } : Jvm.MethodName)) ∈ lw_all := qin_7 (i := 221) rfl rfl
theorem qw_1662 : (Jvm.Cond.code ({ cls := "AidRegisterModel", name := "canSplit", desc := "(I)Z" } : Jvm.MethodName) prog_10_method_78_code (2 : Nat) (Option.some Jvm.ClassFile.FieldType.boolean)) ∈ lw_all := qin_7 (i := 222) rfl rfl
theorem qw_1663 : (Jvm.Cond.methodLink "AidRegisterModel" (313 : Nat) ({ cls := "AidRegisterModel", name := "splits", desc := "(IIII)V" } : Jvm.MethodName)) ∈ lw_all := qin_7 (i := 223) rfl rfl
theorem qw_1665 : (Jvm.Cond.instanceMethod ({ cls := "AidRegisterModel", name := "splits", desc := "(IIII)V" } : Jvm.MethodName)) ∈ lw_all := qin_7 (i := 225) rfl rfl
theorem qw_1666 : (Jvm.Cond.code ({ cls := "AidRegisterModel", name := "splits", desc := "(IIII)V" } : Jvm.MethodName) prog_10_method_80_code (5 : Nat) (Option.none : Option Jvm.ClassFile.FieldType)) ∈ lw_all := qin_7 (i := 226) rfl rfl
theorem qw_1667 : (Jvm.Cond.methodLink "AidRegisterLaw" (215 : Nat) ({ cls := "AidRegisterModel", name := "refund", desc := "(II)I" } : Jvm.MethodName)) ∈ lw_all := qin_7 (i := 227) rfl rfl
theorem qw_1668 : (Jvm.Cond.instanceMethod ({ cls := "AidRegisterModel", name := "refund", desc := "(II)I" } : Jvm.MethodName)) ∈ lw_all := qin_7 (i := 228) rfl rfl
theorem qw_1669 : (Jvm.Cond.selects "AidRegisterModel" ({ cls := "AidRegisterModel", name := "refund", desc := "(II)I" } : Jvm.MethodName) ({ cls := "AidRegisterModel", name := "refund", desc := "(II)I" } : Jvm.MethodName)) ∈ lw_all := qin_7 (i := 229) rfl rfl
theorem qw_1670 : (Jvm.Cond.code ({ cls := "AidRegisterModel", name := "refund", desc := "(II)I" } : Jvm.MethodName) prog_10_method_82_code (7 : Nat) (Option.some Jvm.ClassFile.FieldType.int)) ∈ lw_all := qin_7 (i := 230) rfl rfl
theorem qw_1671 : (Jvm.Cond.methodLink "AidRegisterLaw" (218 : Nat) ({ cls := "AidRegisterModel", name := "setTaxLimit", desc := "(II)I" } : Jvm.MethodName)) ∈ lw_all := qin_7 (i := 231) rfl rfl
theorem qw_1672 : (Jvm.Cond.instanceMethod ({ cls := "AidRegisterModel", name := "setTaxLimit", desc := "(II)I" } : Jvm.MethodName)) ∈ lw_all := qin_7 (i := 232) rfl rfl
theorem qw_1673 : (Jvm.Cond.selects "AidRegisterModel" ({ cls := "AidRegisterModel", name := "setTaxLimit", desc := "(II)I" } : Jvm.MethodName) ({ cls := "AidRegisterModel", name := "setTaxLimit", desc := "(II)I" } : Jvm.MethodName)) ∈ lw_all := qin_7 (i := 233) rfl rfl
theorem qw_1674 : (Jvm.Cond.code ({ cls := "AidRegisterModel", name := "setTaxLimit", desc := "(II)I" } : Jvm.MethodName) prog_10_method_83_code (4 : Nat) (Option.some Jvm.ClassFile.FieldType.int)) ∈ lw_all := qin_7 (i := 234) rfl rfl
theorem qw_1675 : (Jvm.Cond.methodLink "AidRegisterLaw" (221 : Nat) ({ cls := "AidRegisterModel", name := "setRate", desc := "(I)I" } : Jvm.MethodName)) ∈ lw_all := qin_7 (i := 235) rfl rfl
theorem qw_1676 : (Jvm.Cond.instanceMethod ({ cls := "AidRegisterModel", name := "setRate", desc := "(I)I" } : Jvm.MethodName)) ∈ lw_all := qin_7 (i := 236) rfl rfl
theorem qw_1677 : (Jvm.Cond.selects "AidRegisterModel" ({ cls := "AidRegisterModel", name := "setRate", desc := "(I)I" } : Jvm.MethodName) ({ cls := "AidRegisterModel", name := "setRate", desc := "(I)I" } : Jvm.MethodName)) ∈ lw_all := qin_7 (i := 237) rfl rfl
theorem qw_1678 : (Jvm.Cond.code ({ cls := "AidRegisterModel", name := "setRate", desc := "(I)I" } : Jvm.MethodName) prog_10_method_84_code (3 : Nat) (Option.some Jvm.ClassFile.FieldType.int)) ∈ lw_all := qin_7 (i := 238) rfl rfl
theorem qw_1679 : (Jvm.Cond.methodLink "AidRegisterLaw" (224 : Nat) ({ cls := "AidRegisterModel", name := "claim", desc := "(I)I" } : Jvm.MethodName)) ∈ lw_all := qin_7 (i := 239) rfl rfl
theorem qw_1680 : (Jvm.Cond.instanceMethod ({ cls := "AidRegisterModel", name := "claim", desc := "(I)I" } : Jvm.MethodName)) ∈ lw_all := qin_8 (i := 0) rfl rfl
theorem qw_1681 : (Jvm.Cond.selects "AidRegisterModel" ({ cls := "AidRegisterModel", name := "claim", desc := "(I)I" } : Jvm.MethodName) ({ cls := "AidRegisterModel", name := "claim", desc := "(I)I" } : Jvm.MethodName)) ∈ lw_all := qin_8 (i := 1) rfl rfl
theorem qw_1682 : (Jvm.Cond.code ({ cls := "AidRegisterModel", name := "claim", desc := "(I)I" } : Jvm.MethodName) prog_10_method_86_code (6 : Nat) (Option.some Jvm.ClassFile.FieldType.int)) ∈ lw_all := qin_8 (i := 2) rfl rfl
theorem qw_1683 : (Jvm.Cond.methodLink "AidRegisterModel" (317 : Nat) ({ cls := "AidRegisterModel", name := "claimOf", desc := "(II)I" } : Jvm.MethodName)) ∈ lw_all := qin_8 (i := 3) rfl rfl
theorem qw_1685 : (Jvm.Cond.instanceMethod ({ cls := "AidRegisterModel", name := "claimOf", desc := "(II)I" } : Jvm.MethodName)) ∈ lw_all := qin_8 (i := 5) rfl rfl
theorem qw_1686 : (Jvm.Cond.code ({ cls := "AidRegisterModel", name := "claimOf", desc := "(II)I" } : Jvm.MethodName) prog_10_method_85_code (4 : Nat) (Option.some Jvm.ClassFile.FieldType.int)) ∈ lw_all := qin_8 (i := 6) rfl rfl
theorem qw_1687 : (Jvm.Cond.methodLink "AidRegisterModel" (320 : Nat) ({ cls := "java/lang/Math", name := "abs", desc := "(I)I" } : Jvm.MethodName)) ∈ lw_all := qin_8 (i := 7) rfl rfl
theorem qw_1688 : (Jvm.Cond.static ({ cls := "java/lang/Math", name := "abs", desc := "(I)I" } : Jvm.MethodName)) ∈ lw_all := qin_8 (i := 8) rfl rfl
theorem qw_1689 : (Jvm.Cond.code ({ cls := "java/lang/Math", name := "abs", desc := "(I)I" } : Jvm.MethodName) prog_15_method_59_code (1 : Nat) (Option.some Jvm.ClassFile.FieldType.int)) ∈ lw_all := qin_8 (i := 9) rfl rfl
theorem qw_1690 : (Jvm.Cond.methodLink "AidRegisterLaw" (227 : Nat) ({ cls := "AidRegisterModel", name := "claimed", desc := "(II)I" } : Jvm.MethodName)) ∈ lw_all := qin_8 (i := 10) rfl rfl
theorem qw_1691 : (Jvm.Cond.instanceMethod ({ cls := "AidRegisterModel", name := "claimed", desc := "(II)I" } : Jvm.MethodName)) ∈ lw_all := qin_8 (i := 11) rfl rfl
theorem qw_1692 : (Jvm.Cond.selects "AidRegisterModel" ({ cls := "AidRegisterModel", name := "claimed", desc := "(II)I" } : Jvm.MethodName) ({ cls := "AidRegisterModel", name := "claimed", desc := "(II)I" } : Jvm.MethodName)) ∈ lw_all := qin_8 (i := 12) rfl rfl
theorem qw_1693 : (Jvm.Cond.code ({ cls := "AidRegisterModel", name := "claimed", desc := "(II)I" } : Jvm.MethodName) prog_10_method_87_code (3 : Nat) (Option.some Jvm.ClassFile.FieldType.int)) ∈ lw_all := qin_8 (i := 13) rfl rfl
theorem qw_1694 : (Jvm.Cond.methodLink "AidRegisterLaw" (231 : Nat) ({ cls := "AidRegisterModel", name := "claimable", desc := "(IZ)I" } : Jvm.MethodName)) ∈ lw_all := qin_8 (i := 14) rfl rfl
theorem qw_1695 : (Jvm.Cond.instanceMethod ({ cls := "AidRegisterModel", name := "claimable", desc := "(IZ)I" } : Jvm.MethodName)) ∈ lw_all := qin_8 (i := 15) rfl rfl
theorem qw_1696 : (Jvm.Cond.selects "AidRegisterModel" ({ cls := "AidRegisterModel", name := "claimable", desc := "(IZ)I" } : Jvm.MethodName) ({ cls := "AidRegisterModel", name := "claimable", desc := "(IZ)I" } : Jvm.MethodName)) ∈ lw_all := qin_8 (i := 16) rfl rfl
theorem qw_1697 : (Jvm.Cond.code ({ cls := "AidRegisterModel", name := "claimable", desc := "(IZ)I" } : Jvm.MethodName) prog_10_method_88_code (6 : Nat) (Option.some Jvm.ClassFile.FieldType.int)) ∈ lw_all := qin_8 (i := 17) rfl rfl
theorem qw_1698 : (Jvm.Cond.methodLink "AidRegisterLaw" (235 : Nat) ({ cls := "AidRegisterModel", name := "overclaimed", desc := "()I" } : Jvm.MethodName)) ∈ lw_all := qin_8 (i := 18) rfl rfl
theorem qw_1699 : (Jvm.Cond.instanceMethod ({ cls := "AidRegisterModel", name := "overclaimed", desc := "()I" } : Jvm.MethodName)) ∈ lw_all := qin_8 (i := 19) rfl rfl
theorem qw_1700 : (Jvm.Cond.selects "AidRegisterModel" ({ cls := "AidRegisterModel", name := "overclaimed", desc := "()I" } : Jvm.MethodName) ({ cls := "AidRegisterModel", name := "overclaimed", desc := "()I" } : Jvm.MethodName)) ∈ lw_all := qin_8 (i := 20) rfl rfl
theorem qw_1701 : (Jvm.Cond.code ({ cls := "AidRegisterModel", name := "overclaimed", desc := "()I" } : Jvm.MethodName) prog_10_method_91_code (3 : Nat) (Option.some Jvm.ClassFile.FieldType.int)) ∈ lw_all := qin_8 (i := 21) rfl rfl
theorem qw_1702 : (Jvm.Cond.methodLink "AidRegisterModel" (323 : Nat) ({ cls := "AidRegisterModel", name := "over", desc := "(I)I" } : Jvm.MethodName)) ∈ lw_all := qin_8 (i := 22) rfl rfl
theorem qw_1704 : (Jvm.Cond.instanceMethod ({ cls := "AidRegisterModel", name := "over", desc := "(I)I" } : Jvm.MethodName)) ∈ lw_all := qin_8 (i := 24) rfl rfl
theorem qw_1705 : (Jvm.Cond.code ({ cls := "AidRegisterModel", name := "over", desc := "(I)I" } : Jvm.MethodName) prog_10_method_89_code (2 : Nat) (Option.some Jvm.ClassFile.FieldType.int)) ∈ lw_all := qin_8 (i := 25) rfl rfl
theorem qw_1706 : (Jvm.Cond.methodLink "AidRegisterLaw" (239 : Nat) ({ cls := "AidRegisterModel", name := "totalAid", desc := "()I" } : Jvm.MethodName)) ∈ lw_all := qin_8 (i := 26) rfl rfl
theorem qw_1707 : (Jvm.Cond.instanceMethod ({ cls := "AidRegisterModel", name := "totalAid", desc := "()I" } : Jvm.MethodName)) ∈ lw_all := qin_8 (i := 27) rfl rfl
theorem qw_1708 : (Jvm.Cond.selects "AidRegisterModel" ({ cls := "AidRegisterModel", name := "totalAid", desc := "()I" } : Jvm.MethodName) ({ cls := "AidRegisterModel", name := "totalAid", desc := "()I" } : Jvm.MethodName)) ∈ lw_all := qin_8 (i := 28) rfl rfl
theorem qw_1709 : (Jvm.Cond.code ({ cls := "AidRegisterModel", name := "totalAid", desc := "()I" } : Jvm.MethodName) prog_10_method_92_code (1 : Nat) (Option.some Jvm.ClassFile.FieldType.int)) ∈ lw_all := qin_8 (i := 29) rfl rfl
theorem qw_1710 : (Jvm.Cond.methodLink "AidRegisterModel" (326 : Nat) ({ cls := "AidRegisterModel", name := "allAid", desc := "()I" } : Jvm.MethodName)) ∈ lw_all := qin_8 (i := 30) rfl rfl
theorem qw_1712 : (Jvm.Cond.instanceMethod ({ cls := "AidRegisterModel", name := "allAid", desc := "()I" } : Jvm.MethodName)) ∈ lw_all := qin_8 (i := 32) rfl rfl
theorem qw_1713 : (Jvm.Cond.code ({ cls := "AidRegisterModel", name := "allAid", desc := "()I" } : Jvm.MethodName) prog_10_method_21_code (3 : Nat) (Option.some Jvm.ClassFile.FieldType.int)) ∈ lw_all := qin_8 (i := 33) rfl rfl
theorem qw_1714 : (Jvm.Cond.methodLink "AidRegisterLaw" (242 : Nat) ({ cls := "AidRegisterModel", name := "lost", desc := "(I)I" } : Jvm.MethodName)) ∈ lw_all := qin_8 (i := 34) rfl rfl
theorem qw_1715 : (Jvm.Cond.instanceMethod ({ cls := "AidRegisterModel", name := "lost", desc := "(I)I" } : Jvm.MethodName)) ∈ lw_all := qin_8 (i := 35) rfl rfl
theorem qw_1716 : (Jvm.Cond.selects "AidRegisterModel" ({ cls := "AidRegisterModel", name := "lost", desc := "(I)I" } : Jvm.MethodName) ({ cls := "AidRegisterModel", name := "lost", desc := "(I)I" } : Jvm.MethodName)) ∈ lw_all := qin_8 (i := 36) rfl rfl
theorem qw_1717 : (Jvm.Cond.code ({ cls := "AidRegisterModel", name := "lost", desc := "(I)I" } : Jvm.MethodName) prog_10_method_93_code (4 : Nat) (Option.some Jvm.ClassFile.FieldType.int)) ∈ lw_all := qin_8 (i := 37) rfl rfl
theorem qw_1718 : (Jvm.Cond.methodLink "AidRegisterLaw" (246 : Nat) ({ cls := "AidRegisterModel", name := "mostUrgent", desc := "()I" } : Jvm.MethodName)) ∈ lw_all := qin_8 (i := 38) rfl rfl
theorem qw_1719 : (Jvm.Cond.instanceMethod ({ cls := "AidRegisterModel", name := "mostUrgent", desc := "()I" } : Jvm.MethodName)) ∈ lw_all := qin_8 (i := 39) rfl rfl
theorem qw_1720 : (Jvm.Cond.selects "AidRegisterModel" ({ cls := "AidRegisterModel", name := "mostUrgent", desc := "()I" } : Jvm.MethodName) ({ cls := "AidRegisterModel", name := "mostUrgent", desc := "()I" } : Jvm.MethodName)) ∈ lw_all := qin_8 (i := 40) rfl rfl
theorem qw_1721 : (Jvm.Cond.code ({ cls := "AidRegisterModel", name := "mostUrgent", desc := "()I" } : Jvm.MethodName) prog_10_method_94_code (5 : Nat) (Option.some Jvm.ClassFile.FieldType.int)) ∈ lw_all := qin_8 (i := 41) rfl rfl
theorem qw_1722 : (Jvm.Cond.methodLink "AidRegisterModel" (329 : Nat) ({ cls := "AidRegisterModel", name := "under", desc := "(I)I" } : Jvm.MethodName)) ∈ lw_all := qin_8 (i := 42) rfl rfl
theorem qw_1724 : (Jvm.Cond.instanceMethod ({ cls := "AidRegisterModel", name := "under", desc := "(I)I" } : Jvm.MethodName)) ∈ lw_all := qin_8 (i := 44) rfl rfl
theorem qw_1725 : (Jvm.Cond.code ({ cls := "AidRegisterModel", name := "under", desc := "(I)I" } : Jvm.MethodName) prog_10_method_90_code (2 : Nat) (Option.some Jvm.ClassFile.FieldType.int)) ∈ lw_all := qin_8 (i := 45) rfl rfl
theorem qw_1726 : (Jvm.Cond.methodLink "AidRegisterLaw" (249 : Nat) ({ cls := "AidRegisterModel", name := "limitedYears", desc := "(I)I" } : Jvm.MethodName)) ∈ lw_all := qin_8 (i := 46) rfl rfl
theorem qw_1727 : (Jvm.Cond.instanceMethod ({ cls := "AidRegisterModel", name := "limitedYears", desc := "(I)I" } : Jvm.MethodName)) ∈ lw_all := qin_8 (i := 47) rfl rfl
theorem qw_1728 : (Jvm.Cond.selects "AidRegisterModel" ({ cls := "AidRegisterModel", name := "limitedYears", desc := "(I)I" } : Jvm.MethodName) ({ cls := "AidRegisterModel", name := "limitedYears", desc := "(I)I" } : Jvm.MethodName)) ∈ lw_all := qin_8 (i := 48) rfl rfl
theorem qw_1729 : (Jvm.Cond.code ({ cls := "AidRegisterModel", name := "limitedYears", desc := "(I)I" } : Jvm.MethodName) prog_10_method_95_code (4 : Nat) (Option.some Jvm.ClassFile.FieldType.int)) ∈ lw_all := qin_8 (i := 49) rfl rfl
theorem qw_1730 : (Jvm.Cond.methodLink "AidRegisterLaw" (252 : Nat) ({ cls := "AidRegisterModel", name := "expiring", desc := "(II)I" } : Jvm.MethodName)) ∈ lw_all := qin_8 (i := 50) rfl rfl
theorem qw_1731 : (Jvm.Cond.instanceMethod ({ cls := "AidRegisterModel", name := "expiring", desc := "(II)I" } : Jvm.MethodName)) ∈ lw_all := qin_8 (i := 51) rfl rfl
theorem qw_1732 : (Jvm.Cond.selects "AidRegisterModel" ({ cls := "AidRegisterModel", name := "expiring", desc := "(II)I" } : Jvm.MethodName) ({ cls := "AidRegisterModel", name := "expiring", desc := "(II)I" } : Jvm.MethodName)) ∈ lw_all := qin_8 (i := 52) rfl rfl
theorem qw_1733 : (Jvm.Cond.code ({ cls := "AidRegisterModel", name := "expiring", desc := "(II)I" } : Jvm.MethodName) prog_10_method_96_code (5 : Nat) (Option.some Jvm.ClassFile.FieldType.int)) ∈ lw_all := qin_8 (i := 53) rfl rfl
theorem qw_1734 : (Jvm.Cond.methodLink "AidRegisterLaw" (255 : Nat) ({ cls := "AidRegisterModel", name := "useOf", desc := "(I)I" } : Jvm.MethodName)) ∈ lw_all := qin_8 (i := 54) rfl rfl
theorem qw_1735 : (Jvm.Cond.instanceMethod ({ cls := "AidRegisterModel", name := "useOf", desc := "(I)I" } : Jvm.MethodName)) ∈ lw_all := qin_8 (i := 55) rfl rfl
theorem qw_1736 : (Jvm.Cond.selects "AidRegisterModel" ({ cls := "AidRegisterModel", name := "useOf", desc := "(I)I" } : Jvm.MethodName) ({ cls := "AidRegisterModel", name := "useOf", desc := "(I)I" } : Jvm.MethodName)) ∈ lw_all := qin_8 (i := 56) rfl rfl
theorem qw_1737 : (Jvm.Cond.code ({ cls := "AidRegisterModel", name := "useOf", desc := "(I)I" } : Jvm.MethodName) prog_10_method_99_code (5 : Nat) (Option.some Jvm.ClassFile.FieldType.int)) ∈ lw_all := qin_8 (i := 57) rfl rfl
theorem qw_1738 : (Jvm.Cond.methodLink "AidRegisterLaw" (258 : Nat) ({ cls := "AidRegisterModel", name := "benefitRoom", desc := "(I)I" } : Jvm.MethodName)) ∈ lw_all := qin_8 (i := 58) rfl rfl
theorem qw_1739 : (Jvm.Cond.instanceMethod ({ cls := "AidRegisterModel", name := "benefitRoom", desc := "(I)I" } : Jvm.MethodName)) ∈ lw_all := qin_8 (i := 59) rfl rfl
theorem qw_1740 : (Jvm.Cond.selects "AidRegisterModel" ({ cls := "AidRegisterModel", name := "benefitRoom", desc := "(I)I" } : Jvm.MethodName) ({ cls := "AidRegisterModel", name := "benefitRoom", desc := "(I)I" } : Jvm.MethodName)) ∈ lw_all := qin_8 (i := 60) rfl rfl
theorem qw_1741 : (Jvm.Cond.code ({ cls := "AidRegisterModel", name := "benefitRoom", desc := "(I)I" } : Jvm.MethodName) prog_10_method_100_code (2 : Nat) (Option.some Jvm.ClassFile.FieldType.int)) ∈ lw_all := qin_8 (i := 61) rfl rfl
theorem qw_1742 : (Jvm.Cond.methodLink "AidRegisterLaw" (261 : Nat) ({ cls := "AidRegisterModel", name := "topDonor", desc := "(I)I" } : Jvm.MethodName)) ∈ lw_all := qin_8 (i := 62) rfl rfl
theorem qw_1743 : (Jvm.Cond.instanceMethod ({ cls := "AidRegisterModel", name := "topDonor", desc := "(I)I" } : Jvm.MethodName)) ∈ lw_all := qin_8 (i := 63) rfl rfl
theorem qw_1744 : (Jvm.Cond.selects "AidRegisterModel" ({ cls := "AidRegisterModel", name := "topDonor", desc := "(I)I" } : Jvm.MethodName) ({ cls := "AidRegisterModel", name := "topDonor", desc := "(I)I" } : Jvm.MethodName)) ∈ lw_all := qin_8 (i := 64) rfl rfl
theorem qw_1745 : (Jvm.Cond.code ({ cls := "AidRegisterModel", name := "topDonor", desc := "(I)I" } : Jvm.MethodName) prog_10_method_101_code (4 : Nat) (Option.some Jvm.ClassFile.FieldType.int)) ∈ lw_all := qin_8 (i := 65) rfl rfl
theorem qw_1746 : (Jvm.Cond.methodLink "AidRegisterLaw" (265 : Nat) ({ cls := "AidRegisterModel", name := "bestYear", desc := "()I" } : Jvm.MethodName)) ∈ lw_all := qin_8 (i := 66) rfl rfl
theorem qw_1747 : (Jvm.Cond.instanceMethod ({ cls := "AidRegisterModel", name := "bestYear", desc := "()I" } : Jvm.MethodName)) ∈ lw_all := qin_8 (i := 67) rfl rfl
theorem qw_1748 : (Jvm.Cond.selects "AidRegisterModel" ({ cls := "AidRegisterModel", name := "bestYear", desc := "()I" } : Jvm.MethodName) ({ cls := "AidRegisterModel", name := "bestYear", desc := "()I" } : Jvm.MethodName)) ∈ lw_all := qin_8 (i := 68) rfl rfl
theorem qw_1749 : (Jvm.Cond.code ({ cls := "AidRegisterModel", name := "bestYear", desc := "()I" } : Jvm.MethodName) prog_10_method_102_code (6 : Nat) (Option.some Jvm.ClassFile.FieldType.int)) ∈ lw_all := qin_8 (i := 69) rfl rfl
theorem qw_1750 : (Jvm.Cond.methodLink "AidRegisterLaw" (271 : Nat) ({ cls := "AidRegisterModel", name := "gainOf", desc := "(III)I" } : Jvm.MethodName)) ∈ lw_all := qin_8 (i := 70) rfl rfl
theorem qw_1751 : (Jvm.Cond.instanceMethod ({ cls := "AidRegisterModel", name := "gainOf", desc := "(III)I" } : Jvm.MethodName)) ∈ lw_all := qin_8 (i := 71) rfl rfl
theorem qw_1752 : (Jvm.Cond.selects "AidRegisterModel" ({ cls := "AidRegisterModel", name := "gainOf", desc := "(III)I" } : Jvm.MethodName) ({ cls := "AidRegisterModel", name := "gainOf", desc := "(III)I" } : Jvm.MethodName)) ∈ lw_all := qin_8 (i := 72) rfl rfl
theorem qw_1753 : (Jvm.Cond.code ({ cls := "AidRegisterModel", name := "gainOf", desc := "(III)I" } : Jvm.MethodName) prog_10_method_104_code (4 : Nat) (Option.some Jvm.ClassFile.FieldType.int)) ∈ lw_all := qin_8 (i := 73) rfl rfl
theorem qw_1754 : (Jvm.Cond.methodLink "AidRegisterModel" (332 : Nat) ({ cls := "AidRegisterModel", name := "aidWith", desc := "(III)I" } : Jvm.MethodName)) ∈ lw_all := qin_8 (i := 74) rfl rfl
theorem qw_1756 : (Jvm.Cond.instanceMethod ({ cls := "AidRegisterModel", name := "aidWith", desc := "(III)I" } : Jvm.MethodName)) ∈ lw_all := qin_8 (i := 76) rfl rfl
theorem qw_1757 : (Jvm.Cond.code ({ cls := "AidRegisterModel", name := "aidWith", desc := "(III)I" } : Jvm.MethodName) prog_10_method_103_code (5 : Nat) (Option.some Jvm.ClassFile.FieldType.int)) ∈ lw_all := qin_8 (i := 77) rfl rfl
theorem qw_1758 : (Jvm.Cond.methodLink "AidRegisterLaw" (275 : Nat) ({ cls := "AidRegisterModel", name := "bestAsked", desc := "()I" } : Jvm.MethodName)) ∈ lw_all := qin_8 (i := 78) rfl rfl
theorem qw_1759 : (Jvm.Cond.instanceMethod ({ cls := "AidRegisterModel", name := "bestAsked", desc := "()I" } : Jvm.MethodName)) ∈ lw_all := qin_8 (i := 79) rfl rfl
theorem qw_1760 : (Jvm.Cond.selects "AidRegisterModel" ({ cls := "AidRegisterModel", name := "bestAsked", desc := "()I" } : Jvm.MethodName) ({ cls := "AidRegisterModel", name := "bestAsked", desc := "()I" } : Jvm.MethodName)) ∈ lw_all := qin_8 (i := 80) rfl rfl
theorem qw_1761 : (Jvm.Cond.code ({ cls := "AidRegisterModel", name := "bestAsked", desc := "()I" } : Jvm.MethodName) prog_10_method_105_code (5 : Nat) (Option.some Jvm.ClassFile.FieldType.int)) ∈ lw_all := qin_8 (i := 81) rfl rfl
theorem qw_1762 : (Jvm.Cond.methodLink "AidRegisterLaw" (278 : Nat) ({ cls := "AidRegisterModel", name := "neededSpan", desc := "(IZ)I" } : Jvm.MethodName)) ∈ lw_all := qin_8 (i := 82) rfl rfl
theorem qw_1763 : (Jvm.Cond.instanceMethod ({ cls := "AidRegisterModel", name := "neededSpan", desc := "(IZ)I" } : Jvm.MethodName)) ∈ lw_all := qin_8 (i := 83) rfl rfl
theorem qw_1764 : (Jvm.Cond.selects "AidRegisterModel" ({ cls := "AidRegisterModel", name := "neededSpan", desc := "(IZ)I" } : Jvm.MethodName) ({ cls := "AidRegisterModel", name := "neededSpan", desc := "(IZ)I" } : Jvm.MethodName)) ∈ lw_all := qin_8 (i := 84) rfl rfl
theorem qw_1765 : (Jvm.Cond.code ({ cls := "AidRegisterModel", name := "neededSpan", desc := "(IZ)I" } : Jvm.MethodName) prog_10_method_107_code (10 : Nat) (Option.some Jvm.ClassFile.FieldType.int)) ∈ lw_all := qin_8 (i := 85) rfl rfl
theorem qw_1766 : (Jvm.Cond.methodLink "AidRegisterModel" (335 : Nat) ({ cls := "AidRegisterModel", name := "isDonorThere", desc := "(II)Z" } : Jvm.MethodName)) ∈ lw_all := qin_8 (i := 86) rfl rfl
theorem qw_1768 : (Jvm.Cond.instanceMethod ({ cls := "AidRegisterModel", name := "isDonorThere", desc := "(II)Z" } : Jvm.MethodName)) ∈ lw_all := qin_8 (i := 88) rfl rfl
theorem qw_1769 : (Jvm.Cond.code ({ cls := "AidRegisterModel", name := "isDonorThere", desc := "(II)Z" } : Jvm.MethodName) prog_10_method_106_code (4 : Nat) (Option.some Jvm.ClassFile.FieldType.boolean)) ∈ lw_all := qin_8 (i := 89) rfl rfl
theorem qw_1770 : (Jvm.Cond.methodLink "AidRegisterLaw" (281 : Nat) ({ cls := "AidRegisterModel", name := "gainOfSplit", desc := "(II)I" } : Jvm.MethodName)) ∈ lw_all := qin_8 (i := 90) rfl rfl
theorem qw_1771 : (Jvm.Cond.instanceMethod ({ cls := "AidRegisterModel", name := "gainOfSplit", desc := "(II)I" } : Jvm.MethodName)) ∈ lw_all := qin_8 (i := 91) rfl rfl
theorem qw_1772 : (Jvm.Cond.selects "AidRegisterModel" ({ cls := "AidRegisterModel", name := "gainOfSplit", desc := "(II)I" } : Jvm.MethodName) ({ cls := "AidRegisterModel", name := "gainOfSplit", desc := "(II)I" } : Jvm.MethodName)) ∈ lw_all := qin_8 (i := 92) rfl rfl
theorem qw_1773 : (Jvm.Cond.code ({ cls := "AidRegisterModel", name := "gainOfSplit", desc := "(II)I" } : Jvm.MethodName) prog_10_method_108_code (5 : Nat) (Option.some Jvm.ClassFile.FieldType.int)) ∈ lw_all := qin_8 (i := 93) rfl rfl
theorem qw_1774 : (Jvm.Cond.methodLink "AidRegisterModel" (338 : Nat) ({ cls := "AidRegisterModel", name := "begins", desc := "()V" } : Jvm.MethodName)) ∈ lw_all := qin_8 (i := 94) rfl rfl
theorem qw_1776 : (Jvm.Cond.instanceMethod ({ cls := "AidRegisterModel", name := "begins", desc := "()V" } : Jvm.MethodName)) ∈ lw_all := qin_8 (i := 96) rfl rfl
theorem qw_1777 : (Jvm.Cond.code ({ cls := "AidRegisterModel", name := "begins", desc := "()V" } : Jvm.MethodName) prog_10_method_97_code (1 : Nat) (Option.none : Option Jvm.ClassFile.FieldType)) ∈ lw_all := qin_8 (i := 97) rfl rfl
theorem qw_1778 : (Jvm.Cond.methodLink "AidRegisterModel" (341 : Nat) ({ cls := "AidRegisterModel", name := "ends", desc := "()V" } : Jvm.MethodName)) ∈ lw_all := qin_8 (i := 98) rfl rfl
theorem qw_1780 : (Jvm.Cond.instanceMethod ({ cls := "AidRegisterModel", name := "ends", desc := "()V" } : Jvm.MethodName)) ∈ lw_all := qin_8 (i := 100) rfl rfl
theorem qw_1781 : (Jvm.Cond.code ({ cls := "AidRegisterModel", name := "ends", desc := "()V" } : Jvm.MethodName) prog_10_method_98_code (1 : Nat) (Option.none : Option Jvm.ClassFile.FieldType)) ∈ lw_all := qin_8 (i := 101) rfl rfl
theorem qw_1782 : (Jvm.Cond.methodLink "AidRegisterLaw" (284 : Nat) ({ cls := "AidRegisterModel", name := "sample", desc := "(III)I" } : Jvm.MethodName)) ∈ lw_all := qin_8 (i := 102) rfl rfl
theorem qw_1783 : (Jvm.Cond.instanceMethod ({ cls := "AidRegisterModel", name := "sample", desc := "(III)I" } : Jvm.MethodName)) ∈ lw_all := qin_8 (i := 103) rfl rfl
theorem qw_1784 : (Jvm.Cond.selects "AidRegisterModel" ({ cls := "AidRegisterModel", name := "sample", desc := "(III)I" } : Jvm.MethodName) ({ cls := "AidRegisterModel", name := "sample", desc := "(III)I" } : Jvm.MethodName)) ∈ lw_all := qin_8 (i := 104) rfl rfl
theorem qw_1785 : (Jvm.Cond.code ({ cls := "AidRegisterModel", name := "sample", desc := "(III)I" } : Jvm.MethodName) prog_10_method_111_code (4 : Nat) (Option.some Jvm.ClassFile.FieldType.int)) ∈ lw_all := qin_8 (i := 105) rfl rfl
theorem qw_1786 : (Jvm.Cond.methodLink "AidRegisterModel" (353 : Nat) ({ cls := "AidRegisterModel", name := "noSample", desc := "(I)Z" } : Jvm.MethodName)) ∈ lw_all := qin_8 (i := 106) rfl rfl
theorem qw_1788 : (Jvm.Cond.instanceMethod ({ cls := "AidRegisterModel", name := "noSample", desc := "(I)Z" } : Jvm.MethodName)) ∈ lw_all := qin_8 (i := 108) rfl rfl
theorem qw_1789 : (Jvm.Cond.code ({ cls := "AidRegisterModel", name := "noSample", desc := "(I)Z" } : Jvm.MethodName) prog_10_method_110_code (2 : Nat) (Option.some Jvm.ClassFile.FieldType.boolean)) ∈ lw_all := qin_8 (i := 109) rfl rfl
theorem qw_1790 : (Jvm.Cond.methodLink "AidRegisterModel" (356 : Nat) ({ cls := "AidRegisterModel", name := "draws", desc := "(II)V" } : Jvm.MethodName)) ∈ lw_all := qin_8 (i := 110) rfl rfl
theorem qw_1792 : (Jvm.Cond.instanceMethod ({ cls := "AidRegisterModel", name := "draws", desc := "(II)V" } : Jvm.MethodName)) ∈ lw_all := qin_8 (i := 112) rfl rfl
theorem qw_1793 : (Jvm.Cond.code ({ cls := "AidRegisterModel", name := "draws", desc := "(II)V" } : Jvm.MethodName) prog_10_method_109_code (6 : Nat) (Option.none : Option Jvm.ClassFile.FieldType)) ∈ lw_all := qin_8 (i := 113) rfl rfl
theorem qw_1794 : (Jvm.Cond.constant "AidRegisterModel" (350 : Nat) (1103515245 : Int32)) ∈ lw_all := qin_8 (i := 114) rfl rfl
theorem qw_1795 : (Jvm.Cond.constant "AidRegisterModel" (351 : Nat) (2147483647 : Int32)) ∈ lw_all := qin_8 (i := 115) rfl rfl
theorem qw_1796 : (Jvm.Cond.constant "AidRegisterModel" (352 : Nat) (65536 : Int32)) ∈ lw_all := qin_8 (i := 116) rfl rfl
theorem qw_1797 : (Jvm.Cond.methodLink "AidRegisterLaw" (287 : Nat) ({ cls := "AidRegisterModel", name := "wrongIn", desc := "(II)I" } : Jvm.MethodName)) ∈ lw_all := qin_8 (i := 117) rfl rfl
theorem qw_1798 : (Jvm.Cond.instanceMethod ({ cls := "AidRegisterModel", name := "wrongIn", desc := "(II)I" } : Jvm.MethodName)) ∈ lw_all := qin_8 (i := 118) rfl rfl
theorem qw_1799 : (Jvm.Cond.selects "AidRegisterModel" ({ cls := "AidRegisterModel", name := "wrongIn", desc := "(II)I" } : Jvm.MethodName) ({ cls := "AidRegisterModel", name := "wrongIn", desc := "(II)I" } : Jvm.MethodName)) ∈ lw_all := qin_8 (i := 119) rfl rfl
theorem qw_1800 : (Jvm.Cond.code ({ cls := "AidRegisterModel", name := "wrongIn", desc := "(II)I" } : Jvm.MethodName) prog_10_method_112_code (5 : Nat) (Option.some Jvm.ClassFile.FieldType.int)) ∈ lw_all := qin_8 (i := 120) rfl rfl
theorem qw_1801 : (Jvm.Cond.methodLink "AidRegisterLaw" (291 : Nat) ({ cls := "AidRegisterModel", name := "estimate", desc := "(II)D" } : Jvm.MethodName)) ∈ lw_all := qin_8 (i := 121) rfl rfl
theorem qw_1802 : (Jvm.Cond.instanceMethod ({ cls := "AidRegisterModel", name := "estimate", desc := "(II)D" } : Jvm.MethodName)) ∈ lw_all := qin_8 (i := 122) rfl rfl
theorem qw_1803 : (Jvm.Cond.selects "AidRegisterModel" ({ cls := "AidRegisterModel", name := "estimate", desc := "(II)D" } : Jvm.MethodName) ({ cls := "AidRegisterModel", name := "estimate", desc := "(II)D" } : Jvm.MethodName)) ∈ lw_all := qin_8 (i := 123) rfl rfl
theorem qw_1804 : (Jvm.Cond.code ({ cls := "AidRegisterModel", name := "estimate", desc := "(II)D" } : Jvm.MethodName) prog_10_method_113_code (7 : Nat) (Option.some Jvm.ClassFile.FieldType.double)) ∈ lw_all := qin_8 (i := 124) rfl rfl
theorem qw_1805 : (Jvm.Cond.methodLink "AidRegisterLaw" (296 : Nat) ({ cls := "AidRegisterModel", name := "aidShare", desc := "()F" } : Jvm.MethodName)) ∈ lw_all := qin_8 (i := 125) rfl rfl
theorem qw_1806 : (Jvm.Cond.instanceMethod ({ cls := "AidRegisterModel", name := "aidShare", desc := "()F" } : Jvm.MethodName)) ∈ lw_all := qin_8 (i := 126) rfl rfl
theorem qw_1807 : (Jvm.Cond.selects "AidRegisterModel" ({ cls := "AidRegisterModel", name := "aidShare", desc := "()F" } : Jvm.MethodName) ({ cls := "AidRegisterModel", name := "aidShare", desc := "()F" } : Jvm.MethodName)) ∈ lw_all := qin_8 (i := 127) rfl rfl
theorem qw_1808 : (Jvm.Cond.code ({ cls := "AidRegisterModel", name := "aidShare", desc := "()F" } : Jvm.MethodName) prog_10_method_114_code (3 : Nat) (Option.some Jvm.ClassFile.FieldType.float)) ∈ lw_all := qin_8 (i := 128) rfl rfl
theorem qw_1809 : (Jvm.Cond.methodLink "AidRegisterLaw" (301 : Nat) ({ cls := "AidRegisterModel", name := "meanGift", desc := "()D" } : Jvm.MethodName)) ∈ lw_all := qin_8 (i := 129) rfl rfl
theorem qw_1810 : (Jvm.Cond.instanceMethod ({ cls := "AidRegisterModel", name := "meanGift", desc := "()D" } : Jvm.MethodName)) ∈ lw_all := qin_8 (i := 130) rfl rfl
theorem qw_1811 : (Jvm.Cond.selects "AidRegisterModel" ({ cls := "AidRegisterModel", name := "meanGift", desc := "()D" } : Jvm.MethodName) ({ cls := "AidRegisterModel", name := "meanGift", desc := "()D" } : Jvm.MethodName)) ∈ lw_all := qin_8 (i := 131) rfl rfl
theorem qw_1812 : (Jvm.Cond.code ({ cls := "AidRegisterModel", name := "meanGift", desc := "()D" } : Jvm.MethodName) prog_10_method_115_code (4 : Nat) (Option.some Jvm.ClassFile.FieldType.double)) ∈ lw_all := qin_8 (i := 132) rfl rfl
theorem qw_1813 : (Jvm.Cond.methodLink "AidRegisterLaw" (304 : Nat) ({ cls := "AidRegisterModel", name := "printStatement", desc := "(I)I" } : Jvm.MethodName)) ∈ lw_all := qin_8 (i := 133) rfl rfl
theorem qw_1814 : (Jvm.Cond.instanceMethod ({ cls := "AidRegisterModel", name := "printStatement", desc := "(I)I" } : Jvm.MethodName)) ∈ lw_all := qin_8 (i := 134) rfl rfl
theorem qw_1815 : (Jvm.Cond.selects "AidRegisterModel" ({ cls := "AidRegisterModel", name := "printStatement", desc := "(I)I" } : Jvm.MethodName) ({ cls := "AidRegisterModel", name := "printStatement", desc := "(I)I" } : Jvm.MethodName)) ∈ lw_all := qin_8 (i := 135) rfl rfl
theorem qw_1816 : (Jvm.Cond.code ({ cls := "AidRegisterModel", name := "printStatement", desc := "(I)I" } : Jvm.MethodName) prog_10_method_118_code (3 : Nat) (Option.some Jvm.ClassFile.FieldType.int)) ∈ lw_all := qin_8 (i := 136) rfl rfl
theorem qw_1817 : (Jvm.Cond.methodLink "AidRegisterModel" (366 : Nat) ({ cls := "AidRegisterModel", name := "writeNumber", desc := "(I)V" } : Jvm.MethodName)) ∈ lw_all := qin_8 (i := 137) rfl rfl
theorem qw_1819 : (Jvm.Cond.instanceMethod ({ cls := "AidRegisterModel", name := "writeNumber", desc := "(I)V" } : Jvm.MethodName)) ∈ lw_all := qin_8 (i := 139) rfl rfl
theorem qw_1820 : (Jvm.Cond.code ({ cls := "AidRegisterModel", name := "writeNumber", desc := "(I)V" } : Jvm.MethodName) prog_10_method_117_code (3 : Nat) (Option.none : Option Jvm.ClassFile.FieldType)) ∈ lw_all := qin_8 (i := 140) rfl rfl
theorem qw_1821 : (Jvm.Cond.methodLink "AidRegisterModel" (363 : Nat) ({ cls := "AidRegisterModel", name := "write", desc := "(I)V" } : Jvm.MethodName)) ∈ lw_all := qin_8 (i := 141) rfl rfl
theorem qw_1823 : (Jvm.Cond.instanceMethod ({ cls := "AidRegisterModel", name := "write", desc := "(I)V" } : Jvm.MethodName)) ∈ lw_all := qin_8 (i := 143) rfl rfl
theorem qw_1824 : (Jvm.Cond.code ({ cls := "AidRegisterModel", name := "write", desc := "(I)V" } : Jvm.MethodName) prog_10_method_116_code (2 : Nat) (Option.none : Option Jvm.ClassFile.FieldType)) ∈ lw_all := qin_8 (i := 144) rfl rfl
theorem qw_1825 : (Jvm.Cond.methodLink "AidRegisterLaw" (308 : Nat) ({ cls := "AidRegisterModel", name := "outputByte", desc := "(I)I" } : Jvm.MethodName)) ∈ lw_all := qin_8 (i := 145) rfl rfl
theorem qw_1826 : (Jvm.Cond.instanceMethod ({ cls := "AidRegisterModel", name := "outputByte", desc := "(I)I" } : Jvm.MethodName)) ∈ lw_all := qin_8 (i := 146) rfl rfl
theorem qw_1827 : (Jvm.Cond.selects "AidRegisterModel" ({ cls := "AidRegisterModel", name := "outputByte", desc := "(I)I" } : Jvm.MethodName) ({ cls := "AidRegisterModel", name := "outputByte", desc := "(I)I" } : Jvm.MethodName)) ∈ lw_all := qin_8 (i := 147) rfl rfl
theorem qw_1828 : (Jvm.Cond.code ({ cls := "AidRegisterModel", name := "outputByte", desc := "(I)I" } : Jvm.MethodName) prog_10_method_119_code (2 : Nat) (Option.some Jvm.ClassFile.FieldType.int)) ∈ lw_all := qin_8 (i := 148) rfl rfl
theorem qw_1829 : (Jvm.Cond.methodLink "AidRegisterLaw" (312 : Nat) ({ cls := "AidRegisterModel", name := "undo", desc := "()I" } : Jvm.MethodName)) ∈ lw_all := qin_8 (i := 149) rfl rfl
theorem qw_1830 : (Jvm.Cond.instanceMethod ({ cls := "AidRegisterModel", name := "undo", desc := "()I" } : Jvm.MethodName)) ∈ lw_all := qin_8 (i := 150) rfl rfl
theorem qw_1831 : (Jvm.Cond.selects "AidRegisterModel" ({ cls := "AidRegisterModel", name := "undo", desc := "()I" } : Jvm.MethodName) ({ cls := "AidRegisterModel", name := "undo", desc := "()I" } : Jvm.MethodName)) ∈ lw_all := qin_8 (i := 151) rfl rfl
theorem qw_1832 : (Jvm.Cond.code ({ cls := "AidRegisterModel", name := "undo", desc := "()I" } : Jvm.MethodName) prog_10_method_120_code (1 : Nat) (Option.some Jvm.ClassFile.FieldType.int)) ∈ lw_all := qin_8 (i := 152) rfl rfl
theorem qw_1833 : (Jvm.Cond.methodLink "AidRegisterLaw" (316 : Nat) ({ cls := "AidRegisterModel", name := "saveState", desc := "()I" } : Jvm.MethodName)) ∈ lw_all := qin_8 (i := 153) rfl rfl
theorem qw_1834 : (Jvm.Cond.instanceMethod ({ cls := "AidRegisterModel", name := "saveState", desc := "()I" } : Jvm.MethodName)) ∈ lw_all := qin_8 (i := 154) rfl rfl
theorem qw_1835 : (Jvm.Cond.selects "AidRegisterModel" ({ cls := "AidRegisterModel", name := "saveState", desc := "()I" } : Jvm.MethodName) ({ cls := "AidRegisterModel", name := "saveState", desc := "()I" } : Jvm.MethodName)) ∈ lw_all := qin_8 (i := 155) rfl rfl
theorem qw_1836 : (Jvm.Cond.code ({ cls := "AidRegisterModel", name := "saveState", desc := "()I" } : Jvm.MethodName) prog_10_method_121_code (1 : Nat) (Option.some Jvm.ClassFile.FieldType.int)) ∈ lw_all := qin_8 (i := 156) rfl rfl
theorem qw_1837 : (Jvm.Cond.methodLink "AidRegisterLaw" (320 : Nat) ({ cls := "AidRegisterModel", name := "restoreState", desc := "()I" } : Jvm.MethodName)) ∈ lw_all := qin_8 (i := 157) rfl rfl
theorem qw_1838 : (Jvm.Cond.instanceMethod ({ cls := "AidRegisterModel", name := "restoreState", desc := "()I" } : Jvm.MethodName)) ∈ lw_all := qin_8 (i := 158) rfl rfl
theorem qw_1839 : (Jvm.Cond.selects "AidRegisterModel" ({ cls := "AidRegisterModel", name := "restoreState", desc := "()I" } : Jvm.MethodName) ({ cls := "AidRegisterModel", name := "restoreState", desc := "()I" } : Jvm.MethodName)) ∈ lw_all := qin_8 (i := 159) rfl rfl
theorem qw_1840 : (Jvm.Cond.code ({ cls := "AidRegisterModel", name := "restoreState", desc := "()I" } : Jvm.MethodName) prog_10_method_122_code (1 : Nat) (Option.some Jvm.ClassFile.FieldType.int)) ∈ lw_all := qin_8 (i := 160) rfl rfl
theorem qw_1841 : (Jvm.Cond.arrayClass Jvm.ClassFile.FieldType.double) ∈ lw_all := qin_8 (i := 161) rfl rfl
theorem qw_1843 : (Jvm.Cond.fieldLink "java/lang/String" (9 : Nat) "java/lang/String" "value" "[B") ∈ lw_all := qin_8 (i := 163) rfl rfl
theorem qw_1844 : (Jvm.Cond.fieldLink "java/lang/String" (15 : Nat) "java/lang/String" "coder" "B") ∈ lw_all := qin_8 (i := 164) rfl rfl
