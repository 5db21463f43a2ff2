-- ===== PART A: goes FIRST, ahead of the names: the tables' words, and 'selects' of the private methods out of them =====
/-- a private method of a class that the tables say can be made, by its rows of tables_1 -/
def lw_okq (q : MethodName × Nat) : Prop := (q.1.cls ≠ "java/lang/invoke/MethodHandle" ∧ q.1.cls ≠ "java/lang/invoke/VarHandle") ∧ Cond.instantiable q.1.cls q.2 ∈ tables_1 ∧ Cond.privateMethod q.1 ∈ tables_1 ∧ Cond.instanceMethod q.1 ∈ tables_1
theorem lw_p0 : lw_okq (⟨"SecondBest$Text", "skipBlanks", "()V"⟩, 5) := ⟨⟨by decide +kernel, by decide +kernel⟩, List.mem_of_getElem? (i := 23) (by decide +kernel), List.mem_of_getElem? (i := 310) (by decide +kernel), List.mem_of_getElem? (i := 311) (by decide +kernel)⟩
theorem lw_p1 : lw_okq (⟨"SecondBest$Text", "readClause", "(LSecondBest$Realm;)V"⟩, 5) := ⟨⟨by decide +kernel, by decide +kernel⟩, List.mem_of_getElem? (i := 23) (by decide +kernel), List.mem_of_getElem? (i := 314) (by decide +kernel), List.mem_of_getElem? (i := 315) (by decide +kernel)⟩
theorem lw_p2 : lw_okq (⟨"SecondBest$Text", "blame", "(II)V"⟩, 5) := ⟨⟨by decide +kernel, by decide +kernel⟩, List.mem_of_getElem? (i := 23) (by decide +kernel), List.mem_of_getElem? (i := 325) (by decide +kernel), List.mem_of_getElem? (i := 326) (by decide +kernel)⟩
theorem lw_p3 : lw_okq (⟨"SecondBest$Text", "readLaw", "(LSecondBest$Realm;)V"⟩, 5) := ⟨⟨by decide +kernel, by decide +kernel⟩, List.mem_of_getElem? (i := 23) (by decide +kernel), List.mem_of_getElem? (i := 329) (by decide +kernel), List.mem_of_getElem? (i := 330) (by decide +kernel)⟩
theorem lw_p4 : lw_okq (⟨"SecondBest$Text", "readNumber", "(II)I"⟩, 5) := ⟨⟨by decide +kernel, by decide +kernel⟩, List.mem_of_getElem? (i := 23) (by decide +kernel), List.mem_of_getElem? (i := 333) (by decide +kernel), List.mem_of_getElem? (i := 334) (by decide +kernel)⟩
theorem lw_p5 : lw_okq (⟨"SecondBest$Text", "readPerson", "(LSecondBest$Realm;)V"⟩, 5) := ⟨⟨by decide +kernel, by decide +kernel⟩, List.mem_of_getElem? (i := 23) (by decide +kernel), List.mem_of_getElem? (i := 340) (by decide +kernel), List.mem_of_getElem? (i := 341) (by decide +kernel)⟩
theorem lw_p6 : lw_okq (⟨"SecondBest$Text", "readTurns", "(LSecondBest$Realm;)V"⟩, 5) := ⟨⟨by decide +kernel, by decide +kernel⟩, List.mem_of_getElem? (i := 23) (by decide +kernel), List.mem_of_getElem? (i := 344) (by decide +kernel), List.mem_of_getElem? (i := 345) (by decide +kernel)⟩
theorem lw_p7 : lw_okq (⟨"SecondBest$Text", "isNext", "(I)Z"⟩, 5) := ⟨⟨by decide +kernel, by decide +kernel⟩, List.mem_of_getElem? (i := 23) (by decide +kernel), List.mem_of_getElem? (i := 348) (by decide +kernel), List.mem_of_getElem? (i := 349) (by decide +kernel)⟩
theorem lw_p8 : lw_okq (⟨"SecondBest$Text", "readOffice", "(LSecondBest$Realm;)V"⟩, 5) := ⟨⟨by decide +kernel, by decide +kernel⟩, List.mem_of_getElem? (i := 23) (by decide +kernel), List.mem_of_getElem? (i := 352) (by decide +kernel), List.mem_of_getElem? (i := 353) (by decide +kernel)⟩
theorem lw_p9 : lw_okq (⟨"SecondBest$Text", "readSign", "(I)V"⟩, 5) := ⟨⟨by decide +kernel, by decide +kernel⟩, List.mem_of_getElem? (i := 23) (by decide +kernel), List.mem_of_getElem? (i := 356) (by decide +kernel), List.mem_of_getElem? (i := 357) (by decide +kernel)⟩
theorem lw_p10 : lw_okq (⟨"SecondBest", "countRings", "()I"⟩, 11) := ⟨⟨by decide +kernel, by decide +kernel⟩, List.mem_of_getElem? (i := 15) (by decide +kernel), List.mem_of_getElem? (i := 391) (by decide +kernel), List.mem_of_getElem? (i := 392) (by decide +kernel)⟩
theorem lw_p11 : lw_okq (⟨"SecondBest", "isPerson", "(I)Z"⟩, 11) := ⟨⟨by decide +kernel, by decide +kernel⟩, List.mem_of_getElem? (i := 15) (by decide +kernel), List.mem_of_getElem? (i := 425) (by decide +kernel), List.mem_of_getElem? (i := 426) (by decide +kernel)⟩
theorem lw_p12 : lw_okq (⟨"SecondBest", "isOffice", "(I)Z"⟩, 11) := ⟨⟨by decide +kernel, by decide +kernel⟩, List.mem_of_getElem? (i := 15) (by decide +kernel), List.mem_of_getElem? (i := 435) (by decide +kernel), List.mem_of_getElem? (i := 436) (by decide +kernel)⟩
theorem lw_p13 : lw_okq (⟨"SecondBest", "whyNoDays", "(I)I"⟩, 11) := ⟨⟨by decide +kernel, by decide +kernel⟩, List.mem_of_getElem? (i := 15) (by decide +kernel), List.mem_of_getElem? (i := 462) (by decide +kernel), List.mem_of_getElem? (i := 463) (by decide +kernel)⟩
theorem lw_p14 : lw_okq (⟨"SecondBest$Contest", "foremost", "(LSecondBest$Realm;LSecondBest$State;)I"⟩, 4) := ⟨⟨by decide +kernel, by decide +kernel⟩, List.mem_of_getElem? (i := 90) (by decide +kernel), List.mem_of_getElem? (i := 490) (by decide +kernel), List.mem_of_getElem? (i := 491) (by decide +kernel)⟩
theorem lw_p15 : lw_okq (⟨"SecondBest$Contest", "isAheadOf", "(LSecondBest$Realm;II)Z"⟩, 4) := ⟨⟨by decide +kernel, by decide +kernel⟩, List.mem_of_getElem? (i := 90) (by decide +kernel), List.mem_of_getElem? (i := 499) (by decide +kernel), List.mem_of_getElem? (i := 500) (by decide +kernel)⟩
def lw_privs_1 : List (MethodName × Nat) := [(⟨"SecondBest$Text", "skipBlanks", "()V"⟩, 5), (⟨"SecondBest$Text", "readClause", "(LSecondBest$Realm;)V"⟩, 5), (⟨"SecondBest$Text", "blame", "(II)V"⟩, 5), (⟨"SecondBest$Text", "readLaw", "(LSecondBest$Realm;)V"⟩, 5), (⟨"SecondBest$Text", "readNumber", "(II)I"⟩, 5), (⟨"SecondBest$Text", "readPerson", "(LSecondBest$Realm;)V"⟩, 5), (⟨"SecondBest$Text", "readTurns", "(LSecondBest$Realm;)V"⟩, 5), (⟨"SecondBest$Text", "isNext", "(I)Z"⟩, 5), (⟨"SecondBest$Text", "readOffice", "(LSecondBest$Realm;)V"⟩, 5), (⟨"SecondBest$Text", "readSign", "(I)V"⟩, 5), (⟨"SecondBest", "countRings", "()I"⟩, 11), (⟨"SecondBest", "isPerson", "(I)Z"⟩, 11), (⟨"SecondBest", "isOffice", "(I)Z"⟩, 11), (⟨"SecondBest", "whyNoDays", "(I)I"⟩, 11), (⟨"SecondBest$Contest", "foremost", "(LSecondBest$Realm;LSecondBest$State;)I"⟩, 4), (⟨"SecondBest$Contest", "isAheadOf", "(LSecondBest$Realm;II)Z"⟩, 4)]
theorem lw_r1 : ∀ q ∈ lw_privs_1, lw_okq q := List.forall_mem_cons.mpr ⟨lw_p0, List.forall_mem_cons.mpr ⟨lw_p1, List.forall_mem_cons.mpr ⟨lw_p2, List.forall_mem_cons.mpr ⟨lw_p3, List.forall_mem_cons.mpr ⟨lw_p4, List.forall_mem_cons.mpr ⟨lw_p5, List.forall_mem_cons.mpr ⟨lw_p6, List.forall_mem_cons.mpr ⟨lw_p7, List.forall_mem_cons.mpr ⟨lw_p8, List.forall_mem_cons.mpr ⟨lw_p9, List.forall_mem_cons.mpr ⟨lw_p10, List.forall_mem_cons.mpr ⟨lw_p11, List.forall_mem_cons.mpr ⟨lw_p12, List.forall_mem_cons.mpr ⟨lw_p13, List.forall_mem_cons.mpr ⟨lw_p14, List.forall_mem_cons.mpr ⟨lw_p15, fun _ h => absurd h List.not_mem_nil⟩⟩⟩⟩⟩⟩⟩⟩⟩⟩⟩⟩⟩⟩⟩⟩
theorem lw_p16 : lw_okq (⟨"SecondBest$Contest", "allLike", "(LSecondBest$Realm;LSecondBest$State;I)I"⟩, 4) := ⟨⟨by decide +kernel, by decide +kernel⟩, List.mem_of_getElem? (i := 90) (by decide +kernel), List.mem_of_getElem? (i := 503) (by decide +kernel), List.mem_of_getElem? (i := 504) (by decide +kernel)⟩
theorem lw_p17 : lw_okq (⟨"SecondBest$State", "settle", "(LSecondBest$Realm;LSecondBest$Contest;I)V"⟩, 9) := ⟨⟨by decide +kernel, by decide +kernel⟩, List.mem_of_getElem? (i := 49) (by decide +kernel), List.mem_of_getElem? (i := 507) (by decide +kernel), List.mem_of_getElem? (i := 508) (by decide +kernel)⟩
theorem lw_p18 : lw_okq (⟨"SecondBest$State", "promote", "(LSecondBest$Realm;II)V"⟩, 9) := ⟨⟨by decide +kernel, by decide +kernel⟩, List.mem_of_getElem? (i := 49) (by decide +kernel), List.mem_of_getElem? (i := 516) (by decide +kernel), List.mem_of_getElem? (i := 517) (by decide +kernel)⟩
theorem lw_p19 : lw_okq (⟨"SecondBest$State", "logContest", "(ILSecondBest$Contest;)V"⟩, 9) := ⟨⟨by decide +kernel, by decide +kernel⟩, List.mem_of_getElem? (i := 49) (by decide +kernel), List.mem_of_getElem? (i := 527) (by decide +kernel), List.mem_of_getElem? (i := 528) (by decide +kernel)⟩
theorem lw_p20 : lw_okq (⟨"SecondBest", "drawWeatherAndEffort", "()V"⟩, 11) := ⟨⟨by decide +kernel, by decide +kernel⟩, List.mem_of_getElem? (i := 15) (by decide +kernel), List.mem_of_getElem? (i := 567) (by decide +kernel), List.mem_of_getElem? (i := 568) (by decide +kernel)⟩
theorem lw_p21 : lw_okq (⟨"SecondBest", "draw", "(I)I"⟩, 11) := ⟨⟨by decide +kernel, by decide +kernel⟩, List.mem_of_getElem? (i := 15) (by decide +kernel), List.mem_of_getElem? (i := 571) (by decide +kernel), List.mem_of_getElem? (i := 572) (by decide +kernel)⟩
theorem lw_p22 : lw_okq (⟨"SecondBest", "holderBehind", "(II)I"⟩, 11) := ⟨⟨by decide +kernel, by decide +kernel⟩, List.mem_of_getElem? (i := 15) (by decide +kernel), List.mem_of_getElem? (i := 609) (by decide +kernel), List.mem_of_getElem? (i := 610) (by decide +kernel)⟩
theorem lw_p23 : lw_okq (⟨"SecondBest", "secondByEfforts", "(II)I"⟩, 11) := ⟨⟨by decide +kernel, by decide +kernel⟩, List.mem_of_getElem? (i := 15) (by decide +kernel), List.mem_of_getElem? (i := 617) (by decide +kernel), List.mem_of_getElem? (i := 618) (by decide +kernel)⟩
theorem lw_p24 : lw_okq (⟨"SecondBest", "secondIn", "(LSecondBest$State;I)I"⟩, 11) := ⟨⟨by decide +kernel, by decide +kernel⟩, List.mem_of_getElem? (i := 15) (by decide +kernel), List.mem_of_getElem? (i := 621) (by decide +kernel), List.mem_of_getElem? (i := 622) (by decide +kernel)⟩
theorem lw_p25 : lw_okq (⟨"SecondBest", "isRestless", "(II)Z"⟩, 11) := ⟨⟨by decide +kernel, by decide +kernel⟩, List.mem_of_getElem? (i := 15) (by decide +kernel), List.mem_of_getElem? (i := 629) (by decide +kernel), List.mem_of_getElem? (i := 630) (by decide +kernel)⟩
theorem lw_p26 : lw_okq (⟨"SecondBest", "fewestWhoLet", "(II)I"⟩, 11) := ⟨⟨by decide +kernel, by decide +kernel⟩, List.mem_of_getElem? (i := 15) (by decide +kernel), List.mem_of_getElem? (i := 637) (by decide +kernel), List.mem_of_getElem? (i := 638) (by decide +kernel)⟩
theorem lw_p27 : lw_okq (⟨"SecondBest", "isSecondIfLet", "(III)Z"⟩, 11) := ⟨⟨by decide +kernel, by decide +kernel⟩, List.mem_of_getElem? (i := 15) (by decide +kernel), List.mem_of_getElem? (i := 641) (by decide +kernel), List.mem_of_getElem? (i := 642) (by decide +kernel)⟩
theorem lw_p28 : lw_okq (⟨"SecondBest$Sightings", "isFitting", "(I)Z"⟩, 4) := ⟨⟨by decide +kernel, by decide +kernel⟩, List.mem_of_getElem? (i := 135) (by decide +kernel), List.mem_of_getElem? (i := 688) (by decide +kernel), List.mem_of_getElem? (i := 689) (by decide +kernel)⟩
theorem lw_p29 : lw_okq (⟨"SecondBest$Sightings", "greatestPart", "(I)I"⟩, 4) := ⟨⟨by decide +kernel, by decide +kernel⟩, List.mem_of_getElem? (i := 135) (by decide +kernel), List.mem_of_getElem? (i := 708) (by decide +kernel), List.mem_of_getElem? (i := 709) (by decide +kernel)⟩
theorem lw_p30 : lw_okq (⟨"SecondBestModel", "fine", "()Z"⟩, 32) := ⟨⟨by decide +kernel, by decide +kernel⟩, List.mem_of_getElem? (i := 745) (by decide +kernel), List.mem_of_getElem? (i := 861) (by decide +kernel), List.mem_of_getElem? (i := 862) (by decide +kernel)⟩
theorem lw_p31 : lw_okq (⟨"SecondBestModel", "here", "()I"⟩, 32) := ⟨⟨by decide +kernel, by decide +kernel⟩, List.mem_of_getElem? (i := 745) (by decide +kernel), List.mem_of_getElem? (i := 865) (by decide +kernel), List.mem_of_getElem? (i := 866) (by decide +kernel)⟩
def lw_privs_2 : List (MethodName × Nat) := [(⟨"SecondBest$Contest", "allLike", "(LSecondBest$Realm;LSecondBest$State;I)I"⟩, 4), (⟨"SecondBest$State", "settle", "(LSecondBest$Realm;LSecondBest$Contest;I)V"⟩, 9), (⟨"SecondBest$State", "promote", "(LSecondBest$Realm;II)V"⟩, 9), (⟨"SecondBest$State", "logContest", "(ILSecondBest$Contest;)V"⟩, 9), (⟨"SecondBest", "drawWeatherAndEffort", "()V"⟩, 11), (⟨"SecondBest", "draw", "(I)I"⟩, 11), (⟨"SecondBest", "holderBehind", "(II)I"⟩, 11), (⟨"SecondBest", "secondByEfforts", "(II)I"⟩, 11), (⟨"SecondBest", "secondIn", "(LSecondBest$State;I)I"⟩, 11), (⟨"SecondBest", "isRestless", "(II)Z"⟩, 11), (⟨"SecondBest", "fewestWhoLet", "(II)I"⟩, 11), (⟨"SecondBest", "isSecondIfLet", "(III)Z"⟩, 11), (⟨"SecondBest$Sightings", "isFitting", "(I)Z"⟩, 4), (⟨"SecondBest$Sightings", "greatestPart", "(I)I"⟩, 4), (⟨"SecondBestModel", "fine", "()Z"⟩, 32), (⟨"SecondBestModel", "here", "()I"⟩, 32)]
theorem lw_r2 : ∀ q ∈ lw_privs_2, lw_okq q := List.forall_mem_cons.mpr ⟨lw_p16, List.forall_mem_cons.mpr ⟨lw_p17, List.forall_mem_cons.mpr ⟨lw_p18, List.forall_mem_cons.mpr ⟨lw_p19, List.forall_mem_cons.mpr ⟨lw_p20, List.forall_mem_cons.mpr ⟨lw_p21, List.forall_mem_cons.mpr ⟨lw_p22, List.forall_mem_cons.mpr ⟨lw_p23, List.forall_mem_cons.mpr ⟨lw_p24, List.forall_mem_cons.mpr ⟨lw_p25, List.forall_mem_cons.mpr ⟨lw_p26, List.forall_mem_cons.mpr ⟨lw_p27, List.forall_mem_cons.mpr ⟨lw_p28, List.forall_mem_cons.mpr ⟨lw_p29, List.forall_mem_cons.mpr ⟨lw_p30, List.forall_mem_cons.mpr ⟨lw_p31, fun _ h => absurd h List.not_mem_nil⟩⟩⟩⟩⟩⟩⟩⟩⟩⟩⟩⟩⟩⟩⟩⟩
theorem lw_p32 : lw_okq (⟨"SecondBestModel", "readClause", "()V"⟩, 32) := ⟨⟨by decide +kernel, by decide +kernel⟩, List.mem_of_getElem? (i := 745) (by decide +kernel), List.mem_of_getElem? (i := 869) (by decide +kernel), List.mem_of_getElem? (i := 870) (by decide +kernel)⟩
theorem lw_p33 : lw_okq (⟨"SecondBestModel", "wrong", "(II)V"⟩, 32) := ⟨⟨by decide +kernel, by decide +kernel⟩, List.mem_of_getElem? (i := 745) (by decide +kernel), List.mem_of_getElem? (i := 873) (by decide +kernel), List.mem_of_getElem? (i := 874) (by decide +kernel)⟩
theorem lw_p34 : lw_okq (⟨"SecondBestModel", "readLaw", "(I)V"⟩, 32) := ⟨⟨by decide +kernel, by decide +kernel⟩, List.mem_of_getElem? (i := 745) (by decide +kernel), List.mem_of_getElem? (i := 877) (by decide +kernel), List.mem_of_getElem? (i := 878) (by decide +kernel)⟩
theorem lw_p35 : lw_okq (⟨"SecondBestModel", "number", "(II)I"⟩, 32) := ⟨⟨by decide +kernel, by decide +kernel⟩, List.mem_of_getElem? (i := 745) (by decide +kernel), List.mem_of_getElem? (i := 881) (by decide +kernel), List.mem_of_getElem? (i := 882) (by decide +kernel)⟩
theorem lw_p36 : lw_okq (⟨"SecondBestModel", "readPerson", "(I)V"⟩, 32) := ⟨⟨by decide +kernel, by decide +kernel⟩, List.mem_of_getElem? (i := 745) (by decide +kernel), List.mem_of_getElem? (i := 885) (by decide +kernel), List.mem_of_getElem? (i := 886) (by decide +kernel)⟩
theorem lw_p37 : lw_okq (⟨"SecondBestModel", "readDays", "(I)V"⟩, 32) := ⟨⟨by decide +kernel, by decide +kernel⟩, List.mem_of_getElem? (i := 745) (by decide +kernel), List.mem_of_getElem? (i := 889) (by decide +kernel), List.mem_of_getElem? (i := 890) (by decide +kernel)⟩
theorem lw_p38 : lw_okq (⟨"SecondBestModel", "readOffice", "(I)V"⟩, 32) := ⟨⟨by decide +kernel, by decide +kernel⟩, List.mem_of_getElem? (i := 745) (by decide +kernel), List.mem_of_getElem? (i := 893) (by decide +kernel), List.mem_of_getElem? (i := 894) (by decide +kernel)⟩
theorem lw_p39 : lw_okq (⟨"SecondBestModel", "begin", "()V"⟩, 32) := ⟨⟨by decide +kernel, by decide +kernel⟩, List.mem_of_getElem? (i := 745) (by decide +kernel), List.mem_of_getElem? (i := 897) (by decide +kernel), List.mem_of_getElem? (i := 898) (by decide +kernel)⟩
theorem lw_p40 : lw_okq (⟨"SecondBestModel", "courtIn", "(I)I"⟩, 32) := ⟨⟨by decide +kernel, by decide +kernel⟩, List.mem_of_getElem? (i := 745) (by decide +kernel), List.mem_of_getElem? (i := 909) (by decide +kernel), List.mem_of_getElem? (i := 910) (by decide +kernel)⟩
theorem lw_p41 : lw_okq (⟨"SecondBestModel", "isAtCourt", "(II)Z"⟩, 32) := ⟨⟨by decide +kernel, by decide +kernel⟩, List.mem_of_getElem? (i := 745) (by decide +kernel), List.mem_of_getElem? (i := 913) (by decide +kernel), List.mem_of_getElem? (i := 914) (by decide +kernel)⟩
theorem lw_p42 : lw_okq (⟨"SecondBestModel", "vacant", "()I"⟩, 32) := ⟨⟨by decide +kernel, by decide +kernel⟩, List.mem_of_getElem? (i := 745) (by decide +kernel), List.mem_of_getElem? (i := 917) (by decide +kernel), List.mem_of_getElem? (i := 918) (by decide +kernel)⟩
theorem lw_p43 : lw_okq (⟨"SecondBestModel", "nearly", "()I"⟩, 32) := ⟨⟨by decide +kernel, by decide +kernel⟩, List.mem_of_getElem? (i := 745) (by decide +kernel), List.mem_of_getElem? (i := 921) (by decide +kernel), List.mem_of_getElem? (i := 922) (by decide +kernel)⟩
theorem lw_p44 : lw_okq (⟨"SecondBestModel", "rings", "()I"⟩, 32) := ⟨⟨by decide +kernel, by decide +kernel⟩, List.mem_of_getElem? (i := 745) (by decide +kernel), List.mem_of_getElem? (i := 925) (by decide +kernel), List.mem_of_getElem? (i := 926) (by decide +kernel)⟩
theorem lw_p45 : lw_okq (⟨"SecondBestModel", "doesBeat", "(II)Z"⟩, 32) := ⟨⟨by decide +kernel, by decide +kernel⟩, List.mem_of_getElem? (i := 745) (by decide +kernel), List.mem_of_getElem? (i := 929) (by decide +kernel), List.mem_of_getElem? (i := 930) (by decide +kernel)⟩
theorem lw_p46 : lw_okq (⟨"SecondBestModel", "brilliant", "()I"⟩, 32) := ⟨⟨by decide +kernel, by decide +kernel⟩, List.mem_of_getElem? (i := 745) (by decide +kernel), List.mem_of_getElem? (i := 933) (by decide +kernel), List.mem_of_getElem? (i := 934) (by decide +kernel)⟩
theorem lw_p47 : lw_okq (⟨"SecondBestModel", "isPerson", "(I)Z"⟩, 32) := ⟨⟨by decide +kernel, by decide +kernel⟩, List.mem_of_getElem? (i := 745) (by decide +kernel), List.mem_of_getElem? (i := 941) (by decide +kernel), List.mem_of_getElem? (i := 942) (by decide +kernel)⟩
def lw_privs_3 : List (MethodName × Nat) := [(⟨"SecondBestModel", "readClause", "()V"⟩, 32), (⟨"SecondBestModel", "wrong", "(II)V"⟩, 32), (⟨"SecondBestModel", "readLaw", "(I)V"⟩, 32), (⟨"SecondBestModel", "number", "(II)I"⟩, 32), (⟨"SecondBestModel", "readPerson", "(I)V"⟩, 32), (⟨"SecondBestModel", "readDays", "(I)V"⟩, 32), (⟨"SecondBestModel", "readOffice", "(I)V"⟩, 32), (⟨"SecondBestModel", "begin", "()V"⟩, 32), (⟨"SecondBestModel", "courtIn", "(I)I"⟩, 32), (⟨"SecondBestModel", "isAtCourt", "(II)Z"⟩, 32), (⟨"SecondBestModel", "vacant", "()I"⟩, 32), (⟨"SecondBestModel", "nearly", "()I"⟩, 32), (⟨"SecondBestModel", "rings", "()I"⟩, 32), (⟨"SecondBestModel", "doesBeat", "(II)Z"⟩, 32), (⟨"SecondBestModel", "brilliant", "()I"⟩, 32), (⟨"SecondBestModel", "isPerson", "(I)Z"⟩, 32)]
theorem lw_r3 : ∀ q ∈ lw_privs_3, lw_okq q := List.forall_mem_cons.mpr ⟨lw_p32, List.forall_mem_cons.mpr ⟨lw_p33, List.forall_mem_cons.mpr ⟨lw_p34, List.forall_mem_cons.mpr ⟨lw_p35, List.forall_mem_cons.mpr ⟨lw_p36, List.forall_mem_cons.mpr ⟨lw_p37, List.forall_mem_cons.mpr ⟨lw_p38, List.forall_mem_cons.mpr ⟨lw_p39, List.forall_mem_cons.mpr ⟨lw_p40, List.forall_mem_cons.mpr ⟨lw_p41, List.forall_mem_cons.mpr ⟨lw_p42, List.forall_mem_cons.mpr ⟨lw_p43, List.forall_mem_cons.mpr ⟨lw_p44, List.forall_mem_cons.mpr ⟨lw_p45, List.forall_mem_cons.mpr ⟨lw_p46, List.forall_mem_cons.mpr ⟨lw_p47, fun _ h => absurd h List.not_mem_nil⟩⟩⟩⟩⟩⟩⟩⟩⟩⟩⟩⟩⟩⟩⟩⟩
theorem lw_p48 : lw_okq (⟨"SecondBestModel", "heldBy", "(I)I"⟩, 32) := ⟨⟨by decide +kernel, by decide +kernel⟩, List.mem_of_getElem? (i := 745) (by decide +kernel), List.mem_of_getElem? (i := 946) (by decide +kernel), List.mem_of_getElem? (i := 947) (by decide +kernel)⟩
theorem lw_p49 : lw_okq (⟨"SecondBestModel", "isOffice", "(I)Z"⟩, 32) := ⟨⟨by decide +kernel, by decide +kernel⟩, List.mem_of_getElem? (i := 745) (by decide +kernel), List.mem_of_getElem? (i := 954) (by decide +kernel), List.mem_of_getElem? (i := 955) (by decide +kernel)⟩
theorem lw_p50 : lw_okq (⟨"SecondBestModel", "kindOf", "(I)I"⟩, 32) := ⟨⟨by decide +kernel, by decide +kernel⟩, List.mem_of_getElem? (i := 745) (by decide +kernel), List.mem_of_getElem? (i := 963) (by decide +kernel), List.mem_of_getElem? (i := 964) (by decide +kernel)⟩
theorem lw_p51 : lw_okq (⟨"SecondBestModel", "whyNot", "(I)I"⟩, 32) := ⟨⟨by decide +kernel, by decide +kernel⟩, List.mem_of_getElem? (i := 745) (by decide +kernel), List.mem_of_getElem? (i := 975) (by decide +kernel), List.mem_of_getElem? (i := 976) (by decide +kernel)⟩
theorem lw_p52 : lw_okq (⟨"SecondBestModel", "remember", "()V"⟩, 32) := ⟨⟨by decide +kernel, by decide +kernel⟩, List.mem_of_getElem? (i := 745) (by decide +kernel), List.mem_of_getElem? (i := 980) (by decide +kernel), List.mem_of_getElem? (i := 981) (by decide +kernel)⟩
theorem lw_p53 : lw_okq (⟨"SecondBestModel", "copyRow", "(II)V"⟩, 32) := ⟨⟨by decide +kernel, by decide +kernel⟩, List.mem_of_getElem? (i := 745) (by decide +kernel), List.mem_of_getElem? (i := 984) (by decide +kernel), List.mem_of_getElem? (i := 985) (by decide +kernel)⟩
theorem lw_p54 : lw_okq (⟨"SecondBestModel", "dayIn", "(I)V"⟩, 32) := ⟨⟨by decide +kernel, by decide +kernel⟩, List.mem_of_getElem? (i := 745) (by decide +kernel), List.mem_of_getElem? (i := 988) (by decide +kernel), List.mem_of_getElem? (i := 989) (by decide +kernel)⟩
theorem lw_p55 : lw_okq (⟨"SecondBestModel", "contestIn", "(II)V"⟩, 32) := ⟨⟨by decide +kernel, by decide +kernel⟩, List.mem_of_getElem? (i := 745) (by decide +kernel), List.mem_of_getElem? (i := 992) (by decide +kernel), List.mem_of_getElem? (i := 993) (by decide +kernel)⟩
theorem lw_p56 : lw_okq (⟨"SecondBestModel", "firstOnes", "(II)I"⟩, 32) := ⟨⟨by decide +kernel, by decide +kernel⟩, List.mem_of_getElem? (i := 745) (by decide +kernel), List.mem_of_getElem? (i := 996) (by decide +kernel), List.mem_of_getElem? (i := 997) (by decide +kernel)⟩
theorem lw_p57 : lw_okq (⟨"SecondBestModel", "bestOf", "(III)I"⟩, 32) := ⟨⟨by decide +kernel, by decide +kernel⟩, List.mem_of_getElem? (i := 745) (by decide +kernel), List.mem_of_getElem? (i := 1000) (by decide +kernel), List.mem_of_getElem? (i := 1001) (by decide +kernel)⟩
theorem lw_p58 : lw_okq (⟨"SecondBestModel", "isAhead", "(IIII)Z"⟩, 32) := ⟨⟨by decide +kernel, by decide +kernel⟩, List.mem_of_getElem? (i := 745) (by decide +kernel), List.mem_of_getElem? (i := 1007) (by decide +kernel), List.mem_of_getElem? (i := 1008) (by decide +kernel)⟩
theorem lw_p59 : lw_okq (⟨"SecondBestModel", "markIn", "(III)I"⟩, 32) := ⟨⟨by decide +kernel, by decide +kernel⟩, List.mem_of_getElem? (i := 745) (by decide +kernel), List.mem_of_getElem? (i := 1011) (by decide +kernel), List.mem_of_getElem? (i := 1012) (by decide +kernel)⟩
theorem lw_p60 : lw_okq (⟨"SecondBestModel", "secondOne", "(II)I"⟩, 32) := ⟨⟨by decide +kernel, by decide +kernel⟩, List.mem_of_getElem? (i := 745) (by decide +kernel), List.mem_of_getElem? (i := 1015) (by decide +kernel), List.mem_of_getElem? (i := 1016) (by decide +kernel)⟩
theorem lw_p61 : lw_okq (⟨"SecondBestModel", "goOff", "(II)V"⟩, 32) := ⟨⟨by decide +kernel, by decide +kernel⟩, List.mem_of_getElem? (i := 745) (by decide +kernel), List.mem_of_getElem? (i := 1019) (by decide +kernel), List.mem_of_getElem? (i := 1020) (by decide +kernel)⟩
theorem lw_p62 : lw_okq (⟨"SecondBestModel", "logIn", "(IIII)V"⟩, 32) := ⟨⟨by decide +kernel, by decide +kernel⟩, List.mem_of_getElem? (i := 745) (by decide +kernel), List.mem_of_getElem? (i := 1026) (by decide +kernel), List.mem_of_getElem? (i := 1027) (by decide +kernel)⟩
theorem lw_p63 : lw_okq (⟨"SecondBestModel", "draw", "(I)I"⟩, 32) := ⟨⟨by decide +kernel, by decide +kernel⟩, List.mem_of_getElem? (i := 745) (by decide +kernel), List.mem_of_getElem? (i := 1057) (by decide +kernel), List.mem_of_getElem? (i := 1058) (by decide +kernel)⟩
def lw_privs_4 : List (MethodName × Nat) := [(⟨"SecondBestModel", "heldBy", "(I)I"⟩, 32), (⟨"SecondBestModel", "isOffice", "(I)Z"⟩, 32), (⟨"SecondBestModel", "kindOf", "(I)I"⟩, 32), (⟨"SecondBestModel", "whyNot", "(I)I"⟩, 32), (⟨"SecondBestModel", "remember", "()V"⟩, 32), (⟨"SecondBestModel", "copyRow", "(II)V"⟩, 32), (⟨"SecondBestModel", "dayIn", "(I)V"⟩, 32), (⟨"SecondBestModel", "contestIn", "(II)V"⟩, 32), (⟨"SecondBestModel", "firstOnes", "(II)I"⟩, 32), (⟨"SecondBestModel", "bestOf", "(III)I"⟩, 32), (⟨"SecondBestModel", "isAhead", "(IIII)Z"⟩, 32), (⟨"SecondBestModel", "markIn", "(III)I"⟩, 32), (⟨"SecondBestModel", "secondOne", "(II)I"⟩, 32), (⟨"SecondBestModel", "goOff", "(II)V"⟩, 32), (⟨"SecondBestModel", "logIn", "(IIII)V"⟩, 32), (⟨"SecondBestModel", "draw", "(I)I"⟩, 32)]
theorem lw_r4 : ∀ q ∈ lw_privs_4, lw_okq q := List.forall_mem_cons.mpr ⟨lw_p48, List.forall_mem_cons.mpr ⟨lw_p49, List.forall_mem_cons.mpr ⟨lw_p50, List.forall_mem_cons.mpr ⟨lw_p51, List.forall_mem_cons.mpr ⟨lw_p52, List.forall_mem_cons.mpr ⟨lw_p53, List.forall_mem_cons.mpr ⟨lw_p54, List.forall_mem_cons.mpr ⟨lw_p55, List.forall_mem_cons.mpr ⟨lw_p56, List.forall_mem_cons.mpr ⟨lw_p57, List.forall_mem_cons.mpr ⟨lw_p58, List.forall_mem_cons.mpr ⟨lw_p59, List.forall_mem_cons.mpr ⟨lw_p60, List.forall_mem_cons.mpr ⟨lw_p61, List.forall_mem_cons.mpr ⟨lw_p62, List.forall_mem_cons.mpr ⟨lw_p63, fun _ h => absurd h List.not_mem_nil⟩⟩⟩⟩⟩⟩⟩⟩⟩⟩⟩⟩⟩⟩⟩⟩
theorem lw_p64 : lw_okq (⟨"SecondBestModel", "effortsOf", "(II)I"⟩, 32) := ⟨⟨by decide +kernel, by decide +kernel⟩, List.mem_of_getElem? (i := 745) (by decide +kernel), List.mem_of_getElem? (i := 1092) (by decide +kernel), List.mem_of_getElem? (i := 1093) (by decide +kernel)⟩
theorem lw_p65 : lw_okq (⟨"SecondBestModel", "winsIf", "(III)Z"⟩, 32) := ⟨⟨by decide +kernel, by decide +kernel⟩, List.mem_of_getElem? (i := 745) (by decide +kernel), List.mem_of_getElem? (i := 1104) (by decide +kernel), List.mem_of_getElem? (i := 1105) (by decide +kernel)⟩
theorem lw_p66 : lw_okq (⟨"SecondBestModel", "isSo", "(I)Z"⟩, 32) := ⟨⟨by decide +kernel, by decide +kernel⟩, List.mem_of_getElem? (i := 745) (by decide +kernel), List.mem_of_getElem? (i := 1138) (by decide +kernel), List.mem_of_getElem? (i := 1139) (by decide +kernel)⟩
theorem lw_p67 : lw_okq (⟨"SecondBestModel", "partBy", "(I)I"⟩, 32) := ⟨⟨by decide +kernel, by decide +kernel⟩, List.mem_of_getElem? (i := 745) (by decide +kernel), List.mem_of_getElem? (i := 1147) (by decide +kernel), List.mem_of_getElem? (i := 1148) (by decide +kernel)⟩
def lw_privs_5 : List (MethodName × Nat) := [(⟨"SecondBestModel", "effortsOf", "(II)I"⟩, 32), (⟨"SecondBestModel", "winsIf", "(III)Z"⟩, 32), (⟨"SecondBestModel", "isSo", "(I)Z"⟩, 32), (⟨"SecondBestModel", "partBy", "(I)I"⟩, 32)]
theorem lw_r5 : ∀ q ∈ lw_privs_5, lw_okq q := List.forall_mem_cons.mpr ⟨lw_p64, List.forall_mem_cons.mpr ⟨lw_p65, List.forall_mem_cons.mpr ⟨lw_p66, List.forall_mem_cons.mpr ⟨lw_p67, fun _ h => absurd h List.not_mem_nil⟩⟩⟩⟩
def lw_privs : List (MethodName × Nat) := lw_privs_1 ++ (lw_privs_2 ++ (lw_privs_3 ++ (lw_privs_4 ++ (lw_privs_5))))
def lw_tbl : List Cond := k2_sels lw_privs ++ tables_1
theorem lw_privs_ok : ∀ q ∈ lw_privs, lw_okq q := by
  show ∀ q ∈ lw_privs_1 ++ (lw_privs_2 ++ (lw_privs_3 ++ (lw_privs_4 ++ (lw_privs_5)))), lw_okq q
  exact List.forall_mem_append.mpr ⟨lw_r1, List.forall_mem_append.mpr ⟨lw_r2, List.forall_mem_append.mpr ⟨lw_r3, List.forall_mem_append.mpr ⟨lw_r4, lw_r5⟩⟩⟩⟩
-- ===== end of PART A =====
def RX0 : String := "SecondBest$Book"
def TX0 : u_T := fun k => match k with
  | 0 => ("SecondBest$Book", "officeAt", "[I", true)
  | 1 => ("SecondBest$Book", "holderAt", "[I", true)
  | _ => ("SecondBest$Book", "count", "I", false)
def tyX0 : Nat → FieldType := fun k => match k with
  | 0 => .array .int
  | 1 => .array .int
  | _ => .int
abbrev wsX00 : List Cond := u_ws RX0 TX0 3
theorem nmX0 : ∀ a, a < 3 → ∀ b, b < 3 → a ≠ b → (TX0 a).2.1 ≠ (TX0 b).2.1 := by decide +kernel
theorem tyX0_ok : ∀ k, k < 3 → parseFieldDescriptor (TX0 k).2.2.1 = some (tyX0 k) := by decide +kernel
abbrev cX0_init : ByteArray := prog_2_method_1_code
def yX0_init : MethodName := ⟨RX0, "<init>", "()V"⟩
abbrev cX0_append : ByteArray := prog_2_method_2_code
def yX0_append : MethodName := ⟨RX0, "append", "(II)I"⟩
abbrev cX0_firstWrong : ByteArray := prog_2_method_3_code
def yX0_firstWrong : MethodName := ⟨RX0, "firstWrong", "(LSecondBest$State;)I"⟩
def RX1 : String := "SecondBest$Contest"
def TX1 : u_T := fun k => match k with
  | 0 => ("SecondBest$Contest", "marks", "[I", true)
  | 1 => ("SecondBest$Contest", "firsts", "I", false)
  | 2 => ("SecondBest$Contest", "leader", "I", false)
  | _ => ("SecondBest$Contest", "second", "I", false)
def tyX1 : Nat → FieldType := fun k => match k with
  | 0 => .array .int
  | 1 => .int
  | 2 => .int
  | _ => .int
abbrev wsX10 : List Cond := u_ws RX1 TX1 4
theorem nmX1 : ∀ a, a < 4 → ∀ b, b < 4 → a ≠ b → (TX1 a).2.1 ≠ (TX1 b).2.1 := by decide +kernel
theorem tyX1_ok : ∀ k, k < 4 → parseFieldDescriptor (TX1 k).2.2.1 = some (tyX1 k) := by decide +kernel
abbrev cX1_init : ByteArray := prog_3_method_1_code
def yX1_init : MethodName := ⟨RX1, "<init>", "()V"⟩
abbrev cX1_rank : ByteArray := prog_3_method_2_code
def yX1_rank : MethodName := ⟨RX1, "rank", "(LSecondBest$Realm;LSecondBest$State;I)V"⟩
abbrev cX1_isFirst : ByteArray := prog_3_method_3_code
def yX1_isFirst : MethodName := ⟨RX1, "isFirst", "(I)Z"⟩
abbrev cX1_placeOf : ByteArray := prog_3_method_4_code
def yX1_placeOf : MethodName := ⟨RX1, "placeOf", "(LSecondBest$Realm;LSecondBest$State;I)I"⟩
abbrev cX1_foremost : ByteArray := prog_3_method_5_code
def yX1_foremost : MethodName := ⟨RX1, "foremost", "(LSecondBest$Realm;LSecondBest$State;)I"⟩
abbrev cX1_allLike : ByteArray := prog_3_method_6_code
def yX1_allLike : MethodName := ⟨RX1, "allLike", "(LSecondBest$Realm;LSecondBest$State;I)I"⟩
abbrev cX1_isAheadOf : ByteArray := prog_3_method_7_code
def yX1_isAheadOf : MethodName := ⟨RX1, "isAheadOf", "(LSecondBest$Realm;II)Z"⟩
def RX2 : String := "SecondBest$Image"
def TX2 : u_T := fun k => match k with
  | 0 => ("SecondBest$Image", "state", "LSecondBest$State;", true)
  | 1 => ("SecondBest$Image", "drawSeed", "I", false)
  | _ => ("SecondBest$Image", "isKept", "Z", false)
def tyX2 : Nat → FieldType := fun k => match k with
  | 0 => .object "SecondBest$State"
  | 1 => .int
  | _ => .boolean
abbrev wsX20 : List Cond := u_ws RX2 TX2 3
theorem nmX2 : ∀ a, a < 3 → ∀ b, b < 3 → a ≠ b → (TX2 a).2.1 ≠ (TX2 b).2.1 := by decide +kernel
theorem tyX2_ok : ∀ k, k < 3 → parseFieldDescriptor (TX2 k).2.2.1 = some (tyX2 k) := by decide +kernel
abbrev cX2_init : ByteArray := prog_4_method_1_code
def yX2_init : MethodName := ⟨RX2, "<init>", "()V"⟩
def RX3 : String := "SecondBest$Past"
def TX3 : u_T := fun k => match k with
  | 0 => ("SecondBest$Past", "states", "[LSecondBest$State;", true)
  | 1 => ("SecondBest$Past", "nextAt", "I", false)
  | _ => ("SecondBest$Past", "count", "I", false)
def tyX3 : Nat → FieldType := fun k => match k with
  | 0 => .array (.object "SecondBest$State")
  | 1 => .int
  | _ => .int
abbrev wsX30 : List Cond := u_ws RX3 TX3 3
theorem nmX3 : ∀ a, a < 3 → ∀ b, b < 3 → a ≠ b → (TX3 a).2.1 ≠ (TX3 b).2.1 := by decide +kernel
theorem tyX3_ok : ∀ k, k < 3 → parseFieldDescriptor (TX3 k).2.2.1 = some (tyX3 k) := by decide +kernel
abbrev cX3_init : ByteArray := prog_5_method_1_code
def yX3_init : MethodName := ⟨RX3, "<init>", "()V"⟩
abbrev cX3_remember : ByteArray := prog_5_method_2_code
def yX3_remember : MethodName := ⟨RX3, "remember", "(LSecondBest$State;)V"⟩
abbrev cX3_takeBack : ByteArray := prog_5_method_3_code
def yX3_takeBack : MethodName := ⟨RX3, "takeBack", "(LSecondBest$State;I)V"⟩
def RX4 : String := "SecondBest$Realm"
def TX4 : u_T := fun k => match k with
  | 0 => ("SecondBest$Realm", "gifts", "[I", true)
  | 1 => ("SecondBest$Realm", "daring", "[I", true)
  | 2 => ("SecondBest$Realm", "kindOfTurn", "[I", true)
  | 3 => ("SecondBest$Realm", "officeKind", "[I", true)
  | 4 => ("SecondBest$Realm", "law", "I", false)
  | 5 => ("SecondBest$Realm", "term", "I", false)
  | 6 => ("SecondBest$Realm", "persons", "I", false)
  | 7 => ("SecondBest$Realm", "turns", "I", false)
  | _ => ("SecondBest$Realm", "offices", "I", false)
def tyX4 : Nat → FieldType := fun k => match k with
  | 0 => .array .int
  | 1 => .array .int
  | 2 => .array .int
  | 3 => .array .int
  | 4 => .int
  | 5 => .int
  | 6 => .int
  | 7 => .int
  | _ => .int
abbrev wsX40 : List Cond := u_ws RX4 TX4 9
theorem nmX4 : ∀ a, a < 9 → ∀ b, b < 9 → a ≠ b → (TX4 a).2.1 ≠ (TX4 b).2.1 := by decide +kernel
theorem tyX4_ok : ∀ k, k < 9 → parseFieldDescriptor (TX4 k).2.2.1 = some (tyX4 k) := by decide +kernel
abbrev cX4_init : ByteArray := prog_6_method_1_code
def yX4_init : MethodName := ⟨RX4, "<init>", "()V"⟩
abbrev cX4_isThere : ByteArray := prog_6_method_2_code
def yX4_isThere : MethodName := ⟨RX4, "isThere", "()Z"⟩
abbrev cX4_clear : ByteArray := prog_6_method_3_code
def yX4_clear : MethodName := ⟨RX4, "clear", "()V"⟩
abbrev cX4_kindOfDay : ByteArray := prog_6_method_4_code
def yX4_kindOfDay : MethodName := ⟨RX4, "kindOfDay", "(I)I"⟩
def RX5 : String := "SecondBest$Sightings"
def TX5 : u_T := fun k => match k with
  | 0 => ("SecondBest$Sightings", "effortSeen", "[I", true)
  | 1 => ("SecondBest$Sightings", "markSeen", "[I", true)
  | 2 => ("SecondBest$Sightings", "pairsByMark", "[I", true)
  | _ => ("SecondBest$Sightings", "count", "I", false)
def tyX5 : Nat → FieldType := fun k => match k with
  | 0 => .array .int
  | 1 => .array .int
  | 2 => .array .int
  | _ => .int
abbrev wsX50 : List Cond := u_ws RX5 TX5 4
theorem nmX5 : ∀ a, a < 4 → ∀ b, b < 4 → a ≠ b → (TX5 a).2.1 ≠ (TX5 b).2.1 := by decide +kernel
theorem tyX5_ok : ∀ k, k < 4 → parseFieldDescriptor (TX5 k).2.2.1 = some (tyX5 k) := by decide +kernel
abbrev cX5_init : ByteArray := prog_7_method_1_code
def yX5_init : MethodName := ⟨RX5, "<init>", "()V"⟩
abbrev cX5_append : ByteArray := prog_7_method_2_code
def yX5_append : MethodName := ⟨RX5, "append", "(II)I"⟩
abbrev cX5_countFitting : ByteArray := prog_7_method_3_code
def yX5_countFitting : MethodName := ⟨RX5, "countFitting", "()I"⟩
abbrev cX5_leastFitting : ByteArray := prog_7_method_4_code
def yX5_leastFitting : MethodName := ⟨RX5, "leastFitting", "()I"⟩
abbrev cX5_bestEffort : ByteArray := prog_7_method_5_code
def yX5_bestEffort : MethodName := ⟨RX5, "bestEffort", "()I"⟩
abbrev cX5_greatestPart : ByteArray := prog_7_method_6_code
def yX5_greatestPart : MethodName := ⟨RX5, "greatestPart", "(I)I"⟩
abbrev cX5_isFitting : ByteArray := prog_7_method_7_code
def yX5_isFitting : MethodName := ⟨RX5, "isFitting", "(I)Z"⟩
abbrev cX5_markBy : ByteArray := prog_7_method_8_code
def yX5_markBy : MethodName := ⟨RX5, "markBy", "(II)I"⟩
def RX6 : String := "SecondBest$State"
def TX6 : u_T := fun k => match k with
  | 0 => ("SecondBest$State", "gifts", "[I", true)
  | 1 => ("SecondBest$State", "effortOf", "[I", true)
  | 2 => ("SecondBest$State", "coastDays", "[I", true)
  | 3 => ("SecondBest$State", "timesSecond", "[I", true)
  | 4 => ("SecondBest$State", "holderOf", "[I", true)
  | 5 => ("SecondBest$State", "log", "[I", true)
  | 6 => ("SecondBest$State", "contests", "I", false)
  | 7 => ("SecondBest$State", "days", "I", false)
  | _ => ("SecondBest$State", "isRaining", "Z", false)
def tyX6 : Nat → FieldType := fun k => match k with
  | 0 => .array .int
  | 1 => .array .int
  | 2 => .array .int
  | 3 => .array .int
  | 4 => .array .int
  | 5 => .array .int
  | 6 => .int
  | 7 => .int
  | _ => .boolean
abbrev wsX60 : List Cond := u_ws RX6 TX6 9
theorem nmX6 : ∀ a, a < 9 → ∀ b, b < 9 → a ≠ b → (TX6 a).2.1 ≠ (TX6 b).2.1 := by decide +kernel
theorem tyX6_ok : ∀ k, k < 9 → parseFieldDescriptor (TX6 k).2.2.1 = some (tyX6 k) := by decide +kernel
abbrev cX6_init : ByteArray := prog_8_method_1_code
def yX6_init : MethodName := ⟨RX6, "<init>", "()V"⟩
abbrev cX6_beginIn : ByteArray := prog_8_method_2_code
def yX6_beginIn : MethodName := ⟨RX6, "beginIn", "(LSecondBest$Realm;)V"⟩
abbrev cX6_copyFrom : ByteArray := prog_8_method_3_code
def yX6_copyFrom : MethodName := ⟨RX6, "copyFrom", "(LSecondBest$State;)V"⟩
abbrev cX6_giftOf : ByteArray := prog_8_method_4_code
def yX6_giftOf : MethodName := ⟨RX6, "giftOf", "(II)I"⟩
abbrev cX6_setGift : ByteArray := prog_8_method_5_code
def yX6_setGift : MethodName := ⟨RX6, "setGift", "(III)V"⟩
abbrev cX6_isAtCourt : ByteArray := prog_8_method_6_code
def yX6_isAtCourt : MethodName := ⟨RX6, "isAtCourt", "(I)Z"⟩
abbrev cX6_courtOf : ByteArray := prog_8_method_7_code
def yX6_courtOf : MethodName := ⟨RX6, "courtOf", "(LSecondBest$Realm;)I"⟩
abbrev cX6_officesOf : ByteArray := prog_8_method_8_code
def yX6_officesOf : MethodName := ⟨RX6, "officesOf", "(LSecondBest$Realm;I)I"⟩
abbrev cX6_markOf : ByteArray := prog_8_method_9_code
def yX6_markOf : MethodName := ⟨RX6, "markOf", "(LSecondBest$Realm;II)I"⟩
abbrev cX6_toCoast : ByteArray := prog_8_method_10_code
def yX6_toCoast : MethodName := ⟨RX6, "toCoast", "(LSecondBest$Realm;I)V"⟩
abbrev cX6_passDay : ByteArray := prog_8_method_11_code
def yX6_passDay : MethodName := ⟨RX6, "passDay", "(LSecondBest$Realm;LSecondBest$Contest;)V"⟩
abbrev cX6_settle : ByteArray := prog_8_method_12_code
def yX6_settle : MethodName := ⟨RX6, "settle", "(LSecondBest$Realm;LSecondBest$Contest;I)V"⟩
abbrev cX6_promote : ByteArray := prog_8_method_13_code
def yX6_promote : MethodName := ⟨RX6, "promote", "(LSecondBest$Realm;II)V"⟩
abbrev cX6_logContest : ByteArray := prog_8_method_14_code
def yX6_logContest : MethodName := ⟨RX6, "logContest", "(ILSecondBest$Contest;)V"⟩
abbrev cX6_logSize : ByteArray := prog_8_method_15_code
def yX6_logSize : MethodName := ⟨RX6, "logSize", "()I"⟩
abbrev cX6_logEntry : ByteArray := prog_8_method_16_code
def yX6_logEntry : MethodName := ⟨RX6, "logEntry", "(II)I"⟩
abbrev cX6_nearlyOf : ByteArray := prog_8_method_17_code
def yX6_nearlyOf : MethodName := ⟨RX6, "nearlyOf", "(LSecondBest$Realm;)I"⟩
abbrev cX6_hasMoreGifts : ByteArray := prog_8_method_18_code
def yX6_hasMoreGifts : MethodName := ⟨RX6, "hasMoreGifts", "(II)Z"⟩
abbrev cX6_isRing : ByteArray := prog_8_method_19_code
def yX6_isRing : MethodName := ⟨RX6, "isRing", "(III)Z"⟩
abbrev cX6_brillianceOf : ByteArray := prog_8_method_20_code
def yX6_brillianceOf : MethodName := ⟨RX6, "brillianceOf", "(LSecondBest$Realm;)I"⟩
abbrev cX6_spreadOf : ByteArray := prog_8_method_21_code
def yX6_spreadOf : MethodName := ⟨RX6, "spreadOf", "(LSecondBest$Realm;I)I"⟩
def RX7 : String := "SecondBest$Text"
def TX7 : u_T := fun k => match k with
  | 0 => ("SecondBest$Text", "letters", "[I", true)
  | 1 => ("SecondBest$Text", "length", "I", false)
  | 2 => ("SecondBest$Text", "at", "I", false)
  | 3 => ("SecondBest$Text", "faultNumber", "I", false)
  | _ => ("SecondBest$Text", "faultAt", "I", false)
def tyX7 : Nat → FieldType := fun k => match k with
  | 0 => .array .int
  | 1 => .int
  | 2 => .int
  | 3 => .int
  | _ => .int
abbrev wsX70 : List Cond := u_ws RX7 TX7 5
theorem nmX7 : ∀ a, a < 5 → ∀ b, b < 5 → a ≠ b → (TX7 a).2.1 ≠ (TX7 b).2.1 := by decide +kernel
theorem tyX7_ok : ∀ k, k < 5 → parseFieldDescriptor (TX7 k).2.2.1 = some (tyX7 k) := by decide +kernel
abbrev cX7_init : ByteArray := prog_9_method_1_code
def yX7_init : MethodName := ⟨RX7, "<init>", "()V"⟩
abbrev cX7_append : ByteArray := prog_9_method_2_code
def yX7_append : MethodName := ⟨RX7, "append", "(I)I"⟩
abbrev cX7_readInto : ByteArray := prog_9_method_3_code
def yX7_readInto : MethodName := ⟨RX7, "readInto", "(LSecondBest$Realm;)V"⟩
abbrev cX7_readClause : ByteArray := prog_9_method_4_code
def yX7_readClause : MethodName := ⟨RX7, "readClause", "(LSecondBest$Realm;)V"⟩
abbrev cX7_whyNoWord : ByteArray := prog_9_method_5_code
def yX7_whyNoWord : MethodName := ⟨RX7, "whyNoWord", "(ILSecondBest$Realm;)I"⟩
abbrev cX7_readLaw : ByteArray := prog_9_method_6_code
def yX7_readLaw : MethodName := ⟨RX7, "readLaw", "(LSecondBest$Realm;)V"⟩
abbrev cX7_readPerson : ByteArray := prog_9_method_7_code
def yX7_readPerson : MethodName := ⟨RX7, "readPerson", "(LSecondBest$Realm;)V"⟩
abbrev cX7_readTurns : ByteArray := prog_9_method_8_code
def yX7_readTurns : MethodName := ⟨RX7, "readTurns", "(LSecondBest$Realm;)V"⟩
abbrev cX7_readOffice : ByteArray := prog_9_method_9_code
def yX7_readOffice : MethodName := ⟨RX7, "readOffice", "(LSecondBest$Realm;)V"⟩
abbrev cX7_readNumber : ByteArray := prog_9_method_10_code
def yX7_readNumber : MethodName := ⟨RX7, "readNumber", "(II)I"⟩
abbrev cX7_readSign : ByteArray := prog_9_method_11_code
def yX7_readSign : MethodName := ⟨RX7, "readSign", "(I)V"⟩
abbrev cX7_isNext : ByteArray := prog_9_method_12_code
def yX7_isNext : MethodName := ⟨RX7, "isNext", "(I)Z"⟩
abbrev cX7_skipBlanks : ByteArray := prog_9_method_13_code
def yX7_skipBlanks : MethodName := ⟨RX7, "skipBlanks", "()V"⟩
abbrev cX7_isFigure : ByteArray := prog_9_method_14_code
def yX7_isFigure : MethodName := ⟨RX7, "isFigure", "(I)Z"⟩
abbrev cX7_blame : ByteArray := prog_9_method_15_code
def yX7_blame : MethodName := ⟨RX7, "blame", "(II)V"⟩
def RX8 : String := "SecondBest"
def TX8 : u_T := fun k => match k with
  | 0 => ("SecondBest", "text", "LSecondBest$Text;", true)
  | 1 => ("SecondBest", "now", "LSecondBest$State;", true)
  | 2 => ("SecondBest", "trial", "LSecondBest$State;", true)
  | 3 => ("SecondBest", "contest", "LSecondBest$Contest;", true)
  | 4 => ("SecondBest", "past", "LSecondBest$Past;", true)
  | 5 => ("SecondBest", "images", "[LSecondBest$Image;", true)
  | 6 => ("SecondBest", "sightings", "LSecondBest$Sightings;", true)
  | 7 => ("SecondBest", "book", "LSecondBest$Book;", true)
  | 8 => ("SecondBest", "realm", "LSecondBest$Realm;", false)
  | 9 => ("SecondBest", "draft", "LSecondBest$Realm;", false)
  | _ => ("SecondBest", "drawSeed", "I", false)
def tyX8 : Nat → FieldType := fun k => match k with
  | 0 => .object "SecondBest$Text"
  | 1 => .object "SecondBest$State"
  | 2 => .object "SecondBest$State"
  | 3 => .object "SecondBest$Contest"
  | 4 => .object "SecondBest$Past"
  | 5 => .array (.object "SecondBest$Image")
  | 6 => .object "SecondBest$Sightings"
  | 7 => .object "SecondBest$Book"
  | 8 => .object "SecondBest$Realm"
  | 9 => .object "SecondBest$Realm"
  | _ => .int
abbrev wsX80 : List Cond := u_ws RX8 TX8 11
theorem nmX8 : ∀ a, a < 11 → ∀ b, b < 11 → a ≠ b → (TX8 a).2.1 ≠ (TX8 b).2.1 := by decide +kernel
theorem tyX8_ok : ∀ k, k < 11 → parseFieldDescriptor (TX8 k).2.2.1 = some (tyX8 k) := by decide +kernel
abbrev cX8_init : ByteArray := prog_1_method_1_code
def yX8_init : MethodName := ⟨RX8, "<init>", "()V"⟩
abbrev cX8_feed : ByteArray := prog_1_method_2_code
def yX8_feed : MethodName := ⟨RX8, "feed", "(I)I"⟩
abbrev cX8_kingdom : ByteArray := prog_1_method_3_code
def yX8_kingdom : MethodName := ⟨RX8, "kingdom", "()I"⟩
abbrev cX8_fault : ByteArray := prog_1_method_4_code
def yX8_fault : MethodName := ⟨RX8, "fault", "()I"⟩
abbrev cX8_told : ByteArray := prog_1_method_5_code
def yX8_told : MethodName := ⟨RX8, "told", "(I)I"⟩
abbrev cX8_person : ByteArray := prog_1_method_6_code
def yX8_person : MethodName := ⟨RX8, "person", "(II)I"⟩
abbrev cX8_office : ByteArray := prog_1_method_7_code
def yX8_office : MethodName := ⟨RX8, "office", "(II)I"⟩
abbrev cX8_ahead : ByteArray := prog_1_method_8_code
def yX8_ahead : MethodName := ⟨RX8, "ahead", "(I)I"⟩
abbrev cX8_logged : ByteArray := prog_1_method_9_code
def yX8_logged : MethodName := ⟨RX8, "logged", "(II)I"⟩
abbrev cX8_day : ByteArray := prog_1_method_10_code
def yX8_day : MethodName := ⟨RX8, "day", "(I)I"⟩
abbrev cX8_effort : ByteArray := prog_1_method_11_code
def yX8_effort : MethodName := ⟨RX8, "effort", "(II)I"⟩
abbrev cX8_rain : ByteArray := prog_1_method_12_code
def yX8_rain : MethodName := ⟨RX8, "rain", "(Z)I"⟩
abbrev cX8_teach : ByteArray := prog_1_method_13_code
def yX8_teach : MethodName := ⟨RX8, "teach", "(III)I"⟩
abbrev cX8_send : ByteArray := prog_1_method_14_code
def yX8_send : MethodName := ⟨RX8, "send", "(I)I"⟩
abbrev cX8_recall : ByteArray := prog_1_method_15_code
def yX8_recall : MethodName := ⟨RX8, "recall", "(I)I"⟩
abbrev cX8_drift : ByteArray := prog_1_method_16_code
def yX8_drift : MethodName := ⟨RX8, "drift", "(I)I"⟩
abbrev cX8_undo : ByteArray := prog_1_method_17_code
def yX8_undo : MethodName := ⟨RX8, "undo", "(I)I"⟩
abbrev cX8_mark : ByteArray := prog_1_method_18_code
def yX8_mark : MethodName := ⟨RX8, "mark", "(II)I"⟩
abbrev cX8_place : ByteArray := prog_1_method_19_code
def yX8_place : MethodName := ⟨RX8, "place", "(II)I"⟩
abbrev cX8_wouldBe : ByteArray := prog_1_method_20_code
def yX8_wouldBe : MethodName := ⟨RX8, "wouldBe", "(II)I"⟩
abbrev cX8_holds : ByteArray := prog_1_method_21_code
def yX8_holds : MethodName := ⟨RX8, "holds", "(II)I"⟩
abbrev cX8_efforts : ByteArray := prog_1_method_22_code
def yX8_efforts : MethodName := ⟨RX8, "efforts", "(II)I"⟩
abbrev cX8_restless : ByteArray := prog_1_method_23_code
def yX8_restless : MethodName := ⟨RX8, "restless", "(I)I"⟩
abbrev cX8_letWin : ByteArray := prog_1_method_24_code
def yX8_letWin : MethodName := ⟨RX8, "letWin", "(III)I"⟩
abbrev cX8_win : ByteArray := prog_1_method_25_code
def yX8_win : MethodName := ⟨RX8, "win", "(III)I"⟩
abbrev cX8_next : ByteArray := prog_1_method_26_code
def yX8_next : MethodName := ⟨RX8, "next", "(I)I"⟩
abbrev cX8_beats : ByteArray := prog_1_method_27_code
def yX8_beats : MethodName := ⟨RX8, "beats", "(II)I"⟩
abbrev cX8_spread : ByteArray := prog_1_method_28_code
def yX8_spread : MethodName := ⟨RX8, "spread", "(I)I"⟩
abbrev cX8_dry : ByteArray := prog_1_method_29_code
def yX8_dry : MethodName := ⟨RX8, "dry", "(II)I"⟩
abbrev cX8_see : ByteArray := prog_1_method_30_code
def yX8_see : MethodName := ⟨RX8, "see", "(II)I"⟩
abbrev cX8_truly : ByteArray := prog_1_method_31_code
def yX8_truly : MethodName := ⟨RX8, "truly", "(I)I"⟩
abbrev cX8_tryNext : ByteArray := prog_1_method_32_code
def yX8_tryNext : MethodName := ⟨RX8, "tryNext", "()I"⟩
abbrev cX8_write : ByteArray := prog_1_method_33_code
def yX8_write : MethodName := ⟨RX8, "write", "(II)I"⟩
abbrev cX8_judge : ByteArray := prog_1_method_34_code
def yX8_judge : MethodName := ⟨RX8, "judge", "()I"⟩
abbrev cX8_tear : ByteArray := prog_1_method_35_code
def yX8_tear : MethodName := ⟨RX8, "tear", "()I"⟩
abbrev cX8_seed : ByteArray := prog_1_method_36_code
def yX8_seed : MethodName := ⟨RX8, "seed", "(I)I"⟩
abbrev cX8_keep : ByteArray := prog_1_method_37_code
def yX8_keep : MethodName := ⟨RX8, "keep", "(I)I"⟩
abbrev cX8_goBack : ByteArray := prog_1_method_38_code
def yX8_goBack : MethodName := ⟨RX8, "goBack", "(I)I"⟩
abbrev cX8_isWithin : ByteArray := prog_1_method_39_code
def yX8_isWithin : MethodName := ⟨RX8, "isWithin", "(III)Z"⟩
abbrev cX8_isKind : ByteArray := prog_1_method_40_code
def yX8_isKind : MethodName := ⟨RX8, "isKind", "(I)Z"⟩
abbrev cX8_isPerson : ByteArray := prog_1_method_41_code
def yX8_isPerson : MethodName := ⟨RX8, "isPerson", "(I)Z"⟩
abbrev cX8_isOffice : ByteArray := prog_1_method_42_code
def yX8_isOffice : MethodName := ⟨RX8, "isOffice", "(I)Z"⟩
abbrev cX8_whyNoDays : ByteArray := prog_1_method_43_code
def yX8_whyNoDays : MethodName := ⟨RX8, "whyNoDays", "(I)I"⟩
abbrev cX8_draw : ByteArray := prog_1_method_44_code
def yX8_draw : MethodName := ⟨RX8, "draw", "(I)I"⟩
abbrev cX8_drawWeatherAndEffort : ByteArray := prog_1_method_45_code
def yX8_drawWeatherAndEffort : MethodName := ⟨RX8, "drawWeatherAndEffort", "()V"⟩
abbrev cX8_secondIn : ByteArray := prog_1_method_46_code
def yX8_secondIn : MethodName := ⟨RX8, "secondIn", "(LSecondBest$State;I)I"⟩
abbrev cX8_holderBehind : ByteArray := prog_1_method_47_code
def yX8_holderBehind : MethodName := ⟨RX8, "holderBehind", "(II)I"⟩
abbrev cX8_secondByEfforts : ByteArray := prog_1_method_48_code
def yX8_secondByEfforts : MethodName := ⟨RX8, "secondByEfforts", "(II)I"⟩
abbrev cX8_isRestless : ByteArray := prog_1_method_49_code
def yX8_isRestless : MethodName := ⟨RX8, "isRestless", "(II)Z"⟩
abbrev cX8_fewestWhoLet : ByteArray := prog_1_method_50_code
def yX8_fewestWhoLet : MethodName := ⟨RX8, "fewestWhoLet", "(II)I"⟩
abbrev cX8_isSecondIfLet : ByteArray := prog_1_method_51_code
def yX8_isSecondIfLet : MethodName := ⟨RX8, "isSecondIfLet", "(III)Z"⟩
abbrev cX8_countRings : ByteArray := prog_1_method_52_code
def yX8_countRings : MethodName := ⟨RX8, "countRings", "()I"⟩
def RX9 : String := "SecondBestModel"
def TX9 : u_T := fun k => match k with
  | 0 => ("SecondBestModel", "w", "[I", true)
  | 1 => ("SecondBestModel", "daring", "[I", true)
  | 2 => ("SecondBestModel", "officeKind", "[I", true)
  | 3 => ("SecondBestModel", "dayKind", "[I", true)
  | 4 => ("SecondBestModel", "law", "I", false)
  | 5 => ("SecondBestModel", "term", "I", false)
  | 6 => ("SecondBestModel", "persons", "I", false)
  | 7 => ("SecondBestModel", "offices", "I", false)
  | 8 => ("SecondBestModel", "dayKinds", "I", false)
  | 9 => ("SecondBestModel", "undoMany", "I", false)
  | 10 => ("SecondBestModel", "kept", "I", false)
  | 11 => ("SecondBestModel", "text", "[I", true)
  | 12 => ("SecondBestModel", "size", "I", false)
  | 13 => ("SecondBestModel", "fault", "I", false)
  | 14 => ("SecondBestModel", "seenEffort", "[I", true)
  | 15 => ("SecondBestModel", "seenMark", "[I", true)
  | 16 => ("SecondBestModel", "seen", "I", false)
  | 17 => ("SecondBestModel", "bookOffice", "[I", true)
  | 18 => ("SecondBestModel", "bookHolder", "[I", true)
  | 19 => ("SecondBestModel", "book", "I", false)
  | 20 => ("SecondBestModel", "at", "I", false)
  | 21 => ("SecondBestModel", "readFault", "I", false)
  | 22 => ("SecondBestModel", "readPlace", "I", false)
  | 23 => ("SecondBestModel", "newLaw", "I", false)
  | 24 => ("SecondBestModel", "newTerm", "I", false)
  | 25 => ("SecondBestModel", "newPersons", "I", false)
  | 26 => ("SecondBestModel", "newOffices", "I", false)
  | 27 => ("SecondBestModel", "newDays", "I", false)
  | 28 => ("SecondBestModel", "newGift", "[I", true)
  | 29 => ("SecondBestModel", "newDaring", "[I", true)
  | 30 => ("SecondBestModel", "newOffice", "[I", true)
  | _ => ("SecondBestModel", "newDay", "[I", true)
def tyX9 : Nat → FieldType := fun k => match k with
  | 0 => .array .int
  | 1 => .array .int
  | 2 => .array .int
  | 3 => .array .int
  | 4 => .int
  | 5 => .int
  | 6 => .int
  | 7 => .int
  | 8 => .int
  | 9 => .int
  | 10 => .int
  | 11 => .array .int
  | 12 => .int
  | 13 => .int
  | 14 => .array .int
  | 15 => .array .int
  | 16 => .int
  | 17 => .array .int
  | 18 => .array .int
  | 19 => .int
  | 20 => .int
  | 21 => .int
  | 22 => .int
  | 23 => .int
  | 24 => .int
  | 25 => .int
  | 26 => .int
  | 27 => .int
  | 28 => .array .int
  | 29 => .array .int
  | 30 => .array .int
  | _ => .array .int
abbrev wsX90 : List Cond := u_ws RX9 TX9 32
theorem nmX9 : ∀ a, a < 32 → ∀ b, b < 32 → a ≠ b → (TX9 a).2.1 ≠ (TX9 b).2.1 := by decide +kernel
theorem tyX9_ok : ∀ k, k < 32 → parseFieldDescriptor (TX9 k).2.2.1 = some (tyX9 k) := by decide +kernel
abbrev cX9_init : ByteArray := prog_11_method_1_code
def yX9_init : MethodName := ⟨RX9, "<init>", "()V"⟩
abbrev cX9_in : ByteArray := prog_11_method_3_code
def yX9_in : MethodName := ⟨RX9, "in", "(III)Z"⟩
abbrev cX9_has : ByteArray := prog_11_method_4_code
def yX9_has : MethodName := ⟨RX9, "has", "(II)Z"⟩
abbrev cX9_isPerson : ByteArray := prog_11_method_5_code
def yX9_isPerson : MethodName := ⟨RX9, "isPerson", "(I)Z"⟩
abbrev cX9_isOffice : ByteArray := prog_11_method_6_code
def yX9_isOffice : MethodName := ⟨RX9, "isOffice", "(I)Z"⟩
abbrev cX9_copyRow : ByteArray := prog_11_method_7_code
def yX9_copyRow : MethodName := ⟨RX9, "copyRow", "(II)V"⟩
abbrev cX9_feed : ByteArray := prog_11_method_8_code
def yX9_feed : MethodName := ⟨RX9, "feed", "(I)I"⟩
abbrev cX9_wrong : ByteArray := prog_11_method_9_code
def yX9_wrong : MethodName := ⟨RX9, "wrong", "(II)V"⟩
abbrev cX9_fine : ByteArray := prog_11_method_10_code
def yX9_fine : MethodName := ⟨RX9, "fine", "()Z"⟩
abbrev cX9_here : ByteArray := prog_11_method_11_code
def yX9_here : MethodName := ⟨RX9, "here", "()I"⟩
abbrev cX9_number : ByteArray := prog_11_method_12_code
def yX9_number : MethodName := ⟨RX9, "number", "(II)I"⟩
abbrev cX9_readLaw : ByteArray := prog_11_method_13_code
def yX9_readLaw : MethodName := ⟨RX9, "readLaw", "(I)V"⟩
abbrev cX9_readPerson : ByteArray := prog_11_method_14_code
def yX9_readPerson : MethodName := ⟨RX9, "readPerson", "(I)V"⟩
abbrev cX9_readDays : ByteArray := prog_11_method_15_code
def yX9_readDays : MethodName := ⟨RX9, "readDays", "(I)V"⟩
abbrev cX9_readOffice : ByteArray := prog_11_method_16_code
def yX9_readOffice : MethodName := ⟨RX9, "readOffice", "(I)V"⟩
abbrev cX9_readClause : ByteArray := prog_11_method_17_code
def yX9_readClause : MethodName := ⟨RX9, "readClause", "()V"⟩
abbrev cX9_kingdom : ByteArray := prog_11_method_18_code
def yX9_kingdom : MethodName := ⟨RX9, "kingdom", "()I"⟩
abbrev cX9_begin : ByteArray := prog_11_method_19_code
def yX9_begin : MethodName := ⟨RX9, "begin", "()V"⟩
abbrev cX9_fault : ByteArray := prog_11_method_20_code
def yX9_fault : MethodName := ⟨RX9, "fault", "()I"⟩
abbrev cX9_markIn : ByteArray := prog_11_method_21_code
def yX9_markIn : MethodName := ⟨RX9, "markIn", "(III)I"⟩
abbrev cX9_isAtCourt : ByteArray := prog_11_method_22_code
def yX9_isAtCourt : MethodName := ⟨RX9, "isAtCourt", "(II)Z"⟩
abbrev cX9_courtIn : ByteArray := prog_11_method_23_code
def yX9_courtIn : MethodName := ⟨RX9, "courtIn", "(I)I"⟩
abbrev cX9_isAhead : ByteArray := prog_11_method_24_code
def yX9_isAhead : MethodName := ⟨RX9, "isAhead", "(IIII)Z"⟩
abbrev cX9_bestOf : ByteArray := prog_11_method_25_code
def yX9_bestOf : MethodName := ⟨RX9, "bestOf", "(III)I"⟩
abbrev cX9_firstOnes : ByteArray := prog_11_method_26_code
def yX9_firstOnes : MethodName := ⟨RX9, "firstOnes", "(II)I"⟩
abbrev cX9_secondOne : ByteArray := prog_11_method_27_code
def yX9_secondOne : MethodName := ⟨RX9, "secondOne", "(II)I"⟩
abbrev cX9_goOff : ByteArray := prog_11_method_28_code
def yX9_goOff : MethodName := ⟨RX9, "goOff", "(II)V"⟩
abbrev cX9_logIn : ByteArray := prog_11_method_29_code
def yX9_logIn : MethodName := ⟨RX9, "logIn", "(IIII)V"⟩
abbrev cX9_least : ByteArray := prog_11_method_30_code
def yX9_least : MethodName := ⟨RX9, "least", "(I)I"⟩
abbrev cX9_contestIn : ByteArray := prog_11_method_31_code
def yX9_contestIn : MethodName := ⟨RX9, "contestIn", "(II)V"⟩
abbrev cX9_kindOf : ByteArray := prog_11_method_32_code
def yX9_kindOf : MethodName := ⟨RX9, "kindOf", "(I)I"⟩
abbrev cX9_dayIn : ByteArray := prog_11_method_33_code
def yX9_dayIn : MethodName := ⟨RX9, "dayIn", "(I)V"⟩
abbrev cX9_nearly : ByteArray := prog_11_method_34_code
def yX9_nearly : MethodName := ⟨RX9, "nearly", "()I"⟩
abbrev cX9_doesBeat : ByteArray := prog_11_method_35_code
def yX9_doesBeat : MethodName := ⟨RX9, "doesBeat", "(II)Z"⟩
abbrev cX9_rings : ByteArray := prog_11_method_36_code
def yX9_rings : MethodName := ⟨RX9, "rings", "()I"⟩
abbrev cX9_vacant : ByteArray := prog_11_method_37_code
def yX9_vacant : MethodName := ⟨RX9, "vacant", "()I"⟩
abbrev cX9_brilliant : ByteArray := prog_11_method_38_code
def yX9_brilliant : MethodName := ⟨RX9, "brilliant", "()I"⟩
abbrev cX9_told : ByteArray := prog_11_method_39_code
def yX9_told : MethodName := ⟨RX9, "told", "(I)I"⟩
abbrev cX9_heldBy : ByteArray := prog_11_method_40_code
def yX9_heldBy : MethodName := ⟨RX9, "heldBy", "(I)I"⟩
abbrev cX9_person : ByteArray := prog_11_method_41_code
def yX9_person : MethodName := ⟨RX9, "person", "(II)I"⟩
abbrev cX9_office : ByteArray := prog_11_method_42_code
def yX9_office : MethodName := ⟨RX9, "office", "(II)I"⟩
abbrev cX9_ahead : ByteArray := prog_11_method_43_code
def yX9_ahead : MethodName := ⟨RX9, "ahead", "(I)I"⟩
abbrev cX9_logged : ByteArray := prog_11_method_44_code
def yX9_logged : MethodName := ⟨RX9, "logged", "(II)I"⟩
abbrev cX9_remember : ByteArray := prog_11_method_45_code
def yX9_remember : MethodName := ⟨RX9, "remember", "()V"⟩
abbrev cX9_whyNot : ByteArray := prog_11_method_46_code
def yX9_whyNot : MethodName := ⟨RX9, "whyNot", "(I)I"⟩
abbrev cX9_day : ByteArray := prog_11_method_47_code
def yX9_day : MethodName := ⟨RX9, "day", "(I)I"⟩
abbrev cX9_effort : ByteArray := prog_11_method_48_code
def yX9_effort : MethodName := ⟨RX9, "effort", "(II)I"⟩
abbrev cX9_rain : ByteArray := prog_11_method_49_code
def yX9_rain : MethodName := ⟨RX9, "rain", "(Z)I"⟩
abbrev cX9_teach : ByteArray := prog_11_method_50_code
def yX9_teach : MethodName := ⟨RX9, "teach", "(III)I"⟩
abbrev cX9_bits : ByteArray := prog_11_method_51_code
def yX9_bits : MethodName := ⟨RX9, "bits", "(I)I"⟩
abbrev cX9_send : ByteArray := prog_11_method_52_code
def yX9_send : MethodName := ⟨RX9, "send", "(I)I"⟩
abbrev cX9_recall : ByteArray := prog_11_method_53_code
def yX9_recall : MethodName := ⟨RX9, "recall", "(I)I"⟩
abbrev cX9_draw : ByteArray := prog_11_method_54_code
def yX9_draw : MethodName := ⟨RX9, "draw", "(I)I"⟩
abbrev cX9_drift : ByteArray := prog_11_method_55_code
def yX9_drift : MethodName := ⟨RX9, "drift", "(I)I"⟩
abbrev cX9_undo : ByteArray := prog_11_method_56_code
def yX9_undo : MethodName := ⟨RX9, "undo", "(I)I"⟩
abbrev cX9_isKind : ByteArray := prog_11_method_57_code
def yX9_isKind : MethodName := ⟨RX9, "isKind", "(I)Z"⟩
abbrev cX9_mark : ByteArray := prog_11_method_58_code
def yX9_mark : MethodName := ⟨RX9, "mark", "(II)I"⟩
abbrev cX9_place : ByteArray := prog_11_method_59_code
def yX9_place : MethodName := ⟨RX9, "place", "(II)I"⟩
abbrev cX9_wouldBe : ByteArray := prog_11_method_60_code
def yX9_wouldBe : MethodName := ⟨RX9, "wouldBe", "(II)I"⟩
abbrev cX9_holds : ByteArray := prog_11_method_61_code
def yX9_holds : MethodName := ⟨RX9, "holds", "(II)I"⟩
abbrev cX9_effortsOf : ByteArray := prog_11_method_62_code
def yX9_effortsOf : MethodName := ⟨RX9, "effortsOf", "(II)I"⟩
abbrev cX9_efforts : ByteArray := prog_11_method_63_code
def yX9_efforts : MethodName := ⟨RX9, "efforts", "(II)I"⟩
abbrev cX9_restless : ByteArray := prog_11_method_64_code
def yX9_restless : MethodName := ⟨RX9, "restless", "(I)I"⟩
abbrev cX9_winsIf : ByteArray := prog_11_method_65_code
def yX9_winsIf : MethodName := ⟨RX9, "winsIf", "(III)Z"⟩
abbrev cX9_letWin : ByteArray := prog_11_method_66_code
def yX9_letWin : MethodName := ⟨RX9, "letWin", "(III)I"⟩
abbrev cX9_win : ByteArray := prog_11_method_67_code
def yX9_win : MethodName := ⟨RX9, "win", "(III)I"⟩
abbrev cX9_next : ByteArray := prog_11_method_68_code
def yX9_next : MethodName := ⟨RX9, "next", "(I)I"⟩
abbrev cX9_beats : ByteArray := prog_11_method_69_code
def yX9_beats : MethodName := ⟨RX9, "beats", "(II)I"⟩
abbrev cX9_spread : ByteArray := prog_11_method_70_code
def yX9_spread : MethodName := ⟨RX9, "spread", "(I)I"⟩
abbrev cX9_dry : ByteArray := prog_11_method_71_code
def yX9_dry : MethodName := ⟨RX9, "dry", "(II)I"⟩
abbrev cX9_see : ByteArray := prog_11_method_72_code
def yX9_see : MethodName := ⟨RX9, "see", "(II)I"⟩
abbrev cX9_isSo : ByteArray := prog_11_method_73_code
def yX9_isSo : MethodName := ⟨RX9, "isSo", "(I)Z"⟩
abbrev cX9_truly : ByteArray := prog_11_method_74_code
def yX9_truly : MethodName := ⟨RX9, "truly", "(I)I"⟩
abbrev cX9_partBy : ByteArray := prog_11_method_75_code
def yX9_partBy : MethodName := ⟨RX9, "partBy", "(I)I"⟩
abbrev cX9_tryNext : ByteArray := prog_11_method_76_code
def yX9_tryNext : MethodName := ⟨RX9, "tryNext", "()I"⟩
abbrev cX9_write : ByteArray := prog_11_method_77_code
def yX9_write : MethodName := ⟨RX9, "write", "(II)I"⟩
abbrev cX9_judge : ByteArray := prog_11_method_78_code
def yX9_judge : MethodName := ⟨RX9, "judge", "()I"⟩
abbrev cX9_tear : ByteArray := prog_11_method_79_code
def yX9_tear : MethodName := ⟨RX9, "tear", "()I"⟩
abbrev cX9_seed : ByteArray := prog_11_method_80_code
def yX9_seed : MethodName := ⟨RX9, "seed", "(I)I"⟩
abbrev cX9_keep : ByteArray := prog_11_method_81_code
def yX9_keep : MethodName := ⟨RX9, "keep", "(I)I"⟩
abbrev cX9_goBack : ByteArray := prog_11_method_82_code
def yX9_goBack : MethodName := ⟨RX9, "goBack", "(I)I"⟩
def RJ6 : String := "java/lang/Integer"
abbrev cJ6_compare_7cf53 : ByteArray := prog_12_method_40_code
def yJ6_compare_7cf53 : MethodName := ⟨RJ6, "compare", "(II)I"⟩
abbrev cJ6_bitCount_0f7a4 : ByteArray := prog_12_method_49_code
def yJ6_bitCount_0f7a4 : MethodName := ⟨RJ6, "bitCount", "(I)I"⟩
def RJ9 : String := "java/lang/Math"
abbrev cJ9_max_7cf53 : ByteArray := prog_13_method_65_code
def yJ9_max_7cf53 : MethodName := ⟨RJ9, "max", "(II)I"⟩
abbrev cJ9_min_7cf53 : ByteArray := prog_13_method_69_code
def yJ9_min_7cf53 : MethodName := ⟨RJ9, "min", "(II)I"⟩
def RJ10 : String := "java/lang/System"
def RL : String := "SecondBestLaw"
abbrev cL_law : ByteArray := code
def yL_law : MethodName := ⟨RL, "law", "([I)Z"⟩
abbrev vwCl : List vw_C := [(RX0, TX0, 3), (RX1, TX1, 4), (RX2, TX2, 3), (RX3, TX3, 3), (RX4, TX4, 9), (RX5, TX5, 4), (RX6, TX6, 9), (RX7, TX7, 5), (RX8, TX8, 11), (RX9, TX9, 32)]
theorem in_X0 : ∀ w ∈ u_ws RX0 TX0 3, w ∈ lw_tbl := by decide +kernel
theorem in_X1 : ∀ w ∈ u_ws RX1 TX1 4, w ∈ lw_tbl := by decide +kernel
theorem in_X2 : ∀ w ∈ u_ws RX2 TX2 3, w ∈ lw_tbl := by decide +kernel
theorem in_X3 : ∀ w ∈ u_ws RX3 TX3 3, w ∈ lw_tbl := by decide +kernel
theorem in_X4 : ∀ w ∈ u_ws RX4 TX4 9, w ∈ lw_tbl := by decide +kernel
theorem in_X5 : ∀ w ∈ u_ws RX5 TX5 4, w ∈ lw_tbl := by decide +kernel
theorem in_X6 : ∀ w ∈ u_ws RX6 TX6 9, w ∈ lw_tbl := by decide +kernel
theorem in_X7 : ∀ w ∈ u_ws RX7 TX7 5, w ∈ lw_tbl := by decide +kernel
theorem in_X8 : ∀ w ∈ u_ws RX8 TX8 11, w ∈ lw_tbl := by decide +kernel
theorem in_X9 : ∀ w ∈ u_ws RX9 TX9 32, w ∈ lw_tbl := by decide +kernel
