section
-- ===== PART A: goes FIRST, ahead of the names: the tables' words, and 'selects' of the private methods out of them =====
/-- a private method of a class that the tables say can be made, by its rows of tables_1 -/
def lw_okq (q : MethodName × Nat) : Prop := (q.1.cls ≠ "java/lang/invoke/MethodHandle" ∧ q.1.cls ≠ "java/lang/invoke/VarHandle") ∧ Cond.instantiable q.1.cls q.2 ∈ tables_1 ∧ Cond.privateMethod q.1 ∈ tables_1 ∧ Cond.instanceMethod q.1 ∈ tables_1
theorem lw_p0 : lw_okq (⟨"SecondBest$Text", "skipBlanks", "()V"⟩, 5) := ⟨⟨by decide +kernel, by decide +kernel⟩, List.mem_of_getElem? (i := 23) (by decide +kernel), List.mem_of_getElem? (i := 310) (by decide +kernel), List.mem_of_getElem? (i := 311) (by decide +kernel)⟩
theorem lw_p1 : lw_okq (⟨"SecondBest$Text", "readClause", "(LSecondBest$Realm;)V"⟩, 5) := ⟨⟨by decide +kernel, by decide +kernel⟩, List.mem_of_getElem? (i := 23) (by decide +kernel), List.mem_of_getElem? (i := 314) (by decide +kernel), List.mem_of_getElem? (i := 315) (by decide +kernel)⟩
theorem lw_p2 : lw_okq (⟨"SecondBest$Text", "blame", "(II)V"⟩, 5) := ⟨⟨by decide +kernel, by decide +kernel⟩, List.mem_of_getElem? (i := 23) (by decide +kernel), List.mem_of_getElem? (i := 325) (by decide +kernel), List.mem_of_getElem? (i := 326) (by decide +kernel)⟩
theorem lw_p3 : lw_okq (⟨"SecondBest$Text", "readLaw", "(LSecondBest$Realm;)V"⟩, 5) := ⟨⟨by decide +kernel, by decide +kernel⟩, List.mem_of_getElem? (i := 23) (by decide +kernel), List.mem_of_getElem? (i := 329) (by decide +kernel), List.mem_of_getElem? (i := 330) (by decide +kernel)⟩
theorem lw_p4 : lw_okq (⟨"SecondBest$Text", "readNumber", "(II)I"⟩, 5) := ⟨⟨by decide +kernel, by decide +kernel⟩, List.mem_of_getElem? (i := 23) (by decide +kernel), List.mem_of_getElem? (i := 333) (by decide +kernel), List.mem_of_getElem? (i := 334) (by decide +kernel)⟩
theorem lw_p5 : lw_okq (⟨"SecondBest$Text", "readPerson", "(LSecondBest$Realm;)V"⟩, 5) := ⟨⟨by decide +kernel, by decide +kernel⟩, List.mem_of_getElem? (i := 23) (by decide +kernel), List.mem_of_getElem? (i := 340) (by decide +kernel), List.mem_of_getElem? (i := 341) (by decide +kernel)⟩
theorem lw_p6 : lw_okq (⟨"SecondBest$Text", "readTurns", "(LSecondBest$Realm;)V"⟩, 5) := ⟨⟨by decide +kernel, by decide +kernel⟩, List.mem_of_getElem? (i := 23) (by decide +kernel), List.mem_of_getElem? (i := 344) (by decide +kernel), List.mem_of_getElem? (i := 345) (by decide +kernel)⟩
theorem lw_p7 : lw_okq (⟨"SecondBest$Text", "isNext", "(I)Z"⟩, 5) := ⟨⟨by decide +kernel, by decide +kernel⟩, List.mem_of_getElem? (i := 23) (by decide +kernel), List.mem_of_getElem? (i := 348) (by decide +kernel), List.mem_of_getElem? (i := 349) (by decide +kernel)⟩
theorem lw_p8 : lw_okq (⟨"SecondBest$Text", "readOffice", "(LSecondBest$Realm;)V"⟩, 5) := ⟨⟨by decide +kernel, by decide +kernel⟩, List.mem_of_getElem? (i := 23) (by decide +kernel), List.mem_of_getElem? (i := 352) (by decide +kernel), List.mem_of_getElem? (i := 353) (by decide +kernel)⟩
theorem lw_p9 : lw_okq (⟨"SecondBest$Text", "readSign", "(I)V"⟩, 5) := ⟨⟨by decide +kernel, by decide +kernel⟩, List.mem_of_getElem? (i := 23) (by decide +kernel), List.mem_of_getElem? (i := 356) (by decide +kernel), List.mem_of_getElem? (i := 357) (by decide +kernel)⟩
theorem lw_p10 : lw_okq (⟨"SecondBest", "countRings", "()I"⟩, 11) := ⟨⟨by decide +kernel, by decide +kernel⟩, List.mem_of_getElem? (i := 15) (by decide +kernel), List.mem_of_getElem? (i := 391) (by decide +kernel), List.mem_of_getElem? (i := 392) (by decide +kernel)⟩
theorem lw_p11 : lw_okq (⟨"SecondBest", "isPerson", "(I)Z"⟩, 11) := ⟨⟨by decide +kernel, by decide +kernel⟩, List.mem_of_getElem? (i := 15) (by decide +kernel), List.mem_of_getElem? (i := 425) (by decide +kernel), List.mem_of_getElem? (i := 426) (by decide +kernel)⟩
theorem lw_p12 : lw_okq (⟨"SecondBest", "isOffice", "(I)Z"⟩, 11) := ⟨⟨by decide +kernel, by decide +kernel⟩, List.mem_of_getElem? (i := 15) (by decide +kernel), List.mem_of_getElem? (i := 435) (by decide +kernel), List.mem_of_getElem? (i := 436) (by decide +kernel)⟩
theorem lw_p13 : lw_okq (⟨"SecondBest", "whyNoDays", "(I)I"⟩, 11) := ⟨⟨by decide +kernel, by decide +kernel⟩, List.mem_of_getElem? (i := 15) (by decide +kernel), List.mem_of_getElem? (i := 462) (by decide +kernel), List.mem_of_getElem? (i := 463) (by decide +kernel)⟩
theorem lw_p14 : lw_okq (⟨"SecondBest$Contest", "foremost", "(LSecondBest$Realm;LSecondBest$State;)I"⟩, 4) := ⟨⟨by decide +kernel, by decide +kernel⟩, List.mem_of_getElem? (i := 90) (by decide +kernel), List.mem_of_getElem? (i := 490) (by decide +kernel), List.mem_of_getElem? (i := 491) (by decide +kernel)⟩
theorem lw_p15 : lw_okq (⟨"SecondBest$Contest", "isAheadOf", "(LSecondBest$Realm;II)Z"⟩, 4) := ⟨⟨by decide +kernel, by decide +kernel⟩, List.mem_of_getElem? (i := 90) (by decide +kernel), List.mem_of_getElem? (i := 499) (by decide +kernel), List.mem_of_getElem? (i := 500) (by decide +kernel)⟩
def lw_privs_1 : List (MethodName × Nat) := [(⟨"SecondBest$Text", "skipBlanks", "()V"⟩, 5), (⟨"SecondBest$Text", "readClause", "(LSecondBest$Realm;)V"⟩, 5), (⟨"SecondBest$Text", "blame", "(II)V"⟩, 5), (⟨"SecondBest$Text", "readLaw", "(LSecondBest$Realm;)V"⟩, 5), (⟨"SecondBest$Text", "readNumber", "(II)I"⟩, 5), (⟨"SecondBest$Text", "readPerson", "(LSecondBest$Realm;)V"⟩, 5), (⟨"SecondBest$Text", "readTurns", "(LSecondBest$Realm;)V"⟩, 5), (⟨"SecondBest$Text", "isNext", "(I)Z"⟩, 5), (⟨"SecondBest$Text", "readOffice", "(LSecondBest$Realm;)V"⟩, 5), (⟨"SecondBest$Text", "readSign", "(I)V"⟩, 5), (⟨"SecondBest", "countRings", "()I"⟩, 11), (⟨"SecondBest", "isPerson", "(I)Z"⟩, 11), (⟨"SecondBest", "isOffice", "(I)Z"⟩, 11), (⟨"SecondBest", "whyNoDays", "(I)I"⟩, 11), (⟨"SecondBest$Contest", "foremost", "(LSecondBest$Realm;LSecondBest$State;)I"⟩, 4), (⟨"SecondBest$Contest", "isAheadOf", "(LSecondBest$Realm;II)Z"⟩, 4)]
theorem lw_r1 : ∀ q ∈ lw_privs_1, lw_okq q := List.forall_mem_cons.mpr ⟨lw_p0, List.forall_mem_cons.mpr ⟨lw_p1, List.forall_mem_cons.mpr ⟨lw_p2, List.forall_mem_cons.mpr ⟨lw_p3, List.forall_mem_cons.mpr ⟨lw_p4, List.forall_mem_cons.mpr ⟨lw_p5, List.forall_mem_cons.mpr ⟨lw_p6, List.forall_mem_cons.mpr ⟨lw_p7, List.forall_mem_cons.mpr ⟨lw_p8, List.forall_mem_cons.mpr ⟨lw_p9, List.forall_mem_cons.mpr ⟨lw_p10, List.forall_mem_cons.mpr ⟨lw_p11, List.forall_mem_cons.mpr ⟨lw_p12, List.forall_mem_cons.mpr ⟨lw_p13, List.forall_mem_cons.mpr ⟨lw_p14, List.forall_mem_cons.mpr ⟨lw_p15, fun _ h => absurd h List.not_mem_nil⟩⟩⟩⟩⟩⟩⟩⟩⟩⟩⟩⟩⟩⟩⟩⟩
theorem lw_p16 : lw_okq (⟨"SecondBest$Contest", "allLike", "(LSecondBest$Realm;LSecondBest$State;I)I"⟩, 4) := ⟨⟨by decide +kernel, by decide +kernel⟩, List.mem_of_getElem? (i := 90) (by decide +kernel), List.mem_of_getElem? (i := 503) (by decide +kernel), List.mem_of_getElem? (i := 504) (by decide +kernel)⟩
theorem lw_p17 : lw_okq (⟨"SecondBest$State", "settle", "(LSecondBest$Realm;LSecondBest$Contest;I)V"⟩, 9) := ⟨⟨by decide +kernel, by decide +kernel⟩, List.mem_of_getElem? (i := 49) (by decide +kernel), List.mem_of_getElem? (i := 507) (by decide +kernel), List.mem_of_getElem? (i := 508) (by decide +kernel)⟩
theorem lw_p18 : lw_okq (⟨"SecondBest$State", "promote", "(LSecondBest$Realm;II)V"⟩, 9) := ⟨⟨by decide +kernel, by decide +kernel⟩, List.mem_of_getElem? (i := 49) (by decide +kernel), List.mem_of_getElem? (i := 516) (by decide +kernel), List.mem_of_getElem? (i := 517) (by decide +kernel)⟩
theorem lw_p19 : lw_okq (⟨"SecondBest$State", "logContest", "(ILSecondBest$Contest;)V"⟩, 9) := ⟨⟨by decide +kernel, by decide +kernel⟩, List.mem_of_getElem? (i := 49) (by decide +kernel), List.mem_of_getElem? (i := 527) (by decide +kernel), List.mem_of_getElem? (i := 528) (by decide +kernel)⟩
theorem lw_p20 : lw_okq (⟨"SecondBest", "drawWeatherAndEffort", "()V"⟩, 11) := ⟨⟨by decide +kernel, by decide +kernel⟩, List.mem_of_getElem? (i := 15) (by decide +kernel), List.mem_of_getElem? (i := 567) (by decide +kernel), List.mem_of_getElem? (i := 568) (by decide +kernel)⟩
theorem lw_p21 : lw_okq (⟨"SecondBest", "draw", "(I)I"⟩, 11) := ⟨⟨by decide +kernel, by decide +kernel⟩, List.mem_of_getElem? (i := 15) (by decide +kernel), List.mem_of_getElem? (i := 571) (by decide +kernel), List.mem_of_getElem? (i := 572) (by decide +kernel)⟩
theorem lw_p22 : lw_okq (⟨"SecondBest", "holderBehind", "(II)I"⟩, 11) := ⟨⟨by decide +kernel, by decide +kernel⟩, List.mem_of_getElem? (i := 15) (by decide +kernel), List.mem_of_getElem? (i := 609) (by decide +kernel), List.mem_of_getElem? (i := 610) (by decide +kernel)⟩
theorem lw_p23 : lw_okq (⟨"SecondBest", "secondByEfforts", "(II)I"⟩, 11) := ⟨⟨by decide +kernel, by decide +kernel⟩, List.mem_of_getElem? (i := 15) (by decide +kernel), List.mem_of_getElem? (i := 617) (by decide +kernel), List.mem_of_getElem? (i := 618) (by decide +kernel)⟩
theorem lw_p24 : lw_okq (⟨"SecondBest", "secondIn", "(LSecondBest$State;I)I"⟩, 11) := ⟨⟨by decide +kernel, by decide +kernel⟩, List.mem_of_getElem? (i := 15) (by decide +kernel), List.mem_of_getElem? (i := 621) (by decide +kernel), List.mem_of_getElem? (i := 622) (by decide +kernel)⟩
theorem lw_p25 : lw_okq (⟨"SecondBest", "isRestless", "(II)Z"⟩, 11) := ⟨⟨by decide +kernel, by decide +kernel⟩, List.mem_of_getElem? (i := 15) (by decide +kernel), List.mem_of_getElem? (i := 629) (by decide +kernel), List.mem_of_getElem? (i := 630) (by decide +kernel)⟩
theorem lw_p26 : lw_okq (⟨"SecondBest", "fewestWhoLet", "(II)I"⟩, 11) := ⟨⟨by decide +kernel, by decide +kernel⟩, List.mem_of_getElem? (i := 15) (by decide +kernel), List.mem_of_getElem? (i := 637) (by decide +kernel), List.mem_of_getElem? (i := 638) (by decide +kernel)⟩
theorem lw_p27 : lw_okq (⟨"SecondBest", "isSecondIfLet", "(III)Z"⟩, 11) := ⟨⟨by decide +kernel, by decide +kernel⟩, List.mem_of_getElem? (i := 15) (by decide +kernel), List.mem_of_getElem? (i := 641) (by decide +kernel), List.mem_of_getElem? (i := 642) (by decide +kernel)⟩
theorem lw_p28 : lw_okq (⟨"SecondBest$Sightings", "isFitting", "(I)Z"⟩, 4) := ⟨⟨by decide +kernel, by decide +kernel⟩, List.mem_of_getElem? (i := 135) (by decide +kernel), List.mem_of_getElem? (i := 688) (by decide +kernel), List.mem_of_getElem? (i := 689) (by decide +kernel)⟩
theorem lw_p29 : lw_okq (⟨"SecondBest$Sightings", "greatestPart", "(I)I"⟩, 4) := ⟨⟨by decide +kernel, by decide +kernel⟩, List.mem_of_getElem? (i := 135) (by decide +kernel), List.mem_of_getElem? (i := 708) (by decide +kernel), List.mem_of_getElem? (i := 709) (by decide +kernel)⟩
theorem lw_p30 : lw_okq (⟨"SecondBestModel", "fine", "()Z"⟩, 32) := ⟨⟨by decide +kernel, by decide +kernel⟩, List.mem_of_getElem? (i := 745) (by decide +kernel), List.mem_of_getElem? (i := 861) (by decide +kernel), List.mem_of_getElem? (i := 862) (by decide +kernel)⟩
theorem lw_p31 : lw_okq (⟨"SecondBestModel", "here", "()I"⟩, 32) := ⟨⟨by decide +kernel, by decide +kernel⟩, List.mem_of_getElem? (i := 745) (by decide +kernel), List.mem_of_getElem? (i := 865) (by decide +kernel), List.mem_of_getElem? (i := 866) (by decide +kernel)⟩
def lw_privs_2 : List (MethodName × Nat) := [(⟨"SecondBest$Contest", "allLike", "(LSecondBest$Realm;LSecondBest$State;I)I"⟩, 4), (⟨"SecondBest$State", "settle", "(LSecondBest$Realm;LSecondBest$Contest;I)V"⟩, 9), (⟨"SecondBest$State", "promote", "(LSecondBest$Realm;II)V"⟩, 9), (⟨"SecondBest$State", "logContest", "(ILSecondBest$Contest;)V"⟩, 9), (⟨"SecondBest", "drawWeatherAndEffort", "()V"⟩, 11), (⟨"SecondBest", "draw", "(I)I"⟩, 11), (⟨"SecondBest", "holderBehind", "(II)I"⟩, 11), (⟨"SecondBest", "secondByEfforts", "(II)I"⟩, 11), (⟨"SecondBest", "secondIn", "(LSecondBest$State;I)I"⟩, 11), (⟨"SecondBest", "isRestless", "(II)Z"⟩, 11), (⟨"SecondBest", "fewestWhoLet", "(II)I"⟩, 11), (⟨"SecondBest", "isSecondIfLet", "(III)Z"⟩, 11), (⟨"SecondBest$Sightings", "isFitting", "(I)Z"⟩, 4), (⟨"SecondBest$Sightings", "greatestPart", "(I)I"⟩, 4), (⟨"SecondBestModel", "fine", "()Z"⟩, 32), (⟨"SecondBestModel", "here", "()I"⟩, 32)]
theorem lw_r2 : ∀ q ∈ lw_privs_2, lw_okq q := List.forall_mem_cons.mpr ⟨lw_p16, List.forall_mem_cons.mpr ⟨lw_p17, List.forall_mem_cons.mpr ⟨lw_p18, List.forall_mem_cons.mpr ⟨lw_p19, List.forall_mem_cons.mpr ⟨lw_p20, List.forall_mem_cons.mpr ⟨lw_p21, List.forall_mem_cons.mpr ⟨lw_p22, List.forall_mem_cons.mpr ⟨lw_p23, List.forall_mem_cons.mpr ⟨lw_p24, List.forall_mem_cons.mpr ⟨lw_p25, List.forall_mem_cons.mpr ⟨lw_p26, List.forall_mem_cons.mpr ⟨lw_p27, List.forall_mem_cons.mpr ⟨lw_p28, List.forall_mem_cons.mpr ⟨lw_p29, List.forall_mem_cons.mpr ⟨lw_p30, List.forall_mem_cons.mpr ⟨lw_p31, fun _ h => absurd h List.not_mem_nil⟩⟩⟩⟩⟩⟩⟩⟩⟩⟩⟩⟩⟩⟩⟩⟩
theorem lw_p32 : lw_okq (⟨"SecondBestModel", "readClause", "()V"⟩, 32) := ⟨⟨by decide +kernel, by decide +kernel⟩, List.mem_of_getElem? (i := 745) (by decide +kernel), List.mem_of_getElem? (i := 869) (by decide +kernel), List.mem_of_getElem? (i := 870) (by decide +kernel)⟩
theorem lw_p33 : lw_okq (⟨"SecondBestModel", "wrong", "(II)V"⟩, 32) := ⟨⟨by decide +kernel, by decide +kernel⟩, List.mem_of_getElem? (i := 745) (by decide +kernel), List.mem_of_getElem? (i := 873) (by decide +kernel), List.mem_of_getElem? (i := 874) (by decide +kernel)⟩
theorem lw_p34 : lw_okq (⟨"SecondBestModel", "readLaw", "(I)V"⟩, 32) := ⟨⟨by decide +kernel, by decide +kernel⟩, List.mem_of_getElem? (i := 745) (by decide +kernel), List.mem_of_getElem? (i := 877) (by decide +kernel), List.mem_of_getElem? (i := 878) (by decide +kernel)⟩
theorem lw_p35 : lw_okq (⟨"SecondBestModel", "number", "(II)I"⟩, 32) := ⟨⟨by decide +kernel, by decide +kernel⟩, List.mem_of_getElem? (i := 745) (by decide +kernel), List.mem_of_getElem? (i := 881) (by decide +kernel), List.mem_of_getElem? (i := 882) (by decide +kernel)⟩
theorem lw_p36 : lw_okq (⟨"SecondBestModel", "readPerson", "(I)V"⟩, 32) := ⟨⟨by decide +kernel, by decide +kernel⟩, List.mem_of_getElem? (i := 745) (by decide +kernel), List.mem_of_getElem? (i := 885) (by decide +kernel), List.mem_of_getElem? (i := 886) (by decide +kernel)⟩
theorem lw_p37 : lw_okq (⟨"SecondBestModel", "readDays", "(I)V"⟩, 32) := ⟨⟨by decide +kernel, by decide +kernel⟩, List.mem_of_getElem? (i := 745) (by decide +kernel), List.mem_of_getElem? (i := 889) (by decide +kernel), List.mem_of_getElem? (i := 890) (by decide +kernel)⟩
theorem lw_p38 : lw_okq (⟨"SecondBestModel", "readOffice", "(I)V"⟩, 32) := ⟨⟨by decide +kernel, by decide +kernel⟩, List.mem_of_getElem? (i := 745) (by decide +kernel), List.mem_of_getElem? (i := 893) (by decide +kernel), List.mem_of_getElem? (i := 894) (by decide +kernel)⟩
theorem lw_p39 : lw_okq (⟨"SecondBestModel", "begin", "()V"⟩, 32) := ⟨⟨by decide +kernel, by decide +kernel⟩, List.mem_of_getElem? (i := 745) (by decide +kernel), List.mem_of_getElem? (i := 897) (by decide +kernel), List.mem_of_getElem? (i := 898) (by decide +kernel)⟩
theorem lw_p40 : lw_okq (⟨"SecondBestModel", "courtIn", "(I)I"⟩, 32) := ⟨⟨by decide +kernel, by decide +kernel⟩, List.mem_of_getElem? (i := 745) (by decide +kernel), List.mem_of_getElem? (i := 909) (by decide +kernel), List.mem_of_getElem? (i := 910) (by decide +kernel)⟩
theorem lw_p41 : lw_okq (⟨"SecondBestModel", "isAtCourt", "(II)Z"⟩, 32) := ⟨⟨by decide +kernel, by decide +kernel⟩, List.mem_of_getElem? (i := 745) (by decide +kernel), List.mem_of_getElem? (i := 913) (by decide +kernel), List.mem_of_getElem? (i := 914) (by decide +kernel)⟩
theorem lw_p42 : lw_okq (⟨"SecondBestModel", "vacant", "()I"⟩, 32) := ⟨⟨by decide +kernel, by decide +kernel⟩, List.mem_of_getElem? (i := 745) (by decide +kernel), List.mem_of_getElem? (i := 917) (by decide +kernel), List.mem_of_getElem? (i := 918) (by decide +kernel)⟩
theorem lw_p43 : lw_okq (⟨"SecondBestModel", "nearly", "()I"⟩, 32) := ⟨⟨by decide +kernel, by decide +kernel⟩, List.mem_of_getElem? (i := 745) (by decide +kernel), List.mem_of_getElem? (i := 921) (by decide +kernel), List.mem_of_getElem? (i := 922) (by decide +kernel)⟩
theorem lw_p44 : lw_okq (⟨"SecondBestModel", "rings", "()I"⟩, 32) := ⟨⟨by decide +kernel, by decide +kernel⟩, List.mem_of_getElem? (i := 745) (by decide +kernel), List.mem_of_getElem? (i := 925) (by decide +kernel), List.mem_of_getElem? (i := 926) (by decide +kernel)⟩
theorem lw_p45 : lw_okq (⟨"SecondBestModel", "doesBeat", "(II)Z"⟩, 32) := ⟨⟨by decide +kernel, by decide +kernel⟩, List.mem_of_getElem? (i := 745) (by decide +kernel), List.mem_of_getElem? (i := 929) (by decide +kernel), List.mem_of_getElem? (i := 930) (by decide +kernel)⟩
theorem lw_p46 : lw_okq (⟨"SecondBestModel", "brilliant", "()I"⟩, 32) := ⟨⟨by decide +kernel, by decide +kernel⟩, List.mem_of_getElem? (i := 745) (by decide +kernel), List.mem_of_getElem? (i := 933) (by decide +kernel), List.mem_of_getElem? (i := 934) (by decide +kernel)⟩
theorem lw_p47 : lw_okq (⟨"SecondBestModel", "isPerson", "(I)Z"⟩, 32) := ⟨⟨by decide +kernel, by decide +kernel⟩, List.mem_of_getElem? (i := 745) (by decide +kernel), List.mem_of_getElem? (i := 941) (by decide +kernel), List.mem_of_getElem? (i := 942) (by decide +kernel)⟩
def lw_privs_3 : List (MethodName × Nat) := [(⟨"SecondBestModel", "readClause", "()V"⟩, 32), (⟨"SecondBestModel", "wrong", "(II)V"⟩, 32), (⟨"SecondBestModel", "readLaw", "(I)V"⟩, 32), (⟨"SecondBestModel", "number", "(II)I"⟩, 32), (⟨"SecondBestModel", "readPerson", "(I)V"⟩, 32), (⟨"SecondBestModel", "readDays", "(I)V"⟩, 32), (⟨"SecondBestModel", "readOffice", "(I)V"⟩, 32), (⟨"SecondBestModel", "begin", "()V"⟩, 32), (⟨"SecondBestModel", "courtIn", "(I)I"⟩, 32), (⟨"SecondBestModel", "isAtCourt", "(II)Z"⟩, 32), (⟨"SecondBestModel", "vacant", "()I"⟩, 32), (⟨"SecondBestModel", "nearly", "()I"⟩, 32), (⟨"SecondBestModel", "rings", "()I"⟩, 32), (⟨"SecondBestModel", "doesBeat", "(II)Z"⟩, 32), (⟨"SecondBestModel", "brilliant", "()I"⟩, 32), (⟨"SecondBestModel", "isPerson", "(I)Z"⟩, 32)]
theorem lw_r3 : ∀ q ∈ lw_privs_3, lw_okq q := List.forall_mem_cons.mpr ⟨lw_p32, List.forall_mem_cons.mpr ⟨lw_p33, List.forall_mem_cons.mpr ⟨lw_p34, List.forall_mem_cons.mpr ⟨lw_p35, List.forall_mem_cons.mpr ⟨lw_p36, List.forall_mem_cons.mpr ⟨lw_p37, List.forall_mem_cons.mpr ⟨lw_p38, List.forall_mem_cons.mpr ⟨lw_p39, List.forall_mem_cons.mpr ⟨lw_p40, List.forall_mem_cons.mpr ⟨lw_p41, List.forall_mem_cons.mpr ⟨lw_p42, List.forall_mem_cons.mpr ⟨lw_p43, List.forall_mem_cons.mpr ⟨lw_p44, List.forall_mem_cons.mpr ⟨lw_p45, List.forall_mem_cons.mpr ⟨lw_p46, List.forall_mem_cons.mpr ⟨lw_p47, fun _ h => absurd h List.not_mem_nil⟩⟩⟩⟩⟩⟩⟩⟩⟩⟩⟩⟩⟩⟩⟩⟩
theorem lw_p48 : lw_okq (⟨"SecondBestModel", "heldBy", "(I)I"⟩, 32) := ⟨⟨by decide +kernel, by decide +kernel⟩, List.mem_of_getElem? (i := 745) (by decide +kernel), List.mem_of_getElem? (i := 946) (by decide +kernel), List.mem_of_getElem? (i := 947) (by decide +kernel)⟩
theorem lw_p49 : lw_okq (⟨"SecondBestModel", "isOffice", "(I)Z"⟩, 32) := ⟨⟨by decide +kernel, by decide +kernel⟩, List.mem_of_getElem? (i := 745) (by decide +kernel), List.mem_of_getElem? (i := 954) (by decide +kernel), List.mem_of_getElem? (i := 955) (by decide +kernel)⟩
theorem lw_p50 : lw_okq (⟨"SecondBestModel", "kindOf", "(I)I"⟩, 32) := ⟨⟨by decide +kernel, by decide +kernel⟩, List.mem_of_getElem? (i := 745) (by decide +kernel), List.mem_of_getElem? (i := 963) (by decide +kernel), List.mem_of_getElem? (i := 964) (by decide +kernel)⟩
theorem lw_p51 : lw_okq (⟨"SecondBestModel", "whyNot", "(I)I"⟩, 32) := ⟨⟨by decide +kernel, by decide +kernel⟩, List.mem_of_getElem? (i := 745) (by decide +kernel), List.mem_of_getElem? (i := 975) (by decide +kernel), List.mem_of_getElem? (i := 976) (by decide +kernel)⟩
theorem lw_p52 : lw_okq (⟨"SecondBestModel", "remember", "()V"⟩, 32) := ⟨⟨by decide +kernel, by decide +kernel⟩, List.mem_of_getElem? (i := 745) (by decide +kernel), List.mem_of_getElem? (i := 980) (by decide +kernel), List.mem_of_getElem? (i := 981) (by decide +kernel)⟩
theorem lw_p53 : lw_okq (⟨"SecondBestModel", "copyRow", "(II)V"⟩, 32) := ⟨⟨by decide +kernel, by decide +kernel⟩, List.mem_of_getElem? (i := 745) (by decide +kernel), List.mem_of_getElem? (i := 984) (by decide +kernel), List.mem_of_getElem? (i := 985) (by decide +kernel)⟩
theorem lw_p54 : lw_okq (⟨"SecondBestModel", "dayIn", "(I)V"⟩, 32) := ⟨⟨by decide +kernel, by decide +kernel⟩, List.mem_of_getElem? (i := 745) (by decide +kernel), List.mem_of_getElem? (i := 988) (by decide +kernel), List.mem_of_getElem? (i := 989) (by decide +kernel)⟩
theorem lw_p55 : lw_okq (⟨"SecondBestModel", "contestIn", "(II)V"⟩, 32) := ⟨⟨by decide +kernel, by decide +kernel⟩, List.mem_of_getElem? (i := 745) (by decide +kernel), List.mem_of_getElem? (i := 992) (by decide +kernel), List.mem_of_getElem? (i := 993) (by decide +kernel)⟩
theorem lw_p56 : lw_okq (⟨"SecondBestModel", "firstOnes", "(II)I"⟩, 32) := ⟨⟨by decide +kernel, by decide +kernel⟩, List.mem_of_getElem? (i := 745) (by decide +kernel), List.mem_of_getElem? (i := 996) (by decide +kernel), List.mem_of_getElem? (i := 997) (by decide +kernel)⟩
theorem lw_p57 : lw_okq (⟨"SecondBestModel", "bestOf", "(III)I"⟩, 32) := ⟨⟨by decide +kernel, by decide +kernel⟩, List.mem_of_getElem? (i := 745) (by decide +kernel), List.mem_of_getElem? (i := 1000) (by decide +kernel), List.mem_of_getElem? (i := 1001) (by decide +kernel)⟩
theorem lw_p58 : lw_okq (⟨"SecondBestModel", "isAhead", "(IIII)Z"⟩, 32) := ⟨⟨by decide +kernel, by decide +kernel⟩, List.mem_of_getElem? (i := 745) (by decide +kernel), List.mem_of_getElem? (i := 1007) (by decide +kernel), List.mem_of_getElem? (i := 1008) (by decide +kernel)⟩
theorem lw_p59 : lw_okq (⟨"SecondBestModel", "markIn", "(III)I"⟩, 32) := ⟨⟨by decide +kernel, by decide +kernel⟩, List.mem_of_getElem? (i := 745) (by decide +kernel), List.mem_of_getElem? (i := 1011) (by decide +kernel), List.mem_of_getElem? (i := 1012) (by decide +kernel)⟩
theorem lw_p60 : lw_okq (⟨"SecondBestModel", "secondOne", "(II)I"⟩, 32) := ⟨⟨by decide +kernel, by decide +kernel⟩, List.mem_of_getElem? (i := 745) (by decide +kernel), List.mem_of_getElem? (i := 1015) (by decide +kernel), List.mem_of_getElem? (i := 1016) (by decide +kernel)⟩
theorem lw_p61 : lw_okq (⟨"SecondBestModel", "goOff", "(II)V"⟩, 32) := ⟨⟨by decide +kernel, by decide +kernel⟩, List.mem_of_getElem? (i := 745) (by decide +kernel), List.mem_of_getElem? (i := 1019) (by decide +kernel), List.mem_of_getElem? (i := 1020) (by decide +kernel)⟩
theorem lw_p62 : lw_okq (⟨"SecondBestModel", "logIn", "(IIII)V"⟩, 32) := ⟨⟨by decide +kernel, by decide +kernel⟩, List.mem_of_getElem? (i := 745) (by decide +kernel), List.mem_of_getElem? (i := 1026) (by decide +kernel), List.mem_of_getElem? (i := 1027) (by decide +kernel)⟩
theorem lw_p63 : lw_okq (⟨"SecondBestModel", "draw", "(I)I"⟩, 32) := ⟨⟨by decide +kernel, by decide +kernel⟩, List.mem_of_getElem? (i := 745) (by decide +kernel), List.mem_of_getElem? (i := 1057) (by decide +kernel), List.mem_of_getElem? (i := 1058) (by decide +kernel)⟩
def lw_privs_4 : List (MethodName × Nat) := [(⟨"SecondBestModel", "heldBy", "(I)I"⟩, 32), (⟨"SecondBestModel", "isOffice", "(I)Z"⟩, 32), (⟨"SecondBestModel", "kindOf", "(I)I"⟩, 32), (⟨"SecondBestModel", "whyNot", "(I)I"⟩, 32), (⟨"SecondBestModel", "remember", "()V"⟩, 32), (⟨"SecondBestModel", "copyRow", "(II)V"⟩, 32), (⟨"SecondBestModel", "dayIn", "(I)V"⟩, 32), (⟨"SecondBestModel", "contestIn", "(II)V"⟩, 32), (⟨"SecondBestModel", "firstOnes", "(II)I"⟩, 32), (⟨"SecondBestModel", "bestOf", "(III)I"⟩, 32), (⟨"SecondBestModel", "isAhead", "(IIII)Z"⟩, 32), (⟨"SecondBestModel", "markIn", "(III)I"⟩, 32), (⟨"SecondBestModel", "secondOne", "(II)I"⟩, 32), (⟨"SecondBestModel", "goOff", "(II)V"⟩, 32), (⟨"SecondBestModel", "logIn", "(IIII)V"⟩, 32), (⟨"SecondBestModel", "draw", "(I)I"⟩, 32)]
theorem lw_r4 : ∀ q ∈ lw_privs_4, lw_okq q := List.forall_mem_cons.mpr ⟨lw_p48, List.forall_mem_cons.mpr ⟨lw_p49, List.forall_mem_cons.mpr ⟨lw_p50, List.forall_mem_cons.mpr ⟨lw_p51, List.forall_mem_cons.mpr ⟨lw_p52, List.forall_mem_cons.mpr ⟨lw_p53, List.forall_mem_cons.mpr ⟨lw_p54, List.forall_mem_cons.mpr ⟨lw_p55, List.forall_mem_cons.mpr ⟨lw_p56, List.forall_mem_cons.mpr ⟨lw_p57, List.forall_mem_cons.mpr ⟨lw_p58, List.forall_mem_cons.mpr ⟨lw_p59, List.forall_mem_cons.mpr ⟨lw_p60, List.forall_mem_cons.mpr ⟨lw_p61, List.forall_mem_cons.mpr ⟨lw_p62, List.forall_mem_cons.mpr ⟨lw_p63, fun _ h => absurd h List.not_mem_nil⟩⟩⟩⟩⟩⟩⟩⟩⟩⟩⟩⟩⟩⟩⟩⟩
theorem lw_p64 : lw_okq (⟨"SecondBestModel", "effortsOf", "(II)I"⟩, 32) := ⟨⟨by decide +kernel, by decide +kernel⟩, List.mem_of_getElem? (i := 745) (by decide +kernel), List.mem_of_getElem? (i := 1092) (by decide +kernel), List.mem_of_getElem? (i := 1093) (by decide +kernel)⟩
theorem lw_p65 : lw_okq (⟨"SecondBestModel", "winsIf", "(III)Z"⟩, 32) := ⟨⟨by decide +kernel, by decide +kernel⟩, List.mem_of_getElem? (i := 745) (by decide +kernel), List.mem_of_getElem? (i := 1104) (by decide +kernel), List.mem_of_getElem? (i := 1105) (by decide +kernel)⟩
theorem lw_p66 : lw_okq (⟨"SecondBestModel", "isSo", "(I)Z"⟩, 32) := ⟨⟨by decide +kernel, by decide +kernel⟩, List.mem_of_getElem? (i := 745) (by decide +kernel), List.mem_of_getElem? (i := 1138) (by decide +kernel), List.mem_of_getElem? (i := 1139) (by decide +kernel)⟩
theorem lw_p67 : lw_okq (⟨"SecondBestModel", "partBy", "(I)I"⟩, 32) := ⟨⟨by decide +kernel, by decide +kernel⟩, List.mem_of_getElem? (i := 745) (by decide +kernel), List.mem_of_getElem? (i := 1147) (by decide +kernel), List.mem_of_getElem? (i := 1148) (by decide +kernel)⟩
def lw_privs_5 : List (MethodName × Nat) := [(⟨"SecondBestModel", "effortsOf", "(II)I"⟩, 32), (⟨"SecondBestModel", "winsIf", "(III)Z"⟩, 32), (⟨"SecondBestModel", "isSo", "(I)Z"⟩, 32), (⟨"SecondBestModel", "partBy", "(I)I"⟩, 32)]
theorem lw_r5 : ∀ q ∈ lw_privs_5, lw_okq q := List.forall_mem_cons.mpr ⟨lw_p64, List.forall_mem_cons.mpr ⟨lw_p65, List.forall_mem_cons.mpr ⟨lw_p66, List.forall_mem_cons.mpr ⟨lw_p67, fun _ h => absurd h List.not_mem_nil⟩⟩⟩⟩
def lw_privs : List (MethodName × Nat) := lw_privs_1 ++ (lw_privs_2 ++ (lw_privs_3 ++ (lw_privs_4 ++ (lw_privs_5))))
def lw_tbl : List Cond := k2_sels lw_privs ++ tables_1
theorem lw_privs_ok : ∀ q ∈ lw_privs, lw_okq q := by
  show ∀ q ∈ lw_privs_1 ++ (lw_privs_2 ++ (lw_privs_3 ++ (lw_privs_4 ++ (lw_privs_5)))), lw_okq q
  exact List.forall_mem_append.mpr ⟨lw_r1, List.forall_mem_append.mpr ⟨lw_r2, List.forall_mem_append.mpr ⟨lw_r3, List.forall_mem_append.mpr ⟨lw_r4, lw_r5⟩⟩⟩⟩
-- ===== end of PART A =====
def RX0 : String := "SecondBest$Book"
def TX0 : u_T := fun k => match k with
  | 0 => ("SecondBest$Book", "officeAt", "[I", true)
  | 1 => ("SecondBest$Book", "holderAt", "[I", true)
  | _ => ("SecondBest$Book", "count", "I", false)
def tyX0 : Nat → FieldType := fun k => match k with
  | 0 => .array .int
  | 1 => .array .int
  | _ => .int
abbrev wsX00 : List Cond := u_ws RX0 TX0 3
theorem nmX0 : ∀ a, a < 3 → ∀ b, b < 3 → a ≠ b → (TX0 a).2.1 ≠ (TX0 b).2.1 := by decide +kernel
theorem tyX0_ok : ∀ k, k < 3 → parseFieldDescriptor (TX0 k).2.2.1 = some (tyX0 k) := by decide +kernel
abbrev cX0_init : ByteArray := prog_2_method_1_code
def yX0_init : MethodName := ⟨RX0, "<init>", "()V"⟩
abbrev cX0_append : ByteArray := prog_2_method_2_code
def yX0_append : MethodName := ⟨RX0, "append", "(II)I"⟩
abbrev cX0_firstWrong : ByteArray := prog_2_method_3_code
def yX0_firstWrong : MethodName := ⟨RX0, "firstWrong", "(LSecondBest$State;)I"⟩
def RX1 : String := "SecondBest$Contest"
def TX1 : u_T := fun k => match k with
  | 0 => ("SecondBest$Contest", "marks", "[I", true)
  | 1 => ("SecondBest$Contest", "firsts", "I", false)
  | 2 => ("SecondBest$Contest", "leader", "I", false)
  | _ => ("SecondBest$Contest", "second", "I", false)
def tyX1 : Nat → FieldType := fun k => match k with
  | 0 => .array .int
  | 1 => .int
  | 2 => .int
  | _ => .int
abbrev wsX10 : List Cond := u_ws RX1 TX1 4
theorem nmX1 : ∀ a, a < 4 → ∀ b, b < 4 → a ≠ b → (TX1 a).2.1 ≠ (TX1 b).2.1 := by decide +kernel
theorem tyX1_ok : ∀ k, k < 4 → parseFieldDescriptor (TX1 k).2.2.1 = some (tyX1 k) := by decide +kernel
abbrev cX1_init : ByteArray := prog_3_method_1_code
def yX1_init : MethodName := ⟨RX1, "<init>", "()V"⟩
abbrev cX1_rank : ByteArray := prog_3_method_2_code
def yX1_rank : MethodName := ⟨RX1, "rank", "(LSecondBest$Realm;LSecondBest$State;I)V"⟩
abbrev cX1_isFirst : ByteArray := prog_3_method_3_code
def yX1_isFirst : MethodName := ⟨RX1, "isFirst", "(I)Z"⟩
abbrev cX1_placeOf : ByteArray := prog_3_method_4_code
def yX1_placeOf : MethodName := ⟨RX1, "placeOf", "(LSecondBest$Realm;LSecondBest$State;I)I"⟩
abbrev cX1_foremost : ByteArray := prog_3_method_5_code
def yX1_foremost : MethodName := ⟨RX1, "foremost", "(LSecondBest$Realm;LSecondBest$State;)I"⟩
abbrev cX1_allLike : ByteArray := prog_3_method_6_code
def yX1_allLike : MethodName := ⟨RX1, "allLike", "(LSecondBest$Realm;LSecondBest$State;I)I"⟩
abbrev cX1_isAheadOf : ByteArray := prog_3_method_7_code
def yX1_isAheadOf : MethodName := ⟨RX1, "isAheadOf", "(LSecondBest$Realm;II)Z"⟩
def RX2 : String := "SecondBest$Image"
def TX2 : u_T := fun k => match k with
  | 0 => ("SecondBest$Image", "state", "LSecondBest$State;", true)
  | 1 => ("SecondBest$Image", "drawSeed", "I", false)
  | _ => ("SecondBest$Image", "isKept", "Z", false)
def tyX2 : Nat → FieldType := fun k => match k with
  | 0 => .object "SecondBest$State"
  | 1 => .int
  | _ => .boolean
abbrev wsX20 : List Cond := u_ws RX2 TX2 3
theorem nmX2 : ∀ a, a < 3 → ∀ b, b < 3 → a ≠ b → (TX2 a).2.1 ≠ (TX2 b).2.1 := by decide +kernel
theorem tyX2_ok : ∀ k, k < 3 → parseFieldDescriptor (TX2 k).2.2.1 = some (tyX2 k) := by decide +kernel
abbrev cX2_init : ByteArray := prog_4_method_1_code
def yX2_init : MethodName := ⟨RX2, "<init>", "()V"⟩
def RX3 : String := "SecondBest$Past"
def TX3 : u_T := fun k => match k with
  | 0 => ("SecondBest$Past", "states", "[LSecondBest$State;", true)
  | 1 => ("SecondBest$Past", "nextAt", "I", false)
  | _ => ("SecondBest$Past", "count", "I", false)
def tyX3 : Nat → FieldType := fun k => match k with
  | 0 => .array (.object "SecondBest$State")
  | 1 => .int
  | _ => .int
abbrev wsX30 : List Cond := u_ws RX3 TX3 3
theorem nmX3 : ∀ a, a < 3 → ∀ b, b < 3 → a ≠ b → (TX3 a).2.1 ≠ (TX3 b).2.1 := by decide +kernel
theorem tyX3_ok : ∀ k, k < 3 → parseFieldDescriptor (TX3 k).2.2.1 = some (tyX3 k) := by decide +kernel
abbrev cX3_init : ByteArray := prog_5_method_1_code
def yX3_init : MethodName := ⟨RX3, "<init>", "()V"⟩
abbrev cX3_remember : ByteArray := prog_5_method_2_code
def yX3_remember : MethodName := ⟨RX3, "remember", "(LSecondBest$State;)V"⟩
abbrev cX3_takeBack : ByteArray := prog_5_method_3_code
def yX3_takeBack : MethodName := ⟨RX3, "takeBack", "(LSecondBest$State;I)V"⟩
def RX4 : String := "SecondBest$Realm"
def TX4 : u_T := fun k => match k with
  | 0 => ("SecondBest$Realm", "gifts", "[I", true)
  | 1 => ("SecondBest$Realm", "daring", "[I", true)
  | 2 => ("SecondBest$Realm", "kindOfTurn", "[I", true)
  | 3 => ("SecondBest$Realm", "officeKind", "[I", true)
  | 4 => ("SecondBest$Realm", "law", "I", false)
  | 5 => ("SecondBest$Realm", "term", "I", false)
  | 6 => ("SecondBest$Realm", "persons", "I", false)
  | 7 => ("SecondBest$Realm", "turns", "I", false)
  | _ => ("SecondBest$Realm", "offices", "I", false)
def tyX4 : Nat → FieldType := fun k => match k with
  | 0 => .array .int
  | 1 => .array .int
  | 2 => .array .int
  | 3 => .array .int
  | 4 => .int
  | 5 => .int
  | 6 => .int
  | 7 => .int
  | _ => .int
abbrev wsX40 : List Cond := u_ws RX4 TX4 9
theorem nmX4 : ∀ a, a < 9 → ∀ b, b < 9 → a ≠ b → (TX4 a).2.1 ≠ (TX4 b).2.1 := by decide +kernel
theorem tyX4_ok : ∀ k, k < 9 → parseFieldDescriptor (TX4 k).2.2.1 = some (tyX4 k) := by decide +kernel
abbrev cX4_init : ByteArray := prog_6_method_1_code
def yX4_init : MethodName := ⟨RX4, "<init>", "()V"⟩
abbrev cX4_isThere : ByteArray := prog_6_method_2_code
def yX4_isThere : MethodName := ⟨RX4, "isThere", "()Z"⟩
abbrev cX4_clear : ByteArray := prog_6_method_3_code
def yX4_clear : MethodName := ⟨RX4, "clear", "()V"⟩
abbrev cX4_kindOfDay : ByteArray := prog_6_method_4_code
def yX4_kindOfDay : MethodName := ⟨RX4, "kindOfDay", "(I)I"⟩
def RX5 : String := "SecondBest$Sightings"
def TX5 : u_T := fun k => match k with
  | 0 => ("SecondBest$Sightings", "effortSeen", "[I", true)
  | 1 => ("SecondBest$Sightings", "markSeen", "[I", true)
  | 2 => ("SecondBest$Sightings", "pairsByMark", "[I", true)
  | _ => ("SecondBest$Sightings", "count", "I", false)
def tyX5 : Nat → FieldType := fun k => match k with
  | 0 => .array .int
  | 1 => .array .int
  | 2 => .array .int
  | _ => .int
abbrev wsX50 : List Cond := u_ws RX5 TX5 4
theorem nmX5 : ∀ a, a < 4 → ∀ b, b < 4 → a ≠ b → (TX5 a).2.1 ≠ (TX5 b).2.1 := by decide +kernel
theorem tyX5_ok : ∀ k, k < 4 → parseFieldDescriptor (TX5 k).2.2.1 = some (tyX5 k) := by decide +kernel
abbrev cX5_init : ByteArray := prog_7_method_1_code
def yX5_init : MethodName := ⟨RX5, "<init>", "()V"⟩
abbrev cX5_append : ByteArray := prog_7_method_2_code
def yX5_append : MethodName := ⟨RX5, "append", "(II)I"⟩
abbrev cX5_countFitting : ByteArray := prog_7_method_3_code
def yX5_countFitting : MethodName := ⟨RX5, "countFitting", "()I"⟩
abbrev cX5_leastFitting : ByteArray := prog_7_method_4_code
def yX5_leastFitting : MethodName := ⟨RX5, "leastFitting", "()I"⟩
abbrev cX5_bestEffort : ByteArray := prog_7_method_5_code
def yX5_bestEffort : MethodName := ⟨RX5, "bestEffort", "()I"⟩
abbrev cX5_greatestPart : ByteArray := prog_7_method_6_code
def yX5_greatestPart : MethodName := ⟨RX5, "greatestPart", "(I)I"⟩
abbrev cX5_isFitting : ByteArray := prog_7_method_7_code
def yX5_isFitting : MethodName := ⟨RX5, "isFitting", "(I)Z"⟩
abbrev cX5_markBy : ByteArray := prog_7_method_8_code
def yX5_markBy : MethodName := ⟨RX5, "markBy", "(II)I"⟩
def RX6 : String := "SecondBest$State"
def TX6 : u_T := fun k => match k with
  | 0 => ("SecondBest$State", "gifts", "[I", true)
  | 1 => ("SecondBest$State", "effortOf", "[I", true)
  | 2 => ("SecondBest$State", "coastDays", "[I", true)
  | 3 => ("SecondBest$State", "timesSecond", "[I", true)
  | 4 => ("SecondBest$State", "holderOf", "[I", true)
  | 5 => ("SecondBest$State", "log", "[I", true)
  | 6 => ("SecondBest$State", "contests", "I", false)
  | 7 => ("SecondBest$State", "days", "I", false)
  | _ => ("SecondBest$State", "isRaining", "Z", false)
def tyX6 : Nat → FieldType := fun k => match k with
  | 0 => .array .int
  | 1 => .array .int
  | 2 => .array .int
  | 3 => .array .int
  | 4 => .array .int
  | 5 => .array .int
  | 6 => .int
  | 7 => .int
  | _ => .boolean
abbrev wsX60 : List Cond := u_ws RX6 TX6 9
theorem nmX6 : ∀ a, a < 9 → ∀ b, b < 9 → a ≠ b → (TX6 a).2.1 ≠ (TX6 b).2.1 := by decide +kernel
theorem tyX6_ok : ∀ k, k < 9 → parseFieldDescriptor (TX6 k).2.2.1 = some (tyX6 k) := by decide +kernel
abbrev cX6_init : ByteArray := prog_8_method_1_code
def yX6_init : MethodName := ⟨RX6, "<init>", "()V"⟩
abbrev cX6_beginIn : ByteArray := prog_8_method_2_code
def yX6_beginIn : MethodName := ⟨RX6, "beginIn", "(LSecondBest$Realm;)V"⟩
abbrev cX6_copyFrom : ByteArray := prog_8_method_3_code
def yX6_copyFrom : MethodName := ⟨RX6, "copyFrom", "(LSecondBest$State;)V"⟩
abbrev cX6_giftOf : ByteArray := prog_8_method_4_code
def yX6_giftOf : MethodName := ⟨RX6, "giftOf", "(II)I"⟩
abbrev cX6_setGift : ByteArray := prog_8_method_5_code
def yX6_setGift : MethodName := ⟨RX6, "setGift", "(III)V"⟩
abbrev cX6_isAtCourt : ByteArray := prog_8_method_6_code
def yX6_isAtCourt : MethodName := ⟨RX6, "isAtCourt", "(I)Z"⟩
abbrev cX6_courtOf : ByteArray := prog_8_method_7_code
def yX6_courtOf : MethodName := ⟨RX6, "courtOf", "(LSecondBest$Realm;)I"⟩
abbrev cX6_officesOf : ByteArray := prog_8_method_8_code
def yX6_officesOf : MethodName := ⟨RX6, "officesOf", "(LSecondBest$Realm;I)I"⟩
abbrev cX6_markOf : ByteArray := prog_8_method_9_code
def yX6_markOf : MethodName := ⟨RX6, "markOf", "(LSecondBest$Realm;II)I"⟩
abbrev cX6_toCoast : ByteArray := prog_8_method_10_code
def yX6_toCoast : MethodName := ⟨RX6, "toCoast", "(LSecondBest$Realm;I)V"⟩
abbrev cX6_passDay : ByteArray := prog_8_method_11_code
def yX6_passDay : MethodName := ⟨RX6, "passDay", "(LSecondBest$Realm;LSecondBest$Contest;)V"⟩
abbrev cX6_settle : ByteArray := prog_8_method_12_code
def yX6_settle : MethodName := ⟨RX6, "settle", "(LSecondBest$Realm;LSecondBest$Contest;I)V"⟩
abbrev cX6_promote : ByteArray := prog_8_method_13_code
def yX6_promote : MethodName := ⟨RX6, "promote", "(LSecondBest$Realm;II)V"⟩
abbrev cX6_logContest : ByteArray := prog_8_method_14_code
def yX6_logContest : MethodName := ⟨RX6, "logContest", "(ILSecondBest$Contest;)V"⟩
abbrev cX6_logSize : ByteArray := prog_8_method_15_code
def yX6_logSize : MethodName := ⟨RX6, "logSize", "()I"⟩
abbrev cX6_logEntry : ByteArray := prog_8_method_16_code
def yX6_logEntry : MethodName := ⟨RX6, "logEntry", "(II)I"⟩
abbrev cX6_nearlyOf : ByteArray := prog_8_method_17_code
def yX6_nearlyOf : MethodName := ⟨RX6, "nearlyOf", "(LSecondBest$Realm;)I"⟩
abbrev cX6_hasMoreGifts : ByteArray := prog_8_method_18_code
def yX6_hasMoreGifts : MethodName := ⟨RX6, "hasMoreGifts", "(II)Z"⟩
abbrev cX6_isRing : ByteArray := prog_8_method_19_code
def yX6_isRing : MethodName := ⟨RX6, "isRing", "(III)Z"⟩
abbrev cX6_brillianceOf : ByteArray := prog_8_method_20_code
def yX6_brillianceOf : MethodName := ⟨RX6, "brillianceOf", "(LSecondBest$Realm;)I"⟩
abbrev cX6_spreadOf : ByteArray := prog_8_method_21_code
def yX6_spreadOf : MethodName := ⟨RX6, "spreadOf", "(LSecondBest$Realm;I)I"⟩
def RX7 : String := "SecondBest$Text"
def TX7 : u_T := fun k => match k with
  | 0 => ("SecondBest$Text", "letters", "[I", true)
  | 1 => ("SecondBest$Text", "length", "I", false)
  | 2 => ("SecondBest$Text", "at", "I", false)
  | 3 => ("SecondBest$Text", "faultNumber", "I", false)
  | _ => ("SecondBest$Text", "faultAt", "I", false)
def tyX7 : Nat → FieldType := fun k => match k with
  | 0 => .array .int
  | 1 => .int
  | 2 => .int
  | 3 => .int
  | _ => .int
abbrev wsX70 : List Cond := u_ws RX7 TX7 5
theorem nmX7 : ∀ a, a < 5 → ∀ b, b < 5 → a ≠ b → (TX7 a).2.1 ≠ (TX7 b).2.1 := by decide +kernel
theorem tyX7_ok : ∀ k, k < 5 → parseFieldDescriptor (TX7 k).2.2.1 = some (tyX7 k) := by decide +kernel
abbrev cX7_init : ByteArray := prog_9_method_1_code
def yX7_init : MethodName := ⟨RX7, "<init>", "()V"⟩
abbrev cX7_append : ByteArray := prog_9_method_2_code
def yX7_append : MethodName := ⟨RX7, "append", "(I)I"⟩
abbrev cX7_readInto : ByteArray := prog_9_method_3_code
def yX7_readInto : MethodName := ⟨RX7, "readInto", "(LSecondBest$Realm;)V"⟩
abbrev cX7_readClause : ByteArray := prog_9_method_4_code
def yX7_readClause : MethodName := ⟨RX7, "readClause", "(LSecondBest$Realm;)V"⟩
abbrev cX7_whyNoWord : ByteArray := prog_9_method_5_code
def yX7_whyNoWord : MethodName := ⟨RX7, "whyNoWord", "(ILSecondBest$Realm;)I"⟩
abbrev cX7_readLaw : ByteArray := prog_9_method_6_code
def yX7_readLaw : MethodName := ⟨RX7, "readLaw", "(LSecondBest$Realm;)V"⟩
abbrev cX7_readPerson : ByteArray := prog_9_method_7_code
def yX7_readPerson : MethodName := ⟨RX7, "readPerson", "(LSecondBest$Realm;)V"⟩
abbrev cX7_readTurns : ByteArray := prog_9_method_8_code
def yX7_readTurns : MethodName := ⟨RX7, "readTurns", "(LSecondBest$Realm;)V"⟩
abbrev cX7_readOffice : ByteArray := prog_9_method_9_code
def yX7_readOffice : MethodName := ⟨RX7, "readOffice", "(LSecondBest$Realm;)V"⟩
abbrev cX7_readNumber : ByteArray := prog_9_method_10_code
def yX7_readNumber : MethodName := ⟨RX7, "readNumber", "(II)I"⟩
abbrev cX7_readSign : ByteArray := prog_9_method_11_code
def yX7_readSign : MethodName := ⟨RX7, "readSign", "(I)V"⟩
abbrev cX7_isNext : ByteArray := prog_9_method_12_code
def yX7_isNext : MethodName := ⟨RX7, "isNext", "(I)Z"⟩
abbrev cX7_skipBlanks : ByteArray := prog_9_method_13_code
def yX7_skipBlanks : MethodName := ⟨RX7, "skipBlanks", "()V"⟩
abbrev cX7_isFigure : ByteArray := prog_9_method_14_code
def yX7_isFigure : MethodName := ⟨RX7, "isFigure", "(I)Z"⟩
abbrev cX7_blame : ByteArray := prog_9_method_15_code
def yX7_blame : MethodName := ⟨RX7, "blame", "(II)V"⟩
def RX8 : String := "SecondBest"
def TX8 : u_T := fun k => match k with
  | 0 => ("SecondBest", "text", "LSecondBest$Text;", true)
  | 1 => ("SecondBest", "now", "LSecondBest$State;", true)
  | 2 => ("SecondBest", "trial", "LSecondBest$State;", true)
  | 3 => ("SecondBest", "contest", "LSecondBest$Contest;", true)
  | 4 => ("SecondBest", "past", "LSecondBest$Past;", true)
  | 5 => ("SecondBest", "images", "[LSecondBest$Image;", true)
  | 6 => ("SecondBest", "sightings", "LSecondBest$Sightings;", true)
  | 7 => ("SecondBest", "book", "LSecondBest$Book;", true)
  | 8 => ("SecondBest", "realm", "LSecondBest$Realm;", false)
  | 9 => ("SecondBest", "draft", "LSecondBest$Realm;", false)
  | _ => ("SecondBest", "drawSeed", "I", false)
def tyX8 : Nat → FieldType := fun k => match k with
  | 0 => .object "SecondBest$Text"
  | 1 => .object "SecondBest$State"
  | 2 => .object "SecondBest$State"
  | 3 => .object "SecondBest$Contest"
  | 4 => .object "SecondBest$Past"
  | 5 => .array (.object "SecondBest$Image")
  | 6 => .object "SecondBest$Sightings"
  | 7 => .object "SecondBest$Book"
  | 8 => .object "SecondBest$Realm"
  | 9 => .object "SecondBest$Realm"
  | _ => .int
abbrev wsX80 : List Cond := u_ws RX8 TX8 11
theorem nmX8 : ∀ a, a < 11 → ∀ b, b < 11 → a ≠ b → (TX8 a).2.1 ≠ (TX8 b).2.1 := by decide +kernel
theorem tyX8_ok : ∀ k, k < 11 → parseFieldDescriptor (TX8 k).2.2.1 = some (tyX8 k) := by decide +kernel
abbrev cX8_init : ByteArray := prog_1_method_1_code
def yX8_init : MethodName := ⟨RX8, "<init>", "()V"⟩
abbrev cX8_feed : ByteArray := prog_1_method_2_code
def yX8_feed : MethodName := ⟨RX8, "feed", "(I)I"⟩
abbrev cX8_kingdom : ByteArray := prog_1_method_3_code
def yX8_kingdom : MethodName := ⟨RX8, "kingdom", "()I"⟩
abbrev cX8_fault : ByteArray := prog_1_method_4_code
def yX8_fault : MethodName := ⟨RX8, "fault", "()I"⟩
abbrev cX8_told : ByteArray := prog_1_method_5_code
def yX8_told : MethodName := ⟨RX8, "told", "(I)I"⟩
abbrev cX8_person : ByteArray := prog_1_method_6_code
def yX8_person : MethodName := ⟨RX8, "person", "(II)I"⟩
abbrev cX8_office : ByteArray := prog_1_method_7_code
def yX8_office : MethodName := ⟨RX8, "office", "(II)I"⟩
abbrev cX8_ahead : ByteArray := prog_1_method_8_code
def yX8_ahead : MethodName := ⟨RX8, "ahead", "(I)I"⟩
abbrev cX8_logged : ByteArray := prog_1_method_9_code
def yX8_logged : MethodName := ⟨RX8, "logged", "(II)I"⟩
abbrev cX8_day : ByteArray := prog_1_method_10_code
def yX8_day : MethodName := ⟨RX8, "day", "(I)I"⟩
abbrev cX8_effort : ByteArray := prog_1_method_11_code
def yX8_effort : MethodName := ⟨RX8, "effort", "(II)I"⟩
abbrev cX8_rain : ByteArray := prog_1_method_12_code
def yX8_rain : MethodName := ⟨RX8, "rain", "(Z)I"⟩
abbrev cX8_teach : ByteArray := prog_1_method_13_code
def yX8_teach : MethodName := ⟨RX8, "teach", "(III)I"⟩
abbrev cX8_send : ByteArray := prog_1_method_14_code
def yX8_send : MethodName := ⟨RX8, "send", "(I)I"⟩
abbrev cX8_recall : ByteArray := prog_1_method_15_code
def yX8_recall : MethodName := ⟨RX8, "recall", "(I)I"⟩
abbrev cX8_drift : ByteArray := prog_1_method_16_code
def yX8_drift : MethodName := ⟨RX8, "drift", "(I)I"⟩
abbrev cX8_undo : ByteArray := prog_1_method_17_code
def yX8_undo : MethodName := ⟨RX8, "undo", "(I)I"⟩
abbrev cX8_mark : ByteArray := prog_1_method_18_code
def yX8_mark : MethodName := ⟨RX8, "mark", "(II)I"⟩
abbrev cX8_place : ByteArray := prog_1_method_19_code
def yX8_place : MethodName := ⟨RX8, "place", "(II)I"⟩
abbrev cX8_wouldBe : ByteArray := prog_1_method_20_code
def yX8_wouldBe : MethodName := ⟨RX8, "wouldBe", "(II)I"⟩
abbrev cX8_holds : ByteArray := prog_1_method_21_code
def yX8_holds : MethodName := ⟨RX8, "holds", "(II)I"⟩
abbrev cX8_efforts : ByteArray := prog_1_method_22_code
def yX8_efforts : MethodName := ⟨RX8, "efforts", "(II)I"⟩
abbrev cX8_restless : ByteArray := prog_1_method_23_code
def yX8_restless : MethodName := ⟨RX8, "restless", "(I)I"⟩
abbrev cX8_letWin : ByteArray := prog_1_method_24_code
def yX8_letWin : MethodName := ⟨RX8, "letWin", "(III)I"⟩
abbrev cX8_win : ByteArray := prog_1_method_25_code
def yX8_win : MethodName := ⟨RX8, "win", "(III)I"⟩
abbrev cX8_next : ByteArray := prog_1_method_26_code
def yX8_next : MethodName := ⟨RX8, "next", "(I)I"⟩
abbrev cX8_beats : ByteArray := prog_1_method_27_code
def yX8_beats : MethodName := ⟨RX8, "beats", "(II)I"⟩
abbrev cX8_spread : ByteArray := prog_1_method_28_code
def yX8_spread : MethodName := ⟨RX8, "spread", "(I)I"⟩
abbrev cX8_dry : ByteArray := prog_1_method_29_code
def yX8_dry : MethodName := ⟨RX8, "dry", "(II)I"⟩
abbrev cX8_see : ByteArray := prog_1_method_30_code
def yX8_see : MethodName := ⟨RX8, "see", "(II)I"⟩
abbrev cX8_truly : ByteArray := prog_1_method_31_code
def yX8_truly : MethodName := ⟨RX8, "truly", "(I)I"⟩
abbrev cX8_tryNext : ByteArray := prog_1_method_32_code
def yX8_tryNext : MethodName := ⟨RX8, "tryNext", "()I"⟩
abbrev cX8_write : ByteArray := prog_1_method_33_code
def yX8_write : MethodName := ⟨RX8, "write", "(II)I"⟩
abbrev cX8_judge : ByteArray := prog_1_method_34_code
def yX8_judge : MethodName := ⟨RX8, "judge", "()I"⟩
abbrev cX8_tear : ByteArray := prog_1_method_35_code
def yX8_tear : MethodName := ⟨RX8, "tear", "()I"⟩
abbrev cX8_seed : ByteArray := prog_1_method_36_code
def yX8_seed : MethodName := ⟨RX8, "seed", "(I)I"⟩
abbrev cX8_keep : ByteArray := prog_1_method_37_code
def yX8_keep : MethodName := ⟨RX8, "keep", "(I)I"⟩
abbrev cX8_goBack : ByteArray := prog_1_method_38_code
def yX8_goBack : MethodName := ⟨RX8, "goBack", "(I)I"⟩
abbrev cX8_isWithin : ByteArray := prog_1_method_39_code
def yX8_isWithin : MethodName := ⟨RX8, "isWithin", "(III)Z"⟩
abbrev cX8_isKind : ByteArray := prog_1_method_40_code
def yX8_isKind : MethodName := ⟨RX8, "isKind", "(I)Z"⟩
abbrev cX8_isPerson : ByteArray := prog_1_method_41_code
def yX8_isPerson : MethodName := ⟨RX8, "isPerson", "(I)Z"⟩
abbrev cX8_isOffice : ByteArray := prog_1_method_42_code
def yX8_isOffice : MethodName := ⟨RX8, "isOffice", "(I)Z"⟩
abbrev cX8_whyNoDays : ByteArray := prog_1_method_43_code
def yX8_whyNoDays : MethodName := ⟨RX8, "whyNoDays", "(I)I"⟩
abbrev cX8_draw : ByteArray := prog_1_method_44_code
def yX8_draw : MethodName := ⟨RX8, "draw", "(I)I"⟩
abbrev cX8_drawWeatherAndEffort : ByteArray := prog_1_method_45_code
def yX8_drawWeatherAndEffort : MethodName := ⟨RX8, "drawWeatherAndEffort", "()V"⟩
abbrev cX8_secondIn : ByteArray := prog_1_method_46_code
def yX8_secondIn : MethodName := ⟨RX8, "secondIn", "(LSecondBest$State;I)I"⟩
abbrev cX8_holderBehind : ByteArray := prog_1_method_47_code
def yX8_holderBehind : MethodName := ⟨RX8, "holderBehind", "(II)I"⟩
abbrev cX8_secondByEfforts : ByteArray := prog_1_method_48_code
def yX8_secondByEfforts : MethodName := ⟨RX8, "secondByEfforts", "(II)I"⟩
abbrev cX8_isRestless : ByteArray := prog_1_method_49_code
def yX8_isRestless : MethodName := ⟨RX8, "isRestless", "(II)Z"⟩
abbrev cX8_fewestWhoLet : ByteArray := prog_1_method_50_code
def yX8_fewestWhoLet : MethodName := ⟨RX8, "fewestWhoLet", "(II)I"⟩
abbrev cX8_isSecondIfLet : ByteArray := prog_1_method_51_code
def yX8_isSecondIfLet : MethodName := ⟨RX8, "isSecondIfLet", "(III)Z"⟩
abbrev cX8_countRings : ByteArray := prog_1_method_52_code
def yX8_countRings : MethodName := ⟨RX8, "countRings", "()I"⟩
def RX9 : String := "SecondBestModel"
def TX9 : u_T := fun k => match k with
  | 0 => ("SecondBestModel", "w", "[I", true)
  | 1 => ("SecondBestModel", "daring", "[I", true)
  | 2 => ("SecondBestModel", "officeKind", "[I", true)
  | 3 => ("SecondBestModel", "dayKind", "[I", true)
  | 4 => ("SecondBestModel", "law", "I", false)
  | 5 => ("SecondBestModel", "term", "I", false)
  | 6 => ("SecondBestModel", "persons", "I", false)
  | 7 => ("SecondBestModel", "offices", "I", false)
  | 8 => ("SecondBestModel", "dayKinds", "I", false)
  | 9 => ("SecondBestModel", "undoMany", "I", false)
  | 10 => ("SecondBestModel", "kept", "I", false)
  | 11 => ("SecondBestModel", "text", "[I", true)
  | 12 => ("SecondBestModel", "size", "I", false)
  | 13 => ("SecondBestModel", "fault", "I", false)
  | 14 => ("SecondBestModel", "seenEffort", "[I", true)
  | 15 => ("SecondBestModel", "seenMark", "[I", true)
  | 16 => ("SecondBestModel", "seen", "I", false)
  | 17 => ("SecondBestModel", "bookOffice", "[I", true)
  | 18 => ("SecondBestModel", "bookHolder", "[I", true)
  | 19 => ("SecondBestModel", "book", "I", false)
  | 20 => ("SecondBestModel", "at", "I", false)
  | 21 => ("SecondBestModel", "readFault", "I", false)
  | 22 => ("SecondBestModel", "readPlace", "I", false)
  | 23 => ("SecondBestModel", "newLaw", "I", false)
  | 24 => ("SecondBestModel", "newTerm", "I", false)
  | 25 => ("SecondBestModel", "newPersons", "I", false)
  | 26 => ("SecondBestModel", "newOffices", "I", false)
  | 27 => ("SecondBestModel", "newDays", "I", false)
  | 28 => ("SecondBestModel", "newGift", "[I", true)
  | 29 => ("SecondBestModel", "newDaring", "[I", true)
  | 30 => ("SecondBestModel", "newOffice", "[I", true)
  | _ => ("SecondBestModel", "newDay", "[I", true)
def tyX9 : Nat → FieldType := fun k => match k with
  | 0 => .array .int
  | 1 => .array .int
  | 2 => .array .int
  | 3 => .array .int
  | 4 => .int
  | 5 => .int
  | 6 => .int
  | 7 => .int
  | 8 => .int
  | 9 => .int
  | 10 => .int
  | 11 => .array .int
  | 12 => .int
  | 13 => .int
  | 14 => .array .int
  | 15 => .array .int
  | 16 => .int
  | 17 => .array .int
  | 18 => .array .int
  | 19 => .int
  | 20 => .int
  | 21 => .int
  | 22 => .int
  | 23 => .int
  | 24 => .int
  | 25 => .int
  | 26 => .int
  | 27 => .int
  | 28 => .array .int
  | 29 => .array .int
  | 30 => .array .int
  | _ => .array .int
abbrev wsX90 : List Cond := u_ws RX9 TX9 32
theorem nmX9 : ∀ a, a < 32 → ∀ b, b < 32 → a ≠ b → (TX9 a).2.1 ≠ (TX9 b).2.1 := by decide +kernel
theorem tyX9_ok : ∀ k, k < 32 → parseFieldDescriptor (TX9 k).2.2.1 = some (tyX9 k) := by decide +kernel
abbrev cX9_init : ByteArray := prog_11_method_1_code
def yX9_init : MethodName := ⟨RX9, "<init>", "()V"⟩
abbrev cX9_in : ByteArray := prog_11_method_3_code
def yX9_in : MethodName := ⟨RX9, "in", "(III)Z"⟩
abbrev cX9_has : ByteArray := prog_11_method_4_code
def yX9_has : MethodName := ⟨RX9, "has", "(II)Z"⟩
abbrev cX9_isPerson : ByteArray := prog_11_method_5_code
def yX9_isPerson : MethodName := ⟨RX9, "isPerson", "(I)Z"⟩
abbrev cX9_isOffice : ByteArray := prog_11_method_6_code
def yX9_isOffice : MethodName := ⟨RX9, "isOffice", "(I)Z"⟩
abbrev cX9_copyRow : ByteArray := prog_11_method_7_code
def yX9_copyRow : MethodName := ⟨RX9, "copyRow", "(II)V"⟩
abbrev cX9_feed : ByteArray := prog_11_method_8_code
def yX9_feed : MethodName := ⟨RX9, "feed", "(I)I"⟩
abbrev cX9_wrong : ByteArray := prog_11_method_9_code
def yX9_wrong : MethodName := ⟨RX9, "wrong", "(II)V"⟩
abbrev cX9_fine : ByteArray := prog_11_method_10_code
def yX9_fine : MethodName := ⟨RX9, "fine", "()Z"⟩
abbrev cX9_here : ByteArray := prog_11_method_11_code
def yX9_here : MethodName := ⟨RX9, "here", "()I"⟩
abbrev cX9_number : ByteArray := prog_11_method_12_code
def yX9_number : MethodName := ⟨RX9, "number", "(II)I"⟩
abbrev cX9_readLaw : ByteArray := prog_11_method_13_code
def yX9_readLaw : MethodName := ⟨RX9, "readLaw", "(I)V"⟩
abbrev cX9_readPerson : ByteArray := prog_11_method_14_code
def yX9_readPerson : MethodName := ⟨RX9, "readPerson", "(I)V"⟩
abbrev cX9_readDays : ByteArray := prog_11_method_15_code
def yX9_readDays : MethodName := ⟨RX9, "readDays", "(I)V"⟩
abbrev cX9_readOffice : ByteArray := prog_11_method_16_code
def yX9_readOffice : MethodName := ⟨RX9, "readOffice", "(I)V"⟩
abbrev cX9_readClause : ByteArray := prog_11_method_17_code
def yX9_readClause : MethodName := ⟨RX9, "readClause", "()V"⟩
abbrev cX9_kingdom : ByteArray := prog_11_method_18_code
def yX9_kingdom : MethodName := ⟨RX9, "kingdom", "()I"⟩
abbrev cX9_begin : ByteArray := prog_11_method_19_code
def yX9_begin : MethodName := ⟨RX9, "begin", "()V"⟩
abbrev cX9_fault : ByteArray := prog_11_method_20_code
def yX9_fault : MethodName := ⟨RX9, "fault", "()I"⟩
abbrev cX9_markIn : ByteArray := prog_11_method_21_code
def yX9_markIn : MethodName := ⟨RX9, "markIn", "(III)I"⟩
abbrev cX9_isAtCourt : ByteArray := prog_11_method_22_code
def yX9_isAtCourt : MethodName := ⟨RX9, "isAtCourt", "(II)Z"⟩
abbrev cX9_courtIn : ByteArray := prog_11_method_23_code
def yX9_courtIn : MethodName := ⟨RX9, "courtIn", "(I)I"⟩
abbrev cX9_isAhead : ByteArray := prog_11_method_24_code
def yX9_isAhead : MethodName := ⟨RX9, "isAhead", "(IIII)Z"⟩
abbrev cX9_bestOf : ByteArray := prog_11_method_25_code
def yX9_bestOf : MethodName := ⟨RX9, "bestOf", "(III)I"⟩
abbrev cX9_firstOnes : ByteArray := prog_11_method_26_code
def yX9_firstOnes : MethodName := ⟨RX9, "firstOnes", "(II)I"⟩
abbrev cX9_secondOne : ByteArray := prog_11_method_27_code
def yX9_secondOne : MethodName := ⟨RX9, "secondOne", "(II)I"⟩
abbrev cX9_goOff : ByteArray := prog_11_method_28_code
def yX9_goOff : MethodName := ⟨RX9, "goOff", "(II)V"⟩
abbrev cX9_logIn : ByteArray := prog_11_method_29_code
def yX9_logIn : MethodName := ⟨RX9, "logIn", "(IIII)V"⟩
abbrev cX9_least : ByteArray := prog_11_method_30_code
def yX9_least : MethodName := ⟨RX9, "least", "(I)I"⟩
abbrev cX9_contestIn : ByteArray := prog_11_method_31_code
def yX9_contestIn : MethodName := ⟨RX9, "contestIn", "(II)V"⟩
abbrev cX9_kindOf : ByteArray := prog_11_method_32_code
def yX9_kindOf : MethodName := ⟨RX9, "kindOf", "(I)I"⟩
abbrev cX9_dayIn : ByteArray := prog_11_method_33_code
def yX9_dayIn : MethodName := ⟨RX9, "dayIn", "(I)V"⟩
abbrev cX9_nearly : ByteArray := prog_11_method_34_code
def yX9_nearly : MethodName := ⟨RX9, "nearly", "()I"⟩
abbrev cX9_doesBeat : ByteArray := prog_11_method_35_code
def yX9_doesBeat : MethodName := ⟨RX9, "doesBeat", "(II)Z"⟩
abbrev cX9_rings : ByteArray := prog_11_method_36_code
def yX9_rings : MethodName := ⟨RX9, "rings", "()I"⟩
abbrev cX9_vacant : ByteArray := prog_11_method_37_code
def yX9_vacant : MethodName := ⟨RX9, "vacant", "()I"⟩
abbrev cX9_brilliant : ByteArray := prog_11_method_38_code
def yX9_brilliant : MethodName := ⟨RX9, "brilliant", "()I"⟩
abbrev cX9_told : ByteArray := prog_11_method_39_code
def yX9_told : MethodName := ⟨RX9, "told", "(I)I"⟩
abbrev cX9_heldBy : ByteArray := prog_11_method_40_code
def yX9_heldBy : MethodName := ⟨RX9, "heldBy", "(I)I"⟩
abbrev cX9_person : ByteArray := prog_11_method_41_code
def yX9_person : MethodName := ⟨RX9, "person", "(II)I"⟩
abbrev cX9_office : ByteArray := prog_11_method_42_code
def yX9_office : MethodName := ⟨RX9, "office", "(II)I"⟩
abbrev cX9_ahead : ByteArray := prog_11_method_43_code
def yX9_ahead : MethodName := ⟨RX9, "ahead", "(I)I"⟩
abbrev cX9_logged : ByteArray := prog_11_method_44_code
def yX9_logged : MethodName := ⟨RX9, "logged", "(II)I"⟩
abbrev cX9_remember : ByteArray := prog_11_method_45_code
def yX9_remember : MethodName := ⟨RX9, "remember", "()V"⟩
abbrev cX9_whyNot : ByteArray := prog_11_method_46_code
def yX9_whyNot : MethodName := ⟨RX9, "whyNot", "(I)I"⟩
abbrev cX9_day : ByteArray := prog_11_method_47_code
def yX9_day : MethodName := ⟨RX9, "day", "(I)I"⟩
abbrev cX9_effort : ByteArray := prog_11_method_48_code
def yX9_effort : MethodName := ⟨RX9, "effort", "(II)I"⟩
abbrev cX9_rain : ByteArray := prog_11_method_49_code
def yX9_rain : MethodName := ⟨RX9, "rain", "(Z)I"⟩
abbrev cX9_teach : ByteArray := prog_11_method_50_code
def yX9_teach : MethodName := ⟨RX9, "teach", "(III)I"⟩
abbrev cX9_bits : ByteArray := prog_11_method_51_code
def yX9_bits : MethodName := ⟨RX9, "bits", "(I)I"⟩
abbrev cX9_send : ByteArray := prog_11_method_52_code
def yX9_send : MethodName := ⟨RX9, "send", "(I)I"⟩
abbrev cX9_recall : ByteArray := prog_11_method_53_code
def yX9_recall : MethodName := ⟨RX9, "recall", "(I)I"⟩
abbrev cX9_draw : ByteArray := prog_11_method_54_code
def yX9_draw : MethodName := ⟨RX9, "draw", "(I)I"⟩
abbrev cX9_drift : ByteArray := prog_11_method_55_code
def yX9_drift : MethodName := ⟨RX9, "drift", "(I)I"⟩
abbrev cX9_undo : ByteArray := prog_11_method_56_code
def yX9_undo : MethodName := ⟨RX9, "undo", "(I)I"⟩
abbrev cX9_isKind : ByteArray := prog_11_method_57_code
def yX9_isKind : MethodName := ⟨RX9, "isKind", "(I)Z"⟩
abbrev cX9_mark : ByteArray := prog_11_method_58_code
def yX9_mark : MethodName := ⟨RX9, "mark", "(II)I"⟩
abbrev cX9_place : ByteArray := prog_11_method_59_code
def yX9_place : MethodName := ⟨RX9, "place", "(II)I"⟩
abbrev cX9_wouldBe : ByteArray := prog_11_method_60_code
def yX9_wouldBe : MethodName := ⟨RX9, "wouldBe", "(II)I"⟩
abbrev cX9_holds : ByteArray := prog_11_method_61_code
def yX9_holds : MethodName := ⟨RX9, "holds", "(II)I"⟩
abbrev cX9_effortsOf : ByteArray := prog_11_method_62_code
def yX9_effortsOf : MethodName := ⟨RX9, "effortsOf", "(II)I"⟩
abbrev cX9_efforts : ByteArray := prog_11_method_63_code
def yX9_efforts : MethodName := ⟨RX9, "efforts", "(II)I"⟩
abbrev cX9_restless : ByteArray := prog_11_method_64_code
def yX9_restless : MethodName := ⟨RX9, "restless", "(I)I"⟩
abbrev cX9_winsIf : ByteArray := prog_11_method_65_code
def yX9_winsIf : MethodName := ⟨RX9, "winsIf", "(III)Z"⟩
abbrev cX9_letWin : ByteArray := prog_11_method_66_code
def yX9_letWin : MethodName := ⟨RX9, "letWin", "(III)I"⟩
abbrev cX9_win : ByteArray := prog_11_method_67_code
def yX9_win : MethodName := ⟨RX9, "win", "(III)I"⟩
abbrev cX9_next : ByteArray := prog_11_method_68_code
def yX9_next : MethodName := ⟨RX9, "next", "(I)I"⟩
abbrev cX9_beats : ByteArray := prog_11_method_69_code
def yX9_beats : MethodName := ⟨RX9, "beats", "(II)I"⟩
abbrev cX9_spread : ByteArray := prog_11_method_70_code
def yX9_spread : MethodName := ⟨RX9, "spread", "(I)I"⟩
abbrev cX9_dry : ByteArray := prog_11_method_71_code
def yX9_dry : MethodName := ⟨RX9, "dry", "(II)I"⟩
abbrev cX9_see : ByteArray := prog_11_method_72_code
def yX9_see : MethodName := ⟨RX9, "see", "(II)I"⟩
abbrev cX9_isSo : ByteArray := prog_11_method_73_code
def yX9_isSo : MethodName := ⟨RX9, "isSo", "(I)Z"⟩
abbrev cX9_truly : ByteArray := prog_11_method_74_code
def yX9_truly : MethodName := ⟨RX9, "truly", "(I)I"⟩
abbrev cX9_partBy : ByteArray := prog_11_method_75_code
def yX9_partBy : MethodName := ⟨RX9, "partBy", "(I)I"⟩
abbrev cX9_tryNext : ByteArray := prog_11_method_76_code
def yX9_tryNext : MethodName := ⟨RX9, "tryNext", "()I"⟩
abbrev cX9_write : ByteArray := prog_11_method_77_code
def yX9_write : MethodName := ⟨RX9, "write", "(II)I"⟩
abbrev cX9_judge : ByteArray := prog_11_method_78_code
def yX9_judge : MethodName := ⟨RX9, "judge", "()I"⟩
abbrev cX9_tear : ByteArray := prog_11_method_79_code
def yX9_tear : MethodName := ⟨RX9, "tear", "()I"⟩
abbrev cX9_seed : ByteArray := prog_11_method_80_code
def yX9_seed : MethodName := ⟨RX9, "seed", "(I)I"⟩
abbrev cX9_keep : ByteArray := prog_11_method_81_code
def yX9_keep : MethodName := ⟨RX9, "keep", "(I)I"⟩
abbrev cX9_goBack : ByteArray := prog_11_method_82_code
def yX9_goBack : MethodName := ⟨RX9, "goBack", "(I)I"⟩
def RJ6 : String := "java/lang/Integer"
abbrev cJ6_compare_7cf53 : ByteArray := prog_12_method_40_code
def yJ6_compare_7cf53 : MethodName := ⟨RJ6, "compare", "(II)I"⟩
abbrev cJ6_bitCount_0f7a4 : ByteArray := prog_12_method_49_code
def yJ6_bitCount_0f7a4 : MethodName := ⟨RJ6, "bitCount", "(I)I"⟩
def RJ9 : String := "java/lang/Math"
abbrev cJ9_max_7cf53 : ByteArray := prog_13_method_65_code
def yJ9_max_7cf53 : MethodName := ⟨RJ9, "max", "(II)I"⟩
abbrev cJ9_min_7cf53 : ByteArray := prog_13_method_69_code
def yJ9_min_7cf53 : MethodName := ⟨RJ9, "min", "(II)I"⟩
def RJ10 : String := "java/lang/System"
def RL : String := "SecondBestLaw"
abbrev cL_law : ByteArray := code
def yL_law : MethodName := ⟨RL, "law", "([I)Z"⟩
abbrev vwCl : List vw_C := [(RX0, TX0, 3), (RX1, TX1, 4), (RX2, TX2, 3), (RX3, TX3, 3), (RX4, TX4, 9), (RX5, TX5, 4), (RX6, TX6, 9), (RX7, TX7, 5), (RX8, TX8, 11), (RX9, TX9, 32)]
theorem in_X0 : ∀ w ∈ u_ws RX0 TX0 3, w ∈ lw_tbl := by decide +kernel
theorem in_X1 : ∀ w ∈ u_ws RX1 TX1 4, w ∈ lw_tbl := by decide +kernel
theorem in_X2 : ∀ w ∈ u_ws RX2 TX2 3, w ∈ lw_tbl := by decide +kernel
theorem in_X3 : ∀ w ∈ u_ws RX3 TX3 3, w ∈ lw_tbl := by decide +kernel
theorem in_X4 : ∀ w ∈ u_ws RX4 TX4 9, w ∈ lw_tbl := by decide +kernel
theorem in_X5 : ∀ w ∈ u_ws RX5 TX5 4, w ∈ lw_tbl := by decide +kernel
theorem in_X6 : ∀ w ∈ u_ws RX6 TX6 9, w ∈ lw_tbl := by decide +kernel
theorem in_X7 : ∀ w ∈ u_ws RX7 TX7 5, w ∈ lw_tbl := by decide +kernel
theorem in_X8 : ∀ w ∈ u_ws RX8 TX8 11, w ∈ lw_tbl := by decide +kernel
theorem in_X9 : ∀ w ∈ u_ws RX9 TX9 32, w ∈ lw_tbl := by decide +kernel
end
section
/-! one row of a method: pc, instruction, its length, three numbers, an int, a long, a switch -/
abbrev Row : Type := Nat × Instr × Nat × Nat × Nat × Nat × Int32 × Int64 × List (Int32 × Nat)
/-- owner, name, bytes, how many locals, answer, rows by sixteens -/
abbrev MD : Type := Nat × MethodName × ByteArray × Nat × Option FieldType × Bool × List (List Row)
def rw_X0_init : List (List Row) := [[(0, .aload_n 0, 1, 0, 0, 0, nI 0, 0, []), (1, .invokespecial 3, 3, 0, 1, 1, nI 0, 0, []), (4, .aload_n 0, 1, 0, 0, 0, nI 0, 0, []), (5, .bipush 20, 2, 0, 0, 0, nI 20, 0, []), (7, .newarray .int, 2, 0, 0, 0, nI 0, 0, []), (9, .putfield 9, 3, 0, 0, 0, nI 0, 0, []), (12, .aload_n 0, 1, 0, 0, 0, nI 0, 0, []), (13, .bipush 20, 2, 0, 0, 0, nI 20, 0, []), (15, .newarray .int, 2, 0, 0, 0, nI 0, 0, [])],
  [(17, .putfield 15, 3, 0, 1, 0, nI 0, 0, []), (20, .aload_n 0, 1, 0, 0, 0, nI 0, 0, []), (21, .iconst 0, 1, 0, 0, 0, nI 0, 0, []), (22, .putfield 18, 3, 0, 2, 0, nI 0, 0, []), (25, .return_, 1, 0, 0, 0, nI 0, 0, [])]]
def md_X0_init : MD := (0, yX0_init, cX0_init, 1, none, true, rw_X0_init)
def rw_X0_append : List (List Row) := [[(0, .aload_n 0, 1, 0, 0, 0, nI 0, 0, []), (1, .getfield 18, 3, 0, 2, 0, nI 0, 0, []), (4, .bipush 20, 2, 0, 0, 0, nI 20, 0, []), (6, .if_icmp .ge 33, 3, 39, 0, 0, nI 0, 0, []), (9, .aload_n 0, 1, 0, 0, 0, nI 0, 0, []), (10, .getfield 9, 3, 0, 0, 0, nI 0, 0, []), (13, .aload_n 0, 1, 0, 0, 0, nI 0, 0, []), (14, .getfield 18, 3, 0, 2, 0, nI 0, 0, [])],
  [(17, .iload_n 1, 1, 1, 0, 0, nI 0, 0, []), (18, .iastore, 1, 0, 0, 0, nI 0, 0, []), (19, .aload_n 0, 1, 0, 0, 0, nI 0, 0, []), (20, .getfield 15, 3, 0, 1, 0, nI 0, 0, []), (23, .aload_n 0, 1, 0, 0, 0, nI 0, 0, []), (24, .getfield 18, 3, 0, 2, 0, nI 0, 0, []), (27, .iload_n 2, 1, 2, 0, 0, nI 0, 0, []), (28, .iastore, 1, 0, 0, 0, nI 0, 0, []), (29, .aload_n 0, 1, 0, 0, 0, nI 0, 0, []), (30, .dup, 1, 0, 0, 0, nI 0, 0, []), (31, .getfield 18, 3, 0, 2, 0, nI 0, 0, [])],
  [(34, .iconst 1, 1, 0, 0, 0, nI 1, 0, []), (35, .iadd, 1, 0, 0, 0, nI 0, 0, []), (36, .putfield 18, 3, 0, 2, 0, nI 0, 0, []), (39, .aload_n 0, 1, 0, 0, 0, nI 0, 0, []), (40, .getfield 18, 3, 0, 2, 0, nI 0, 0, []), (43, .ireturn, 1, 0, 0, 0, nI 0, 0, [])]]
def md_X0_append : MD := (0, yX0_append, cX0_append, 3, (some .int), false, rw_X0_append)
def rw_X0_firstWrong : List (List Row) := [[(0, .iconst 0, 1, 0, 0, 0, nI 0, 0, []), (1, .istore_n 2, 1, 2, 0, 0, nI 0, 0, []), (2, .iload_n 2, 1, 2, 0, 0, nI 0, 0, []), (3, .aload_n 0, 1, 0, 0, 0, nI 0, 0, []), (4, .getfield 18, 3, 0, 2, 0, nI 0, 0, []), (7, .if_icmp .ge 31, 3, 38, 0, 0, nI 0, 0, []), (10, .aload_n 1, 1, 1, 0, 0, nI 0, 0, []), (11, .getfield 22, 3, 6, 4, 0, nI 0, 0, []), (14, .aload_n 0, 1, 0, 0, 0, nI 0, 0, []), (15, .getfield 9, 3, 0, 0, 0, nI 0, 0, [])],
  [(18, .iload_n 2, 1, 2, 0, 0, nI 0, 0, []), (19, .iaload, 1, 0, 0, 0, nI 0, 0, []), (20, .iaload, 1, 0, 0, 0, nI 0, 0, []), (21, .aload_n 0, 1, 0, 0, 0, nI 0, 0, []), (22, .getfield 15, 3, 0, 1, 0, nI 0, 0, []), (25, .iload_n 2, 1, 2, 0, 0, nI 0, 0, []), (26, .iaload, 1, 0, 0, 0, nI 0, 0, []), (27, .if_icmp .eq 5, 3, 32, 0, 0, nI 0, 0, []), (30, .iload_n 2, 1, 2, 0, 0, nI 0, 0, []), (31, .ireturn, 1, 0, 0, 0, nI 0, 0, [])],
  [(32, .iinc 2 1, 3, 2, 0, 0, nI 1, 0, []), (35, .goto (-33), 3, 2, 0, 0, nI 0, 0, []), (38, .iconst (-1), 1, 0, 0, 0, (-1), 0, []), (39, .ireturn, 1, 0, 0, 0, nI 0, 0, [])]]
def md_X0_firstWrong : MD := (0, yX0_firstWrong, cX0_firstWrong, 3, (some .int), false, rw_X0_firstWrong)
def rw_X1_init : List (List Row) := [[(0, .aload_n 0, 1, 0, 0, 0, nI 0, 0, []), (1, .invokespecial 3, 3, 0, 1, 1, nI 0, 0, []), (4, .aload_n 0, 1, 0, 0, 0, nI 0, 0, []), (5, .bipush 7, 2, 0, 0, 0, nI 7, 0, []), (7, .newarray .int, 2, 0, 0, 0, nI 0, 0, []), (9, .putfield 9, 3, 1, 0, 0, nI 0, 0, []), (12, .aload_n 0, 1, 0, 0, 0, nI 0, 0, []), (13, .iconst 0, 1, 0, 0, 0, nI 0, 0, []), (14, .putfield 15, 3, 1, 1, 0, nI 0, 0, [])],
  [(17, .aload_n 0, 1, 0, 0, 0, nI 0, 0, []), (18, .iconst (-1), 1, 0, 0, 0, (-1), 0, []), (19, .putfield 19, 3, 1, 2, 0, nI 0, 0, []), (22, .aload_n 0, 1, 0, 0, 0, nI 0, 0, []), (23, .iconst (-1), 1, 0, 0, 0, (-1), 0, []), (24, .putfield 22, 3, 1, 3, 0, nI 0, 0, []), (27, .return_, 1, 0, 0, 0, nI 0, 0, [])]]
def md_X1_init : MD := (1, yX1_init, cX1_init, 1, none, true, rw_X1_init)
def rw_X1_rank : List (List Row) := [[(0, .iconst 0, 1, 0, 0, 0, nI 0, 0, []), (1, .istore 4, 2, 4, 0, 0, nI 0, 0, []), (3, .iload 4, 2, 4, 0, 0, nI 0, 0, []), (5, .aload_n 1, 1, 1, 0, 0, nI 0, 0, []), (6, .getfield 25, 3, 4, 6, 0, nI 0, 0, []), (9, .if_icmp .ge 24, 3, 33, 0, 0, nI 0, 0, []), (12, .aload_n 0, 1, 0, 0, 0, nI 0, 0, []), (13, .getfield 9, 3, 1, 0, 0, nI 0, 0, [])],
  [(16, .iload 4, 2, 4, 0, 0, nI 0, 0, []), (18, .aload_n 2, 1, 2, 0, 0, nI 0, 0, []), (19, .aload_n 1, 1, 1, 0, 0, nI 0, 0, []), (20, .iload 4, 2, 4, 0, 0, nI 0, 0, []), (22, .iload_n 3, 1, 3, 0, 0, nI 0, 0, []), (23, .invokevirtual 30, 3, 34, 4, 6, nI 0, 0, []), (26, .iastore, 1, 0, 0, 0, nI 0, 0, []), (27, .iinc 4 1, 3, 4, 0, 0, nI 1, 0, []), (30, .goto (-27), 3, 3, 0, 0, nI 0, 0, [])],
  [(33, .aload_n 0, 1, 0, 0, 0, nI 0, 0, []), (34, .iconst 0, 1, 0, 0, 0, nI 0, 0, []), (35, .putfield 15, 3, 1, 1, 0, nI 0, 0, []), (38, .aload_n 0, 1, 0, 0, 0, nI 0, 0, []), (39, .aload_n 0, 1, 0, 0, 0, nI 0, 0, []), (40, .aload_n 1, 1, 1, 0, 0, nI 0, 0, []), (41, .aload_n 2, 1, 2, 0, 0, nI 0, 0, []), (42, .invokevirtual 36, 3, 7, 3, 1, nI 0, 0, []), (45, .putfield 19, 3, 1, 2, 0, nI 0, 0, [])],
  [(48, .aload_n 0, 1, 0, 0, 0, nI 0, 0, []), (49, .getfield 19, 3, 1, 2, 0, nI 0, 0, []), (52, .iconst (-1), 1, 0, 0, 0, (-1), 0, []), (53, .if_icmp .eq 34, 3, 87, 0, 0, nI 0, 0, []), (56, .aload_n 0, 1, 0, 0, 0, nI 0, 0, []), (57, .aload_n 1, 1, 1, 0, 0, nI 0, 0, []), (58, .getfield 40, 3, 4, 4, 0, nI 0, 0, []), (61, .iconst 2, 1, 0, 0, 0, nI 2, 0, []), (62, .if_icmp .ne 16, 3, 78, 0, 0, nI 0, 0, [])],
  [(65, .aload_n 0, 1, 0, 0, 0, nI 0, 0, []), (66, .aload_n 1, 1, 1, 0, 0, nI 0, 0, []), (67, .aload_n 2, 1, 2, 0, 0, nI 0, 0, []), (68, .aload_n 0, 1, 0, 0, 0, nI 0, 0, []), (69, .getfield 19, 3, 1, 2, 0, nI 0, 0, []), (72, .invokevirtual 43, 3, 8, 4, 1, nI 0, 0, []), (75, .goto 9, 3, 84, 0, 0, nI 0, 0, []), (78, .iconst 1, 1, 0, 0, 0, nI 1, 0, []), (79, .aload_n 0, 1, 0, 0, 0, nI 0, 0, [])],
  [(80, .getfield 19, 3, 1, 2, 0, nI 0, 0, []), (83, .ishl, 1, 0, 0, 0, nI 0, 0, []), (84, .putfield 15, 3, 1, 1, 0, nI 0, 0, []), (87, .aload_n 0, 1, 0, 0, 0, nI 0, 0, []), (88, .aload_n 0, 1, 0, 0, 0, nI 0, 0, []), (89, .aload_n 1, 1, 1, 0, 0, nI 0, 0, []), (90, .aload_n 2, 1, 2, 0, 0, nI 0, 0, []), (91, .invokevirtual 36, 3, 7, 3, 1, nI 0, 0, []), (94, .putfield 22, 3, 1, 3, 0, nI 0, 0, [])],
  [(97, .return_, 1, 0, 0, 0, nI 0, 0, [])]]
def md_X1_rank : MD := (1, yX1_rank, cX1_rank, 5, none, false, rw_X1_rank)
def rw_X1_isFirst : List (List Row) := [[(0, .aload_n 0, 1, 0, 0, 0, nI 0, 0, []), (1, .getfield 15, 3, 1, 1, 0, nI 0, 0, []), (4, .iload_n 1, 1, 1, 0, 0, nI 0, 0, []), (5, .ishr, 1, 0, 0, 0, nI 0, 0, []), (6, .iconst 1, 1, 0, 0, 0, nI 1, 0, []), (7, .iand, 1, 0, 0, 0, nI 0, 0, []), (8, .iconst 1, 1, 0, 0, 0, nI 1, 0, []), (9, .if_icmp .ne 7, 3, 16, 0, 0, nI 0, 0, []), (12, .iconst 1, 1, 0, 0, 0, nI 1, 0, []), (13, .goto 4, 3, 17, 0, 0, nI 0, 0, [])],
  [(16, .iconst 0, 1, 0, 0, 0, nI 0, 0, []), (17, .ireturn, 1, 0, 0, 0, nI 0, 0, [])]]
def md_X1_isFirst : MD := (1, yX1_isFirst, cX1_isFirst, 2, (some .boolean), false, rw_X1_isFirst)
def rw_X1_placeOf : List (List Row) := [[(0, .aload_n 0, 1, 0, 0, 0, nI 0, 0, []), (1, .iload_n 3, 1, 3, 0, 0, nI 0, 0, []), (2, .invokevirtual 47, 3, 5, 2, 1, nI 0, 0, []), (5, .ifCond .eq 5, 3, 10, 0, 0, nI 0, 0, []), (8, .iconst 0, 1, 0, 0, 0, nI 0, 0, []), (9, .ireturn, 1, 0, 0, 0, nI 0, 0, []), (10, .iconst 1, 1, 0, 0, 0, nI 1, 0, []), (11, .istore 4, 2, 4, 0, 0, nI 0, 0, []), (13, .iconst 0, 1, 0, 0, 0, nI 0, 0, []), (14, .istore 5, 2, 5, 0, 0, nI 0, 0, [])],
  [(16, .iload 5, 2, 5, 0, 0, nI 0, 0, []), (18, .aload_n 1, 1, 1, 0, 0, nI 0, 0, []), (19, .getfield 25, 3, 4, 6, 0, nI 0, 0, []), (22, .if_icmp .ge 47, 3, 69, 0, 0, nI 0, 0, []), (25, .aload_n 2, 1, 2, 0, 0, nI 0, 0, []), (26, .iload 5, 2, 5, 0, 0, nI 0, 0, []), (28, .invokevirtual 51, 3, 31, 2, 6, nI 0, 0, []), (31, .ifCond .eq 32, 3, 63, 0, 0, nI 0, 0, [])],
  [(34, .aload_n 0, 1, 0, 0, 0, nI 0, 0, []), (35, .iload 5, 2, 5, 0, 0, nI 0, 0, []), (37, .invokevirtual 47, 3, 5, 2, 1, nI 0, 0, []), (40, .ifCond .ne 23, 3, 63, 0, 0, nI 0, 0, []), (43, .iload 5, 2, 5, 0, 0, nI 0, 0, []), (45, .iload_n 3, 1, 3, 0, 0, nI 0, 0, []), (46, .if_icmp .eq 17, 3, 63, 0, 0, nI 0, 0, [])],
  [(49, .aload_n 0, 1, 0, 0, 0, nI 0, 0, []), (50, .aload_n 1, 1, 1, 0, 0, nI 0, 0, []), (51, .iload 5, 2, 5, 0, 0, nI 0, 0, []), (53, .iload_n 3, 1, 3, 0, 0, nI 0, 0, []), (54, .invokevirtual 54, 3, 9, 4, 1, nI 0, 0, []), (57, .ifCond .eq 6, 3, 63, 0, 0, nI 0, 0, []), (60, .iinc 4 1, 3, 4, 0, 0, nI 1, 0, []), (63, .iinc 5 1, 3, 5, 0, 0, nI 1, 0, [])],
  [(66, .goto (-50), 3, 16, 0, 0, nI 0, 0, []), (69, .iload 4, 2, 4, 0, 0, nI 0, 0, []), (71, .ireturn, 1, 0, 0, 0, nI 0, 0, [])]]
def md_X1_placeOf : MD := (1, yX1_placeOf, cX1_placeOf, 6, (some .int), false, rw_X1_placeOf)
def rw_X1_foremost : List (List Row) := [[(0, .iconst (-1), 1, 0, 0, 0, (-1), 0, []), (1, .istore_n 3, 1, 3, 0, 0, nI 0, 0, []), (2, .iconst 0, 1, 0, 0, 0, nI 0, 0, []), (3, .istore 4, 2, 4, 0, 0, nI 0, 0, []), (5, .iload 4, 2, 4, 0, 0, nI 0, 0, []), (7, .aload_n 1, 1, 1, 0, 0, nI 0, 0, []), (8, .getfield 25, 3, 4, 6, 0, nI 0, 0, []), (11, .if_icmp .ge 46, 3, 57, 0, 0, nI 0, 0, []), (14, .aload_n 2, 1, 2, 0, 0, nI 0, 0, []), (15, .iload 4, 2, 4, 0, 0, nI 0, 0, [])],
  [(17, .invokevirtual 51, 3, 31, 2, 6, nI 0, 0, []), (20, .ifCond .eq 31, 3, 51, 0, 0, nI 0, 0, []), (23, .aload_n 0, 1, 0, 0, 0, nI 0, 0, []), (24, .iload 4, 2, 4, 0, 0, nI 0, 0, []), (26, .invokevirtual 47, 3, 5, 2, 1, nI 0, 0, []), (29, .ifCond .ne 22, 3, 51, 0, 0, nI 0, 0, [])],
  [(32, .iload_n 3, 1, 3, 0, 0, nI 0, 0, []), (33, .iconst (-1), 1, 0, 0, 0, (-1), 0, []), (34, .if_icmp .eq 14, 3, 48, 0, 0, nI 0, 0, []), (37, .aload_n 0, 1, 0, 0, 0, nI 0, 0, []), (38, .aload_n 1, 1, 1, 0, 0, nI 0, 0, []), (39, .iload 4, 2, 4, 0, 0, nI 0, 0, []), (41, .iload_n 3, 1, 3, 0, 0, nI 0, 0, []), (42, .invokevirtual 54, 3, 9, 4, 1, nI 0, 0, []), (45, .ifCond .eq 6, 3, 51, 0, 0, nI 0, 0, [])],
  [(48, .iload 4, 2, 4, 0, 0, nI 0, 0, []), (50, .istore_n 3, 1, 3, 0, 0, nI 0, 0, []), (51, .iinc 4 1, 3, 4, 0, 0, nI 1, 0, []), (54, .goto (-49), 3, 5, 0, 0, nI 0, 0, []), (57, .iload_n 3, 1, 3, 0, 0, nI 0, 0, []), (58, .ireturn, 1, 0, 0, 0, nI 0, 0, [])]]
def md_X1_foremost : MD := (1, yX1_foremost, cX1_foremost, 5, (some .int), false, rw_X1_foremost)
def rw_X1_allLike : List (List Row) := [[(0, .iconst 0, 1, 0, 0, 0, nI 0, 0, []), (1, .istore 4, 2, 4, 0, 0, nI 0, 0, []), (3, .iconst 0, 1, 0, 0, 0, nI 0, 0, []), (4, .istore 5, 2, 5, 0, 0, nI 0, 0, []), (6, .iload 5, 2, 5, 0, 0, nI 0, 0, []), (8, .aload_n 1, 1, 1, 0, 0, nI 0, 0, []), (9, .getfield 25, 3, 4, 6, 0, nI 0, 0, []), (12, .if_icmp .ge 43, 3, 55, 0, 0, nI 0, 0, []), (15, .aload_n 2, 1, 2, 0, 0, nI 0, 0, [])],
  [(16, .iload 5, 2, 5, 0, 0, nI 0, 0, []), (18, .invokevirtual 51, 3, 31, 2, 6, nI 0, 0, []), (21, .ifCond .eq 28, 3, 49, 0, 0, nI 0, 0, []), (24, .aload_n 0, 1, 0, 0, 0, nI 0, 0, []), (25, .getfield 9, 3, 1, 0, 0, nI 0, 0, []), (28, .iload 5, 2, 5, 0, 0, nI 0, 0, []), (30, .iaload, 1, 0, 0, 0, nI 0, 0, []), (31, .aload_n 0, 1, 0, 0, 0, nI 0, 0, [])],
  [(32, .getfield 9, 3, 1, 0, 0, nI 0, 0, []), (35, .iload_n 3, 1, 3, 0, 0, nI 0, 0, []), (36, .iaload, 1, 0, 0, 0, nI 0, 0, []), (37, .if_icmp .ne 12, 3, 49, 0, 0, nI 0, 0, []), (40, .iload 4, 2, 4, 0, 0, nI 0, 0, []), (42, .iconst 1, 1, 0, 0, 0, nI 1, 0, []), (43, .iload 5, 2, 5, 0, 0, nI 0, 0, []), (45, .ishl, 1, 0, 0, 0, nI 0, 0, []), (46, .ior, 1, 0, 0, 0, nI 0, 0, []), (47, .istore 4, 2, 4, 0, 0, nI 0, 0, [])],
  [(49, .iinc 5 1, 3, 5, 0, 0, nI 1, 0, []), (52, .goto (-46), 3, 6, 0, 0, nI 0, 0, []), (55, .iload 4, 2, 4, 0, 0, nI 0, 0, []), (57, .ireturn, 1, 0, 0, 0, nI 0, 0, [])]]
def md_X1_allLike : MD := (1, yX1_allLike, cX1_allLike, 6, (some .int), false, rw_X1_allLike)
def rw_X1_isAheadOf : List (List Row) := [[(0, .aload_n 0, 1, 0, 0, 0, nI 0, 0, []), (1, .getfield 9, 3, 1, 0, 0, nI 0, 0, []), (4, .iload_n 2, 1, 2, 0, 0, nI 0, 0, []), (5, .iaload, 1, 0, 0, 0, nI 0, 0, []), (6, .aload_n 0, 1, 0, 0, 0, nI 0, 0, []), (7, .getfield 9, 3, 1, 0, 0, nI 0, 0, []), (10, .iload_n 3, 1, 3, 0, 0, nI 0, 0, []), (11, .iaload, 1, 0, 0, 0, nI 0, 0, []), (12, .if_icmp .eq 24, 3, 36, 0, 0, nI 0, 0, []), (15, .aload_n 0, 1, 0, 0, 0, nI 0, 0, [])],
  [(16, .getfield 9, 3, 1, 0, 0, nI 0, 0, []), (19, .iload_n 2, 1, 2, 0, 0, nI 0, 0, []), (20, .iaload, 1, 0, 0, 0, nI 0, 0, []), (21, .aload_n 0, 1, 0, 0, 0, nI 0, 0, []), (22, .getfield 9, 3, 1, 0, 0, nI 0, 0, []), (25, .iload_n 3, 1, 3, 0, 0, nI 0, 0, []), (26, .iaload, 1, 0, 0, 0, nI 0, 0, []), (27, .if_icmp .le 7, 3, 34, 0, 0, nI 0, 0, []), (30, .iconst 1, 1, 0, 0, 0, nI 1, 0, []), (31, .goto 4, 3, 35, 0, 0, nI 0, 0, [])],
  [(34, .iconst 0, 1, 0, 0, 0, nI 0, 0, []), (35, .ireturn, 1, 0, 0, 0, nI 0, 0, []), (36, .aload_n 1, 1, 1, 0, 0, nI 0, 0, []), (37, .getfield 40, 3, 4, 4, 0, nI 0, 0, []), (40, .iconst 1, 1, 0, 0, 0, nI 1, 0, []), (41, .if_icmp .ne 39, 3, 80, 0, 0, nI 0, 0, []), (44, .aload_n 1, 1, 1, 0, 0, nI 0, 0, []), (45, .getfield 58, 3, 4, 1, 0, nI 0, 0, [])],
  [(48, .iload_n 2, 1, 2, 0, 0, nI 0, 0, []), (49, .iaload, 1, 0, 0, 0, nI 0, 0, []), (50, .aload_n 1, 1, 1, 0, 0, nI 0, 0, []), (51, .getfield 58, 3, 4, 1, 0, nI 0, 0, []), (54, .iload_n 3, 1, 3, 0, 0, nI 0, 0, []), (55, .iaload, 1, 0, 0, 0, nI 0, 0, []), (56, .if_icmp .eq 24, 3, 80, 0, 0, nI 0, 0, []), (59, .aload_n 1, 1, 1, 0, 0, nI 0, 0, []), (60, .getfield 58, 3, 4, 1, 0, nI 0, 0, []), (63, .iload_n 2, 1, 2, 0, 0, nI 0, 0, [])],
  [(64, .iaload, 1, 0, 0, 0, nI 0, 0, []), (65, .aload_n 1, 1, 1, 0, 0, nI 0, 0, []), (66, .getfield 58, 3, 4, 1, 0, nI 0, 0, []), (69, .iload_n 3, 1, 3, 0, 0, nI 0, 0, []), (70, .iaload, 1, 0, 0, 0, nI 0, 0, []), (71, .if_icmp .le 7, 3, 78, 0, 0, nI 0, 0, []), (74, .iconst 1, 1, 0, 0, 0, nI 1, 0, []), (75, .goto 4, 3, 79, 0, 0, nI 0, 0, []), (78, .iconst 0, 1, 0, 0, 0, nI 0, 0, []), (79, .ireturn, 1, 0, 0, 0, nI 0, 0, [])],
  [(80, .iload_n 2, 1, 2, 0, 0, nI 0, 0, []), (81, .iload_n 3, 1, 3, 0, 0, nI 0, 0, []), (82, .if_icmp .ge 7, 3, 89, 0, 0, nI 0, 0, []), (85, .iconst 1, 1, 0, 0, 0, nI 1, 0, []), (86, .goto 4, 3, 90, 0, 0, nI 0, 0, []), (89, .iconst 0, 1, 0, 0, 0, nI 0, 0, []), (90, .ireturn, 1, 0, 0, 0, nI 0, 0, [])]]
def md_X1_isAheadOf : MD := (1, yX1_isAheadOf, cX1_isAheadOf, 4, (some .boolean), false, rw_X1_isAheadOf)
def rw_X2_init : List (List Row) := [[(0, .aload_n 0, 1, 0, 0, 0, nI 0, 0, []), (1, .invokespecial 1, 3, 0, 1, 1, nI 0, 0, []), (4, .aload_n 0, 1, 0, 0, 0, nI 0, 0, []), (5, .new 7, 3, 6, 0, 0, nI 0, 0, []), (8, .dup, 1, 0, 0, 0, nI 0, 0, []), (9, .invokespecial 9, 3, 26, 1, 2, nI 0, 0, []), (12, .putfield 10, 3, 2, 0, 0, nI 0, 0, []), (15, .aload_n 0, 1, 0, 0, 0, nI 0, 0, [])],
  [(16, .iconst 0, 1, 0, 0, 0, nI 0, 0, []), (17, .putfield 16, 3, 2, 1, 0, nI 0, 0, []), (20, .aload_n 0, 1, 0, 0, 0, nI 0, 0, []), (21, .iconst 0, 1, 0, 0, 0, nI 0, 0, []), (22, .putfield 20, 3, 2, 2, 0, nI 0, 0, []), (25, .return_, 1, 0, 0, 0, nI 0, 0, [])]]
def md_X2_init : MD := (2, yX2_init, cX2_init, 1, none, true, rw_X2_init)
def rw_X3_init : List (List Row) := [[(0, .aload_n 0, 1, 0, 0, 0, nI 0, 0, []), (1, .invokespecial 3, 3, 0, 1, 1, nI 0, 0, []), (4, .aload_n 0, 1, 0, 0, 0, nI 0, 0, []), (5, .bipush 30, 2, 0, 0, 0, nI 30, 0, []), (7, .anewarray 9, 3, 6, 0, 0, nI 0, 0, []), (10, .putfield 11, 3, 3, 0, 0, nI 0, 0, []), (13, .aload_n 0, 1, 0, 0, 0, nI 0, 0, []), (14, .iconst 0, 1, 0, 0, 0, nI 0, 0, []), (15, .putfield 17, 3, 3, 1, 0, nI 0, 0, [])],
  [(18, .aload_n 0, 1, 0, 0, 0, nI 0, 0, []), (19, .iconst 0, 1, 0, 0, 0, nI 0, 0, []), (20, .putfield 21, 3, 3, 2, 0, nI 0, 0, []), (23, .iconst 0, 1, 0, 0, 0, nI 0, 0, []), (24, .istore_n 1, 1, 1, 0, 0, nI 0, 0, []), (25, .iload_n 1, 1, 1, 0, 0, nI 0, 0, []), (26, .bipush 30, 2, 0, 0, 0, nI 30, 0, []), (28, .if_icmp .ge 22, 3, 50, 0, 0, nI 0, 0, []), (31, .aload_n 0, 1, 0, 0, 0, nI 0, 0, [])],
  [(32, .getfield 11, 3, 3, 0, 0, nI 0, 0, []), (35, .iload_n 1, 1, 1, 0, 0, nI 0, 0, []), (36, .new 9, 3, 6, 0, 0, nI 0, 0, []), (39, .dup, 1, 0, 0, 0, nI 0, 0, []), (40, .invokespecial 24, 3, 26, 1, 2, nI 0, 0, []), (43, .aastore, 1, 0, 0, 0, nI 0, 0, []), (44, .iinc 1 1, 3, 1, 0, 0, nI 1, 0, []), (47, .goto (-22), 3, 25, 0, 0, nI 0, 0, [])],
  [(50, .return_, 1, 0, 0, 0, nI 0, 0, [])]]
def md_X3_init : MD := (3, yX3_init, cX3_init, 2, none, true, rw_X3_init)
def rw_X3_remember : List (List Row) := [[(0, .aload_n 0, 1, 0, 0, 0, nI 0, 0, []), (1, .getfield 11, 3, 3, 0, 0, nI 0, 0, []), (4, .aload_n 0, 1, 0, 0, 0, nI 0, 0, []), (5, .getfield 17, 3, 3, 1, 0, nI 0, 0, []), (8, .aaload, 1, 0, 0, 0, nI 0, 0, []), (9, .aload_n 1, 1, 1, 0, 0, nI 0, 0, []), (10, .invokevirtual 25, 3, 28, 2, 6, nI 0, 0, []), (13, .aload_n 0, 1, 0, 0, 0, nI 0, 0, []), (14, .aload_n 0, 1, 0, 0, 0, nI 0, 0, []), (15, .getfield 17, 3, 3, 1, 0, nI 0, 0, [])],
  [(18, .iconst 1, 1, 0, 0, 0, nI 1, 0, []), (19, .iadd, 1, 0, 0, 0, nI 0, 0, []), (20, .bipush 30, 2, 0, 0, 0, nI 30, 0, []), (22, .irem, 1, 0, 0, 0, nI 0, 0, []), (23, .putfield 17, 3, 3, 1, 0, nI 0, 0, []), (26, .aload_n 0, 1, 0, 0, 0, nI 0, 0, []), (27, .aload_n 0, 1, 0, 0, 0, nI 0, 0, []), (28, .getfield 21, 3, 3, 2, 0, nI 0, 0, []), (31, .iconst 1, 1, 0, 0, 0, nI 1, 0, [])],
  [(32, .iadd, 1, 0, 0, 0, nI 0, 0, []), (33, .bipush 30, 2, 0, 0, 0, nI 30, 0, []), (35, .invokestatic 29, 3, 198, 2, 0, nI 0, 0, []), (38, .putfield 21, 3, 3, 2, 0, nI 0, 0, []), (41, .return_, 1, 0, 0, 0, nI 0, 0, [])]]
def md_X3_remember : MD := (3, yX3_remember, cX3_remember, 2, none, false, rw_X3_remember)
def rw_X3_takeBack : List (List Row) := [[(0, .iload_n 2, 1, 2, 0, 0, nI 0, 0, []), (1, .iconst 1, 1, 0, 0, 0, nI 1, 0, []), (2, .if_icmp .lt 11, 3, 13, 0, 0, nI 0, 0, []), (5, .iload_n 2, 1, 2, 0, 0, nI 0, 0, []), (6, .aload_n 0, 1, 0, 0, 0, nI 0, 0, []), (7, .getfield 21, 3, 3, 2, 0, nI 0, 0, []), (10, .if_icmp .le 4, 3, 14, 0, 0, nI 0, 0, []), (13, .return_, 1, 0, 0, 0, nI 0, 0, []), (14, .aload_n 0, 1, 0, 0, 0, nI 0, 0, []), (15, .aload_n 0, 1, 0, 0, 0, nI 0, 0, [])],
  [(16, .getfield 17, 3, 3, 1, 0, nI 0, 0, []), (19, .bipush 30, 2, 0, 0, 0, nI 30, 0, []), (21, .iadd, 1, 0, 0, 0, nI 0, 0, []), (22, .iload_n 2, 1, 2, 0, 0, nI 0, 0, []), (23, .isub, 1, 0, 0, 0, nI 0, 0, []), (24, .bipush 30, 2, 0, 0, 0, nI 30, 0, []), (26, .irem, 1, 0, 0, 0, nI 0, 0, []), (27, .putfield 17, 3, 3, 1, 0, nI 0, 0, []), (30, .aload_n 0, 1, 0, 0, 0, nI 0, 0, []), (31, .dup, 1, 0, 0, 0, nI 0, 0, [])],
  [(32, .getfield 21, 3, 3, 2, 0, nI 0, 0, []), (35, .iload_n 2, 1, 2, 0, 0, nI 0, 0, []), (36, .isub, 1, 0, 0, 0, nI 0, 0, []), (37, .putfield 21, 3, 3, 2, 0, nI 0, 0, []), (40, .aload_n 1, 1, 1, 0, 0, nI 0, 0, []), (41, .aload_n 0, 1, 0, 0, 0, nI 0, 0, []), (42, .getfield 11, 3, 3, 0, 0, nI 0, 0, []), (45, .aload_n 0, 1, 0, 0, 0, nI 0, 0, []), (46, .getfield 17, 3, 3, 1, 0, nI 0, 0, [])],
  [(49, .aaload, 1, 0, 0, 0, nI 0, 0, []), (50, .invokevirtual 25, 3, 28, 2, 6, nI 0, 0, []), (53, .return_, 1, 0, 0, 0, nI 0, 0, [])]]
def md_X3_takeBack : MD := (3, yX3_takeBack, cX3_takeBack, 3, none, false, rw_X3_takeBack)
def rw_X4_init : List (List Row) := [[(0, .aload_n 0, 1, 0, 0, 0, nI 0, 0, []), (1, .invokespecial 3, 3, 0, 1, 1, nI 0, 0, []), (4, .aload_n 0, 1, 0, 0, 0, nI 0, 0, []), (5, .bipush 21, 2, 0, 0, 0, nI 21, 0, []), (7, .newarray .int, 2, 0, 0, 0, nI 0, 0, []), (9, .putfield 9, 3, 4, 0, 0, nI 0, 0, []), (12, .aload_n 0, 1, 0, 0, 0, nI 0, 0, []), (13, .bipush 7, 2, 0, 0, 0, nI 7, 0, []), (15, .newarray .int, 2, 0, 0, 0, nI 0, 0, [])],
  [(17, .putfield 15, 3, 4, 1, 0, nI 0, 0, []), (20, .aload_n 0, 1, 0, 0, 0, nI 0, 0, []), (21, .bipush 12, 2, 0, 0, 0, nI 12, 0, []), (23, .newarray .int, 2, 0, 0, 0, nI 0, 0, []), (25, .putfield 18, 3, 4, 2, 0, nI 0, 0, []), (28, .aload_n 0, 1, 0, 0, 0, nI 0, 0, []), (29, .iconst 4, 1, 0, 0, 0, nI 4, 0, []), (30, .newarray .int, 2, 0, 0, 0, nI 0, 0, [])],
  [(32, .putfield 21, 3, 4, 3, 0, nI 0, 0, []), (35, .aload_n 0, 1, 0, 0, 0, nI 0, 0, []), (36, .iconst (-1), 1, 0, 0, 0, (-1), 0, []), (37, .putfield 24, 3, 4, 4, 0, nI 0, 0, []), (40, .aload_n 0, 1, 0, 0, 0, nI 0, 0, []), (41, .iconst 0, 1, 0, 0, 0, nI 0, 0, []), (42, .putfield 28, 3, 4, 5, 0, nI 0, 0, []), (45, .aload_n 0, 1, 0, 0, 0, nI 0, 0, []), (46, .iconst 0, 1, 0, 0, 0, nI 0, 0, []), (47, .putfield 31, 3, 4, 6, 0, nI 0, 0, [])],
  [(50, .aload_n 0, 1, 0, 0, 0, nI 0, 0, []), (51, .iconst 0, 1, 0, 0, 0, nI 0, 0, []), (52, .putfield 34, 3, 4, 7, 0, nI 0, 0, []), (55, .aload_n 0, 1, 0, 0, 0, nI 0, 0, []), (56, .iconst 0, 1, 0, 0, 0, nI 0, 0, []), (57, .putfield 37, 3, 4, 8, 0, nI 0, 0, []), (60, .return_, 1, 0, 0, 0, nI 0, 0, [])]]
def md_X4_init : MD := (4, yX4_init, cX4_init, 1, none, true, rw_X4_init)
def rw_X4_isThere : List (List Row) := [[(0, .aload_n 0, 1, 0, 0, 0, nI 0, 0, []), (1, .getfield 24, 3, 4, 4, 0, nI 0, 0, []), (4, .iconst (-1), 1, 0, 0, 0, (-1), 0, []), (5, .if_icmp .eq 7, 3, 12, 0, 0, nI 0, 0, []), (8, .iconst 1, 1, 0, 0, 0, nI 1, 0, []), (9, .goto 4, 3, 13, 0, 0, nI 0, 0, []), (12, .iconst 0, 1, 0, 0, 0, nI 0, 0, []), (13, .ireturn, 1, 0, 0, 0, nI 0, 0, [])]]
def md_X4_isThere : MD := (4, yX4_isThere, cX4_isThere, 1, (some .boolean), false, rw_X4_isThere)
def rw_X4_clear : List (List Row) := [[(0, .aload_n 0, 1, 0, 0, 0, nI 0, 0, []), (1, .iconst (-1), 1, 0, 0, 0, (-1), 0, []), (2, .putfield 24, 3, 4, 4, 0, nI 0, 0, []), (5, .aload_n 0, 1, 0, 0, 0, nI 0, 0, []), (6, .iconst 0, 1, 0, 0, 0, nI 0, 0, []), (7, .putfield 28, 3, 4, 5, 0, nI 0, 0, []), (10, .aload_n 0, 1, 0, 0, 0, nI 0, 0, []), (11, .iconst 0, 1, 0, 0, 0, nI 0, 0, []), (12, .putfield 31, 3, 4, 6, 0, nI 0, 0, []), (15, .aload_n 0, 1, 0, 0, 0, nI 0, 0, [])],
  [(16, .iconst 0, 1, 0, 0, 0, nI 0, 0, []), (17, .putfield 34, 3, 4, 7, 0, nI 0, 0, []), (20, .aload_n 0, 1, 0, 0, 0, nI 0, 0, []), (21, .iconst 0, 1, 0, 0, 0, nI 0, 0, []), (22, .putfield 37, 3, 4, 8, 0, nI 0, 0, []), (25, .return_, 1, 0, 0, 0, nI 0, 0, [])]]
def md_X4_clear : MD := (4, yX4_clear, cX4_clear, 1, none, false, rw_X4_clear)
def rw_X4_kindOfDay : List (List Row) := [[(0, .aload_n 0, 1, 0, 0, 0, nI 0, 0, []), (1, .getfield 34, 3, 4, 7, 0, nI 0, 0, []), (4, .iconst 1, 1, 0, 0, 0, nI 1, 0, []), (5, .if_icmp .ge 7, 3, 12, 0, 0, nI 0, 0, []), (8, .iconst 0, 1, 0, 0, 0, nI 0, 0, []), (9, .goto 14, 3, 23, 0, 0, nI 0, 0, []), (12, .aload_n 0, 1, 0, 0, 0, nI 0, 0, []), (13, .getfield 18, 3, 4, 2, 0, nI 0, 0, [])],
  [(16, .iload_n 1, 1, 1, 0, 0, nI 0, 0, []), (17, .aload_n 0, 1, 0, 0, 0, nI 0, 0, []), (18, .getfield 34, 3, 4, 7, 0, nI 0, 0, []), (21, .irem, 1, 0, 0, 0, nI 0, 0, []), (22, .iaload, 1, 0, 0, 0, nI 0, 0, []), (23, .ireturn, 1, 0, 0, 0, nI 0, 0, [])]]
def md_X4_kindOfDay : MD := (4, yX4_kindOfDay, cX4_kindOfDay, 2, (some .int), false, rw_X4_kindOfDay)
def rw_X5_init : List (List Row) := [[(0, .aload_n 0, 1, 0, 0, 0, nI 0, 0, []), (1, .invokespecial 3, 3, 0, 1, 1, nI 0, 0, []), (4, .aload_n 0, 1, 0, 0, 0, nI 0, 0, []), (5, .bipush 6, 2, 0, 0, 0, nI 6, 0, []), (7, .newarray .int, 2, 0, 0, 0, nI 0, 0, []), (9, .putfield 9, 3, 5, 0, 0, nI 0, 0, []), (12, .aload_n 0, 1, 0, 0, 0, nI 0, 0, []), (13, .bipush 6, 2, 0, 0, 0, nI 6, 0, []), (15, .newarray .int, 2, 0, 0, 0, nI 0, 0, [])],
  [(17, .putfield 15, 3, 5, 1, 0, nI 0, 0, []), (20, .aload_n 0, 1, 0, 0, 0, nI 0, 0, []), (21, .bipush 100, 2, 0, 0, 0, nI 100, 0, []), (23, .newarray .int, 2, 0, 0, 0, nI 0, 0, []), (25, .putfield 18, 3, 5, 2, 0, nI 0, 0, []), (28, .aload_n 0, 1, 0, 0, 0, nI 0, 0, []), (29, .iconst 0, 1, 0, 0, 0, nI 0, 0, []), (30, .putfield 21, 3, 5, 3, 0, nI 0, 0, [])],
  [(33, .return_, 1, 0, 0, 0, nI 0, 0, [])]]
def md_X5_init : MD := (5, yX5_init, cX5_init, 1, none, true, rw_X5_init)
def rw_X5_append : List (List Row) := [[(0, .aload_n 0, 1, 0, 0, 0, nI 0, 0, []), (1, .getfield 21, 3, 5, 3, 0, nI 0, 0, []), (4, .bipush 6, 2, 0, 0, 0, nI 6, 0, []), (6, .if_icmp .ge 33, 3, 39, 0, 0, nI 0, 0, []), (9, .aload_n 0, 1, 0, 0, 0, nI 0, 0, []), (10, .getfield 9, 3, 5, 0, 0, nI 0, 0, []), (13, .aload_n 0, 1, 0, 0, 0, nI 0, 0, []), (14, .getfield 21, 3, 5, 3, 0, nI 0, 0, [])],
  [(17, .iload_n 1, 1, 1, 0, 0, nI 0, 0, []), (18, .iastore, 1, 0, 0, 0, nI 0, 0, []), (19, .aload_n 0, 1, 0, 0, 0, nI 0, 0, []), (20, .getfield 15, 3, 5, 1, 0, nI 0, 0, []), (23, .aload_n 0, 1, 0, 0, 0, nI 0, 0, []), (24, .getfield 21, 3, 5, 3, 0, nI 0, 0, []), (27, .iload_n 2, 1, 2, 0, 0, nI 0, 0, []), (28, .iastore, 1, 0, 0, 0, nI 0, 0, []), (29, .aload_n 0, 1, 0, 0, 0, nI 0, 0, []), (30, .dup, 1, 0, 0, 0, nI 0, 0, []), (31, .getfield 21, 3, 5, 3, 0, nI 0, 0, [])],
  [(34, .iconst 1, 1, 0, 0, 0, nI 1, 0, []), (35, .iadd, 1, 0, 0, 0, nI 0, 0, []), (36, .putfield 21, 3, 5, 3, 0, nI 0, 0, []), (39, .aload_n 0, 1, 0, 0, 0, nI 0, 0, []), (40, .getfield 21, 3, 5, 3, 0, nI 0, 0, []), (43, .ireturn, 1, 0, 0, 0, nI 0, 0, [])]]
def md_X5_append : MD := (5, yX5_append, cX5_append, 3, (some .int), false, rw_X5_append)
def rw_X5_countFitting : List (List Row) := [[(0, .iconst 0, 1, 0, 0, 0, nI 0, 0, []), (1, .istore_n 1, 1, 1, 0, 0, nI 0, 0, []), (2, .iconst 0, 1, 0, 0, 0, nI 0, 0, []), (3, .istore_n 2, 1, 2, 0, 0, nI 0, 0, []), (4, .iload_n 2, 1, 2, 0, 0, nI 0, 0, []), (5, .bipush 100, 2, 0, 0, 0, nI 100, 0, []), (7, .if_icmp .ge 20, 3, 27, 0, 0, nI 0, 0, []), (10, .aload_n 0, 1, 0, 0, 0, nI 0, 0, []), (11, .iload_n 2, 1, 2, 0, 0, nI 0, 0, []), (12, .invokevirtual 25, 3, 24, 2, 5, nI 0, 0, []), (15, .ifCond .eq 6, 3, 21, 0, 0, nI 0, 0, [])],
  [(18, .iinc 1 1, 3, 1, 0, 0, nI 1, 0, []), (21, .iinc 2 1, 3, 2, 0, 0, nI 1, 0, []), (24, .goto (-20), 3, 4, 0, 0, nI 0, 0, []), (27, .iload_n 1, 1, 1, 0, 0, nI 0, 0, []), (28, .ireturn, 1, 0, 0, 0, nI 0, 0, [])]]
def md_X5_countFitting : MD := (5, yX5_countFitting, cX5_countFitting, 3, (some .int), false, rw_X5_countFitting)
def rw_X5_leastFitting : List (List Row) := [[(0, .iconst 0, 1, 0, 0, 0, nI 0, 0, []), (1, .istore_n 1, 1, 1, 0, 0, nI 0, 0, []), (2, .iload_n 1, 1, 1, 0, 0, nI 0, 0, []), (3, .bipush 100, 2, 0, 0, 0, nI 100, 0, []), (5, .if_icmp .ge 19, 3, 24, 0, 0, nI 0, 0, []), (8, .aload_n 0, 1, 0, 0, 0, nI 0, 0, []), (9, .iload_n 1, 1, 1, 0, 0, nI 0, 0, []), (10, .invokevirtual 25, 3, 24, 2, 5, nI 0, 0, []), (13, .ifCond .eq 5, 3, 18, 0, 0, nI 0, 0, [])],
  [(16, .iload_n 1, 1, 1, 0, 0, nI 0, 0, []), (17, .ireturn, 1, 0, 0, 0, nI 0, 0, []), (18, .iinc 1 1, 3, 1, 0, 0, nI 1, 0, []), (21, .goto (-19), 3, 2, 0, 0, nI 0, 0, []), (24, .iconst (-1), 1, 0, 0, 0, (-1), 0, []), (25, .ireturn, 1, 0, 0, 0, nI 0, 0, [])]]
def md_X5_leastFitting : MD := (5, yX5_leastFitting, cX5_leastFitting, 2, (some .int), false, rw_X5_leastFitting)
def rw_X5_bestEffort : List (List Row) := [[(0, .iconst (-1), 1, 0, 0, 0, (-1), 0, []), (1, .istore_n 1, 1, 1, 0, 0, nI 0, 0, []), (2, .aload_n 0, 1, 0, 0, 0, nI 0, 0, []), (3, .invokevirtual 29, 3, 20, 1, 5, nI 0, 0, []), (6, .istore_n 2, 1, 2, 0, 0, nI 0, 0, []), (7, .iconst 0, 1, 0, 0, 0, nI 0, 0, []), (8, .istore_n 3, 1, 3, 0, 0, nI 0, 0, []), (9, .iload_n 3, 1, 3, 0, 0, nI 0, 0, []), (10, .bipush 10, 2, 0, 0, 0, nI 10, 0, []), (12, .if_icmp .ge 27, 3, 39, 0, 0, nI 0, 0, []), (15, .aload_n 0, 1, 0, 0, 0, nI 0, 0, [])],
  [(16, .iload_n 3, 1, 3, 0, 0, nI 0, 0, []), (17, .invokevirtual 33, 3, 23, 2, 5, nI 0, 0, []), (20, .istore 4, 2, 4, 0, 0, nI 0, 0, []), (22, .iload 4, 2, 4, 0, 0, nI 0, 0, []), (24, .iload_n 2, 1, 2, 0, 0, nI 0, 0, []), (25, .if_icmp .ge 8, 3, 33, 0, 0, nI 0, 0, []), (28, .iload 4, 2, 4, 0, 0, nI 0, 0, []), (30, .istore_n 2, 1, 2, 0, 0, nI 0, 0, []), (31, .iload_n 3, 1, 3, 0, 0, nI 0, 0, [])],
  [(32, .istore_n 1, 1, 1, 0, 0, nI 0, 0, []), (33, .iinc 3 1, 3, 3, 0, 0, nI 1, 0, []), (36, .goto (-27), 3, 9, 0, 0, nI 0, 0, []), (39, .iload_n 1, 1, 1, 0, 0, nI 0, 0, []), (40, .ireturn, 1, 0, 0, 0, nI 0, 0, [])]]
def md_X5_bestEffort : MD := (5, yX5_bestEffort, cX5_bestEffort, 5, (some .int), false, rw_X5_bestEffort)
def rw_X5_greatestPart : List (List Row) := [[(0, .iconst 0, 1, 0, 0, 0, nI 0, 0, []), (1, .istore_n 2, 1, 2, 0, 0, nI 0, 0, []), (2, .iload_n 2, 1, 2, 0, 0, nI 0, 0, []), (3, .bipush 100, 2, 0, 0, 0, nI 100, 0, []), (5, .if_icmp .ge 16, 3, 21, 0, 0, nI 0, 0, []), (8, .aload_n 0, 1, 0, 0, 0, nI 0, 0, []), (9, .getfield 18, 3, 5, 2, 0, nI 0, 0, []), (12, .iload_n 2, 1, 2, 0, 0, nI 0, 0, []), (13, .iconst 0, 1, 0, 0, 0, nI 0, 0, []), (14, .iastore, 1, 0, 0, 0, nI 0, 0, []), (15, .iinc 2 1, 3, 2, 0, 0, nI 1, 0, [])],
  [(18, .goto (-16), 3, 2, 0, 0, nI 0, 0, []), (21, .iconst 0, 1, 0, 0, 0, nI 0, 0, []), (22, .istore_n 2, 1, 2, 0, 0, nI 0, 0, []), (23, .iconst 0, 1, 0, 0, 0, nI 0, 0, []), (24, .istore_n 3, 1, 3, 0, 0, nI 0, 0, []), (25, .iload_n 3, 1, 3, 0, 0, nI 0, 0, []), (26, .bipush 100, 2, 0, 0, 0, nI 100, 0, []), (28, .if_icmp .ge 47, 3, 75, 0, 0, nI 0, 0, []), (31, .aload_n 0, 1, 0, 0, 0, nI 0, 0, [])],
  [(32, .iload_n 3, 1, 3, 0, 0, nI 0, 0, []), (33, .invokevirtual 25, 3, 24, 2, 5, nI 0, 0, []), (36, .ifCond .eq 33, 3, 69, 0, 0, nI 0, 0, []), (39, .iload_n 3, 1, 3, 0, 0, nI 0, 0, []), (40, .iload_n 1, 1, 1, 0, 0, nI 0, 0, []), (41, .invokestatic 37, 3, 25, 2, 0, nI 0, 0, []), (44, .istore 4, 2, 4, 0, 0, nI 0, 0, []), (46, .aload_n 0, 1, 0, 0, 0, nI 0, 0, []), (47, .getfield 18, 3, 5, 2, 0, nI 0, 0, [])],
  [(50, .iload 4, 2, 4, 0, 0, nI 0, 0, []), (52, .dup2, 1, 0, 0, 0, nI 0, 0, []), (53, .iaload, 1, 0, 0, 0, nI 0, 0, []), (54, .iconst 1, 1, 0, 0, 0, nI 1, 0, []), (55, .iadd, 1, 0, 0, 0, nI 0, 0, []), (56, .iastore, 1, 0, 0, 0, nI 0, 0, []), (57, .iload_n 2, 1, 2, 0, 0, nI 0, 0, []), (58, .aload_n 0, 1, 0, 0, 0, nI 0, 0, []), (59, .getfield 18, 3, 5, 2, 0, nI 0, 0, []), (62, .iload 4, 2, 4, 0, 0, nI 0, 0, [])],
  [(64, .iaload, 1, 0, 0, 0, nI 0, 0, []), (65, .invokestatic 41, 3, 197, 2, 0, nI 0, 0, []), (68, .istore_n 2, 1, 2, 0, 0, nI 0, 0, []), (69, .iinc 3 1, 3, 3, 0, 0, nI 1, 0, []), (72, .goto (-47), 3, 25, 0, 0, nI 0, 0, []), (75, .iload_n 2, 1, 2, 0, 0, nI 0, 0, []), (76, .ireturn, 1, 0, 0, 0, nI 0, 0, [])]]
def md_X5_greatestPart : MD := (5, yX5_greatestPart, cX5_greatestPart, 5, (some .int), false, rw_X5_greatestPart)
def rw_X5_isFitting : List (List Row) := [[(0, .iconst 0, 1, 0, 0, 0, nI 0, 0, []), (1, .istore_n 2, 1, 2, 0, 0, nI 0, 0, []), (2, .iload_n 2, 1, 2, 0, 0, nI 0, 0, []), (3, .aload_n 0, 1, 0, 0, 0, nI 0, 0, []), (4, .getfield 21, 3, 5, 3, 0, nI 0, 0, []), (7, .if_icmp .ge 30, 3, 37, 0, 0, nI 0, 0, []), (10, .iload_n 1, 1, 1, 0, 0, nI 0, 0, []), (11, .aload_n 0, 1, 0, 0, 0, nI 0, 0, []), (12, .getfield 9, 3, 5, 0, 0, nI 0, 0, []), (15, .iload_n 2, 1, 2, 0, 0, nI 0, 0, [])],
  [(16, .iaload, 1, 0, 0, 0, nI 0, 0, []), (17, .invokestatic 37, 3, 25, 2, 0, nI 0, 0, []), (20, .aload_n 0, 1, 0, 0, 0, nI 0, 0, []), (21, .getfield 15, 3, 5, 1, 0, nI 0, 0, []), (24, .iload_n 2, 1, 2, 0, 0, nI 0, 0, []), (25, .iaload, 1, 0, 0, 0, nI 0, 0, []), (26, .if_icmp .eq 5, 3, 31, 0, 0, nI 0, 0, []), (29, .iconst 0, 1, 0, 0, 0, nI 0, 0, []), (30, .ireturn, 1, 0, 0, 0, nI 0, 0, []), (31, .iinc 2 1, 3, 2, 0, 0, nI 1, 0, [])],
  [(34, .goto (-32), 3, 2, 0, 0, nI 0, 0, []), (37, .iconst 1, 1, 0, 0, 0, nI 1, 0, []), (38, .ireturn, 1, 0, 0, 0, nI 0, 0, [])]]
def md_X5_isFitting : MD := (5, yX5_isFitting, cX5_isFitting, 3, (some .boolean), false, rw_X5_isFitting)
def rw_X5_markBy : List (List Row) := [[(0, .iload_n 0, 1, 0, 0, 0, nI 0, 0, []), (1, .bipush 10, 2, 0, 0, 0, nI 10, 0, []), (3, .idiv, 1, 0, 0, 0, nI 0, 0, []), (4, .iload_n 1, 1, 1, 0, 0, nI 0, 0, []), (5, .imul, 1, 0, 0, 0, nI 0, 0, []), (6, .iload_n 0, 1, 0, 0, 0, nI 0, 0, []), (7, .bipush 10, 2, 0, 0, 0, nI 10, 0, []), (9, .irem, 1, 0, 0, 0, nI 0, 0, []), (10, .iadd, 1, 0, 0, 0, nI 0, 0, []), (11, .ireturn, 1, 0, 0, 0, nI 0, 0, [])]]
def md_X5_markBy : MD := (5, yX5_markBy, cX5_markBy, 2, (some .int), false, rw_X5_markBy)
def rw_X6_init : List (List Row) := [[(0, .aload_n 0, 1, 0, 0, 0, nI 0, 0, []), (1, .invokespecial 3, 3, 0, 1, 1, nI 0, 0, []), (4, .aload_n 0, 1, 0, 0, 0, nI 0, 0, []), (5, .bipush 21, 2, 0, 0, 0, nI 21, 0, []), (7, .newarray .int, 2, 0, 0, 0, nI 0, 0, []), (9, .putfield 9, 3, 6, 0, 0, nI 0, 0, []), (12, .aload_n 0, 1, 0, 0, 0, nI 0, 0, []), (13, .bipush 7, 2, 0, 0, 0, nI 7, 0, []), (15, .newarray .int, 2, 0, 0, 0, nI 0, 0, [])],
  [(17, .putfield 15, 3, 6, 1, 0, nI 0, 0, []), (20, .aload_n 0, 1, 0, 0, 0, nI 0, 0, []), (21, .bipush 7, 2, 0, 0, 0, nI 7, 0, []), (23, .newarray .int, 2, 0, 0, 0, nI 0, 0, []), (25, .putfield 18, 3, 6, 2, 0, nI 0, 0, []), (28, .aload_n 0, 1, 0, 0, 0, nI 0, 0, []), (29, .bipush 7, 2, 0, 0, 0, nI 7, 0, []), (31, .newarray .int, 2, 0, 0, 0, nI 0, 0, [])],
  [(33, .putfield 21, 3, 6, 3, 0, nI 0, 0, []), (36, .aload_n 0, 1, 0, 0, 0, nI 0, 0, []), (37, .iconst 4, 1, 0, 0, 0, nI 4, 0, []), (38, .newarray .int, 2, 0, 0, 0, nI 0, 0, []), (40, .putfield 24, 3, 6, 4, 0, nI 0, 0, []), (43, .aload_n 0, 1, 0, 0, 0, nI 0, 0, []), (44, .bipush 80, 2, 0, 0, 0, nI 80, 0, []), (46, .newarray .int, 2, 0, 0, 0, nI 0, 0, [])],
  [(48, .putfield 27, 3, 6, 5, 0, nI 0, 0, []), (51, .aload_n 0, 1, 0, 0, 0, nI 0, 0, []), (52, .iconst 0, 1, 0, 0, 0, nI 0, 0, []), (53, .putfield 30, 3, 6, 6, 0, nI 0, 0, []), (56, .aload_n 0, 1, 0, 0, 0, nI 0, 0, []), (57, .iconst 0, 1, 0, 0, 0, nI 0, 0, []), (58, .putfield 34, 3, 6, 7, 0, nI 0, 0, []), (61, .aload_n 0, 1, 0, 0, 0, nI 0, 0, []), (62, .iconst 0, 1, 0, 0, 0, nI 0, 0, []), (63, .putfield 37, 3, 6, 8, 0, nI 0, 0, [])],
  [(66, .return_, 1, 0, 0, 0, nI 0, 0, [])]]
def md_X6_init : MD := (6, yX6_init, cX6_init, 1, none, true, rw_X6_init)
def rw_X6_beginIn : List (List Row) := [[(0, .aload_n 1, 1, 1, 0, 0, nI 0, 0, []), (1, .getfield 41, 3, 4, 0, 0, nI 0, 0, []), (4, .iconst 0, 1, 0, 0, 0, nI 0, 0, []), (5, .aload_n 0, 1, 0, 0, 0, nI 0, 0, []), (6, .getfield 9, 3, 6, 0, 0, nI 0, 0, []), (9, .iconst 0, 1, 0, 0, 0, nI 0, 0, []), (10, .bipush 21, 2, 0, 0, 0, nI 21, 0, []), (12, .invokestatic 44, 3, 0, 5, 1, nI 0, 0, []), (15, .iconst 0, 1, 0, 0, 0, nI 0, 0, [])],
  [(16, .istore_n 2, 1, 2, 0, 0, nI 0, 0, []), (17, .iload_n 2, 1, 2, 0, 0, nI 0, 0, []), (18, .bipush 7, 2, 0, 0, 0, nI 7, 0, []), (20, .if_icmp .ge 30, 3, 50, 0, 0, nI 0, 0, []), (23, .aload_n 0, 1, 0, 0, 0, nI 0, 0, []), (24, .getfield 15, 3, 6, 1, 0, nI 0, 0, []), (27, .iload_n 2, 1, 2, 0, 0, nI 0, 0, []), (28, .iconst 5, 1, 0, 0, 0, nI 5, 0, []), (29, .iastore, 1, 0, 0, 0, nI 0, 0, []), (30, .aload_n 0, 1, 0, 0, 0, nI 0, 0, []), (31, .getfield 18, 3, 6, 2, 0, nI 0, 0, [])],
  [(34, .iload_n 2, 1, 2, 0, 0, nI 0, 0, []), (35, .iconst 0, 1, 0, 0, 0, nI 0, 0, []), (36, .iastore, 1, 0, 0, 0, nI 0, 0, []), (37, .aload_n 0, 1, 0, 0, 0, nI 0, 0, []), (38, .getfield 21, 3, 6, 3, 0, nI 0, 0, []), (41, .iload_n 2, 1, 2, 0, 0, nI 0, 0, []), (42, .iconst 0, 1, 0, 0, 0, nI 0, 0, []), (43, .iastore, 1, 0, 0, 0, nI 0, 0, []), (44, .iinc 2 1, 3, 2, 0, 0, nI 1, 0, []), (47, .goto (-30), 3, 17, 0, 0, nI 0, 0, [])],
  [(50, .iconst 0, 1, 0, 0, 0, nI 0, 0, []), (51, .istore_n 2, 1, 2, 0, 0, nI 0, 0, []), (52, .iload_n 2, 1, 2, 0, 0, nI 0, 0, []), (53, .iconst 4, 1, 0, 0, 0, nI 4, 0, []), (54, .if_icmp .ge 16, 3, 70, 0, 0, nI 0, 0, []), (57, .aload_n 0, 1, 0, 0, 0, nI 0, 0, []), (58, .getfield 24, 3, 6, 4, 0, nI 0, 0, []), (61, .iload_n 2, 1, 2, 0, 0, nI 0, 0, []), (62, .iconst (-1), 1, 0, 0, 0, (-1), 0, []), (63, .iastore, 1, 0, 0, 0, nI 0, 0, [])],
  [(64, .iinc 2 1, 3, 2, 0, 0, nI 1, 0, []), (67, .goto (-15), 3, 52, 0, 0, nI 0, 0, []), (70, .aload_n 0, 1, 0, 0, 0, nI 0, 0, []), (71, .iconst 0, 1, 0, 0, 0, nI 0, 0, []), (72, .putfield 30, 3, 6, 6, 0, nI 0, 0, []), (75, .aload_n 0, 1, 0, 0, 0, nI 0, 0, []), (76, .iconst 0, 1, 0, 0, 0, nI 0, 0, []), (77, .putfield 34, 3, 6, 7, 0, nI 0, 0, [])],
  [(80, .aload_n 0, 1, 0, 0, 0, nI 0, 0, []), (81, .iconst 0, 1, 0, 0, 0, nI 0, 0, []), (82, .putfield 37, 3, 6, 8, 0, nI 0, 0, []), (85, .return_, 1, 0, 0, 0, nI 0, 0, [])]]
def md_X6_beginIn : MD := (6, yX6_beginIn, cX6_beginIn, 3, none, false, rw_X6_beginIn)
def rw_X6_copyFrom : List (List Row) := [[(0, .aload_n 1, 1, 1, 0, 0, nI 0, 0, []), (1, .getfield 9, 3, 6, 0, 0, nI 0, 0, []), (4, .iconst 0, 1, 0, 0, 0, nI 0, 0, []), (5, .aload_n 0, 1, 0, 0, 0, nI 0, 0, []), (6, .getfield 9, 3, 6, 0, 0, nI 0, 0, []), (9, .iconst 0, 1, 0, 0, 0, nI 0, 0, []), (10, .bipush 21, 2, 0, 0, 0, nI 21, 0, []), (12, .invokestatic 44, 3, 0, 5, 1, nI 0, 0, []), (15, .aload_n 1, 1, 1, 0, 0, nI 0, 0, [])],
  [(16, .getfield 15, 3, 6, 1, 0, nI 0, 0, []), (19, .iconst 0, 1, 0, 0, 0, nI 0, 0, []), (20, .aload_n 0, 1, 0, 0, 0, nI 0, 0, []), (21, .getfield 15, 3, 6, 1, 0, nI 0, 0, []), (24, .iconst 0, 1, 0, 0, 0, nI 0, 0, []), (25, .bipush 7, 2, 0, 0, 0, nI 7, 0, []), (27, .invokestatic 44, 3, 0, 5, 1, nI 0, 0, []), (30, .aload_n 1, 1, 1, 0, 0, nI 0, 0, []), (31, .getfield 18, 3, 6, 2, 0, nI 0, 0, [])],
  [(34, .iconst 0, 1, 0, 0, 0, nI 0, 0, []), (35, .aload_n 0, 1, 0, 0, 0, nI 0, 0, []), (36, .getfield 18, 3, 6, 2, 0, nI 0, 0, []), (39, .iconst 0, 1, 0, 0, 0, nI 0, 0, []), (40, .bipush 7, 2, 0, 0, 0, nI 7, 0, []), (42, .invokestatic 44, 3, 0, 5, 1, nI 0, 0, []), (45, .aload_n 1, 1, 1, 0, 0, nI 0, 0, []), (46, .getfield 21, 3, 6, 3, 0, nI 0, 0, [])],
  [(49, .iconst 0, 1, 0, 0, 0, nI 0, 0, []), (50, .aload_n 0, 1, 0, 0, 0, nI 0, 0, []), (51, .getfield 21, 3, 6, 3, 0, nI 0, 0, []), (54, .iconst 0, 1, 0, 0, 0, nI 0, 0, []), (55, .bipush 7, 2, 0, 0, 0, nI 7, 0, []), (57, .invokestatic 44, 3, 0, 5, 1, nI 0, 0, []), (60, .aload_n 1, 1, 1, 0, 0, nI 0, 0, []), (61, .getfield 24, 3, 6, 4, 0, nI 0, 0, [])],
  [(64, .iconst 0, 1, 0, 0, 0, nI 0, 0, []), (65, .aload_n 0, 1, 0, 0, 0, nI 0, 0, []), (66, .getfield 24, 3, 6, 4, 0, nI 0, 0, []), (69, .iconst 0, 1, 0, 0, 0, nI 0, 0, []), (70, .iconst 4, 1, 0, 0, 0, nI 4, 0, []), (71, .invokestatic 44, 3, 0, 5, 1, nI 0, 0, []), (74, .aload_n 1, 1, 1, 0, 0, nI 0, 0, []), (75, .getfield 27, 3, 6, 5, 0, nI 0, 0, []), (78, .iconst 0, 1, 0, 0, 0, nI 0, 0, []), (79, .aload_n 0, 1, 0, 0, 0, nI 0, 0, [])],
  [(80, .getfield 27, 3, 6, 5, 0, nI 0, 0, []), (83, .iconst 0, 1, 0, 0, 0, nI 0, 0, []), (84, .bipush 80, 2, 0, 0, 0, nI 80, 0, []), (86, .invokestatic 44, 3, 0, 5, 1, nI 0, 0, []), (89, .aload_n 0, 1, 0, 0, 0, nI 0, 0, []), (90, .aload_n 1, 1, 1, 0, 0, nI 0, 0, []), (91, .getfield 30, 3, 6, 6, 0, nI 0, 0, []), (94, .putfield 30, 3, 6, 6, 0, nI 0, 0, [])],
  [(97, .aload_n 0, 1, 0, 0, 0, nI 0, 0, []), (98, .aload_n 1, 1, 1, 0, 0, nI 0, 0, []), (99, .getfield 34, 3, 6, 7, 0, nI 0, 0, []), (102, .putfield 34, 3, 6, 7, 0, nI 0, 0, []), (105, .aload_n 0, 1, 0, 0, 0, nI 0, 0, []), (106, .aload_n 1, 1, 1, 0, 0, nI 0, 0, []), (107, .getfield 37, 3, 6, 8, 0, nI 0, 0, []), (110, .putfield 37, 3, 6, 8, 0, nI 0, 0, [])],
  [(113, .return_, 1, 0, 0, 0, nI 0, 0, [])]]
def md_X6_copyFrom : MD := (6, yX6_copyFrom, cX6_copyFrom, 2, none, false, rw_X6_copyFrom)
def rw_X6_giftOf : List (List Row) := [[(0, .aload_n 0, 1, 0, 0, 0, nI 0, 0, []), (1, .getfield 9, 3, 6, 0, 0, nI 0, 0, []), (4, .iload_n 1, 1, 1, 0, 0, nI 0, 0, []), (5, .iconst 3, 1, 0, 0, 0, nI 3, 0, []), (6, .imul, 1, 0, 0, 0, nI 0, 0, []), (7, .iload_n 2, 1, 2, 0, 0, nI 0, 0, []), (8, .iadd, 1, 0, 0, 0, nI 0, 0, []), (9, .iaload, 1, 0, 0, 0, nI 0, 0, []), (10, .ireturn, 1, 0, 0, 0, nI 0, 0, [])]]
def md_X6_giftOf : MD := (6, yX6_giftOf, cX6_giftOf, 3, (some .int), false, rw_X6_giftOf)
def rw_X6_setGift : List (List Row) := [[(0, .aload_n 0, 1, 0, 0, 0, nI 0, 0, []), (1, .getfield 9, 3, 6, 0, 0, nI 0, 0, []), (4, .iload_n 1, 1, 1, 0, 0, nI 0, 0, []), (5, .iconst 3, 1, 0, 0, 0, nI 3, 0, []), (6, .imul, 1, 0, 0, 0, nI 0, 0, []), (7, .iload_n 2, 1, 2, 0, 0, nI 0, 0, []), (8, .iadd, 1, 0, 0, 0, nI 0, 0, []), (9, .iload_n 3, 1, 3, 0, 0, nI 0, 0, []), (10, .iastore, 1, 0, 0, 0, nI 0, 0, []), (11, .return_, 1, 0, 0, 0, nI 0, 0, [])]]
def md_X6_setGift : MD := (6, yX6_setGift, cX6_setGift, 4, none, false, rw_X6_setGift)
def rw_X6_isAtCourt : List (List Row) := [[(0, .aload_n 0, 1, 0, 0, 0, nI 0, 0, []), (1, .getfield 18, 3, 6, 2, 0, nI 0, 0, []), (4, .iload_n 1, 1, 1, 0, 0, nI 0, 0, []), (5, .iaload, 1, 0, 0, 0, nI 0, 0, []), (6, .ifCond .ne 7, 3, 13, 0, 0, nI 0, 0, []), (9, .iconst 1, 1, 0, 0, 0, nI 1, 0, []), (10, .goto 4, 3, 14, 0, 0, nI 0, 0, []), (13, .iconst 0, 1, 0, 0, 0, nI 0, 0, []), (14, .ireturn, 1, 0, 0, 0, nI 0, 0, [])]]
def md_X6_isAtCourt : MD := (6, yX6_isAtCourt, cX6_isAtCourt, 2, (some .boolean), false, rw_X6_isAtCourt)
def rw_X6_courtOf : List (List Row) := [[(0, .iconst 0, 1, 0, 0, 0, nI 0, 0, []), (1, .istore_n 2, 1, 2, 0, 0, nI 0, 0, []), (2, .iconst 0, 1, 0, 0, 0, nI 0, 0, []), (3, .istore_n 3, 1, 3, 0, 0, nI 0, 0, []), (4, .iload_n 3, 1, 3, 0, 0, nI 0, 0, []), (5, .aload_n 1, 1, 1, 0, 0, nI 0, 0, []), (6, .getfield 50, 3, 4, 6, 0, nI 0, 0, []), (9, .if_icmp .ge 23, 3, 32, 0, 0, nI 0, 0, []), (12, .aload_n 0, 1, 0, 0, 0, nI 0, 0, []), (13, .iload_n 3, 1, 3, 0, 0, nI 0, 0, []), (14, .invokevirtual 53, 3, 31, 2, 6, nI 0, 0, [])],
  [(17, .ifCond .eq 9, 3, 26, 0, 0, nI 0, 0, []), (20, .iload_n 2, 1, 2, 0, 0, nI 0, 0, []), (21, .iconst 1, 1, 0, 0, 0, nI 1, 0, []), (22, .iload_n 3, 1, 3, 0, 0, nI 0, 0, []), (23, .ishl, 1, 0, 0, 0, nI 0, 0, []), (24, .ior, 1, 0, 0, 0, nI 0, 0, []), (25, .istore_n 2, 1, 2, 0, 0, nI 0, 0, []), (26, .iinc 3 1, 3, 3, 0, 0, nI 1, 0, []), (29, .goto (-25), 3, 4, 0, 0, nI 0, 0, [])],
  [(32, .iload_n 2, 1, 2, 0, 0, nI 0, 0, []), (33, .ireturn, 1, 0, 0, 0, nI 0, 0, [])]]
def md_X6_courtOf : MD := (6, yX6_courtOf, cX6_courtOf, 4, (some .int), false, rw_X6_courtOf)
def rw_X6_officesOf : List (List Row) := [[(0, .iconst 0, 1, 0, 0, 0, nI 0, 0, []), (1, .istore_n 3, 1, 3, 0, 0, nI 0, 0, []), (2, .iconst 0, 1, 0, 0, 0, nI 0, 0, []), (3, .istore 4, 2, 4, 0, 0, nI 0, 0, []), (5, .iload 4, 2, 4, 0, 0, nI 0, 0, []), (7, .aload_n 1, 1, 1, 0, 0, nI 0, 0, []), (8, .getfield 57, 3, 4, 8, 0, nI 0, 0, []), (11, .if_icmp .ge 27, 3, 38, 0, 0, nI 0, 0, []), (14, .aload_n 0, 1, 0, 0, 0, nI 0, 0, []), (15, .getfield 24, 3, 6, 4, 0, nI 0, 0, [])],
  [(18, .iload 4, 2, 4, 0, 0, nI 0, 0, []), (20, .iaload, 1, 0, 0, 0, nI 0, 0, []), (21, .iload_n 2, 1, 2, 0, 0, nI 0, 0, []), (22, .if_icmp .ne 10, 3, 32, 0, 0, nI 0, 0, []), (25, .iload_n 3, 1, 3, 0, 0, nI 0, 0, []), (26, .iconst 1, 1, 0, 0, 0, nI 1, 0, []), (27, .iload 4, 2, 4, 0, 0, nI 0, 0, []), (29, .ishl, 1, 0, 0, 0, nI 0, 0, []), (30, .ior, 1, 0, 0, 0, nI 0, 0, []), (31, .istore_n 3, 1, 3, 0, 0, nI 0, 0, [])],
  [(32, .iinc 4 1, 3, 4, 0, 0, nI 1, 0, []), (35, .goto (-30), 3, 5, 0, 0, nI 0, 0, []), (38, .iload_n 3, 1, 3, 0, 0, nI 0, 0, []), (39, .ireturn, 1, 0, 0, 0, nI 0, 0, [])]]
def md_X6_officesOf : MD := (6, yX6_officesOf, cX6_officesOf, 5, (some .int), false, rw_X6_officesOf)
def rw_X6_markOf : List (List Row) := [[(0, .aload_n 1, 1, 1, 0, 0, nI 0, 0, []), (1, .getfield 60, 3, 4, 1, 0, nI 0, 0, []), (4, .iload_n 2, 1, 2, 0, 0, nI 0, 0, []), (5, .iaload, 1, 0, 0, 0, nI 0, 0, []), (6, .istore 4, 2, 4, 0, 0, nI 0, 0, []), (8, .aload_n 0, 1, 0, 0, 0, nI 0, 0, []), (9, .iload_n 2, 1, 2, 0, 0, nI 0, 0, []), (10, .iload_n 3, 1, 3, 0, 0, nI 0, 0, []), (11, .invokevirtual 63, 3, 29, 3, 6, nI 0, 0, []), (14, .aload_n 0, 1, 0, 0, 0, nI 0, 0, []), (15, .getfield 15, 3, 6, 1, 0, nI 0, 0, [])],
  [(18, .iload_n 2, 1, 2, 0, 0, nI 0, 0, []), (19, .iaload, 1, 0, 0, 0, nI 0, 0, []), (20, .imul, 1, 0, 0, 0, nI 0, 0, []), (21, .aload_n 0, 1, 0, 0, 0, nI 0, 0, []), (22, .getfield 37, 3, 6, 8, 0, nI 0, 0, []), (25, .ifCond .eq 10, 3, 35, 0, 0, nI 0, 0, []), (28, .iload 4, 2, 4, 0, 0, nI 0, 0, []), (30, .iconst 2, 1, 0, 0, 0, nI 2, 0, []), (31, .idiv, 1, 0, 0, 0, nI 0, 0, [])],
  [(32, .goto 5, 3, 37, 0, 0, nI 0, 0, []), (35, .iload 4, 2, 4, 0, 0, nI 0, 0, []), (37, .iadd, 1, 0, 0, 0, nI 0, 0, []), (38, .ireturn, 1, 0, 0, 0, nI 0, 0, [])]]
def md_X6_markOf : MD := (6, yX6_markOf, cX6_markOf, 5, (some .int), false, rw_X6_markOf)
def rw_X6_toCoast : List (List Row) := [[(0, .aload_n 0, 1, 0, 0, 0, nI 0, 0, []), (1, .getfield 18, 3, 6, 2, 0, nI 0, 0, []), (4, .iload_n 2, 1, 2, 0, 0, nI 0, 0, []), (5, .aload_n 1, 1, 1, 0, 0, nI 0, 0, []), (6, .getfield 67, 3, 4, 5, 0, nI 0, 0, []), (9, .iastore, 1, 0, 0, 0, nI 0, 0, []), (10, .iconst 0, 1, 0, 0, 0, nI 0, 0, []), (11, .istore_n 3, 1, 3, 0, 0, nI 0, 0, []), (12, .iload_n 3, 1, 3, 0, 0, nI 0, 0, []), (13, .aload_n 1, 1, 1, 0, 0, nI 0, 0, []), (14, .getfield 57, 3, 4, 8, 0, nI 0, 0, [])],
  [(17, .if_icmp .ge 26, 3, 43, 0, 0, nI 0, 0, []), (20, .aload_n 0, 1, 0, 0, 0, nI 0, 0, []), (21, .getfield 24, 3, 6, 4, 0, nI 0, 0, []), (24, .iload_n 3, 1, 3, 0, 0, nI 0, 0, []), (25, .iaload, 1, 0, 0, 0, nI 0, 0, []), (26, .iload_n 2, 1, 2, 0, 0, nI 0, 0, []), (27, .if_icmp .ne 10, 3, 37, 0, 0, nI 0, 0, []), (30, .aload_n 0, 1, 0, 0, 0, nI 0, 0, []), (31, .getfield 24, 3, 6, 4, 0, nI 0, 0, [])],
  [(34, .iload_n 3, 1, 3, 0, 0, nI 0, 0, []), (35, .iconst (-1), 1, 0, 0, 0, (-1), 0, []), (36, .iastore, 1, 0, 0, 0, nI 0, 0, []), (37, .iinc 3 1, 3, 3, 0, 0, nI 1, 0, []), (40, .goto (-28), 3, 12, 0, 0, nI 0, 0, []), (43, .return_, 1, 0, 0, 0, nI 0, 0, [])]]
def md_X6_toCoast : MD := (6, yX6_toCoast, cX6_toCoast, 4, none, false, rw_X6_toCoast)
def rw_X6_passDay : List (List Row) := [[(0, .aload_n 1, 1, 1, 0, 0, nI 0, 0, []), (1, .aload_n 0, 1, 0, 0, 0, nI 0, 0, []), (2, .getfield 34, 3, 6, 7, 0, nI 0, 0, []), (5, .invokevirtual 70, 3, 17, 2, 4, nI 0, 0, []), (8, .istore_n 3, 1, 3, 0, 0, nI 0, 0, []), (9, .aload_n 0, 1, 0, 0, 0, nI 0, 0, []), (10, .aload_n 1, 1, 1, 0, 0, nI 0, 0, []), (11, .invokevirtual 74, 3, 32, 2, 6, nI 0, 0, []), (14, .istore 4, 2, 4, 0, 0, nI 0, 0, [])],
  [(16, .iload 4, 2, 4, 0, 0, nI 0, 0, []), (18, .ifCond .eq 17, 3, 35, 0, 0, nI 0, 0, []), (21, .aload_n 2, 1, 2, 0, 0, nI 0, 0, []), (22, .aload_n 1, 1, 1, 0, 0, nI 0, 0, []), (23, .aload_n 0, 1, 0, 0, 0, nI 0, 0, []), (24, .iload_n 3, 1, 3, 0, 0, nI 0, 0, []), (25, .invokevirtual 78, 3, 4, 4, 1, nI 0, 0, []), (28, .aload_n 0, 1, 0, 0, 0, nI 0, 0, []), (29, .aload_n 1, 1, 1, 0, 0, nI 0, 0, []), (30, .aload_n 2, 1, 2, 0, 0, nI 0, 0, []), (31, .iload_n 3, 1, 3, 0, 0, nI 0, 0, [])],
  [(32, .invokevirtual 84, 3, 37, 4, 6, nI 0, 0, []), (35, .iconst 0, 1, 0, 0, 0, nI 0, 0, []), (36, .istore 5, 2, 5, 0, 0, nI 0, 0, []), (38, .iload 5, 2, 5, 0, 0, nI 0, 0, []), (40, .aload_n 1, 1, 1, 0, 0, nI 0, 0, []), (41, .getfield 50, 3, 4, 6, 0, nI 0, 0, []), (44, .if_icmp .ge 30, 3, 74, 0, 0, nI 0, 0, []), (47, .iload 4, 2, 4, 0, 0, nI 0, 0, [])],
  [(49, .iload 5, 2, 5, 0, 0, nI 0, 0, []), (51, .ishr, 1, 0, 0, 0, nI 0, 0, []), (52, .iconst 1, 1, 0, 0, 0, nI 1, 0, []), (53, .iand, 1, 0, 0, 0, nI 0, 0, []), (54, .ifCond .ne 14, 3, 68, 0, 0, nI 0, 0, []), (57, .aload_n 0, 1, 0, 0, 0, nI 0, 0, []), (58, .getfield 18, 3, 6, 2, 0, nI 0, 0, []), (61, .iload 5, 2, 5, 0, 0, nI 0, 0, []), (63, .dup2, 1, 0, 0, 0, nI 0, 0, [])],
  [(64, .iaload, 1, 0, 0, 0, nI 0, 0, []), (65, .iconst 1, 1, 0, 0, 0, nI 1, 0, []), (66, .isub, 1, 0, 0, 0, nI 0, 0, []), (67, .iastore, 1, 0, 0, 0, nI 0, 0, []), (68, .iinc 5 1, 3, 5, 0, 0, nI 1, 0, []), (71, .goto (-33), 3, 38, 0, 0, nI 0, 0, []), (74, .aload_n 0, 1, 0, 0, 0, nI 0, 0, []), (75, .dup, 1, 0, 0, 0, nI 0, 0, []), (76, .getfield 34, 3, 6, 7, 0, nI 0, 0, []), (79, .iconst 1, 1, 0, 0, 0, nI 1, 0, [])],
  [(80, .iadd, 1, 0, 0, 0, nI 0, 0, []), (81, .putfield 34, 3, 6, 7, 0, nI 0, 0, []), (84, .return_, 1, 0, 0, 0, nI 0, 0, [])]]
def md_X6_passDay : MD := (6, yX6_passDay, cX6_passDay, 6, none, false, rw_X6_passDay)
def rw_X6_settle : List (List Row) := [[(0, .iconst 0, 1, 0, 0, 0, nI 0, 0, []), (1, .istore 4, 2, 4, 0, 0, nI 0, 0, []), (3, .iload 4, 2, 4, 0, 0, nI 0, 0, []), (5, .aload_n 1, 1, 1, 0, 0, nI 0, 0, []), (6, .getfield 50, 3, 4, 6, 0, nI 0, 0, []), (9, .if_icmp .ge 25, 3, 34, 0, 0, nI 0, 0, []), (12, .aload_n 2, 1, 2, 0, 0, nI 0, 0, []), (13, .iload 4, 2, 4, 0, 0, nI 0, 0, []), (15, .invokevirtual 88, 3, 5, 2, 1, nI 0, 0, [])],
  [(18, .ifCond .eq 10, 3, 28, 0, 0, nI 0, 0, []), (21, .aload_n 0, 1, 0, 0, 0, nI 0, 0, []), (22, .aload_n 1, 1, 1, 0, 0, nI 0, 0, []), (23, .iload 4, 2, 4, 0, 0, nI 0, 0, []), (25, .invokevirtual 91, 3, 35, 3, 6, nI 0, 0, []), (28, .iinc 4 1, 3, 4, 0, 0, nI 1, 0, []), (31, .goto (-28), 3, 3, 0, 0, nI 0, 0, [])],
  [(34, .aload_n 2, 1, 2, 0, 0, nI 0, 0, []), (35, .getfield 95, 3, 1, 3, 0, nI 0, 0, []), (38, .iconst (-1), 1, 0, 0, 0, (-1), 0, []), (39, .if_icmp .eq 13, 3, 52, 0, 0, nI 0, 0, []), (42, .aload_n 0, 1, 0, 0, 0, nI 0, 0, []), (43, .aload_n 1, 1, 1, 0, 0, nI 0, 0, []), (44, .aload_n 2, 1, 2, 0, 0, nI 0, 0, []), (45, .getfield 95, 3, 1, 3, 0, nI 0, 0, [])],
  [(48, .iload_n 3, 1, 3, 0, 0, nI 0, 0, []), (49, .invokevirtual 98, 3, 38, 4, 6, nI 0, 0, []), (52, .aload_n 0, 1, 0, 0, 0, nI 0, 0, []), (53, .iload_n 3, 1, 3, 0, 0, nI 0, 0, []), (54, .aload_n 2, 1, 2, 0, 0, nI 0, 0, []), (55, .invokevirtual 102, 3, 39, 3, 6, nI 0, 0, []), (58, .return_, 1, 0, 0, 0, nI 0, 0, [])]]
def md_X6_settle : MD := (6, yX6_settle, cX6_settle, 5, none, false, rw_X6_settle)
def rw_X6_promote : List (List Row) := [[(0, .iconst 0, 1, 0, 0, 0, nI 0, 0, []), (1, .istore 4, 2, 4, 0, 0, nI 0, 0, []), (3, .iload 4, 2, 4, 0, 0, nI 0, 0, []), (5, .aload_n 1, 1, 1, 0, 0, nI 0, 0, []), (6, .getfield 57, 3, 4, 8, 0, nI 0, 0, []), (9, .if_icmp .ge 28, 3, 37, 0, 0, nI 0, 0, []), (12, .aload_n 1, 1, 1, 0, 0, nI 0, 0, []), (13, .getfield 106, 3, 4, 3, 0, nI 0, 0, [])],
  [(16, .iload 4, 2, 4, 0, 0, nI 0, 0, []), (18, .iaload, 1, 0, 0, 0, nI 0, 0, []), (19, .iload_n 3, 1, 3, 0, 0, nI 0, 0, []), (20, .if_icmp .ne 11, 3, 31, 0, 0, nI 0, 0, []), (23, .aload_n 0, 1, 0, 0, 0, nI 0, 0, []), (24, .getfield 24, 3, 6, 4, 0, nI 0, 0, []), (27, .iload 4, 2, 4, 0, 0, nI 0, 0, []), (29, .iload_n 2, 1, 2, 0, 0, nI 0, 0, []), (30, .iastore, 1, 0, 0, 0, nI 0, 0, []), (31, .iinc 4 1, 3, 4, 0, 0, nI 1, 0, [])],
  [(34, .goto (-31), 3, 3, 0, 0, nI 0, 0, []), (37, .aload_n 0, 1, 0, 0, 0, nI 0, 0, []), (38, .getfield 21, 3, 6, 3, 0, nI 0, 0, []), (41, .iload_n 2, 1, 2, 0, 0, nI 0, 0, []), (42, .dup2, 1, 0, 0, 0, nI 0, 0, []), (43, .iaload, 1, 0, 0, 0, nI 0, 0, []), (44, .iconst 1, 1, 0, 0, 0, nI 1, 0, []), (45, .iadd, 1, 0, 0, 0, nI 0, 0, []), (46, .iastore, 1, 0, 0, 0, nI 0, 0, []), (47, .aload_n 0, 1, 0, 0, 0, nI 0, 0, [])],
  [(48, .iload_n 2, 1, 2, 0, 0, nI 0, 0, []), (49, .iload_n 3, 1, 3, 0, 0, nI 0, 0, []), (50, .iconst 0, 1, 0, 0, 0, nI 0, 0, []), (51, .aload_n 0, 1, 0, 0, 0, nI 0, 0, []), (52, .iload_n 2, 1, 2, 0, 0, nI 0, 0, []), (53, .iload_n 3, 1, 3, 0, 0, nI 0, 0, []), (54, .invokevirtual 63, 3, 29, 3, 6, nI 0, 0, []), (57, .iconst 1, 1, 0, 0, 0, nI 1, 0, []), (58, .isub, 1, 0, 0, 0, nI 0, 0, []), (59, .invokestatic 109, 3, 197, 2, 0, nI 0, 0, []), (62, .invokevirtual 114, 3, 30, 4, 6, nI 0, 0, [])],
  [(65, .return_, 1, 0, 0, 0, nI 0, 0, [])]]
def md_X6_promote : MD := (6, yX6_promote, cX6_promote, 5, none, false, rw_X6_promote)
def rw_X6_logContest : List (List Row) := [[(0, .aload_n 0, 1, 0, 0, 0, nI 0, 0, []), (1, .getfield 30, 3, 6, 6, 0, nI 0, 0, []), (4, .bipush 20, 2, 0, 0, 0, nI 20, 0, []), (6, .irem, 1, 0, 0, 0, nI 0, 0, []), (7, .iconst 4, 1, 0, 0, 0, nI 4, 0, []), (8, .imul, 1, 0, 0, 0, nI 0, 0, []), (9, .istore_n 3, 1, 3, 0, 0, nI 0, 0, []), (10, .aload_n 0, 1, 0, 0, 0, nI 0, 0, []), (11, .getfield 27, 3, 6, 5, 0, nI 0, 0, []), (14, .iload_n 3, 1, 3, 0, 0, nI 0, 0, []), (15, .aload_n 0, 1, 0, 0, 0, nI 0, 0, [])],
  [(16, .getfield 34, 3, 6, 7, 0, nI 0, 0, []), (19, .iastore, 1, 0, 0, 0, nI 0, 0, []), (20, .aload_n 0, 1, 0, 0, 0, nI 0, 0, []), (21, .getfield 27, 3, 6, 5, 0, nI 0, 0, []), (24, .iload_n 3, 1, 3, 0, 0, nI 0, 0, []), (25, .iconst 1, 1, 0, 0, 0, nI 1, 0, []), (26, .iadd, 1, 0, 0, 0, nI 0, 0, []), (27, .iload_n 1, 1, 1, 0, 0, nI 0, 0, []), (28, .iastore, 1, 0, 0, 0, nI 0, 0, []), (29, .aload_n 0, 1, 0, 0, 0, nI 0, 0, []), (30, .getfield 27, 3, 6, 5, 0, nI 0, 0, [])],
  [(33, .iload_n 3, 1, 3, 0, 0, nI 0, 0, []), (34, .iconst 2, 1, 0, 0, 0, nI 2, 0, []), (35, .iadd, 1, 0, 0, 0, nI 0, 0, []), (36, .aload_n 2, 1, 2, 0, 0, nI 0, 0, []), (37, .getfield 118, 3, 1, 2, 0, nI 0, 0, []), (40, .iastore, 1, 0, 0, 0, nI 0, 0, []), (41, .aload_n 0, 1, 0, 0, 0, nI 0, 0, []), (42, .getfield 27, 3, 6, 5, 0, nI 0, 0, []), (45, .iload_n 3, 1, 3, 0, 0, nI 0, 0, []), (46, .iconst 3, 1, 0, 0, 0, nI 3, 0, []), (47, .iadd, 1, 0, 0, 0, nI 0, 0, [])],
  [(48, .aload_n 2, 1, 2, 0, 0, nI 0, 0, []), (49, .getfield 95, 3, 1, 3, 0, nI 0, 0, []), (52, .iastore, 1, 0, 0, 0, nI 0, 0, []), (53, .aload_n 0, 1, 0, 0, 0, nI 0, 0, []), (54, .dup, 1, 0, 0, 0, nI 0, 0, []), (55, .getfield 30, 3, 6, 6, 0, nI 0, 0, []), (58, .iconst 1, 1, 0, 0, 0, nI 1, 0, []), (59, .iadd, 1, 0, 0, 0, nI 0, 0, []), (60, .putfield 30, 3, 6, 6, 0, nI 0, 0, []), (63, .return_, 1, 0, 0, 0, nI 0, 0, [])]]
def md_X6_logContest : MD := (6, yX6_logContest, cX6_logContest, 4, none, false, rw_X6_logContest)
def rw_X6_logSize : List (List Row) := [[(0, .aload_n 0, 1, 0, 0, 0, nI 0, 0, []), (1, .getfield 30, 3, 6, 6, 0, nI 0, 0, []), (4, .bipush 20, 2, 0, 0, 0, nI 20, 0, []), (6, .invokestatic 121, 3, 198, 2, 0, nI 0, 0, []), (9, .ireturn, 1, 0, 0, 0, nI 0, 0, [])]]
def md_X6_logSize : MD := (6, yX6_logSize, cX6_logSize, 1, (some .int), false, rw_X6_logSize)
def rw_X6_logEntry : List (List Row) := [[(0, .iload_n 1, 1, 1, 0, 0, nI 0, 0, []), (1, .ifCond .lt 11, 3, 12, 0, 0, nI 0, 0, []), (4, .iload_n 1, 1, 1, 0, 0, nI 0, 0, []), (5, .aload_n 0, 1, 0, 0, 0, nI 0, 0, []), (6, .invokevirtual 124, 3, 40, 1, 6, nI 0, 0, []), (9, .if_icmp .lt 5, 3, 14, 0, 0, nI 0, 0, []), (12, .iconst (-1), 1, 0, 0, 0, (-1), 0, []), (13, .ireturn, 1, 0, 0, 0, nI 0, 0, []), (14, .aload_n 0, 1, 0, 0, 0, nI 0, 0, []), (15, .getfield 27, 3, 6, 5, 0, nI 0, 0, [])],
  [(18, .aload_n 0, 1, 0, 0, 0, nI 0, 0, []), (19, .getfield 30, 3, 6, 6, 0, nI 0, 0, []), (22, .iconst 1, 1, 0, 0, 0, nI 1, 0, []), (23, .isub, 1, 0, 0, 0, nI 0, 0, []), (24, .iload_n 1, 1, 1, 0, 0, nI 0, 0, []), (25, .isub, 1, 0, 0, 0, nI 0, 0, []), (26, .bipush 20, 2, 0, 0, 0, nI 20, 0, []), (28, .irem, 1, 0, 0, 0, nI 0, 0, []), (29, .iconst 4, 1, 0, 0, 0, nI 4, 0, []), (30, .imul, 1, 0, 0, 0, nI 0, 0, []), (31, .iload_n 2, 1, 2, 0, 0, nI 0, 0, [])],
  [(32, .iadd, 1, 0, 0, 0, nI 0, 0, []), (33, .iaload, 1, 0, 0, 0, nI 0, 0, []), (34, .ireturn, 1, 0, 0, 0, nI 0, 0, [])]]
def md_X6_logEntry : MD := (6, yX6_logEntry, cX6_logEntry, 3, (some .int), false, rw_X6_logEntry)
def rw_X6_nearlyOf : List (List Row) := [[(0, .iconst (-1), 1, 0, 0, 0, (-1), 0, []), (1, .istore_n 2, 1, 2, 0, 0, nI 0, 0, []), (2, .iconst (-1), 1, 0, 0, 0, (-1), 0, []), (3, .istore_n 3, 1, 3, 0, 0, nI 0, 0, []), (4, .iconst 0, 1, 0, 0, 0, nI 0, 0, []), (5, .istore 4, 2, 4, 0, 0, nI 0, 0, []), (7, .iload 4, 2, 4, 0, 0, nI 0, 0, []), (9, .aload_n 1, 1, 1, 0, 0, nI 0, 0, []), (10, .getfield 50, 3, 4, 6, 0, nI 0, 0, []), (13, .if_icmp .ge 62, 3, 75, 0, 0, nI 0, 0, [])],
  [(16, .iload_n 2, 1, 2, 0, 0, nI 0, 0, []), (17, .iconst (-1), 1, 0, 0, 0, (-1), 0, []), (18, .if_icmp .eq 19, 3, 37, 0, 0, nI 0, 0, []), (21, .aload_n 0, 1, 0, 0, 0, nI 0, 0, []), (22, .getfield 21, 3, 6, 3, 0, nI 0, 0, []), (25, .iload 4, 2, 4, 0, 0, nI 0, 0, []), (27, .iaload, 1, 0, 0, 0, nI 0, 0, []), (28, .aload_n 0, 1, 0, 0, 0, nI 0, 0, []), (29, .getfield 21, 3, 6, 3, 0, nI 0, 0, [])],
  [(32, .iload_n 2, 1, 2, 0, 0, nI 0, 0, []), (33, .iaload, 1, 0, 0, 0, nI 0, 0, []), (34, .if_icmp .le 11, 3, 45, 0, 0, nI 0, 0, []), (37, .iload_n 2, 1, 2, 0, 0, nI 0, 0, []), (38, .istore_n 3, 1, 3, 0, 0, nI 0, 0, []), (39, .iload 4, 2, 4, 0, 0, nI 0, 0, []), (41, .istore_n 2, 1, 2, 0, 0, nI 0, 0, []), (42, .goto 27, 3, 69, 0, 0, nI 0, 0, []), (45, .iload_n 3, 1, 3, 0, 0, nI 0, 0, []), (46, .iconst (-1), 1, 0, 0, 0, (-1), 0, []), (47, .if_icmp .eq 19, 3, 66, 0, 0, nI 0, 0, [])],
  [(50, .aload_n 0, 1, 0, 0, 0, nI 0, 0, []), (51, .getfield 21, 3, 6, 3, 0, nI 0, 0, []), (54, .iload 4, 2, 4, 0, 0, nI 0, 0, []), (56, .iaload, 1, 0, 0, 0, nI 0, 0, []), (57, .aload_n 0, 1, 0, 0, 0, nI 0, 0, []), (58, .getfield 21, 3, 6, 3, 0, nI 0, 0, []), (61, .iload_n 3, 1, 3, 0, 0, nI 0, 0, []), (62, .iaload, 1, 0, 0, 0, nI 0, 0, []), (63, .if_icmp .le 6, 3, 69, 0, 0, nI 0, 0, [])],
  [(66, .iload 4, 2, 4, 0, 0, nI 0, 0, []), (68, .istore_n 3, 1, 3, 0, 0, nI 0, 0, []), (69, .iinc 4 1, 3, 4, 0, 0, nI 1, 0, []), (72, .goto (-65), 3, 7, 0, 0, nI 0, 0, []), (75, .iload_n 3, 1, 3, 0, 0, nI 0, 0, []), (76, .ireturn, 1, 0, 0, 0, nI 0, 0, [])]]
def md_X6_nearlyOf : MD := (6, yX6_nearlyOf, cX6_nearlyOf, 5, (some .int), false, rw_X6_nearlyOf)
def rw_X6_hasMoreGifts : List (List Row) := [[(0, .iconst 0, 1, 0, 0, 0, nI 0, 0, []), (1, .istore_n 3, 1, 3, 0, 0, nI 0, 0, []), (2, .iconst 0, 1, 0, 0, 0, nI 0, 0, []), (3, .istore 4, 2, 4, 0, 0, nI 0, 0, []), (5, .iload 4, 2, 4, 0, 0, nI 0, 0, []), (7, .iconst 3, 1, 0, 0, 0, nI 3, 0, []), (8, .if_icmp .ge 29, 3, 37, 0, 0, nI 0, 0, []), (11, .iload_n 3, 1, 3, 0, 0, nI 0, 0, []), (12, .aload_n 0, 1, 0, 0, 0, nI 0, 0, []), (13, .iload_n 1, 1, 1, 0, 0, nI 0, 0, []), (14, .iload 4, 2, 4, 0, 0, nI 0, 0, [])],
  [(16, .invokevirtual 63, 3, 29, 3, 6, nI 0, 0, []), (19, .aload_n 0, 1, 0, 0, 0, nI 0, 0, []), (20, .iload_n 2, 1, 2, 0, 0, nI 0, 0, []), (21, .iload 4, 2, 4, 0, 0, nI 0, 0, []), (23, .invokevirtual 63, 3, 29, 3, 6, nI 0, 0, []), (26, .invokestatic 128, 3, 195, 2, 0, nI 0, 0, []), (29, .iadd, 1, 0, 0, 0, nI 0, 0, []), (30, .istore_n 3, 1, 3, 0, 0, nI 0, 0, []), (31, .iinc 4 1, 3, 4, 0, 0, nI 1, 0, [])],
  [(34, .goto (-29), 3, 5, 0, 0, nI 0, 0, []), (37, .iload_n 3, 1, 3, 0, 0, nI 0, 0, []), (38, .ifCond .le 7, 3, 45, 0, 0, nI 0, 0, []), (41, .iconst 1, 1, 0, 0, 0, nI 1, 0, []), (42, .goto 4, 3, 46, 0, 0, nI 0, 0, []), (45, .iconst 0, 1, 0, 0, 0, nI 0, 0, []), (46, .ireturn, 1, 0, 0, 0, nI 0, 0, [])]]
def md_X6_hasMoreGifts : MD := (6, yX6_hasMoreGifts, cX6_hasMoreGifts, 5, (some .boolean), false, rw_X6_hasMoreGifts)
def rw_X6_isRing : List (List Row) := [[(0, .aload_n 0, 1, 0, 0, 0, nI 0, 0, []), (1, .iload_n 1, 1, 1, 0, 0, nI 0, 0, []), (2, .iload_n 2, 1, 2, 0, 0, nI 0, 0, []), (3, .invokevirtual 133, 3, 43, 3, 6, nI 0, 0, []), (6, .ifCond .eq 25, 3, 31, 0, 0, nI 0, 0, []), (9, .aload_n 0, 1, 0, 0, 0, nI 0, 0, []), (10, .iload_n 2, 1, 2, 0, 0, nI 0, 0, []), (11, .iload_n 3, 1, 3, 0, 0, nI 0, 0, []), (12, .invokevirtual 133, 3, 43, 3, 6, nI 0, 0, []), (15, .ifCond .eq 16, 3, 31, 0, 0, nI 0, 0, [])],
  [(18, .aload_n 0, 1, 0, 0, 0, nI 0, 0, []), (19, .iload_n 3, 1, 3, 0, 0, nI 0, 0, []), (20, .iload_n 1, 1, 1, 0, 0, nI 0, 0, []), (21, .invokevirtual 133, 3, 43, 3, 6, nI 0, 0, []), (24, .ifCond .eq 7, 3, 31, 0, 0, nI 0, 0, []), (27, .iconst 1, 1, 0, 0, 0, nI 1, 0, []), (28, .goto 4, 3, 32, 0, 0, nI 0, 0, []), (31, .iconst 0, 1, 0, 0, 0, nI 0, 0, [])],
  [(32, .ireturn, 1, 0, 0, 0, nI 0, 0, [])]]
def md_X6_isRing : MD := (6, yX6_isRing, cX6_isRing, 4, (some .boolean), false, rw_X6_isRing)
def rw_X6_brillianceOf : List (List Row) := [[(0, .iconst 0, 1, 0, 0, 0, nI 0, 0, []), (1, .istore_n 2, 1, 2, 0, 0, nI 0, 0, []), (2, .iconst 0, 1, 0, 0, 0, nI 0, 0, []), (3, .istore_n 3, 1, 3, 0, 0, nI 0, 0, []), (4, .iload_n 3, 1, 3, 0, 0, nI 0, 0, []), (5, .aload_n 1, 1, 1, 0, 0, nI 0, 0, []), (6, .getfield 50, 3, 4, 6, 0, nI 0, 0, []), (9, .if_icmp .ge 42, 3, 51, 0, 0, nI 0, 0, []), (12, .iconst 0, 1, 0, 0, 0, nI 0, 0, []), (13, .istore 4, 2, 4, 0, 0, nI 0, 0, []), (15, .iload 4, 2, 4, 0, 0, nI 0, 0, [])],
  [(17, .iconst 3, 1, 0, 0, 0, nI 3, 0, []), (18, .if_icmp .ge 27, 3, 45, 0, 0, nI 0, 0, []), (21, .aload_n 0, 1, 0, 0, 0, nI 0, 0, []), (22, .iload_n 3, 1, 3, 0, 0, nI 0, 0, []), (23, .invokevirtual 53, 3, 31, 2, 6, nI 0, 0, []), (26, .ifCond .ne 19, 3, 45, 0, 0, nI 0, 0, []), (29, .iload_n 2, 1, 2, 0, 0, nI 0, 0, []), (30, .aload_n 0, 1, 0, 0, 0, nI 0, 0, []), (31, .iload_n 3, 1, 3, 0, 0, nI 0, 0, [])],
  [(32, .iload 4, 2, 4, 0, 0, nI 0, 0, []), (34, .invokevirtual 63, 3, 29, 3, 6, nI 0, 0, []), (37, .iadd, 1, 0, 0, 0, nI 0, 0, []), (38, .istore_n 2, 1, 2, 0, 0, nI 0, 0, []), (39, .iinc 4 1, 3, 4, 0, 0, nI 1, 0, []), (42, .goto (-27), 3, 15, 0, 0, nI 0, 0, []), (45, .iinc 3 1, 3, 3, 0, 0, nI 1, 0, [])],
  [(48, .goto (-44), 3, 4, 0, 0, nI 0, 0, []), (51, .iload_n 2, 1, 2, 0, 0, nI 0, 0, []), (52, .ireturn, 1, 0, 0, 0, nI 0, 0, [])]]
def md_X6_brillianceOf : MD := (6, yX6_brillianceOf, cX6_brillianceOf, 5, (some .int), false, rw_X6_brillianceOf)
def rw_X6_spreadOf : List (List Row) := [[(0, .aload_n 1, 1, 1, 0, 0, nI 0, 0, []), (1, .getfield 50, 3, 4, 6, 0, nI 0, 0, []), (4, .iconst 1, 1, 0, 0, 0, nI 1, 0, []), (5, .if_icmp .ge 5, 3, 10, 0, 0, nI 0, 0, []), (8, .iconst 0, 1, 0, 0, 0, nI 0, 0, []), (9, .ireturn, 1, 0, 0, 0, nI 0, 0, []), (10, .aload_n 0, 1, 0, 0, 0, nI 0, 0, []), (11, .iconst 0, 1, 0, 0, 0, nI 0, 0, []), (12, .iload_n 2, 1, 2, 0, 0, nI 0, 0, []), (13, .invokevirtual 63, 3, 29, 3, 6, nI 0, 0, [])],
  [(16, .istore_n 3, 1, 3, 0, 0, nI 0, 0, []), (17, .iload_n 3, 1, 3, 0, 0, nI 0, 0, []), (18, .istore 4, 2, 4, 0, 0, nI 0, 0, []), (20, .iconst 1, 1, 0, 0, 0, nI 1, 0, []), (21, .istore 5, 2, 5, 0, 0, nI 0, 0, []), (23, .iload 5, 2, 5, 0, 0, nI 0, 0, []), (25, .aload_n 1, 1, 1, 0, 0, nI 0, 0, []), (26, .getfield 50, 3, 4, 6, 0, nI 0, 0, []), (29, .if_icmp .ge 35, 3, 64, 0, 0, nI 0, 0, [])],
  [(32, .iload_n 3, 1, 3, 0, 0, nI 0, 0, []), (33, .aload_n 0, 1, 0, 0, 0, nI 0, 0, []), (34, .iload 5, 2, 5, 0, 0, nI 0, 0, []), (36, .iload_n 2, 1, 2, 0, 0, nI 0, 0, []), (37, .invokevirtual 63, 3, 29, 3, 6, nI 0, 0, []), (40, .invokestatic 121, 3, 198, 2, 0, nI 0, 0, []), (43, .istore_n 3, 1, 3, 0, 0, nI 0, 0, []), (44, .iload 4, 2, 4, 0, 0, nI 0, 0, []), (46, .aload_n 0, 1, 0, 0, 0, nI 0, 0, []), (47, .iload 5, 2, 5, 0, 0, nI 0, 0, [])],
  [(49, .iload_n 2, 1, 2, 0, 0, nI 0, 0, []), (50, .invokevirtual 63, 3, 29, 3, 6, nI 0, 0, []), (53, .invokestatic 109, 3, 197, 2, 0, nI 0, 0, []), (56, .istore 4, 2, 4, 0, 0, nI 0, 0, []), (58, .iinc 5 1, 3, 5, 0, 0, nI 1, 0, []), (61, .goto (-38), 3, 23, 0, 0, nI 0, 0, [])],
  [(64, .iload 4, 2, 4, 0, 0, nI 0, 0, []), (66, .iload_n 3, 1, 3, 0, 0, nI 0, 0, []), (67, .isub, 1, 0, 0, 0, nI 0, 0, []), (68, .ireturn, 1, 0, 0, 0, nI 0, 0, [])]]
def md_X6_spreadOf : MD := (6, yX6_spreadOf, cX6_spreadOf, 6, (some .int), false, rw_X6_spreadOf)
def rw_X7_init : List (List Row) := [[(0, .aload_n 0, 1, 0, 0, 0, nI 0, 0, []), (1, .invokespecial 3, 3, 0, 1, 1, nI 0, 0, []), (4, .aload_n 0, 1, 0, 0, 0, nI 0, 0, []), (5, .sipush 240, 3, 0, 0, 0, nI 240, 0, []), (8, .newarray .int, 2, 0, 0, 0, nI 0, 0, []), (10, .putfield 9, 3, 7, 0, 0, nI 0, 0, []), (13, .aload_n 0, 1, 0, 0, 0, nI 0, 0, []), (14, .iconst 0, 1, 0, 0, 0, nI 0, 0, []), (15, .putfield 15, 3, 7, 1, 0, nI 0, 0, [])],
  [(18, .aload_n 0, 1, 0, 0, 0, nI 0, 0, []), (19, .iconst 0, 1, 0, 0, 0, nI 0, 0, []), (20, .putfield 19, 3, 7, 2, 0, nI 0, 0, []), (23, .aload_n 0, 1, 0, 0, 0, nI 0, 0, []), (24, .iconst 0, 1, 0, 0, 0, nI 0, 0, []), (25, .putfield 22, 3, 7, 3, 0, nI 0, 0, []), (28, .aload_n 0, 1, 0, 0, 0, nI 0, 0, []), (29, .iconst (-1), 1, 0, 0, 0, (-1), 0, []), (30, .putfield 25, 3, 7, 4, 0, nI 0, 0, [])],
  [(33, .return_, 1, 0, 0, 0, nI 0, 0, [])]]
def md_X7_init : MD := (7, yX7_init, cX7_init, 1, none, true, rw_X7_init)
def rw_X7_append : List (List Row) := [[(0, .aload_n 0, 1, 0, 0, 0, nI 0, 0, []), (1, .getfield 15, 3, 7, 1, 0, nI 0, 0, []), (4, .sipush 240, 3, 0, 0, 0, nI 240, 0, []), (7, .if_icmp .ge 23, 3, 30, 0, 0, nI 0, 0, []), (10, .aload_n 0, 1, 0, 0, 0, nI 0, 0, []), (11, .getfield 9, 3, 7, 0, 0, nI 0, 0, []), (14, .aload_n 0, 1, 0, 0, 0, nI 0, 0, []), (15, .getfield 15, 3, 7, 1, 0, nI 0, 0, [])],
  [(18, .iload_n 1, 1, 1, 0, 0, nI 0, 0, []), (19, .iastore, 1, 0, 0, 0, nI 0, 0, []), (20, .aload_n 0, 1, 0, 0, 0, nI 0, 0, []), (21, .dup, 1, 0, 0, 0, nI 0, 0, []), (22, .getfield 15, 3, 7, 1, 0, nI 0, 0, []), (25, .iconst 1, 1, 0, 0, 0, nI 1, 0, []), (26, .iadd, 1, 0, 0, 0, nI 0, 0, []), (27, .putfield 15, 3, 7, 1, 0, nI 0, 0, []), (30, .aload_n 0, 1, 0, 0, 0, nI 0, 0, []), (31, .getfield 15, 3, 7, 1, 0, nI 0, 0, [])],
  [(34, .ireturn, 1, 0, 0, 0, nI 0, 0, [])]]
def md_X7_append : MD := (7, yX7_append, cX7_append, 2, (some .int), false, rw_X7_append)
def rw_X7_readInto : List (List Row) := [[(0, .aload_n 0, 1, 0, 0, 0, nI 0, 0, []), (1, .iconst 0, 1, 0, 0, 0, nI 0, 0, []), (2, .putfield 19, 3, 7, 2, 0, nI 0, 0, []), (5, .aload_n 0, 1, 0, 0, 0, nI 0, 0, []), (6, .iconst 0, 1, 0, 0, 0, nI 0, 0, []), (7, .putfield 22, 3, 7, 3, 0, nI 0, 0, []), (10, .aload_n 0, 1, 0, 0, 0, nI 0, 0, []), (11, .iconst (-1), 1, 0, 0, 0, (-1), 0, []), (12, .putfield 25, 3, 7, 4, 0, nI 0, 0, []), (15, .aload_n 1, 1, 1, 0, 0, nI 0, 0, [])],
  [(16, .invokevirtual 28, 3, 16, 1, 4, nI 0, 0, []), (19, .aload_n 0, 1, 0, 0, 0, nI 0, 0, []), (20, .invokevirtual 33, 3, 59, 1, 7, nI 0, 0, []), (23, .iconst 0, 1, 0, 0, 0, nI 0, 0, []), (24, .istore_n 2, 1, 2, 0, 0, nI 0, 0, []), (25, .iload_n 2, 1, 2, 0, 0, nI 0, 0, []), (26, .sipush 240, 3, 0, 0, 0, nI 240, 0, []), (29, .if_icmp .ge 36, 3, 65, 0, 0, nI 0, 0, [])],
  [(32, .aload_n 0, 1, 0, 0, 0, nI 0, 0, []), (33, .getfield 19, 3, 7, 2, 0, nI 0, 0, []), (36, .aload_n 0, 1, 0, 0, 0, nI 0, 0, []), (37, .getfield 15, 3, 7, 1, 0, nI 0, 0, []), (40, .if_icmp .ge 25, 3, 65, 0, 0, nI 0, 0, []), (43, .aload_n 0, 1, 0, 0, 0, nI 0, 0, []), (44, .getfield 22, 3, 7, 3, 0, nI 0, 0, []), (47, .ifCond .ne 18, 3, 65, 0, 0, nI 0, 0, [])],
  [(50, .aload_n 0, 1, 0, 0, 0, nI 0, 0, []), (51, .aload_n 1, 1, 1, 0, 0, nI 0, 0, []), (52, .invokevirtual 36, 3, 50, 2, 7, nI 0, 0, []), (55, .aload_n 0, 1, 0, 0, 0, nI 0, 0, []), (56, .invokevirtual 33, 3, 59, 1, 7, nI 0, 0, []), (59, .iinc 2 1, 3, 2, 0, 0, nI 1, 0, []), (62, .goto (-37), 3, 25, 0, 0, nI 0, 0, [])],
  [(65, .aload_n 0, 1, 0, 0, 0, nI 0, 0, []), (66, .iconst 0, 1, 0, 0, 0, nI 0, 0, []), (67, .putfield 15, 3, 7, 1, 0, nI 0, 0, []), (70, .return_, 1, 0, 0, 0, nI 0, 0, [])]]
def md_X7_readInto : MD := (7, yX7_readInto, cX7_readInto, 3, none, false, rw_X7_readInto)
def rw_X7_readClause : List (List Row) := [[(0, .aload_n 0, 1, 0, 0, 0, nI 0, 0, []), (1, .getfield 9, 3, 7, 0, 0, nI 0, 0, []), (4, .aload_n 0, 1, 0, 0, 0, nI 0, 0, []), (5, .getfield 19, 3, 7, 2, 0, nI 0, 0, []), (8, .iaload, 1, 0, 0, 0, nI 0, 0, []), (9, .istore_n 2, 1, 2, 0, 0, nI 0, 0, []), (10, .iload_n 2, 1, 2, 0, 0, nI 0, 0, []), (11, .aload_n 1, 1, 1, 0, 0, nI 0, 0, []), (12, .invokestatic 40, 3, 51, 2, 0, nI 0, 0, []), (15, .istore_n 3, 1, 3, 0, 0, nI 0, 0, [])],
  [(16, .iload_n 3, 1, 3, 0, 0, nI 0, 0, []), (17, .ifCond .eq 13, 3, 30, 0, 0, nI 0, 0, []), (20, .aload_n 0, 1, 0, 0, 0, nI 0, 0, []), (21, .iload_n 3, 1, 3, 0, 0, nI 0, 0, []), (22, .aload_n 0, 1, 0, 0, 0, nI 0, 0, []), (23, .getfield 19, 3, 7, 2, 0, nI 0, 0, []), (26, .invokevirtual 44, 3, 61, 3, 7, nI 0, 0, []), (29, .return_, 1, 0, 0, 0, nI 0, 0, []), (30, .aload_n 0, 1, 0, 0, 0, nI 0, 0, []), (31, .dup, 1, 0, 0, 0, nI 0, 0, [])],
  [(32, .getfield 19, 3, 7, 2, 0, nI 0, 0, []), (35, .iconst 1, 1, 0, 0, 0, nI 1, 0, []), (36, .iadd, 1, 0, 0, 0, nI 0, 0, []), (37, .putfield 19, 3, 7, 2, 0, nI 0, 0, []), (40, .iload_n 2, 1, 2, 0, 0, nI 0, 0, []), (41, .lookupswitch 59 #[(100, 51), (107, 35), (112, 43)], 35, 100, 0, 0, nI 0, 0, [(nI 100, 92), (nI 107, 76), (nI 112, 84)])],
  [],
  [(76, .aload_n 0, 1, 0, 0, 0, nI 0, 0, []), (77, .aload_n 1, 1, 1, 0, 0, nI 0, 0, []), (78, .invokevirtual 48, 3, 52, 2, 7, nI 0, 0, [])],
  [(81, .goto 24, 3, 105, 0, 0, nI 0, 0, []), (84, .aload_n 0, 1, 0, 0, 0, nI 0, 0, []), (85, .aload_n 1, 1, 1, 0, 0, nI 0, 0, []), (86, .invokevirtual 51, 3, 53, 2, 7, nI 0, 0, []), (89, .goto 16, 3, 105, 0, 0, nI 0, 0, []), (92, .aload_n 0, 1, 0, 0, 0, nI 0, 0, []), (93, .aload_n 1, 1, 1, 0, 0, nI 0, 0, []), (94, .invokevirtual 54, 3, 54, 2, 7, nI 0, 0, [])],
  [(97, .goto 8, 3, 105, 0, 0, nI 0, 0, []), (100, .aload_n 0, 1, 0, 0, 0, nI 0, 0, []), (101, .aload_n 1, 1, 1, 0, 0, nI 0, 0, []), (102, .invokevirtual 57, 3, 55, 2, 7, nI 0, 0, []), (105, .aload_n 0, 1, 0, 0, 0, nI 0, 0, []), (106, .bipush 59, 2, 0, 0, 0, nI 59, 0, []), (108, .invokevirtual 60, 3, 57, 2, 7, nI 0, 0, []), (111, .return_, 1, 0, 0, 0, nI 0, 0, [])]]
def md_X7_readClause : MD := (7, yX7_readClause, cX7_readClause, 4, none, false, rw_X7_readClause)
def rw_X7_whyNoWord : List (List Row) := [[(0, .iload_n 0, 1, 0, 0, 0, nI 0, 0, []), (1, .bipush 107, 2, 0, 0, 0, nI 107, 0, []), (3, .if_icmp .ne 16, 3, 19, 0, 0, nI 0, 0, []), (6, .aload_n 1, 1, 1, 0, 0, nI 0, 0, []), (7, .invokevirtual 64, 3, 15, 1, 4, nI 0, 0, []), (10, .ifCond .eq 7, 3, 17, 0, 0, nI 0, 0, []), (13, .iconst 3, 1, 0, 0, 0, nI 3, 0, []), (14, .goto 4, 3, 18, 0, 0, nI 0, 0, [])],
  [(17, .iconst 0, 1, 0, 0, 0, nI 0, 0, []), (18, .ireturn, 1, 0, 0, 0, nI 0, 0, []), (19, .aload_n 1, 1, 1, 0, 0, nI 0, 0, []), (20, .invokevirtual 64, 3, 15, 1, 4, nI 0, 0, []), (23, .ifCond .ne 5, 3, 28, 0, 0, nI 0, 0, []), (26, .iconst 1, 1, 0, 0, 0, nI 1, 0, []), (27, .ireturn, 1, 0, 0, 0, nI 0, 0, []), (28, .iload_n 0, 1, 0, 0, 0, nI 0, 0, []), (29, .lookupswitch 78 #[(100, 50), (111, 64), (112, 35)], 35, 107, 0, 0, nI 0, 0, [(nI 100, 79), (nI 111, 93), (nI 112, 64)])],
  [],
  [],
  [(64, .aload_n 1, 1, 1, 0, 0, nI 0, 0, []), (65, .getfield 68, 3, 4, 6, 0, nI 0, 0, []), (68, .bipush 7, 2, 0, 0, 0, nI 7, 0, []), (70, .if_icmp .ge 7, 3, 77, 0, 0, nI 0, 0, []), (73, .iconst 0, 1, 0, 0, 0, nI 0, 0, []), (74, .goto 4, 3, 78, 0, 0, nI 0, 0, []), (77, .iconst 3, 1, 0, 0, 0, nI 3, 0, []), (78, .ireturn, 1, 0, 0, 0, nI 0, 0, []), (79, .aload_n 1, 1, 1, 0, 0, nI 0, 0, [])],
  [(80, .getfield 71, 3, 4, 7, 0, nI 0, 0, []), (83, .iconst 1, 1, 0, 0, 0, nI 1, 0, []), (84, .if_icmp .ge 7, 3, 91, 0, 0, nI 0, 0, []), (87, .iconst 0, 1, 0, 0, 0, nI 0, 0, []), (88, .goto 4, 3, 92, 0, 0, nI 0, 0, []), (91, .iconst 3, 1, 0, 0, 0, nI 3, 0, []), (92, .ireturn, 1, 0, 0, 0, nI 0, 0, []), (93, .aload_n 1, 1, 1, 0, 0, nI 0, 0, []), (94, .getfield 74, 3, 4, 8, 0, nI 0, 0, [])],
  [(97, .iconst 4, 1, 0, 0, 0, nI 4, 0, []), (98, .if_icmp .ge 7, 3, 105, 0, 0, nI 0, 0, []), (101, .iconst 0, 1, 0, 0, 0, nI 0, 0, []), (102, .goto 4, 3, 106, 0, 0, nI 0, 0, []), (105, .iconst 3, 1, 0, 0, 0, nI 3, 0, []), (106, .ireturn, 1, 0, 0, 0, nI 0, 0, []), (107, .iconst 1, 1, 0, 0, 0, nI 1, 0, []), (108, .ireturn, 1, 0, 0, 0, nI 0, 0, [])]]
def md_X7_whyNoWord : MD := (7, yX7_whyNoWord, cX7_whyNoWord, 2, (some .int), false, rw_X7_whyNoWord)
def rw_X7_readLaw : List (List Row) := [[(0, .aload_n 1, 1, 1, 0, 0, nI 0, 0, []), (1, .aload_n 0, 1, 0, 0, 0, nI 0, 0, []), (2, .iconst 0, 1, 0, 0, 0, nI 0, 0, []), (3, .iconst 2, 1, 0, 0, 0, nI 2, 0, []), (4, .invokevirtual 77, 3, 56, 3, 7, nI 0, 0, []), (7, .putfield 81, 3, 4, 4, 0, nI 0, 0, []), (10, .aload_n 1, 1, 1, 0, 0, nI 0, 0, []), (11, .aload_n 0, 1, 0, 0, 0, nI 0, 0, []), (12, .iconst 1, 1, 0, 0, 0, nI 1, 0, []), (13, .bipush 9, 2, 0, 0, 0, nI 9, 0, []), (15, .invokevirtual 77, 3, 56, 3, 7, nI 0, 0, [])],
  [(18, .putfield 84, 3, 4, 5, 0, nI 0, 0, []), (21, .return_, 1, 0, 0, 0, nI 0, 0, [])]]
def md_X7_readLaw : MD := (7, yX7_readLaw, cX7_readLaw, 2, none, false, rw_X7_readLaw)
def rw_X7_readPerson : List (List Row) := [[(0, .aload_n 1, 1, 1, 0, 0, nI 0, 0, []), (1, .getfield 68, 3, 4, 6, 0, nI 0, 0, []), (4, .istore_n 2, 1, 2, 0, 0, nI 0, 0, []), (5, .iconst 0, 1, 0, 0, 0, nI 0, 0, []), (6, .istore_n 3, 1, 3, 0, 0, nI 0, 0, []), (7, .iload_n 3, 1, 3, 0, 0, nI 0, 0, []), (8, .iconst 3, 1, 0, 0, 0, nI 3, 0, []), (9, .if_icmp .ge 26, 3, 35, 0, 0, nI 0, 0, []), (12, .aload_n 1, 1, 1, 0, 0, nI 0, 0, []), (13, .getfield 87, 3, 4, 0, 0, nI 0, 0, [])],
  [(16, .iload_n 2, 1, 2, 0, 0, nI 0, 0, []), (17, .iconst 3, 1, 0, 0, 0, nI 3, 0, []), (18, .imul, 1, 0, 0, 0, nI 0, 0, []), (19, .iload_n 3, 1, 3, 0, 0, nI 0, 0, []), (20, .iadd, 1, 0, 0, 0, nI 0, 0, []), (21, .aload_n 0, 1, 0, 0, 0, nI 0, 0, []), (22, .iconst 0, 1, 0, 0, 0, nI 0, 0, []), (23, .bipush 9, 2, 0, 0, 0, nI 9, 0, []), (25, .invokevirtual 77, 3, 56, 3, 7, nI 0, 0, []), (28, .iastore, 1, 0, 0, 0, nI 0, 0, []), (29, .iinc 3 1, 3, 3, 0, 0, nI 1, 0, [])],
  [(32, .goto (-25), 3, 7, 0, 0, nI 0, 0, []), (35, .aload_n 1, 1, 1, 0, 0, nI 0, 0, []), (36, .getfield 90, 3, 4, 1, 0, nI 0, 0, []), (39, .iload_n 2, 1, 2, 0, 0, nI 0, 0, []), (40, .aload_n 0, 1, 0, 0, 0, nI 0, 0, []), (41, .iconst 0, 1, 0, 0, 0, nI 0, 0, []), (42, .bipush 9, 2, 0, 0, 0, nI 9, 0, []), (44, .invokevirtual 77, 3, 56, 3, 7, nI 0, 0, []), (47, .iastore, 1, 0, 0, 0, nI 0, 0, [])],
  [(48, .aload_n 1, 1, 1, 0, 0, nI 0, 0, []), (49, .dup, 1, 0, 0, 0, nI 0, 0, []), (50, .getfield 68, 3, 4, 6, 0, nI 0, 0, []), (53, .iconst 1, 1, 0, 0, 0, nI 1, 0, []), (54, .iadd, 1, 0, 0, 0, nI 0, 0, []), (55, .putfield 68, 3, 4, 6, 0, nI 0, 0, []), (58, .return_, 1, 0, 0, 0, nI 0, 0, [])]]
def md_X7_readPerson : MD := (7, yX7_readPerson, cX7_readPerson, 4, none, false, rw_X7_readPerson)
def rw_X7_readTurns : List (List Row) := [[(0, .aload_n 1, 1, 1, 0, 0, nI 0, 0, []), (1, .getfield 93, 3, 4, 2, 0, nI 0, 0, []), (4, .aload_n 1, 1, 1, 0, 0, nI 0, 0, []), (5, .getfield 71, 3, 4, 7, 0, nI 0, 0, []), (8, .aload_n 0, 1, 0, 0, 0, nI 0, 0, []), (9, .iconst 0, 1, 0, 0, 0, nI 0, 0, []), (10, .iconst 2, 1, 0, 0, 0, nI 2, 0, []), (11, .invokevirtual 77, 3, 56, 3, 7, nI 0, 0, []), (14, .iastore, 1, 0, 0, 0, nI 0, 0, []), (15, .aload_n 1, 1, 1, 0, 0, nI 0, 0, [])],
  [(16, .dup, 1, 0, 0, 0, nI 0, 0, []), (17, .getfield 71, 3, 4, 7, 0, nI 0, 0, []), (20, .iconst 1, 1, 0, 0, 0, nI 1, 0, []), (21, .iadd, 1, 0, 0, 0, nI 0, 0, []), (22, .putfield 71, 3, 4, 7, 0, nI 0, 0, []), (25, .aload_n 1, 1, 1, 0, 0, nI 0, 0, []), (26, .getfield 71, 3, 4, 7, 0, nI 0, 0, []), (29, .bipush 12, 2, 0, 0, 0, nI 12, 0, []), (31, .if_icmp .ge 12, 3, 43, 0, 0, nI 0, 0, [])],
  [(34, .aload_n 0, 1, 0, 0, 0, nI 0, 0, []), (35, .bipush 44, 2, 0, 0, 0, nI 44, 0, []), (37, .invokevirtual 96, 3, 58, 2, 7, nI 0, 0, []), (40, .ifCond .ne (-40), 3, 0, 0, 0, nI 0, 0, []), (43, .return_, 1, 0, 0, 0, nI 0, 0, [])]]
def md_X7_readTurns : MD := (7, yX7_readTurns, cX7_readTurns, 2, none, false, rw_X7_readTurns)
def rw_X7_readOffice : List (List Row) := [[(0, .aload_n 1, 1, 1, 0, 0, nI 0, 0, []), (1, .getfield 100, 3, 4, 3, 0, nI 0, 0, []), (4, .aload_n 1, 1, 1, 0, 0, nI 0, 0, []), (5, .getfield 74, 3, 4, 8, 0, nI 0, 0, []), (8, .aload_n 0, 1, 0, 0, 0, nI 0, 0, []), (9, .iconst 0, 1, 0, 0, 0, nI 0, 0, []), (10, .iconst 2, 1, 0, 0, 0, nI 2, 0, []), (11, .invokevirtual 77, 3, 56, 3, 7, nI 0, 0, []), (14, .iastore, 1, 0, 0, 0, nI 0, 0, []), (15, .aload_n 1, 1, 1, 0, 0, nI 0, 0, [])],
  [(16, .dup, 1, 0, 0, 0, nI 0, 0, []), (17, .getfield 74, 3, 4, 8, 0, nI 0, 0, []), (20, .iconst 1, 1, 0, 0, 0, nI 1, 0, []), (21, .iadd, 1, 0, 0, 0, nI 0, 0, []), (22, .putfield 74, 3, 4, 8, 0, nI 0, 0, []), (25, .return_, 1, 0, 0, 0, nI 0, 0, [])]]
def md_X7_readOffice : MD := (7, yX7_readOffice, cX7_readOffice, 2, none, false, rw_X7_readOffice)
def rw_X7_readNumber : List (List Row) := [[(0, .aload_n 0, 1, 0, 0, 0, nI 0, 0, []), (1, .invokevirtual 33, 3, 59, 1, 7, nI 0, 0, []), (4, .aload_n 0, 1, 0, 0, 0, nI 0, 0, []), (5, .getfield 19, 3, 7, 2, 0, nI 0, 0, []), (8, .aload_n 0, 1, 0, 0, 0, nI 0, 0, []), (9, .getfield 15, 3, 7, 1, 0, nI 0, 0, []), (12, .if_icmp .ge 18, 3, 30, 0, 0, nI 0, 0, []), (15, .aload_n 0, 1, 0, 0, 0, nI 0, 0, [])],
  [(16, .getfield 9, 3, 7, 0, 0, nI 0, 0, []), (19, .aload_n 0, 1, 0, 0, 0, nI 0, 0, []), (20, .getfield 19, 3, 7, 2, 0, nI 0, 0, []), (23, .iaload, 1, 0, 0, 0, nI 0, 0, []), (24, .invokestatic 103, 3, 60, 1, 0, nI 0, 0, []), (27, .ifCond .ne 14, 3, 41, 0, 0, nI 0, 0, []), (30, .aload_n 0, 1, 0, 0, 0, nI 0, 0, []), (31, .iconst 1, 1, 0, 0, 0, nI 1, 0, [])],
  [(32, .aload_n 0, 1, 0, 0, 0, nI 0, 0, []), (33, .getfield 19, 3, 7, 2, 0, nI 0, 0, []), (36, .invokevirtual 44, 3, 61, 3, 7, nI 0, 0, []), (39, .iload_n 1, 1, 1, 0, 0, nI 0, 0, []), (40, .ireturn, 1, 0, 0, 0, nI 0, 0, []), (41, .aload_n 0, 1, 0, 0, 0, nI 0, 0, []), (42, .getfield 19, 3, 7, 2, 0, nI 0, 0, []), (45, .istore_n 3, 1, 3, 0, 0, nI 0, 0, []), (46, .iconst 0, 1, 0, 0, 0, nI 0, 0, []), (47, .istore 4, 2, 4, 0, 0, nI 0, 0, [])],
  [(49, .aload_n 0, 1, 0, 0, 0, nI 0, 0, []), (50, .getfield 19, 3, 7, 2, 0, nI 0, 0, []), (53, .aload_n 0, 1, 0, 0, 0, nI 0, 0, []), (54, .getfield 15, 3, 7, 1, 0, nI 0, 0, []), (57, .if_icmp .ge 66, 3, 123, 0, 0, nI 0, 0, []), (60, .aload_n 0, 1, 0, 0, 0, nI 0, 0, []), (61, .getfield 9, 3, 7, 0, 0, nI 0, 0, [])],
  [(64, .aload_n 0, 1, 0, 0, 0, nI 0, 0, []), (65, .getfield 19, 3, 7, 2, 0, nI 0, 0, []), (68, .iaload, 1, 0, 0, 0, nI 0, 0, []), (69, .invokestatic 103, 3, 60, 1, 0, nI 0, 0, []), (72, .ifCond .eq 51, 3, 123, 0, 0, nI 0, 0, []), (75, .aload_n 0, 1, 0, 0, 0, nI 0, 0, []), (76, .getfield 19, 3, 7, 2, 0, nI 0, 0, []), (79, .iload_n 3, 1, 3, 0, 0, nI 0, 0, [])],
  [(80, .isub, 1, 0, 0, 0, nI 0, 0, []), (81, .iconst 3, 1, 0, 0, 0, nI 3, 0, []), (82, .if_icmp .ge 24, 3, 106, 0, 0, nI 0, 0, []), (85, .iload 4, 2, 4, 0, 0, nI 0, 0, []), (87, .bipush 10, 2, 0, 0, 0, nI 10, 0, []), (89, .imul, 1, 0, 0, 0, nI 0, 0, []), (90, .aload_n 0, 1, 0, 0, 0, nI 0, 0, []), (91, .getfield 9, 3, 7, 0, 0, nI 0, 0, []), (94, .aload_n 0, 1, 0, 0, 0, nI 0, 0, []), (95, .getfield 19, 3, 7, 2, 0, nI 0, 0, [])],
  [(98, .iaload, 1, 0, 0, 0, nI 0, 0, []), (99, .iadd, 1, 0, 0, 0, nI 0, 0, []), (100, .bipush 48, 2, 0, 0, 0, nI 48, 0, []), (102, .isub, 1, 0, 0, 0, nI 0, 0, []), (103, .goto 5, 3, 108, 0, 0, nI 0, 0, []), (106, .iload 4, 2, 4, 0, 0, nI 0, 0, []), (108, .istore 4, 2, 4, 0, 0, nI 0, 0, []), (110, .aload_n 0, 1, 0, 0, 0, nI 0, 0, []), (111, .dup, 1, 0, 0, 0, nI 0, 0, [])],
  [(112, .getfield 19, 3, 7, 2, 0, nI 0, 0, []), (115, .iconst 1, 1, 0, 0, 0, nI 1, 0, []), (116, .iadd, 1, 0, 0, 0, nI 0, 0, []), (117, .putfield 19, 3, 7, 2, 0, nI 0, 0, []), (120, .goto (-71), 3, 49, 0, 0, nI 0, 0, []), (123, .aload_n 0, 1, 0, 0, 0, nI 0, 0, []), (124, .getfield 19, 3, 7, 2, 0, nI 0, 0, []), (127, .iload_n 3, 1, 3, 0, 0, nI 0, 0, [])],
  [(128, .isub, 1, 0, 0, 0, nI 0, 0, []), (129, .iconst 3, 1, 0, 0, 0, nI 3, 0, []), (130, .if_icmp .gt 15, 3, 145, 0, 0, nI 0, 0, []), (133, .iload 4, 2, 4, 0, 0, nI 0, 0, []), (135, .iload_n 1, 1, 1, 0, 0, nI 0, 0, []), (136, .if_icmp .lt 9, 3, 145, 0, 0, nI 0, 0, []), (139, .iload 4, 2, 4, 0, 0, nI 0, 0, []), (141, .iload_n 2, 1, 2, 0, 0, nI 0, 0, []), (142, .if_icmp .le 9, 3, 151, 0, 0, nI 0, 0, [])],
  [(145, .aload_n 0, 1, 0, 0, 0, nI 0, 0, []), (146, .iconst 2, 1, 0, 0, 0, nI 2, 0, []), (147, .iload_n 3, 1, 3, 0, 0, nI 0, 0, []), (148, .invokevirtual 44, 3, 61, 3, 7, nI 0, 0, []), (151, .iload 4, 2, 4, 0, 0, nI 0, 0, []), (153, .ireturn, 1, 0, 0, 0, nI 0, 0, [])]]
def md_X7_readNumber : MD := (7, yX7_readNumber, cX7_readNumber, 5, (some .int), false, rw_X7_readNumber)
def rw_X7_readSign : List (List Row) := [[(0, .aload_n 0, 1, 0, 0, 0, nI 0, 0, []), (1, .iload_n 1, 1, 1, 0, 0, nI 0, 0, []), (2, .invokevirtual 96, 3, 58, 2, 7, nI 0, 0, []), (5, .ifCond .ne 12, 3, 17, 0, 0, nI 0, 0, []), (8, .aload_n 0, 1, 0, 0, 0, nI 0, 0, []), (9, .iconst 1, 1, 0, 0, 0, nI 1, 0, []), (10, .aload_n 0, 1, 0, 0, 0, nI 0, 0, []), (11, .getfield 19, 3, 7, 2, 0, nI 0, 0, []), (14, .invokevirtual 44, 3, 61, 3, 7, nI 0, 0, [])],
  [(17, .return_, 1, 0, 0, 0, nI 0, 0, [])]]
def md_X7_readSign : MD := (7, yX7_readSign, cX7_readSign, 2, none, false, rw_X7_readSign)
def rw_X7_isNext : List (List Row) := [[(0, .aload_n 0, 1, 0, 0, 0, nI 0, 0, []), (1, .invokevirtual 33, 3, 59, 1, 7, nI 0, 0, []), (4, .aload_n 0, 1, 0, 0, 0, nI 0, 0, []), (5, .getfield 19, 3, 7, 2, 0, nI 0, 0, []), (8, .aload_n 0, 1, 0, 0, 0, nI 0, 0, []), (9, .getfield 15, 3, 7, 1, 0, nI 0, 0, []), (12, .if_icmp .ge 28, 3, 40, 0, 0, nI 0, 0, []), (15, .aload_n 0, 1, 0, 0, 0, nI 0, 0, [])],
  [(16, .getfield 9, 3, 7, 0, 0, nI 0, 0, []), (19, .aload_n 0, 1, 0, 0, 0, nI 0, 0, []), (20, .getfield 19, 3, 7, 2, 0, nI 0, 0, []), (23, .iaload, 1, 0, 0, 0, nI 0, 0, []), (24, .iload_n 1, 1, 1, 0, 0, nI 0, 0, []), (25, .if_icmp .ne 15, 3, 40, 0, 0, nI 0, 0, []), (28, .aload_n 0, 1, 0, 0, 0, nI 0, 0, []), (29, .dup, 1, 0, 0, 0, nI 0, 0, []), (30, .getfield 19, 3, 7, 2, 0, nI 0, 0, [])],
  [(33, .iconst 1, 1, 0, 0, 0, nI 1, 0, []), (34, .iadd, 1, 0, 0, 0, nI 0, 0, []), (35, .putfield 19, 3, 7, 2, 0, nI 0, 0, []), (38, .iconst 1, 1, 0, 0, 0, nI 1, 0, []), (39, .ireturn, 1, 0, 0, 0, nI 0, 0, []), (40, .iconst 0, 1, 0, 0, 0, nI 0, 0, []), (41, .ireturn, 1, 0, 0, 0, nI 0, 0, [])]]
def md_X7_isNext : MD := (7, yX7_isNext, cX7_isNext, 2, (some .boolean), false, rw_X7_isNext)
def rw_X7_skipBlanks : List (List Row) := [[(0, .aload_n 0, 1, 0, 0, 0, nI 0, 0, []), (1, .getfield 19, 3, 7, 2, 0, nI 0, 0, []), (4, .aload_n 0, 1, 0, 0, 0, nI 0, 0, []), (5, .getfield 15, 3, 7, 1, 0, nI 0, 0, []), (8, .if_icmp .ge 30, 3, 38, 0, 0, nI 0, 0, []), (11, .aload_n 0, 1, 0, 0, 0, nI 0, 0, []), (12, .getfield 9, 3, 7, 0, 0, nI 0, 0, []), (15, .aload_n 0, 1, 0, 0, 0, nI 0, 0, [])],
  [(16, .getfield 19, 3, 7, 2, 0, nI 0, 0, []), (19, .iaload, 1, 0, 0, 0, nI 0, 0, []), (20, .bipush 32, 2, 0, 0, 0, nI 32, 0, []), (22, .if_icmp .ne 16, 3, 38, 0, 0, nI 0, 0, []), (25, .aload_n 0, 1, 0, 0, 0, nI 0, 0, []), (26, .dup, 1, 0, 0, 0, nI 0, 0, []), (27, .getfield 19, 3, 7, 2, 0, nI 0, 0, []), (30, .iconst 1, 1, 0, 0, 0, nI 1, 0, []), (31, .iadd, 1, 0, 0, 0, nI 0, 0, [])],
  [(32, .putfield 19, 3, 7, 2, 0, nI 0, 0, []), (35, .goto (-35), 3, 0, 0, 0, nI 0, 0, []), (38, .return_, 1, 0, 0, 0, nI 0, 0, [])]]
def md_X7_skipBlanks : MD := (7, yX7_skipBlanks, cX7_skipBlanks, 1, none, false, rw_X7_skipBlanks)
def rw_X7_isFigure : List (List Row) := [[(0, .iload_n 0, 1, 0, 0, 0, nI 0, 0, []), (1, .bipush 48, 2, 0, 0, 0, nI 48, 0, []), (3, .if_icmp .lt 13, 3, 16, 0, 0, nI 0, 0, []), (6, .iload_n 0, 1, 0, 0, 0, nI 0, 0, []), (7, .bipush 57, 2, 0, 0, 0, nI 57, 0, []), (9, .if_icmp .gt 7, 3, 16, 0, 0, nI 0, 0, []), (12, .iconst 1, 1, 0, 0, 0, nI 1, 0, []), (13, .goto 4, 3, 17, 0, 0, nI 0, 0, [])],
  [(16, .iconst 0, 1, 0, 0, 0, nI 0, 0, []), (17, .ireturn, 1, 0, 0, 0, nI 0, 0, [])]]
def md_X7_isFigure : MD := (7, yX7_isFigure, cX7_isFigure, 1, (some .boolean), false, rw_X7_isFigure)
def rw_X7_blame : List (List Row) := [[(0, .aload_n 0, 1, 0, 0, 0, nI 0, 0, []), (1, .getfield 22, 3, 7, 3, 0, nI 0, 0, []), (4, .ifCond .ne 13, 3, 17, 0, 0, nI 0, 0, []), (7, .aload_n 0, 1, 0, 0, 0, nI 0, 0, []), (8, .iload_n 1, 1, 1, 0, 0, nI 0, 0, []), (9, .putfield 22, 3, 7, 3, 0, nI 0, 0, []), (12, .aload_n 0, 1, 0, 0, 0, nI 0, 0, []), (13, .iload_n 2, 1, 2, 0, 0, nI 0, 0, []), (14, .putfield 25, 3, 7, 4, 0, nI 0, 0, [])],
  [(17, .return_, 1, 0, 0, 0, nI 0, 0, [])]]
def md_X7_blame : MD := (7, yX7_blame, cX7_blame, 3, none, false, rw_X7_blame)
def rw_X8_init : List (List Row) := [[(0, .aload_n 0, 1, 0, 0, 0, nI 0, 0, []), (1, .invokespecial 1, 3, 0, 1, 1, nI 0, 0, []), (4, .aload_n 0, 1, 0, 0, 0, nI 0, 0, []), (5, .new 7, 3, 7, 0, 0, nI 0, 0, []), (8, .dup, 1, 0, 0, 0, nI 0, 0, []), (9, .invokespecial 9, 3, 47, 1, 2, nI 0, 0, []), (12, .putfield 10, 3, 8, 0, 0, nI 0, 0, []), (15, .aload_n 0, 1, 0, 0, 0, nI 0, 0, [])],
  [(16, .new 16, 3, 6, 0, 0, nI 0, 0, []), (19, .dup, 1, 0, 0, 0, nI 0, 0, []), (20, .invokespecial 18, 3, 26, 1, 2, nI 0, 0, []), (23, .putfield 19, 3, 8, 1, 0, nI 0, 0, []), (26, .aload_n 0, 1, 0, 0, 0, nI 0, 0, []), (27, .new 16, 3, 6, 0, 0, nI 0, 0, []), (30, .dup, 1, 0, 0, 0, nI 0, 0, []), (31, .invokespecial 18, 3, 26, 1, 2, nI 0, 0, [])],
  [(34, .putfield 23, 3, 8, 2, 0, nI 0, 0, []), (37, .aload_n 0, 1, 0, 0, 0, nI 0, 0, []), (38, .new 26, 3, 1, 0, 0, nI 0, 0, []), (41, .dup, 1, 0, 0, 0, nI 0, 0, []), (42, .invokespecial 28, 3, 3, 1, 2, nI 0, 0, []), (45, .putfield 29, 3, 8, 3, 0, nI 0, 0, [])],
  [(48, .aload_n 0, 1, 0, 0, 0, nI 0, 0, []), (49, .new 33, 3, 3, 0, 0, nI 0, 0, []), (52, .dup, 1, 0, 0, 0, nI 0, 0, []), (53, .invokespecial 35, 3, 11, 1, 0, nI 0, 0, []), (56, .putfield 36, 3, 8, 4, 0, nI 0, 0, []), (59, .aload_n 0, 1, 0, 0, 0, nI 0, 0, []), (60, .iconst 2, 1, 0, 0, 0, nI 2, 0, []), (61, .anewarray 40, 3, 2, 0, 0, nI 0, 0, [])],
  [(64, .putfield 42, 3, 8, 5, 0, nI 0, 0, []), (67, .aload_n 0, 1, 0, 0, 0, nI 0, 0, []), (68, .new 46, 3, 5, 0, 0, nI 0, 0, []), (71, .dup, 1, 0, 0, 0, nI 0, 0, []), (72, .invokespecial 48, 3, 18, 1, 2, nI 0, 0, []), (75, .putfield 49, 3, 8, 6, 0, nI 0, 0, []), (78, .aload_n 0, 1, 0, 0, 0, nI 0, 0, []), (79, .new 53, 3, 0, 0, 0, nI 0, 0, [])],
  [(82, .dup, 1, 0, 0, 0, nI 0, 0, []), (83, .invokespecial 55, 3, 0, 1, 2, nI 0, 0, []), (86, .putfield 56, 3, 8, 7, 0, nI 0, 0, []), (89, .aload_n 0, 1, 0, 0, 0, nI 0, 0, []), (90, .new 60, 3, 4, 0, 0, nI 0, 0, []), (93, .dup, 1, 0, 0, 0, nI 0, 0, []), (94, .invokespecial 62, 3, 14, 1, 2, nI 0, 0, [])],
  [(97, .putfield 63, 3, 8, 8, 0, nI 0, 0, []), (100, .aload_n 0, 1, 0, 0, 0, nI 0, 0, []), (101, .new 60, 3, 4, 0, 0, nI 0, 0, []), (104, .dup, 1, 0, 0, 0, nI 0, 0, []), (105, .invokespecial 62, 3, 14, 1, 2, nI 0, 0, []), (108, .putfield 67, 3, 8, 9, 0, nI 0, 0, []), (111, .aload_n 0, 1, 0, 0, 0, nI 0, 0, [])],
  [(112, .iconst 0, 1, 0, 0, 0, nI 0, 0, []), (113, .putfield 70, 3, 8, 10, 0, nI 0, 0, []), (116, .iconst 0, 1, 0, 0, 0, nI 0, 0, []), (117, .istore_n 1, 1, 1, 0, 0, nI 0, 0, []), (118, .iload_n 1, 1, 1, 0, 0, nI 0, 0, []), (119, .iconst 2, 1, 0, 0, 0, nI 2, 0, []), (120, .if_icmp .ge 22, 3, 142, 0, 0, nI 0, 0, []), (123, .aload_n 0, 1, 0, 0, 0, nI 0, 0, []), (124, .getfield 42, 3, 8, 5, 0, nI 0, 0, []), (127, .iload_n 1, 1, 1, 0, 0, nI 0, 0, [])],
  [(128, .new 40, 3, 2, 0, 0, nI 0, 0, []), (131, .dup, 1, 0, 0, 0, nI 0, 0, []), (132, .invokespecial 74, 3, 10, 1, 2, nI 0, 0, []), (135, .aastore, 1, 0, 0, 0, nI 0, 0, []), (136, .iinc 1 1, 3, 1, 0, 0, nI 1, 0, []), (139, .goto (-21), 3, 118, 0, 0, nI 0, 0, []), (142, .return_, 1, 0, 0, 0, nI 0, 0, [])]]
def md_X8_init : MD := (8, yX8_init, cX8_init, 2, none, true, rw_X8_init)
def rw_X8_feed : List (List Row) := [[(0, .iload_n 1, 1, 1, 0, 0, nI 0, 0, []), (1, .iconst 0, 1, 0, 0, 0, nI 0, 0, []), (2, .sipush 255, 3, 0, 0, 0, nI 255, 0, []), (5, .invokestatic 75, 3, 100, 3, 0, nI 0, 0, []), (8, .ifCond .ne 6, 3, 14, 0, 0, nI 0, 0, []), (11, .ldc 79, 2, 0, 0, 0, (-1000000002), 0, []), (13, .ireturn, 1, 0, 0, 0, nI 0, 0, []), (14, .aload_n 0, 1, 0, 0, 0, nI 0, 0, []), (15, .getfield 10, 3, 8, 0, 0, nI 0, 0, [])],
  [(18, .getfield 80, 3, 7, 1, 0, nI 0, 0, []), (21, .sipush 240, 3, 0, 0, 0, nI 240, 0, []), (24, .if_icmp .lt 6, 3, 30, 0, 0, nI 0, 0, []), (27, .ldc 83, 2, 0, 0, 0, (-1000000004), 0, []), (29, .ireturn, 1, 0, 0, 0, nI 0, 0, []), (30, .aload_n 0, 1, 0, 0, 0, nI 0, 0, []), (31, .getfield 10, 3, 8, 0, 0, nI 0, 0, [])],
  [(34, .iload_n 1, 1, 1, 0, 0, nI 0, 0, []), (35, .invokevirtual 84, 3, 48, 2, 7, nI 0, 0, []), (38, .ireturn, 1, 0, 0, 0, nI 0, 0, [])]]
def md_X8_feed : MD := (8, yX8_feed, cX8_feed, 2, (some .int), false, rw_X8_feed)
def rw_X8_kingdom : List (List Row) := [[(0, .aload_n 0, 1, 0, 0, 0, nI 0, 0, []), (1, .getfield 10, 3, 8, 0, 0, nI 0, 0, []), (4, .aload_n 0, 1, 0, 0, 0, nI 0, 0, []), (5, .getfield 67, 3, 8, 9, 0, nI 0, 0, []), (8, .invokevirtual 88, 3, 49, 2, 7, nI 0, 0, []), (11, .aload_n 0, 1, 0, 0, 0, nI 0, 0, []), (12, .getfield 10, 3, 8, 0, 0, nI 0, 0, []), (15, .getfield 92, 3, 7, 3, 0, nI 0, 0, [])],
  [(18, .ifCond .eq 14, 3, 32, 0, 0, nI 0, 0, []), (21, .bipush (-10), 2, 0, 0, 0, (-10), 0, []), (23, .aload_n 0, 1, 0, 0, 0, nI 0, 0, []), (24, .getfield 10, 3, 8, 0, 0, nI 0, 0, []), (27, .getfield 92, 3, 7, 3, 0, nI 0, 0, []), (30, .isub, 1, 0, 0, 0, nI 0, 0, []), (31, .ireturn, 1, 0, 0, 0, nI 0, 0, [])],
  [(32, .aload_n 0, 1, 0, 0, 0, nI 0, 0, []), (33, .getfield 63, 3, 8, 8, 0, nI 0, 0, []), (36, .astore_n 1, 1, 1, 0, 0, nI 0, 0, []), (37, .aload_n 0, 1, 0, 0, 0, nI 0, 0, []), (38, .aload_n 0, 1, 0, 0, 0, nI 0, 0, []), (39, .getfield 67, 3, 8, 9, 0, nI 0, 0, []), (42, .putfield 63, 3, 8, 8, 0, nI 0, 0, []), (45, .aload_n 0, 1, 0, 0, 0, nI 0, 0, []), (46, .aload_n 1, 1, 1, 0, 0, nI 0, 0, []), (47, .putfield 67, 3, 8, 9, 0, nI 0, 0, [])],
  [(50, .aload_n 0, 1, 0, 0, 0, nI 0, 0, []), (51, .getfield 19, 3, 8, 1, 0, nI 0, 0, []), (54, .aload_n 0, 1, 0, 0, 0, nI 0, 0, []), (55, .getfield 63, 3, 8, 8, 0, nI 0, 0, []), (58, .invokevirtual 95, 3, 27, 2, 6, nI 0, 0, []), (61, .aload_n 0, 1, 0, 0, 0, nI 0, 0, []), (62, .getfield 36, 3, 8, 4, 0, nI 0, 0, [])],
  [(65, .iconst 0, 1, 0, 0, 0, nI 0, 0, []), (66, .putfield 98, 3, 3, 2, 0, nI 0, 0, []), (69, .iconst 0, 1, 0, 0, 0, nI 0, 0, []), (70, .istore_n 2, 1, 2, 0, 0, nI 0, 0, []), (71, .iload_n 2, 1, 2, 0, 0, nI 0, 0, []), (72, .iconst 2, 1, 0, 0, 0, nI 2, 0, []), (73, .if_icmp .ge 19, 3, 92, 0, 0, nI 0, 0, []), (76, .aload_n 0, 1, 0, 0, 0, nI 0, 0, []), (77, .getfield 42, 3, 8, 5, 0, nI 0, 0, [])],
  [(80, .iload_n 2, 1, 2, 0, 0, nI 0, 0, []), (81, .aaload, 1, 0, 0, 0, nI 0, 0, []), (82, .iconst 0, 1, 0, 0, 0, nI 0, 0, []), (83, .putfield 101, 3, 2, 2, 0, nI 0, 0, []), (86, .iinc 2 1, 3, 2, 0, 0, nI 1, 0, []), (89, .goto (-18), 3, 71, 0, 0, nI 0, 0, []), (92, .aload_n 0, 1, 0, 0, 0, nI 0, 0, []), (93, .getfield 49, 3, 8, 6, 0, nI 0, 0, [])],
  [(96, .iconst 0, 1, 0, 0, 0, nI 0, 0, []), (97, .putfield 105, 3, 5, 3, 0, nI 0, 0, []), (100, .aload_n 0, 1, 0, 0, 0, nI 0, 0, []), (101, .getfield 56, 3, 8, 7, 0, nI 0, 0, []), (104, .iconst 0, 1, 0, 0, 0, nI 0, 0, []), (105, .putfield 106, 3, 0, 2, 0, nI 0, 0, []), (108, .aload_n 0, 1, 0, 0, 0, nI 0, 0, []), (109, .getfield 63, 3, 8, 8, 0, nI 0, 0, [])],
  [(112, .getfield 107, 3, 4, 6, 0, nI 0, 0, []), (115, .ireturn, 1, 0, 0, 0, nI 0, 0, [])]]
def md_X8_kingdom : MD := (8, yX8_kingdom, cX8_kingdom, 3, (some .int), false, rw_X8_kingdom)
def rw_X8_fault : List (List Row) := [[(0, .aload_n 0, 1, 0, 0, 0, nI 0, 0, []), (1, .getfield 10, 3, 8, 0, 0, nI 0, 0, []), (4, .getfield 110, 3, 7, 4, 0, nI 0, 0, []), (7, .ireturn, 1, 0, 0, 0, nI 0, 0, [])]]
def md_X8_fault : MD := (8, yX8_fault, cX8_fault, 1, (some .int), false, rw_X8_fault)
def rw_X8_told : List (List Row) := [[(0, .iload_n 1, 1, 1, 0, 0, nI 0, 0, []), (1, .tableswitch 241 0 16 #[83, 91, 99, 107, 115, 123, 131, 139, 155, 167, 180, 192, 197, 209, 217, 225, 233], 83, 242, 0, 0, nI 0, 0, [(nI 0, 84), (nI 1, 92), (nI 2, 100), (nI 3, 108), (nI 4, 116), (nI 5, 124), (nI 6, 132), (nI 7, 140), (nI 8, 156), (nI 9, 168), (nI 10, 181), (nI 11, 193), (nI 12, 198), (nI 13, 210), (nI 14, 218), (nI 15, 226), (nI 16, 234)])],
  [],
  [],
  [],
  [],
  [(84, .aload_n 0, 1, 0, 0, 0, nI 0, 0, []), (85, .getfield 63, 3, 8, 8, 0, nI 0, 0, []), (88, .getfield 113, 3, 4, 4, 0, nI 0, 0, []), (91, .ireturn, 1, 0, 0, 0, nI 0, 0, []), (92, .aload_n 0, 1, 0, 0, 0, nI 0, 0, []), (93, .getfield 63, 3, 8, 8, 0, nI 0, 0, [])],
  [(96, .getfield 116, 3, 4, 5, 0, nI 0, 0, []), (99, .ireturn, 1, 0, 0, 0, nI 0, 0, []), (100, .aload_n 0, 1, 0, 0, 0, nI 0, 0, []), (101, .getfield 63, 3, 8, 8, 0, nI 0, 0, []), (104, .getfield 107, 3, 4, 6, 0, nI 0, 0, []), (107, .ireturn, 1, 0, 0, 0, nI 0, 0, []), (108, .aload_n 0, 1, 0, 0, 0, nI 0, 0, []), (109, .getfield 63, 3, 8, 8, 0, nI 0, 0, [])],
  [(112, .getfield 119, 3, 4, 8, 0, nI 0, 0, []), (115, .ireturn, 1, 0, 0, 0, nI 0, 0, []), (116, .aload_n 0, 1, 0, 0, 0, nI 0, 0, []), (117, .getfield 63, 3, 8, 8, 0, nI 0, 0, []), (120, .getfield 122, 3, 4, 7, 0, nI 0, 0, []), (123, .ireturn, 1, 0, 0, 0, nI 0, 0, []), (124, .aload_n 0, 1, 0, 0, 0, nI 0, 0, []), (125, .getfield 10, 3, 8, 0, 0, nI 0, 0, [])],
  [(128, .getfield 80, 3, 7, 1, 0, nI 0, 0, []), (131, .ireturn, 1, 0, 0, 0, nI 0, 0, []), (132, .aload_n 0, 1, 0, 0, 0, nI 0, 0, []), (133, .getfield 19, 3, 8, 1, 0, nI 0, 0, []), (136, .getfield 125, 3, 6, 7, 0, nI 0, 0, []), (139, .ireturn, 1, 0, 0, 0, nI 0, 0, []), (140, .aload_n 0, 1, 0, 0, 0, nI 0, 0, []), (141, .getfield 19, 3, 8, 1, 0, nI 0, 0, [])],
  [(144, .getfield 128, 3, 6, 8, 0, nI 0, 0, []), (147, .ifCond .eq 7, 3, 154, 0, 0, nI 0, 0, []), (150, .iconst 1, 1, 0, 0, 0, nI 1, 0, []), (151, .goto 4, 3, 155, 0, 0, nI 0, 0, []), (154, .iconst 0, 1, 0, 0, 0, nI 0, 0, []), (155, .ireturn, 1, 0, 0, 0, nI 0, 0, []), (156, .aload_n 0, 1, 0, 0, 0, nI 0, 0, []), (157, .getfield 19, 3, 8, 1, 0, nI 0, 0, [])],
  [(160, .aload_n 0, 1, 0, 0, 0, nI 0, 0, []), (161, .getfield 63, 3, 8, 8, 0, nI 0, 0, []), (164, .invokevirtual 131, 3, 32, 2, 6, nI 0, 0, []), (167, .ireturn, 1, 0, 0, 0, nI 0, 0, []), (168, .aload_n 0, 1, 0, 0, 0, nI 0, 0, []), (169, .getfield 19, 3, 8, 1, 0, nI 0, 0, []), (172, .aload_n 0, 1, 0, 0, 0, nI 0, 0, []), (173, .getfield 63, 3, 8, 8, 0, nI 0, 0, [])],
  [(176, .iconst (-1), 1, 0, 0, 0, (-1), 0, []), (177, .invokevirtual 135, 3, 33, 3, 6, nI 0, 0, []), (180, .ireturn, 1, 0, 0, 0, nI 0, 0, []), (181, .aload_n 0, 1, 0, 0, 0, nI 0, 0, []), (182, .getfield 19, 3, 8, 1, 0, nI 0, 0, []), (185, .aload_n 0, 1, 0, 0, 0, nI 0, 0, []), (186, .getfield 63, 3, 8, 8, 0, nI 0, 0, []), (189, .invokevirtual 139, 3, 42, 2, 6, nI 0, 0, [])],
  [(192, .ireturn, 1, 0, 0, 0, nI 0, 0, []), (193, .aload_n 0, 1, 0, 0, 0, nI 0, 0, []), (194, .invokevirtual 142, 3, 113, 1, 8, nI 0, 0, []), (197, .ireturn, 1, 0, 0, 0, nI 0, 0, []), (198, .aload_n 0, 1, 0, 0, 0, nI 0, 0, []), (199, .getfield 19, 3, 8, 1, 0, nI 0, 0, []), (202, .aload_n 0, 1, 0, 0, 0, nI 0, 0, []), (203, .getfield 63, 3, 8, 8, 0, nI 0, 0, []), (206, .invokevirtual 146, 3, 45, 2, 6, nI 0, 0, [])],
  [(209, .ireturn, 1, 0, 0, 0, nI 0, 0, []), (210, .aload_n 0, 1, 0, 0, 0, nI 0, 0, []), (211, .getfield 19, 3, 8, 1, 0, nI 0, 0, []), (214, .invokevirtual 149, 3, 40, 1, 6, nI 0, 0, []), (217, .ireturn, 1, 0, 0, 0, nI 0, 0, []), (218, .aload_n 0, 1, 0, 0, 0, nI 0, 0, []), (219, .getfield 49, 3, 8, 6, 0, nI 0, 0, []), (222, .getfield 105, 3, 5, 3, 0, nI 0, 0, [])],
  [(225, .ireturn, 1, 0, 0, 0, nI 0, 0, []), (226, .aload_n 0, 1, 0, 0, 0, nI 0, 0, []), (227, .getfield 56, 3, 8, 7, 0, nI 0, 0, []), (230, .getfield 106, 3, 0, 2, 0, nI 0, 0, []), (233, .ireturn, 1, 0, 0, 0, nI 0, 0, []), (234, .aload_n 0, 1, 0, 0, 0, nI 0, 0, []), (235, .getfield 36, 3, 8, 4, 0, nI 0, 0, []), (238, .getfield 98, 3, 3, 2, 0, nI 0, 0, [])],
  [(241, .ireturn, 1, 0, 0, 0, nI 0, 0, []), (242, .ldc 79, 2, 0, 0, 0, (-1000000002), 0, []), (244, .ireturn, 1, 0, 0, 0, nI 0, 0, [])]]
def md_X8_told : MD := (8, yX8_told, cX8_told, 2, (some .int), false, rw_X8_told)
def rw_X8_person : List (List Row) := [[(0, .aload_n 0, 1, 0, 0, 0, nI 0, 0, []), (1, .iload_n 1, 1, 1, 0, 0, nI 0, 0, []), (2, .invokevirtual 152, 3, 102, 2, 8, nI 0, 0, []), (5, .ifCond .ne 6, 3, 11, 0, 0, nI 0, 0, []), (8, .ldc 156, 2, 0, 0, 0, (-1000000001), 0, []), (10, .ireturn, 1, 0, 0, 0, nI 0, 0, []), (11, .iload_n 2, 1, 2, 0, 0, nI 0, 0, []), (12, .tableswitch 111 0 7 #[48, 48, 48, 58, 68, 78, 88, 98], 48, 123, 0, 0, nI 0, 0, [(nI 0, 60), (nI 1, 60), (nI 2, 60), (nI 3, 70), (nI 4, 80), (nI 5, 90), (nI 6, 100), (nI 7, 110)])],
  [],
  [],
  [(60, .aload_n 0, 1, 0, 0, 0, nI 0, 0, []), (61, .getfield 19, 3, 8, 1, 0, nI 0, 0, [])],
  [(64, .iload_n 1, 1, 1, 0, 0, nI 0, 0, []), (65, .iload_n 2, 1, 2, 0, 0, nI 0, 0, []), (66, .invokevirtual 157, 3, 29, 3, 6, nI 0, 0, []), (69, .ireturn, 1, 0, 0, 0, nI 0, 0, []), (70, .aload_n 0, 1, 0, 0, 0, nI 0, 0, []), (71, .getfield 63, 3, 8, 8, 0, nI 0, 0, []), (74, .getfield 161, 3, 4, 1, 0, nI 0, 0, []), (77, .iload_n 1, 1, 1, 0, 0, nI 0, 0, []), (78, .iaload, 1, 0, 0, 0, nI 0, 0, []), (79, .ireturn, 1, 0, 0, 0, nI 0, 0, [])],
  [(80, .aload_n 0, 1, 0, 0, 0, nI 0, 0, []), (81, .getfield 19, 3, 8, 1, 0, nI 0, 0, []), (84, .getfield 165, 3, 6, 1, 0, nI 0, 0, []), (87, .iload_n 1, 1, 1, 0, 0, nI 0, 0, []), (88, .iaload, 1, 0, 0, 0, nI 0, 0, []), (89, .ireturn, 1, 0, 0, 0, nI 0, 0, []), (90, .aload_n 0, 1, 0, 0, 0, nI 0, 0, []), (91, .getfield 19, 3, 8, 1, 0, nI 0, 0, []), (94, .getfield 168, 3, 6, 2, 0, nI 0, 0, [])],
  [(97, .iload_n 1, 1, 1, 0, 0, nI 0, 0, []), (98, .iaload, 1, 0, 0, 0, nI 0, 0, []), (99, .ireturn, 1, 0, 0, 0, nI 0, 0, []), (100, .aload_n 0, 1, 0, 0, 0, nI 0, 0, []), (101, .getfield 19, 3, 8, 1, 0, nI 0, 0, []), (104, .getfield 171, 3, 6, 3, 0, nI 0, 0, []), (107, .iload_n 1, 1, 1, 0, 0, nI 0, 0, []), (108, .iaload, 1, 0, 0, 0, nI 0, 0, []), (109, .ireturn, 1, 0, 0, 0, nI 0, 0, []), (110, .aload_n 0, 1, 0, 0, 0, nI 0, 0, []), (111, .getfield 19, 3, 8, 1, 0, nI 0, 0, [])],
  [(114, .aload_n 0, 1, 0, 0, 0, nI 0, 0, []), (115, .getfield 63, 3, 8, 8, 0, nI 0, 0, []), (118, .iload_n 1, 1, 1, 0, 0, nI 0, 0, []), (119, .invokevirtual 135, 3, 33, 3, 6, nI 0, 0, []), (122, .ireturn, 1, 0, 0, 0, nI 0, 0, []), (123, .ldc 79, 2, 0, 0, 0, (-1000000002), 0, []), (125, .ireturn, 1, 0, 0, 0, nI 0, 0, [])]]
def md_X8_person : MD := (8, yX8_person, cX8_person, 3, (some .int), false, rw_X8_person)
def rw_X8_office : List (List Row) := [[(0, .aload_n 0, 1, 0, 0, 0, nI 0, 0, []), (1, .iload_n 1, 1, 1, 0, 0, nI 0, 0, []), (2, .invokevirtual 174, 3, 103, 2, 8, nI 0, 0, []), (5, .ifCond .ne 6, 3, 11, 0, 0, nI 0, 0, []), (8, .ldc 156, 2, 0, 0, 0, (-1000000001), 0, []), (10, .ireturn, 1, 0, 0, 0, nI 0, 0, []), (11, .iload_n 2, 1, 2, 0, 0, nI 0, 0, []), (12, .lookupswitch 48 #[(0, 28), (1, 38)], 28, 60, 0, 0, nI 0, 0, [(nI 0, 40), (nI 1, 50)])],
  [],
  [(40, .aload_n 0, 1, 0, 0, 0, nI 0, 0, []), (41, .getfield 63, 3, 8, 8, 0, nI 0, 0, []), (44, .getfield 177, 3, 4, 3, 0, nI 0, 0, []), (47, .iload_n 1, 1, 1, 0, 0, nI 0, 0, [])],
  [(48, .iaload, 1, 0, 0, 0, nI 0, 0, []), (49, .ireturn, 1, 0, 0, 0, nI 0, 0, []), (50, .aload_n 0, 1, 0, 0, 0, nI 0, 0, []), (51, .getfield 19, 3, 8, 1, 0, nI 0, 0, []), (54, .getfield 180, 3, 6, 4, 0, nI 0, 0, []), (57, .iload_n 1, 1, 1, 0, 0, nI 0, 0, []), (58, .iaload, 1, 0, 0, 0, nI 0, 0, []), (59, .ireturn, 1, 0, 0, 0, nI 0, 0, []), (60, .ldc 79, 2, 0, 0, 0, (-1000000002), 0, []), (62, .ireturn, 1, 0, 0, 0, nI 0, 0, [])]]
def md_X8_office : MD := (8, yX8_office, cX8_office, 3, (some .int), false, rw_X8_office)
def rw_X8_ahead : List (List Row) := [[(0, .iload_n 1, 1, 1, 0, 0, nI 0, 0, []), (1, .iconst 0, 1, 0, 0, 0, nI 0, 0, []), (2, .bipush 60, 2, 0, 0, 0, nI 60, 0, []), (4, .invokestatic 75, 3, 100, 3, 0, nI 0, 0, []), (7, .ifCond .ne 6, 3, 13, 0, 0, nI 0, 0, []), (10, .ldc 79, 2, 0, 0, 0, (-1000000002), 0, []), (12, .ireturn, 1, 0, 0, 0, nI 0, 0, []), (13, .aload_n 0, 1, 0, 0, 0, nI 0, 0, []), (14, .getfield 63, 3, 8, 8, 0, nI 0, 0, [])],
  [(17, .invokevirtual 183, 3, 15, 1, 4, nI 0, 0, []), (20, .ifCond .eq 22, 3, 42, 0, 0, nI 0, 0, []), (23, .aload_n 0, 1, 0, 0, 0, nI 0, 0, []), (24, .getfield 63, 3, 8, 8, 0, nI 0, 0, []), (27, .aload_n 0, 1, 0, 0, 0, nI 0, 0, []), (28, .getfield 19, 3, 8, 1, 0, nI 0, 0, []), (31, .getfield 125, 3, 6, 7, 0, nI 0, 0, [])],
  [(34, .iload_n 1, 1, 1, 0, 0, nI 0, 0, []), (35, .iadd, 1, 0, 0, 0, nI 0, 0, []), (36, .invokevirtual 187, 3, 17, 2, 4, nI 0, 0, []), (39, .goto 5, 3, 44, 0, 0, nI 0, 0, []), (42, .ldc 190, 2, 0, 0, 0, (-1000000003), 0, []), (44, .ireturn, 1, 0, 0, 0, nI 0, 0, [])]]
def md_X8_ahead : MD := (8, yX8_ahead, cX8_ahead, 2, (some .int), false, rw_X8_ahead)
def rw_X8_logged : List (List Row) := [[(0, .iload_n 2, 1, 2, 0, 0, nI 0, 0, []), (1, .iconst 0, 1, 0, 0, 0, nI 0, 0, []), (2, .iconst 3, 1, 0, 0, 0, nI 3, 0, []), (3, .invokestatic 75, 3, 100, 3, 0, nI 0, 0, []), (6, .ifCond .ne 6, 3, 12, 0, 0, nI 0, 0, []), (9, .ldc 79, 2, 0, 0, 0, (-1000000002), 0, []), (11, .ireturn, 1, 0, 0, 0, nI 0, 0, []), (12, .aload_n 0, 1, 0, 0, 0, nI 0, 0, []), (13, .getfield 19, 3, 8, 1, 0, nI 0, 0, [])],
  [(16, .iload_n 1, 1, 1, 0, 0, nI 0, 0, []), (17, .iload_n 2, 1, 2, 0, 0, nI 0, 0, []), (18, .invokevirtual 191, 3, 41, 3, 6, nI 0, 0, []), (21, .ireturn, 1, 0, 0, 0, nI 0, 0, [])]]
def md_X8_logged : MD := (8, yX8_logged, cX8_logged, 3, (some .int), false, rw_X8_logged)
def rw_X8_day : List (List Row) := [[(0, .aload_n 0, 1, 0, 0, 0, nI 0, 0, []), (1, .iload_n 1, 1, 1, 0, 0, nI 0, 0, []), (2, .invokevirtual 194, 3, 104, 2, 8, nI 0, 0, []), (5, .istore_n 2, 1, 2, 0, 0, nI 0, 0, []), (6, .iload_n 2, 1, 2, 0, 0, nI 0, 0, []), (7, .ifCond .eq 5, 3, 12, 0, 0, nI 0, 0, []), (10, .iload_n 2, 1, 2, 0, 0, nI 0, 0, []), (11, .ireturn, 1, 0, 0, 0, nI 0, 0, []), (12, .iconst 0, 1, 0, 0, 0, nI 0, 0, []), (13, .istore_n 3, 1, 3, 0, 0, nI 0, 0, []), (14, .iload_n 3, 1, 3, 0, 0, nI 0, 0, []), (15, .iload_n 1, 1, 1, 0, 0, nI 0, 0, [])],
  [(16, .if_icmp .ge 35, 3, 51, 0, 0, nI 0, 0, []), (19, .aload_n 0, 1, 0, 0, 0, nI 0, 0, []), (20, .getfield 36, 3, 8, 4, 0, nI 0, 0, []), (23, .aload_n 0, 1, 0, 0, 0, nI 0, 0, []), (24, .getfield 19, 3, 8, 1, 0, nI 0, 0, []), (27, .invokevirtual 197, 3, 12, 2, 3, nI 0, 0, []), (30, .aload_n 0, 1, 0, 0, 0, nI 0, 0, []), (31, .getfield 19, 3, 8, 1, 0, nI 0, 0, [])],
  [(34, .aload_n 0, 1, 0, 0, 0, nI 0, 0, []), (35, .getfield 63, 3, 8, 8, 0, nI 0, 0, []), (38, .aload_n 0, 1, 0, 0, 0, nI 0, 0, []), (39, .getfield 29, 3, 8, 3, 0, nI 0, 0, []), (42, .invokevirtual 201, 3, 36, 3, 6, nI 0, 0, []), (45, .iinc 3 1, 3, 3, 0, 0, nI 1, 0, [])],
  [(48, .goto (-34), 3, 14, 0, 0, nI 0, 0, []), (51, .aload_n 0, 1, 0, 0, 0, nI 0, 0, []), (52, .getfield 19, 3, 8, 1, 0, nI 0, 0, []), (55, .getfield 125, 3, 6, 7, 0, nI 0, 0, []), (58, .ireturn, 1, 0, 0, 0, nI 0, 0, [])]]
def md_X8_day : MD := (8, yX8_day, cX8_day, 4, (some .int), false, rw_X8_day)
def rw_X8_effort : List (List Row) := [[(0, .aload_n 0, 1, 0, 0, 0, nI 0, 0, []), (1, .iload_n 1, 1, 1, 0, 0, nI 0, 0, []), (2, .invokevirtual 152, 3, 102, 2, 8, nI 0, 0, []), (5, .ifCond .ne 6, 3, 11, 0, 0, nI 0, 0, []), (8, .ldc 156, 2, 0, 0, 0, (-1000000001), 0, []), (10, .ireturn, 1, 0, 0, 0, nI 0, 0, []), (11, .iload_n 2, 1, 2, 0, 0, nI 0, 0, []), (12, .iconst 0, 1, 0, 0, 0, nI 0, 0, []), (13, .bipush 9, 2, 0, 0, 0, nI 9, 0, []), (15, .invokestatic 75, 3, 100, 3, 0, nI 0, 0, [])],
  [(18, .ifCond .ne 6, 3, 24, 0, 0, nI 0, 0, []), (21, .ldc 79, 2, 0, 0, 0, (-1000000002), 0, []), (23, .ireturn, 1, 0, 0, 0, nI 0, 0, []), (24, .aload_n 0, 1, 0, 0, 0, nI 0, 0, []), (25, .getfield 36, 3, 8, 4, 0, nI 0, 0, []), (28, .aload_n 0, 1, 0, 0, 0, nI 0, 0, []), (29, .getfield 19, 3, 8, 1, 0, nI 0, 0, [])],
  [(32, .invokevirtual 197, 3, 12, 2, 3, nI 0, 0, []), (35, .aload_n 0, 1, 0, 0, 0, nI 0, 0, []), (36, .getfield 19, 3, 8, 1, 0, nI 0, 0, []), (39, .getfield 165, 3, 6, 1, 0, nI 0, 0, []), (42, .iload_n 1, 1, 1, 0, 0, nI 0, 0, []), (43, .iaload, 1, 0, 0, 0, nI 0, 0, []), (44, .istore_n 3, 1, 3, 0, 0, nI 0, 0, []), (45, .aload_n 0, 1, 0, 0, 0, nI 0, 0, []), (46, .getfield 19, 3, 8, 1, 0, nI 0, 0, [])],
  [(49, .getfield 165, 3, 6, 1, 0, nI 0, 0, []), (52, .iload_n 1, 1, 1, 0, 0, nI 0, 0, []), (53, .iload_n 2, 1, 2, 0, 0, nI 0, 0, []), (54, .iastore, 1, 0, 0, 0, nI 0, 0, []), (55, .iload_n 3, 1, 3, 0, 0, nI 0, 0, []), (56, .ireturn, 1, 0, 0, 0, nI 0, 0, [])]]
def md_X8_effort : MD := (8, yX8_effort, cX8_effort, 4, (some .int), false, rw_X8_effort)
def rw_X8_rain : List (List Row) := [[(0, .aload_n 0, 1, 0, 0, 0, nI 0, 0, []), (1, .getfield 63, 3, 8, 8, 0, nI 0, 0, []), (4, .invokevirtual 183, 3, 15, 1, 4, nI 0, 0, []), (7, .ifCond .ne 6, 3, 13, 0, 0, nI 0, 0, []), (10, .ldc 190, 2, 0, 0, 0, (-1000000003), 0, []), (12, .ireturn, 1, 0, 0, 0, nI 0, 0, []), (13, .aload_n 0, 1, 0, 0, 0, nI 0, 0, []), (14, .getfield 36, 3, 8, 4, 0, nI 0, 0, [])],
  [(17, .aload_n 0, 1, 0, 0, 0, nI 0, 0, []), (18, .getfield 19, 3, 8, 1, 0, nI 0, 0, []), (21, .invokevirtual 197, 3, 12, 2, 3, nI 0, 0, []), (24, .aload_n 0, 1, 0, 0, 0, nI 0, 0, []), (25, .getfield 19, 3, 8, 1, 0, nI 0, 0, []), (28, .getfield 128, 3, 6, 8, 0, nI 0, 0, []), (31, .ifCond .eq 7, 3, 38, 0, 0, nI 0, 0, [])],
  [(34, .iconst 1, 1, 0, 0, 0, nI 1, 0, []), (35, .goto 4, 3, 39, 0, 0, nI 0, 0, []), (38, .iconst 0, 1, 0, 0, 0, nI 0, 0, []), (39, .istore_n 2, 1, 2, 0, 0, nI 0, 0, []), (40, .aload_n 0, 1, 0, 0, 0, nI 0, 0, []), (41, .getfield 19, 3, 8, 1, 0, nI 0, 0, []), (44, .iload_n 1, 1, 1, 0, 0, nI 0, 0, []), (45, .putfield 128, 3, 6, 8, 0, nI 0, 0, [])],
  [(48, .iload_n 2, 1, 2, 0, 0, nI 0, 0, []), (49, .ireturn, 1, 0, 0, 0, nI 0, 0, [])]]
def md_X8_rain : MD := (8, yX8_rain, cX8_rain, 3, (some .int), false, rw_X8_rain)
def rw_X8_teach : List (List Row) := [[(0, .aload_n 0, 1, 0, 0, 0, nI 0, 0, []), (1, .iload_n 1, 1, 1, 0, 0, nI 0, 0, []), (2, .invokevirtual 152, 3, 102, 2, 8, nI 0, 0, []), (5, .ifCond .ne 6, 3, 11, 0, 0, nI 0, 0, []), (8, .ldc 156, 2, 0, 0, 0, (-1000000001), 0, []), (10, .ireturn, 1, 0, 0, 0, nI 0, 0, []), (11, .iload_n 2, 1, 2, 0, 0, nI 0, 0, []), (12, .invokestatic 205, 3, 101, 1, 0, nI 0, 0, []), (15, .ifCond .eq 13, 3, 28, 0, 0, nI 0, 0, [])],
  [(18, .iload_n 3, 1, 3, 0, 0, nI 0, 0, []), (19, .iconst 0, 1, 0, 0, 0, nI 0, 0, []), (20, .bipush 9, 2, 0, 0, 0, nI 9, 0, []), (22, .invokestatic 75, 3, 100, 3, 0, nI 0, 0, []), (25, .ifCond .ne 6, 3, 31, 0, 0, nI 0, 0, []), (28, .ldc 79, 2, 0, 0, 0, (-1000000002), 0, []), (30, .ireturn, 1, 0, 0, 0, nI 0, 0, []), (31, .aload_n 0, 1, 0, 0, 0, nI 0, 0, [])],
  [(32, .getfield 36, 3, 8, 4, 0, nI 0, 0, []), (35, .aload_n 0, 1, 0, 0, 0, nI 0, 0, []), (36, .getfield 19, 3, 8, 1, 0, nI 0, 0, []), (39, .invokevirtual 197, 3, 12, 2, 3, nI 0, 0, []), (42, .aload_n 0, 1, 0, 0, 0, nI 0, 0, []), (43, .getfield 19, 3, 8, 1, 0, nI 0, 0, []), (46, .iload_n 1, 1, 1, 0, 0, nI 0, 0, []), (47, .iload_n 2, 1, 2, 0, 0, nI 0, 0, [])],
  [(48, .invokevirtual 157, 3, 29, 3, 6, nI 0, 0, []), (51, .istore 4, 2, 4, 0, 0, nI 0, 0, []), (53, .aload_n 0, 1, 0, 0, 0, nI 0, 0, []), (54, .getfield 19, 3, 8, 1, 0, nI 0, 0, []), (57, .iload_n 1, 1, 1, 0, 0, nI 0, 0, []), (58, .iload_n 2, 1, 2, 0, 0, nI 0, 0, []), (59, .iload_n 3, 1, 3, 0, 0, nI 0, 0, []), (60, .invokevirtual 208, 3, 30, 4, 6, nI 0, 0, []), (63, .iload 4, 2, 4, 0, 0, nI 0, 0, [])],
  [(65, .ireturn, 1, 0, 0, 0, nI 0, 0, [])]]
def md_X8_teach : MD := (8, yX8_teach, cX8_teach, 5, (some .int), false, rw_X8_teach)
def rw_X8_send : List (List Row) := [[(0, .aload_n 0, 1, 0, 0, 0, nI 0, 0, []), (1, .iload_n 1, 1, 1, 0, 0, nI 0, 0, []), (2, .invokevirtual 152, 3, 102, 2, 8, nI 0, 0, []), (5, .ifCond .ne 6, 3, 11, 0, 0, nI 0, 0, []), (8, .ldc 156, 2, 0, 0, 0, (-1000000001), 0, []), (10, .ireturn, 1, 0, 0, 0, nI 0, 0, []), (11, .aload_n 0, 1, 0, 0, 0, nI 0, 0, []), (12, .getfield 19, 3, 8, 1, 0, nI 0, 0, []), (15, .iload_n 1, 1, 1, 0, 0, nI 0, 0, [])],
  [(16, .invokevirtual 212, 3, 31, 2, 6, nI 0, 0, []), (19, .ifCond .ne 6, 3, 25, 0, 0, nI 0, 0, []), (22, .ldc 190, 2, 0, 0, 0, (-1000000003), 0, []), (24, .ireturn, 1, 0, 0, 0, nI 0, 0, []), (25, .aload_n 0, 1, 0, 0, 0, nI 0, 0, []), (26, .getfield 36, 3, 8, 4, 0, nI 0, 0, []), (29, .aload_n 0, 1, 0, 0, 0, nI 0, 0, []), (30, .getfield 19, 3, 8, 1, 0, nI 0, 0, [])],
  [(33, .invokevirtual 197, 3, 12, 2, 3, nI 0, 0, []), (36, .aload_n 0, 1, 0, 0, 0, nI 0, 0, []), (37, .getfield 19, 3, 8, 1, 0, nI 0, 0, []), (40, .aload_n 0, 1, 0, 0, 0, nI 0, 0, []), (41, .getfield 63, 3, 8, 8, 0, nI 0, 0, []), (44, .iload_n 1, 1, 1, 0, 0, nI 0, 0, []), (45, .invokevirtual 215, 3, 35, 3, 6, nI 0, 0, [])],
  [(48, .aload_n 0, 1, 0, 0, 0, nI 0, 0, []), (49, .getfield 19, 3, 8, 1, 0, nI 0, 0, []), (52, .aload_n 0, 1, 0, 0, 0, nI 0, 0, []), (53, .getfield 63, 3, 8, 8, 0, nI 0, 0, []), (56, .invokevirtual 131, 3, 32, 2, 6, nI 0, 0, []), (59, .invokestatic 219, 3, 196, 1, 0, nI 0, 0, []), (62, .ireturn, 1, 0, 0, 0, nI 0, 0, [])]]
def md_X8_send : MD := (8, yX8_send, cX8_send, 2, (some .int), false, rw_X8_send)
def rw_X8_recall : List (List Row) := [[(0, .aload_n 0, 1, 0, 0, 0, nI 0, 0, []), (1, .iload_n 1, 1, 1, 0, 0, nI 0, 0, []), (2, .invokevirtual 152, 3, 102, 2, 8, nI 0, 0, []), (5, .ifCond .ne 6, 3, 11, 0, 0, nI 0, 0, []), (8, .ldc 156, 2, 0, 0, 0, (-1000000001), 0, []), (10, .ireturn, 1, 0, 0, 0, nI 0, 0, []), (11, .aload_n 0, 1, 0, 0, 0, nI 0, 0, []), (12, .getfield 19, 3, 8, 1, 0, nI 0, 0, []), (15, .iload_n 1, 1, 1, 0, 0, nI 0, 0, [])],
  [(16, .invokevirtual 212, 3, 31, 2, 6, nI 0, 0, []), (19, .ifCond .eq 6, 3, 25, 0, 0, nI 0, 0, []), (22, .ldc 190, 2, 0, 0, 0, (-1000000003), 0, []), (24, .ireturn, 1, 0, 0, 0, nI 0, 0, []), (25, .aload_n 0, 1, 0, 0, 0, nI 0, 0, []), (26, .getfield 36, 3, 8, 4, 0, nI 0, 0, []), (29, .aload_n 0, 1, 0, 0, 0, nI 0, 0, []), (30, .getfield 19, 3, 8, 1, 0, nI 0, 0, [])],
  [(33, .invokevirtual 197, 3, 12, 2, 3, nI 0, 0, []), (36, .aload_n 0, 1, 0, 0, 0, nI 0, 0, []), (37, .getfield 19, 3, 8, 1, 0, nI 0, 0, []), (40, .getfield 168, 3, 6, 2, 0, nI 0, 0, []), (43, .iload_n 1, 1, 1, 0, 0, nI 0, 0, []), (44, .iconst 0, 1, 0, 0, 0, nI 0, 0, []), (45, .iastore, 1, 0, 0, 0, nI 0, 0, []), (46, .aload_n 0, 1, 0, 0, 0, nI 0, 0, []), (47, .getfield 19, 3, 8, 1, 0, nI 0, 0, [])],
  [(50, .aload_n 0, 1, 0, 0, 0, nI 0, 0, []), (51, .getfield 63, 3, 8, 8, 0, nI 0, 0, []), (54, .invokevirtual 131, 3, 32, 2, 6, nI 0, 0, []), (57, .invokestatic 219, 3, 196, 1, 0, nI 0, 0, []), (60, .ireturn, 1, 0, 0, 0, nI 0, 0, [])]]
def md_X8_recall : MD := (8, yX8_recall, cX8_recall, 2, (some .int), false, rw_X8_recall)
def rw_X8_drift : List (List Row) := [[(0, .aload_n 0, 1, 0, 0, 0, nI 0, 0, []), (1, .iload_n 1, 1, 1, 0, 0, nI 0, 0, []), (2, .invokevirtual 194, 3, 104, 2, 8, nI 0, 0, []), (5, .istore_n 2, 1, 2, 0, 0, nI 0, 0, []), (6, .iload_n 2, 1, 2, 0, 0, nI 0, 0, []), (7, .ifCond .eq 5, 3, 12, 0, 0, nI 0, 0, []), (10, .iload_n 2, 1, 2, 0, 0, nI 0, 0, []), (11, .ireturn, 1, 0, 0, 0, nI 0, 0, []), (12, .iconst 0, 1, 0, 0, 0, nI 0, 0, []), (13, .istore_n 3, 1, 3, 0, 0, nI 0, 0, []), (14, .iload_n 3, 1, 3, 0, 0, nI 0, 0, []), (15, .iload_n 1, 1, 1, 0, 0, nI 0, 0, [])],
  [(16, .if_icmp .ge 39, 3, 55, 0, 0, nI 0, 0, []), (19, .aload_n 0, 1, 0, 0, 0, nI 0, 0, []), (20, .getfield 36, 3, 8, 4, 0, nI 0, 0, []), (23, .aload_n 0, 1, 0, 0, 0, nI 0, 0, []), (24, .getfield 19, 3, 8, 1, 0, nI 0, 0, []), (27, .invokevirtual 197, 3, 12, 2, 3, nI 0, 0, []), (30, .aload_n 0, 1, 0, 0, 0, nI 0, 0, []), (31, .invokevirtual 224, 3, 106, 1, 8, nI 0, 0, [])],
  [(34, .aload_n 0, 1, 0, 0, 0, nI 0, 0, []), (35, .getfield 19, 3, 8, 1, 0, nI 0, 0, []), (38, .aload_n 0, 1, 0, 0, 0, nI 0, 0, []), (39, .getfield 63, 3, 8, 8, 0, nI 0, 0, []), (42, .aload_n 0, 1, 0, 0, 0, nI 0, 0, []), (43, .getfield 29, 3, 8, 3, 0, nI 0, 0, []), (46, .invokevirtual 201, 3, 36, 3, 6, nI 0, 0, [])],
  [(49, .iinc 3 1, 3, 3, 0, 0, nI 1, 0, []), (52, .goto (-38), 3, 14, 0, 0, nI 0, 0, []), (55, .aload_n 0, 1, 0, 0, 0, nI 0, 0, []), (56, .getfield 19, 3, 8, 1, 0, nI 0, 0, []), (59, .getfield 125, 3, 6, 7, 0, nI 0, 0, []), (62, .ireturn, 1, 0, 0, 0, nI 0, 0, [])]]
def md_X8_drift : MD := (8, yX8_drift, cX8_drift, 4, (some .int), false, rw_X8_drift)
def rw_X8_undo : List (List Row) := [[(0, .iload_n 1, 1, 1, 0, 0, nI 0, 0, []), (1, .iconst 1, 1, 0, 0, 0, nI 1, 0, []), (2, .bipush 30, 2, 0, 0, 0, nI 30, 0, []), (4, .invokestatic 75, 3, 100, 3, 0, nI 0, 0, []), (7, .ifCond .ne 6, 3, 13, 0, 0, nI 0, 0, []), (10, .ldc 79, 2, 0, 0, 0, (-1000000002), 0, []), (12, .ireturn, 1, 0, 0, 0, nI 0, 0, []), (13, .iload_n 1, 1, 1, 0, 0, nI 0, 0, []), (14, .aload_n 0, 1, 0, 0, 0, nI 0, 0, []), (15, .getfield 36, 3, 8, 4, 0, nI 0, 0, [])],
  [(18, .getfield 98, 3, 3, 2, 0, nI 0, 0, []), (21, .if_icmp .le 6, 3, 27, 0, 0, nI 0, 0, []), (24, .ldc 190, 2, 0, 0, 0, (-1000000003), 0, []), (26, .ireturn, 1, 0, 0, 0, nI 0, 0, []), (27, .aload_n 0, 1, 0, 0, 0, nI 0, 0, []), (28, .getfield 36, 3, 8, 4, 0, nI 0, 0, []), (31, .aload_n 0, 1, 0, 0, 0, nI 0, 0, [])],
  [(32, .getfield 19, 3, 8, 1, 0, nI 0, 0, []), (35, .iload_n 1, 1, 1, 0, 0, nI 0, 0, []), (36, .invokevirtual 227, 3, 13, 3, 3, nI 0, 0, []), (39, .aload_n 0, 1, 0, 0, 0, nI 0, 0, []), (40, .getfield 19, 3, 8, 1, 0, nI 0, 0, []), (43, .getfield 125, 3, 6, 7, 0, nI 0, 0, []), (46, .ireturn, 1, 0, 0, 0, nI 0, 0, [])]]
def md_X8_undo : MD := (8, yX8_undo, cX8_undo, 2, (some .int), false, rw_X8_undo)
def rw_X8_mark : List (List Row) := [[(0, .aload_n 0, 1, 0, 0, 0, nI 0, 0, []), (1, .iload_n 1, 1, 1, 0, 0, nI 0, 0, []), (2, .invokevirtual 152, 3, 102, 2, 8, nI 0, 0, []), (5, .ifCond .ne 6, 3, 11, 0, 0, nI 0, 0, []), (8, .ldc 156, 2, 0, 0, 0, (-1000000001), 0, []), (10, .ireturn, 1, 0, 0, 0, nI 0, 0, []), (11, .iload_n 2, 1, 2, 0, 0, nI 0, 0, []), (12, .invokestatic 205, 3, 101, 1, 0, nI 0, 0, []), (15, .ifCond .eq 19, 3, 34, 0, 0, nI 0, 0, [])],
  [(18, .aload_n 0, 1, 0, 0, 0, nI 0, 0, []), (19, .getfield 19, 3, 8, 1, 0, nI 0, 0, []), (22, .aload_n 0, 1, 0, 0, 0, nI 0, 0, []), (23, .getfield 63, 3, 8, 8, 0, nI 0, 0, []), (26, .iload_n 1, 1, 1, 0, 0, nI 0, 0, []), (27, .iload_n 2, 1, 2, 0, 0, nI 0, 0, []), (28, .invokevirtual 231, 3, 34, 4, 6, nI 0, 0, []), (31, .goto 5, 3, 36, 0, 0, nI 0, 0, [])],
  [(34, .ldc 79, 2, 0, 0, 0, (-1000000002), 0, []), (36, .ireturn, 1, 0, 0, 0, nI 0, 0, [])]]
def md_X8_mark : MD := (8, yX8_mark, cX8_mark, 3, (some .int), false, rw_X8_mark)
def rw_X8_place : List (List Row) := [[(0, .aload_n 0, 1, 0, 0, 0, nI 0, 0, []), (1, .iload_n 1, 1, 1, 0, 0, nI 0, 0, []), (2, .invokevirtual 152, 3, 102, 2, 8, nI 0, 0, []), (5, .ifCond .ne 6, 3, 11, 0, 0, nI 0, 0, []), (8, .ldc 156, 2, 0, 0, 0, (-1000000001), 0, []), (10, .ireturn, 1, 0, 0, 0, nI 0, 0, []), (11, .iload_n 2, 1, 2, 0, 0, nI 0, 0, []), (12, .invokestatic 205, 3, 101, 1, 0, nI 0, 0, []), (15, .ifCond .ne 6, 3, 21, 0, 0, nI 0, 0, [])],
  [(18, .ldc 79, 2, 0, 0, 0, (-1000000002), 0, []), (20, .ireturn, 1, 0, 0, 0, nI 0, 0, []), (21, .aload_n 0, 1, 0, 0, 0, nI 0, 0, []), (22, .getfield 19, 3, 8, 1, 0, nI 0, 0, []), (25, .iload_n 1, 1, 1, 0, 0, nI 0, 0, []), (26, .invokevirtual 212, 3, 31, 2, 6, nI 0, 0, []), (29, .ifCond .ne 5, 3, 34, 0, 0, nI 0, 0, [])],
  [(32, .iconst (-1), 1, 0, 0, 0, (-1), 0, []), (33, .ireturn, 1, 0, 0, 0, nI 0, 0, []), (34, .aload_n 0, 1, 0, 0, 0, nI 0, 0, []), (35, .getfield 29, 3, 8, 3, 0, nI 0, 0, []), (38, .aload_n 0, 1, 0, 0, 0, nI 0, 0, []), (39, .getfield 63, 3, 8, 8, 0, nI 0, 0, []), (42, .aload_n 0, 1, 0, 0, 0, nI 0, 0, []), (43, .getfield 19, 3, 8, 1, 0, nI 0, 0, []), (46, .iload_n 2, 1, 2, 0, 0, nI 0, 0, []), (47, .invokevirtual 235, 3, 4, 4, 1, nI 0, 0, [])],
  [(50, .aload_n 0, 1, 0, 0, 0, nI 0, 0, []), (51, .getfield 29, 3, 8, 3, 0, nI 0, 0, []), (54, .aload_n 0, 1, 0, 0, 0, nI 0, 0, []), (55, .getfield 63, 3, 8, 8, 0, nI 0, 0, []), (58, .aload_n 0, 1, 0, 0, 0, nI 0, 0, []), (59, .getfield 19, 3, 8, 1, 0, nI 0, 0, []), (62, .iload_n 1, 1, 1, 0, 0, nI 0, 0, []), (63, .invokevirtual 239, 3, 6, 4, 1, nI 0, 0, [])],
  [(66, .ireturn, 1, 0, 0, 0, nI 0, 0, [])]]
def md_X8_place : MD := (8, yX8_place, cX8_place, 3, (some .int), false, rw_X8_place)
def rw_X8_wouldBe : List (List Row) := [[(0, .iload_n 1, 1, 1, 0, 0, nI 0, 0, []), (1, .invokestatic 205, 3, 101, 1, 0, nI 0, 0, []), (4, .ifCond .eq 12, 3, 16, 0, 0, nI 0, 0, []), (7, .iload_n 2, 1, 2, 0, 0, nI 0, 0, []), (8, .iconst 0, 1, 0, 0, 0, nI 0, 0, []), (9, .iconst 1, 1, 0, 0, 0, nI 1, 0, []), (10, .invokestatic 75, 3, 100, 3, 0, nI 0, 0, []), (13, .ifCond .ne 6, 3, 19, 0, 0, nI 0, 0, [])],
  [(16, .ldc 79, 2, 0, 0, 0, (-1000000002), 0, []), (18, .ireturn, 1, 0, 0, 0, nI 0, 0, []), (19, .aload_n 0, 1, 0, 0, 0, nI 0, 0, []), (20, .getfield 29, 3, 8, 3, 0, nI 0, 0, []), (23, .aload_n 0, 1, 0, 0, 0, nI 0, 0, []), (24, .getfield 63, 3, 8, 8, 0, nI 0, 0, []), (27, .aload_n 0, 1, 0, 0, 0, nI 0, 0, []), (28, .getfield 19, 3, 8, 1, 0, nI 0, 0, []), (31, .iload_n 1, 1, 1, 0, 0, nI 0, 0, [])],
  [(32, .invokevirtual 235, 3, 4, 4, 1, nI 0, 0, []), (35, .iload_n 2, 1, 2, 0, 0, nI 0, 0, []), (36, .ifCond .ne 13, 3, 49, 0, 0, nI 0, 0, []), (39, .aload_n 0, 1, 0, 0, 0, nI 0, 0, []), (40, .getfield 29, 3, 8, 3, 0, nI 0, 0, []), (43, .getfield 243, 3, 1, 1, 0, nI 0, 0, []), (46, .goto 10, 3, 56, 0, 0, nI 0, 0, [])],
  [(49, .aload_n 0, 1, 0, 0, 0, nI 0, 0, []), (50, .getfield 29, 3, 8, 3, 0, nI 0, 0, []), (53, .getfield 246, 3, 1, 3, 0, nI 0, 0, []), (56, .ireturn, 1, 0, 0, 0, nI 0, 0, [])]]
def md_X8_wouldBe : MD := (8, yX8_wouldBe, cX8_wouldBe, 3, (some .int), false, rw_X8_wouldBe)
def rw_X8_holds : List (List Row) := [[(0, .aload_n 0, 1, 0, 0, 0, nI 0, 0, []), (1, .iload_n 1, 1, 1, 0, 0, nI 0, 0, []), (2, .invokevirtual 174, 3, 103, 2, 8, nI 0, 0, []), (5, .ifCond .ne 6, 3, 11, 0, 0, nI 0, 0, []), (8, .ldc 156, 2, 0, 0, 0, (-1000000001), 0, []), (10, .ireturn, 1, 0, 0, 0, nI 0, 0, []), (11, .iload_n 2, 1, 2, 0, 0, nI 0, 0, []), (12, .iconst 0, 1, 0, 0, 0, nI 0, 0, []), (13, .bipush 60, 2, 0, 0, 0, nI 60, 0, []), (15, .invokestatic 75, 3, 100, 3, 0, nI 0, 0, [])],
  [(18, .ifCond .ne 6, 3, 24, 0, 0, nI 0, 0, []), (21, .ldc 79, 2, 0, 0, 0, (-1000000002), 0, []), (23, .ireturn, 1, 0, 0, 0, nI 0, 0, []), (24, .aload_n 0, 1, 0, 0, 0, nI 0, 0, []), (25, .getfield 23, 3, 8, 2, 0, nI 0, 0, []), (28, .aload_n 0, 1, 0, 0, 0, nI 0, 0, []), (29, .getfield 19, 3, 8, 1, 0, nI 0, 0, [])],
  [(32, .invokevirtual 249, 3, 28, 2, 6, nI 0, 0, []), (35, .aload_n 0, 1, 0, 0, 0, nI 0, 0, []), (36, .iload_n 1, 1, 1, 0, 0, nI 0, 0, []), (37, .iload_n 2, 1, 2, 0, 0, nI 0, 0, []), (38, .invokevirtual 252, 3, 108, 3, 8, nI 0, 0, []), (41, .ireturn, 1, 0, 0, 0, nI 0, 0, [])]]
def md_X8_holds : MD := (8, yX8_holds, cX8_holds, 3, (some .int), false, rw_X8_holds)
def rw_X8_efforts : List (List Row) := [[(0, .aload_n 0, 1, 0, 0, 0, nI 0, 0, []), (1, .iload_n 1, 1, 1, 0, 0, nI 0, 0, []), (2, .invokevirtual 152, 3, 102, 2, 8, nI 0, 0, []), (5, .ifCond .ne 6, 3, 11, 0, 0, nI 0, 0, []), (8, .ldc 156, 2, 0, 0, 0, (-1000000001), 0, []), (10, .ireturn, 1, 0, 0, 0, nI 0, 0, []), (11, .iload_n 2, 1, 2, 0, 0, nI 0, 0, []), (12, .invokestatic 205, 3, 101, 1, 0, nI 0, 0, []), (15, .ifCond .ne 6, 3, 21, 0, 0, nI 0, 0, [])],
  [(18, .ldc 79, 2, 0, 0, 0, (-1000000002), 0, []), (20, .ireturn, 1, 0, 0, 0, nI 0, 0, []), (21, .aload_n 0, 1, 0, 0, 0, nI 0, 0, []), (22, .getfield 19, 3, 8, 1, 0, nI 0, 0, []), (25, .iload_n 1, 1, 1, 0, 0, nI 0, 0, []), (26, .invokevirtual 212, 3, 31, 2, 6, nI 0, 0, []), (29, .ifCond .eq 12, 3, 41, 0, 0, nI 0, 0, [])],
  [(32, .aload_n 0, 1, 0, 0, 0, nI 0, 0, []), (33, .iload_n 1, 1, 1, 0, 0, nI 0, 0, []), (34, .iload_n 2, 1, 2, 0, 0, nI 0, 0, []), (35, .invokevirtual 255, 3, 109, 3, 8, nI 0, 0, []), (38, .goto 5, 3, 43, 0, 0, nI 0, 0, []), (41, .ldc 190, 2, 0, 0, 0, (-1000000003), 0, []), (43, .ireturn, 1, 0, 0, 0, nI 0, 0, [])]]
def md_X8_efforts : MD := (8, yX8_efforts, cX8_efforts, 3, (some .int), false, rw_X8_efforts)
def rw_X8_restless : List (List Row) := [[(0, .iload_n 1, 1, 1, 0, 0, nI 0, 0, []), (1, .invokestatic 205, 3, 101, 1, 0, nI 0, 0, []), (4, .ifCond .ne 6, 3, 10, 0, 0, nI 0, 0, []), (7, .ldc 79, 2, 0, 0, 0, (-1000000002), 0, []), (9, .ireturn, 1, 0, 0, 0, nI 0, 0, []), (10, .iconst 0, 1, 0, 0, 0, nI 0, 0, []), (11, .istore_n 2, 1, 2, 0, 0, nI 0, 0, []), (12, .iconst 0, 1, 0, 0, 0, nI 0, 0, []), (13, .istore_n 3, 1, 3, 0, 0, nI 0, 0, []), (14, .iload_n 3, 1, 3, 0, 0, nI 0, 0, []), (15, .aload_n 0, 1, 0, 0, 0, nI 0, 0, [])],
  [(16, .getfield 63, 3, 8, 8, 0, nI 0, 0, []), (19, .getfield 107, 3, 4, 6, 0, nI 0, 0, []), (22, .if_icmp .ge 24, 3, 46, 0, 0, nI 0, 0, []), (25, .aload_n 0, 1, 0, 0, 0, nI 0, 0, []), (26, .iload_n 3, 1, 3, 0, 0, nI 0, 0, []), (27, .iload_n 1, 1, 1, 0, 0, nI 0, 0, []), (28, .invokevirtual 258, 3, 110, 3, 8, nI 0, 0, []), (31, .ifCond .eq 9, 3, 40, 0, 0, nI 0, 0, [])],
  [(34, .iload_n 2, 1, 2, 0, 0, nI 0, 0, []), (35, .iconst 1, 1, 0, 0, 0, nI 1, 0, []), (36, .iload_n 3, 1, 3, 0, 0, nI 0, 0, []), (37, .ishl, 1, 0, 0, 0, nI 0, 0, []), (38, .ior, 1, 0, 0, 0, nI 0, 0, []), (39, .istore_n 2, 1, 2, 0, 0, nI 0, 0, []), (40, .iinc 3 1, 3, 3, 0, 0, nI 1, 0, []), (43, .goto (-29), 3, 14, 0, 0, nI 0, 0, []), (46, .iload_n 2, 1, 2, 0, 0, nI 0, 0, []), (47, .ireturn, 1, 0, 0, 0, nI 0, 0, [])]]
def md_X8_restless : MD := (8, yX8_restless, cX8_restless, 4, (some .int), false, rw_X8_restless)
def rw_X8_letWin : List (List Row) := [[(0, .aload_n 0, 1, 0, 0, 0, nI 0, 0, []), (1, .iload_n 1, 1, 1, 0, 0, nI 0, 0, []), (2, .invokevirtual 152, 3, 102, 2, 8, nI 0, 0, []), (5, .ifCond .ne 6, 3, 11, 0, 0, nI 0, 0, []), (8, .ldc 156, 2, 0, 0, 0, (-1000000001), 0, []), (10, .ireturn, 1, 0, 0, 0, nI 0, 0, []), (11, .iload_n 2, 1, 2, 0, 0, nI 0, 0, []), (12, .invokestatic 205, 3, 101, 1, 0, nI 0, 0, []), (15, .ifCond .eq 12, 3, 27, 0, 0, nI 0, 0, [])],
  [(18, .iload_n 3, 1, 3, 0, 0, nI 0, 0, []), (19, .iconst 0, 1, 0, 0, 0, nI 0, 0, []), (20, .iconst 1, 1, 0, 0, 0, nI 1, 0, []), (21, .invokestatic 75, 3, 100, 3, 0, nI 0, 0, []), (24, .ifCond .ne 6, 3, 30, 0, 0, nI 0, 0, []), (27, .ldc 79, 2, 0, 0, 0, (-1000000002), 0, []), (29, .ireturn, 1, 0, 0, 0, nI 0, 0, []), (30, .aload_n 0, 1, 0, 0, 0, nI 0, 0, []), (31, .getfield 19, 3, 8, 1, 0, nI 0, 0, [])],
  [(34, .iload_n 1, 1, 1, 0, 0, nI 0, 0, []), (35, .invokevirtual 212, 3, 31, 2, 6, nI 0, 0, []), (38, .ifCond .ne 6, 3, 44, 0, 0, nI 0, 0, []), (41, .ldc 190, 2, 0, 0, 0, (-1000000003), 0, []), (43, .ireturn, 1, 0, 0, 0, nI 0, 0, []), (44, .aload_n 0, 1, 0, 0, 0, nI 0, 0, []), (45, .iload_n 1, 1, 1, 0, 0, nI 0, 0, []), (46, .iload_n 2, 1, 2, 0, 0, nI 0, 0, []), (47, .invokevirtual 262, 3, 111, 3, 8, nI 0, 0, [])],
  [(50, .istore 4, 2, 4, 0, 0, nI 0, 0, []), (52, .iload 4, 2, 4, 0, 0, nI 0, 0, []), (54, .iconst (-1), 1, 0, 0, 0, (-1), 0, []), (55, .if_icmp .eq 8, 3, 63, 0, 0, nI 0, 0, []), (58, .iload_n 3, 1, 3, 0, 0, nI 0, 0, []), (59, .iconst 1, 1, 0, 0, 0, nI 1, 0, []), (60, .if_icmp .ne 8, 3, 68, 0, 0, nI 0, 0, []), (63, .iload 4, 2, 4, 0, 0, nI 0, 0, [])],
  [(65, .goto 8, 3, 73, 0, 0, nI 0, 0, []), (68, .iload 4, 2, 4, 0, 0, nI 0, 0, []), (70, .invokestatic 219, 3, 196, 1, 0, nI 0, 0, []), (73, .ireturn, 1, 0, 0, 0, nI 0, 0, [])]]
def md_X8_letWin : MD := (8, yX8_letWin, cX8_letWin, 5, (some .int), false, rw_X8_letWin)
def rw_X8_win : List (List Row) := [[(0, .aload_n 0, 1, 0, 0, 0, nI 0, 0, []), (1, .iload_n 1, 1, 1, 0, 0, nI 0, 0, []), (2, .invokevirtual 152, 3, 102, 2, 8, nI 0, 0, []), (5, .ifCond .eq 11, 3, 16, 0, 0, nI 0, 0, []), (8, .aload_n 0, 1, 0, 0, 0, nI 0, 0, []), (9, .iload_n 2, 1, 2, 0, 0, nI 0, 0, []), (10, .invokevirtual 174, 3, 103, 2, 8, nI 0, 0, []), (13, .ifCond .ne 6, 3, 19, 0, 0, nI 0, 0, [])],
  [(16, .ldc 156, 2, 0, 0, 0, (-1000000001), 0, []), (18, .ireturn, 1, 0, 0, 0, nI 0, 0, []), (19, .iload_n 3, 1, 3, 0, 0, nI 0, 0, []), (20, .iconst 1, 1, 0, 0, 0, nI 1, 0, []), (21, .bipush 60, 2, 0, 0, 0, nI 60, 0, []), (23, .invokestatic 75, 3, 100, 3, 0, nI 0, 0, []), (26, .ifCond .ne 6, 3, 32, 0, 0, nI 0, 0, []), (29, .ldc 79, 2, 0, 0, 0, (-1000000002), 0, []), (31, .ireturn, 1, 0, 0, 0, nI 0, 0, [])],
  [(32, .iconst 0, 1, 0, 0, 0, nI 0, 0, []), (33, .istore 4, 2, 4, 0, 0, nI 0, 0, []), (35, .iload 4, 2, 4, 0, 0, nI 0, 0, []), (37, .bipush 10, 2, 0, 0, 0, nI 10, 0, []), (39, .if_icmp .ge 44, 3, 83, 0, 0, nI 0, 0, []), (42, .aload_n 0, 1, 0, 0, 0, nI 0, 0, []), (43, .getfield 23, 3, 8, 2, 0, nI 0, 0, []), (46, .aload_n 0, 1, 0, 0, 0, nI 0, 0, []), (47, .getfield 19, 3, 8, 1, 0, nI 0, 0, [])],
  [(50, .invokevirtual 249, 3, 28, 2, 6, nI 0, 0, []), (53, .aload_n 0, 1, 0, 0, 0, nI 0, 0, []), (54, .getfield 23, 3, 8, 2, 0, nI 0, 0, []), (57, .getfield 165, 3, 6, 1, 0, nI 0, 0, []), (60, .iload_n 1, 1, 1, 0, 0, nI 0, 0, []), (61, .iload 4, 2, 4, 0, 0, nI 0, 0, []), (63, .iastore, 1, 0, 0, 0, nI 0, 0, [])],
  [(64, .aload_n 0, 1, 0, 0, 0, nI 0, 0, []), (65, .iload_n 2, 1, 2, 0, 0, nI 0, 0, []), (66, .iload_n 3, 1, 3, 0, 0, nI 0, 0, []), (67, .invokevirtual 252, 3, 108, 3, 8, nI 0, 0, []), (70, .iload_n 1, 1, 1, 0, 0, nI 0, 0, []), (71, .if_icmp .ne 6, 3, 77, 0, 0, nI 0, 0, []), (74, .iload 4, 2, 4, 0, 0, nI 0, 0, []), (76, .ireturn, 1, 0, 0, 0, nI 0, 0, []), (77, .iinc 4 1, 3, 4, 0, 0, nI 1, 0, [])],
  [(80, .goto (-45), 3, 35, 0, 0, nI 0, 0, []), (83, .iconst (-1), 1, 0, 0, 0, (-1), 0, []), (84, .ireturn, 1, 0, 0, 0, nI 0, 0, [])]]
def md_X8_win : MD := (8, yX8_win, cX8_win, 5, (some .int), false, rw_X8_win)
def rw_X8_next : List (List Row) := [[(0, .aload_n 0, 1, 0, 0, 0, nI 0, 0, []), (1, .iload_n 1, 1, 1, 0, 0, nI 0, 0, []), (2, .invokevirtual 152, 3, 102, 2, 8, nI 0, 0, []), (5, .ifCond .ne 6, 3, 11, 0, 0, nI 0, 0, []), (8, .ldc 156, 2, 0, 0, 0, (-1000000001), 0, []), (10, .ireturn, 1, 0, 0, 0, nI 0, 0, []), (11, .iconst 0, 1, 0, 0, 0, nI 0, 0, []), (12, .istore_n 2, 1, 2, 0, 0, nI 0, 0, []), (13, .iconst 0, 1, 0, 0, 0, nI 0, 0, []), (14, .istore_n 3, 1, 3, 0, 0, nI 0, 0, []), (15, .iload_n 3, 1, 3, 0, 0, nI 0, 0, [])],
  [(16, .iconst 3, 1, 0, 0, 0, nI 3, 0, []), (17, .if_icmp .ge 28, 3, 45, 0, 0, nI 0, 0, []), (20, .aload_n 0, 1, 0, 0, 0, nI 0, 0, []), (21, .aload_n 0, 1, 0, 0, 0, nI 0, 0, []), (22, .getfield 19, 3, 8, 1, 0, nI 0, 0, []), (25, .iload_n 3, 1, 3, 0, 0, nI 0, 0, []), (26, .invokevirtual 265, 3, 107, 3, 8, nI 0, 0, []), (29, .iload_n 1, 1, 1, 0, 0, nI 0, 0, []), (30, .if_icmp .ne 9, 3, 39, 0, 0, nI 0, 0, [])],
  [(33, .iload_n 2, 1, 2, 0, 0, nI 0, 0, []), (34, .iconst 1, 1, 0, 0, 0, nI 1, 0, []), (35, .iload_n 3, 1, 3, 0, 0, nI 0, 0, []), (36, .ishl, 1, 0, 0, 0, nI 0, 0, []), (37, .ior, 1, 0, 0, 0, nI 0, 0, []), (38, .istore_n 2, 1, 2, 0, 0, nI 0, 0, []), (39, .iinc 3 1, 3, 3, 0, 0, nI 1, 0, []), (42, .goto (-27), 3, 15, 0, 0, nI 0, 0, []), (45, .iload_n 2, 1, 2, 0, 0, nI 0, 0, []), (46, .ireturn, 1, 0, 0, 0, nI 0, 0, [])]]
def md_X8_next : MD := (8, yX8_next, cX8_next, 4, (some .int), false, rw_X8_next)
def rw_X8_beats : List (List Row) := [[(0, .aload_n 0, 1, 0, 0, 0, nI 0, 0, []), (1, .iload_n 1, 1, 1, 0, 0, nI 0, 0, []), (2, .invokevirtual 152, 3, 102, 2, 8, nI 0, 0, []), (5, .ifCond .eq 16, 3, 21, 0, 0, nI 0, 0, []), (8, .aload_n 0, 1, 0, 0, 0, nI 0, 0, []), (9, .iload_n 2, 1, 2, 0, 0, nI 0, 0, []), (10, .invokevirtual 152, 3, 102, 2, 8, nI 0, 0, []), (13, .ifCond .eq 8, 3, 21, 0, 0, nI 0, 0, [])],
  [(16, .iload_n 1, 1, 1, 0, 0, nI 0, 0, []), (17, .iload_n 2, 1, 2, 0, 0, nI 0, 0, []), (18, .if_icmp .ne 6, 3, 24, 0, 0, nI 0, 0, []), (21, .ldc 156, 2, 0, 0, 0, (-1000000001), 0, []), (23, .ireturn, 1, 0, 0, 0, nI 0, 0, []), (24, .aload_n 0, 1, 0, 0, 0, nI 0, 0, []), (25, .getfield 19, 3, 8, 1, 0, nI 0, 0, []), (28, .iload_n 1, 1, 1, 0, 0, nI 0, 0, []), (29, .iload_n 2, 1, 2, 0, 0, nI 0, 0, []), (30, .invokevirtual 269, 3, 43, 3, 6, nI 0, 0, [])],
  [(33, .ifCond .eq 7, 3, 40, 0, 0, nI 0, 0, []), (36, .iconst 1, 1, 0, 0, 0, nI 1, 0, []), (37, .goto 4, 3, 41, 0, 0, nI 0, 0, []), (40, .iconst 0, 1, 0, 0, 0, nI 0, 0, []), (41, .ireturn, 1, 0, 0, 0, nI 0, 0, [])]]
def md_X8_beats : MD := (8, yX8_beats, cX8_beats, 3, (some .int), false, rw_X8_beats)
def rw_X8_spread : List (List Row) := [[(0, .iload_n 1, 1, 1, 0, 0, nI 0, 0, []), (1, .invokestatic 205, 3, 101, 1, 0, nI 0, 0, []), (4, .ifCond .eq 18, 3, 22, 0, 0, nI 0, 0, []), (7, .aload_n 0, 1, 0, 0, 0, nI 0, 0, []), (8, .getfield 19, 3, 8, 1, 0, nI 0, 0, []), (11, .aload_n 0, 1, 0, 0, 0, nI 0, 0, []), (12, .getfield 63, 3, 8, 8, 0, nI 0, 0, []), (15, .iload_n 1, 1, 1, 0, 0, nI 0, 0, [])],
  [(16, .invokevirtual 272, 3, 46, 3, 6, nI 0, 0, []), (19, .goto 5, 3, 24, 0, 0, nI 0, 0, []), (22, .ldc 79, 2, 0, 0, 0, (-1000000002), 0, []), (24, .ireturn, 1, 0, 0, 0, nI 0, 0, [])]]
def md_X8_spread : MD := (8, yX8_spread, cX8_spread, 2, (some .int), false, rw_X8_spread)
def rw_X8_dry : List (List Row) := [[(0, .iload_n 1, 1, 1, 0, 0, nI 0, 0, []), (1, .iconst 0, 1, 0, 0, 0, nI 0, 0, []), (2, .bipush 60, 2, 0, 0, 0, nI 60, 0, []), (4, .invokestatic 75, 3, 100, 3, 0, nI 0, 0, []), (7, .ifCond .eq 13, 3, 20, 0, 0, nI 0, 0, []), (10, .iload_n 2, 1, 2, 0, 0, nI 0, 0, []), (11, .iconst 0, 1, 0, 0, 0, nI 0, 0, []), (12, .bipush 100, 2, 0, 0, 0, nI 100, 0, []), (14, .invokestatic 75, 3, 100, 3, 0, nI 0, 0, [])],
  [(17, .ifCond .ne 6, 3, 23, 0, 0, nI 0, 0, []), (20, .ldc 79, 2, 0, 0, 0, (-1000000002), 0, []), (22, .ireturn, 1, 0, 0, 0, nI 0, 0, []), (23, .ldc2_w 275, 3, 0, 0, 0, nI 0, 1000000000, []), (26, .lstore_n 3, 1, 3, 0, 0, nI 0, 0, []), (27, .iconst 0, 1, 0, 0, 0, nI 0, 0, []), (28, .istore 5, 2, 5, 0, 0, nI 0, 0, []), (30, .iload 5, 2, 5, 0, 0, nI 0, 0, [])],
  [(32, .iload_n 1, 1, 1, 0, 0, nI 0, 0, []), (33, .if_icmp .ge 18, 3, 51, 0, 0, nI 0, 0, []), (36, .lload_n 3, 1, 3, 0, 0, nI 0, 0, []), (37, .iload_n 2, 1, 2, 0, 0, nI 0, 0, []), (38, .i2l, 1, 0, 0, 0, nI 0, 0, []), (39, .lmul, 1, 0, 0, 0, nI 0, 0, []), (40, .ldc2_w 277, 3, 0, 0, 0, nI 0, 100, []), (43, .ldiv, 1, 0, 0, 0, nI 0, 0, []), (44, .lstore_n 3, 1, 3, 0, 0, nI 0, 0, []), (45, .iinc 5 1, 3, 5, 0, 0, nI 1, 0, [])],
  [(48, .goto (-18), 3, 30, 0, 0, nI 0, 0, []), (51, .lload_n 3, 1, 3, 0, 0, nI 0, 0, []), (52, .l2i, 1, 0, 0, 0, nI 0, 0, []), (53, .ireturn, 1, 0, 0, 0, nI 0, 0, [])]]
def md_X8_dry : MD := (8, yX8_dry, cX8_dry, 6, (some .int), false, rw_X8_dry)
def rw_X8_see : List (List Row) := [[(0, .iload_n 1, 1, 1, 0, 0, nI 0, 0, []), (1, .iconst 0, 1, 0, 0, 0, nI 0, 0, []), (2, .bipush 9, 2, 0, 0, 0, nI 9, 0, []), (4, .invokestatic 75, 3, 100, 3, 0, nI 0, 0, []), (7, .ifCond .eq 13, 3, 20, 0, 0, nI 0, 0, []), (10, .iload_n 2, 1, 2, 0, 0, nI 0, 0, []), (11, .iconst 0, 1, 0, 0, 0, nI 0, 0, []), (12, .bipush 99, 2, 0, 0, 0, nI 99, 0, []), (14, .invokestatic 75, 3, 100, 3, 0, nI 0, 0, [])],
  [(17, .ifCond .ne 6, 3, 23, 0, 0, nI 0, 0, []), (20, .ldc 79, 2, 0, 0, 0, (-1000000002), 0, []), (22, .ireturn, 1, 0, 0, 0, nI 0, 0, []), (23, .aload_n 0, 1, 0, 0, 0, nI 0, 0, []), (24, .getfield 49, 3, 8, 6, 0, nI 0, 0, []), (27, .getfield 105, 3, 5, 3, 0, nI 0, 0, []), (30, .bipush 6, 2, 0, 0, 0, nI 6, 0, [])],
  [(32, .if_icmp .lt 6, 3, 38, 0, 0, nI 0, 0, []), (35, .ldc 83, 2, 0, 0, 0, (-1000000004), 0, []), (37, .ireturn, 1, 0, 0, 0, nI 0, 0, []), (38, .aload_n 0, 1, 0, 0, 0, nI 0, 0, []), (39, .getfield 49, 3, 8, 6, 0, nI 0, 0, []), (42, .iload_n 1, 1, 1, 0, 0, nI 0, 0, []), (43, .iload_n 2, 1, 2, 0, 0, nI 0, 0, []), (44, .invokevirtual 279, 3, 19, 3, 5, nI 0, 0, []), (47, .ireturn, 1, 0, 0, 0, nI 0, 0, [])]]
def md_X8_see : MD := (8, yX8_see, cX8_see, 3, (some .int), false, rw_X8_see)
def rw_X8_truly : List (List Row) := [[(0, .iload_n 1, 1, 1, 0, 0, nI 0, 0, []), (1, .lookupswitch 43 #[(0, 27), (1, 35)], 27, 44, 0, 0, nI 0, 0, [(nI 0, 28), (nI 1, 36)])],
  [(28, .aload_n 0, 1, 0, 0, 0, nI 0, 0, []), (29, .getfield 49, 3, 8, 6, 0, nI 0, 0, [])],
  [(32, .invokevirtual 281, 3, 20, 1, 5, nI 0, 0, []), (35, .ireturn, 1, 0, 0, 0, nI 0, 0, []), (36, .aload_n 0, 1, 0, 0, 0, nI 0, 0, []), (37, .getfield 49, 3, 8, 6, 0, nI 0, 0, []), (40, .invokevirtual 284, 3, 21, 1, 5, nI 0, 0, []), (43, .ireturn, 1, 0, 0, 0, nI 0, 0, []), (44, .ldc 79, 2, 0, 0, 0, (-1000000002), 0, []), (46, .ireturn, 1, 0, 0, 0, nI 0, 0, [])]]
def md_X8_truly : MD := (8, yX8_truly, cX8_truly, 2, (some .int), false, rw_X8_truly)
def rw_X8_tryNext : List (List Row) := [[(0, .aload_n 0, 1, 0, 0, 0, nI 0, 0, []), (1, .getfield 49, 3, 8, 6, 0, nI 0, 0, []), (4, .invokevirtual 287, 3, 22, 1, 5, nI 0, 0, []), (7, .ireturn, 1, 0, 0, 0, nI 0, 0, [])]]
def md_X8_tryNext : MD := (8, yX8_tryNext, cX8_tryNext, 1, (some .int), false, rw_X8_tryNext)
def rw_X8_write : List (List Row) := [[(0, .aload_n 0, 1, 0, 0, 0, nI 0, 0, []), (1, .iload_n 1, 1, 1, 0, 0, nI 0, 0, []), (2, .invokevirtual 174, 3, 103, 2, 8, nI 0, 0, []), (5, .ifCond .eq 16, 3, 21, 0, 0, nI 0, 0, []), (8, .iload_n 2, 1, 2, 0, 0, nI 0, 0, []), (9, .iconst (-1), 1, 0, 0, 0, (-1), 0, []), (10, .if_icmp .eq 14, 3, 24, 0, 0, nI 0, 0, []), (13, .aload_n 0, 1, 0, 0, 0, nI 0, 0, []), (14, .iload_n 2, 1, 2, 0, 0, nI 0, 0, []), (15, .invokevirtual 152, 3, 102, 2, 8, nI 0, 0, [])],
  [(18, .ifCond .ne 6, 3, 24, 0, 0, nI 0, 0, []), (21, .ldc 156, 2, 0, 0, 0, (-1000000001), 0, []), (23, .ireturn, 1, 0, 0, 0, nI 0, 0, []), (24, .aload_n 0, 1, 0, 0, 0, nI 0, 0, []), (25, .getfield 56, 3, 8, 7, 0, nI 0, 0, []), (28, .getfield 106, 3, 0, 2, 0, nI 0, 0, []), (31, .bipush 20, 2, 0, 0, 0, nI 20, 0, [])],
  [(33, .if_icmp .lt 6, 3, 39, 0, 0, nI 0, 0, []), (36, .ldc 83, 2, 0, 0, 0, (-1000000004), 0, []), (38, .ireturn, 1, 0, 0, 0, nI 0, 0, []), (39, .aload_n 0, 1, 0, 0, 0, nI 0, 0, []), (40, .getfield 56, 3, 8, 7, 0, nI 0, 0, []), (43, .iload_n 1, 1, 1, 0, 0, nI 0, 0, []), (44, .iload_n 2, 1, 2, 0, 0, nI 0, 0, []), (45, .invokevirtual 290, 3, 1, 3, 0, nI 0, 0, [])],
  [(48, .ireturn, 1, 0, 0, 0, nI 0, 0, [])]]
def md_X8_write : MD := (8, yX8_write, cX8_write, 3, (some .int), false, rw_X8_write)
def rw_X8_judge : List (List Row) := [[(0, .aload_n 0, 1, 0, 0, 0, nI 0, 0, []), (1, .getfield 56, 3, 8, 7, 0, nI 0, 0, []), (4, .aload_n 0, 1, 0, 0, 0, nI 0, 0, []), (5, .getfield 19, 3, 8, 1, 0, nI 0, 0, []), (8, .invokevirtual 291, 3, 2, 2, 0, nI 0, 0, []), (11, .ireturn, 1, 0, 0, 0, nI 0, 0, [])]]
def md_X8_judge : MD := (8, yX8_judge, cX8_judge, 1, (some .int), false, rw_X8_judge)
def rw_X8_tear : List (List Row) := [[(0, .aload_n 0, 1, 0, 0, 0, nI 0, 0, []), (1, .getfield 49, 3, 8, 6, 0, nI 0, 0, []), (4, .getfield 105, 3, 5, 3, 0, nI 0, 0, []), (7, .aload_n 0, 1, 0, 0, 0, nI 0, 0, []), (8, .getfield 56, 3, 8, 7, 0, nI 0, 0, []), (11, .getfield 106, 3, 0, 2, 0, nI 0, 0, []), (14, .iadd, 1, 0, 0, 0, nI 0, 0, []), (15, .istore_n 1, 1, 1, 0, 0, nI 0, 0, [])],
  [(16, .aload_n 0, 1, 0, 0, 0, nI 0, 0, []), (17, .getfield 49, 3, 8, 6, 0, nI 0, 0, []), (20, .iconst 0, 1, 0, 0, 0, nI 0, 0, []), (21, .putfield 105, 3, 5, 3, 0, nI 0, 0, []), (24, .aload_n 0, 1, 0, 0, 0, nI 0, 0, []), (25, .getfield 56, 3, 8, 7, 0, nI 0, 0, []), (28, .iconst 0, 1, 0, 0, 0, nI 0, 0, []), (29, .putfield 106, 3, 0, 2, 0, nI 0, 0, [])],
  [(32, .iload_n 1, 1, 1, 0, 0, nI 0, 0, []), (33, .ireturn, 1, 0, 0, 0, nI 0, 0, [])]]
def md_X8_tear : MD := (8, yX8_tear, cX8_tear, 2, (some .int), false, rw_X8_tear)
def rw_X8_seed : List (List Row) := [[(0, .iload_n 1, 1, 1, 0, 0, nI 0, 0, []), (1, .ifCond .ge 6, 3, 7, 0, 0, nI 0, 0, []), (4, .ldc 79, 2, 0, 0, 0, (-1000000002), 0, []), (6, .ireturn, 1, 0, 0, 0, nI 0, 0, []), (7, .aload_n 0, 1, 0, 0, 0, nI 0, 0, []), (8, .getfield 70, 3, 8, 10, 0, nI 0, 0, []), (11, .istore_n 2, 1, 2, 0, 0, nI 0, 0, []), (12, .aload_n 0, 1, 0, 0, 0, nI 0, 0, []), (13, .iload_n 1, 1, 1, 0, 0, nI 0, 0, []), (14, .putfield 70, 3, 8, 10, 0, nI 0, 0, [])],
  [(17, .iload_n 2, 1, 2, 0, 0, nI 0, 0, []), (18, .ireturn, 1, 0, 0, 0, nI 0, 0, [])]]
def md_X8_seed : MD := (8, yX8_seed, cX8_seed, 3, (some .int), false, rw_X8_seed)
def rw_X8_keep : List (List Row) := [[(0, .iload_n 1, 1, 1, 0, 0, nI 0, 0, []), (1, .iconst 0, 1, 0, 0, 0, nI 0, 0, []), (2, .iconst 1, 1, 0, 0, 0, nI 1, 0, []), (3, .invokestatic 75, 3, 100, 3, 0, nI 0, 0, []), (6, .ifCond .ne 6, 3, 12, 0, 0, nI 0, 0, []), (9, .ldc 156, 2, 0, 0, 0, (-1000000001), 0, []), (11, .ireturn, 1, 0, 0, 0, nI 0, 0, []), (12, .aload_n 0, 1, 0, 0, 0, nI 0, 0, []), (13, .getfield 42, 3, 8, 5, 0, nI 0, 0, [])],
  [(16, .iload_n 1, 1, 1, 0, 0, nI 0, 0, []), (17, .aaload, 1, 0, 0, 0, nI 0, 0, []), (18, .iconst 1, 1, 0, 0, 0, nI 1, 0, []), (19, .putfield 101, 3, 2, 2, 0, nI 0, 0, []), (22, .aload_n 0, 1, 0, 0, 0, nI 0, 0, []), (23, .getfield 42, 3, 8, 5, 0, nI 0, 0, []), (26, .iload_n 1, 1, 1, 0, 0, nI 0, 0, []), (27, .aaload, 1, 0, 0, 0, nI 0, 0, []), (28, .getfield 295, 3, 2, 0, 0, nI 0, 0, []), (31, .aload_n 0, 1, 0, 0, 0, nI 0, 0, [])],
  [(32, .getfield 19, 3, 8, 1, 0, nI 0, 0, []), (35, .invokevirtual 249, 3, 28, 2, 6, nI 0, 0, []), (38, .aload_n 0, 1, 0, 0, 0, nI 0, 0, []), (39, .getfield 42, 3, 8, 5, 0, nI 0, 0, []), (42, .iload_n 1, 1, 1, 0, 0, nI 0, 0, []), (43, .aaload, 1, 0, 0, 0, nI 0, 0, []), (44, .aload_n 0, 1, 0, 0, 0, nI 0, 0, []), (45, .getfield 70, 3, 8, 10, 0, nI 0, 0, [])],
  [(48, .putfield 298, 3, 2, 1, 0, nI 0, 0, []), (51, .aload_n 0, 1, 0, 0, 0, nI 0, 0, []), (52, .getfield 36, 3, 8, 4, 0, nI 0, 0, []), (55, .iconst 0, 1, 0, 0, 0, nI 0, 0, []), (56, .putfield 98, 3, 3, 2, 0, nI 0, 0, []), (59, .iconst 1, 1, 0, 0, 0, nI 1, 0, []), (60, .ireturn, 1, 0, 0, 0, nI 0, 0, [])]]
def md_X8_keep : MD := (8, yX8_keep, cX8_keep, 2, (some .int), false, rw_X8_keep)
def rw_X8_goBack : List (List Row) := [[(0, .iload_n 1, 1, 1, 0, 0, nI 0, 0, []), (1, .iconst 0, 1, 0, 0, 0, nI 0, 0, []), (2, .iconst 1, 1, 0, 0, 0, nI 1, 0, []), (3, .invokestatic 75, 3, 100, 3, 0, nI 0, 0, []), (6, .ifCond .ne 6, 3, 12, 0, 0, nI 0, 0, []), (9, .ldc 156, 2, 0, 0, 0, (-1000000001), 0, []), (11, .ireturn, 1, 0, 0, 0, nI 0, 0, []), (12, .aload_n 0, 1, 0, 0, 0, nI 0, 0, []), (13, .getfield 42, 3, 8, 5, 0, nI 0, 0, [])],
  [(16, .iload_n 1, 1, 1, 0, 0, nI 0, 0, []), (17, .aaload, 1, 0, 0, 0, nI 0, 0, []), (18, .getfield 101, 3, 2, 2, 0, nI 0, 0, []), (21, .ifCond .ne 6, 3, 27, 0, 0, nI 0, 0, []), (24, .ldc 190, 2, 0, 0, 0, (-1000000003), 0, []), (26, .ireturn, 1, 0, 0, 0, nI 0, 0, []), (27, .aload_n 0, 1, 0, 0, 0, nI 0, 0, []), (28, .getfield 19, 3, 8, 1, 0, nI 0, 0, []), (31, .aload_n 0, 1, 0, 0, 0, nI 0, 0, [])],
  [(32, .getfield 42, 3, 8, 5, 0, nI 0, 0, []), (35, .iload_n 1, 1, 1, 0, 0, nI 0, 0, []), (36, .aaload, 1, 0, 0, 0, nI 0, 0, []), (37, .getfield 295, 3, 2, 0, 0, nI 0, 0, []), (40, .invokevirtual 249, 3, 28, 2, 6, nI 0, 0, []), (43, .aload_n 0, 1, 0, 0, 0, nI 0, 0, []), (44, .aload_n 0, 1, 0, 0, 0, nI 0, 0, []), (45, .getfield 42, 3, 8, 5, 0, nI 0, 0, [])],
  [(48, .iload_n 1, 1, 1, 0, 0, nI 0, 0, []), (49, .aaload, 1, 0, 0, 0, nI 0, 0, []), (50, .getfield 298, 3, 2, 1, 0, nI 0, 0, []), (53, .putfield 70, 3, 8, 10, 0, nI 0, 0, []), (56, .aload_n 0, 1, 0, 0, 0, nI 0, 0, []), (57, .getfield 36, 3, 8, 4, 0, nI 0, 0, []), (60, .iconst 0, 1, 0, 0, 0, nI 0, 0, []), (61, .putfield 98, 3, 3, 2, 0, nI 0, 0, [])],
  [(64, .iconst 1, 1, 0, 0, 0, nI 1, 0, []), (65, .ireturn, 1, 0, 0, 0, nI 0, 0, [])]]
def md_X8_goBack : MD := (8, yX8_goBack, cX8_goBack, 2, (some .int), false, rw_X8_goBack)
def rw_X8_isWithin : List (List Row) := [[(0, .iload_n 0, 1, 0, 0, 0, nI 0, 0, []), (1, .iload_n 1, 1, 1, 0, 0, nI 0, 0, []), (2, .if_icmp .lt 12, 3, 14, 0, 0, nI 0, 0, []), (5, .iload_n 0, 1, 0, 0, 0, nI 0, 0, []), (6, .iload_n 2, 1, 2, 0, 0, nI 0, 0, []), (7, .if_icmp .gt 7, 3, 14, 0, 0, nI 0, 0, []), (10, .iconst 1, 1, 0, 0, 0, nI 1, 0, []), (11, .goto 4, 3, 15, 0, 0, nI 0, 0, []), (14, .iconst 0, 1, 0, 0, 0, nI 0, 0, []), (15, .ireturn, 1, 0, 0, 0, nI 0, 0, [])]]
def md_X8_isWithin : MD := (8, yX8_isWithin, cX8_isWithin, 3, (some .boolean), false, rw_X8_isWithin)
def rw_X8_isKind : List (List Row) := [[(0, .iload_n 0, 1, 0, 0, 0, nI 0, 0, []), (1, .iconst 0, 1, 0, 0, 0, nI 0, 0, []), (2, .iconst 2, 1, 0, 0, 0, nI 2, 0, []), (3, .invokestatic 75, 3, 100, 3, 0, nI 0, 0, []), (6, .ireturn, 1, 0, 0, 0, nI 0, 0, [])]]
def md_X8_isKind : MD := (8, yX8_isKind, cX8_isKind, 1, (some .boolean), false, rw_X8_isKind)
def rw_X8_isPerson : List (List Row) := [[(0, .iload_n 1, 1, 1, 0, 0, nI 0, 0, []), (1, .iconst 0, 1, 0, 0, 0, nI 0, 0, []), (2, .aload_n 0, 1, 0, 0, 0, nI 0, 0, []), (3, .getfield 63, 3, 8, 8, 0, nI 0, 0, []), (6, .getfield 107, 3, 4, 6, 0, nI 0, 0, []), (9, .iconst 1, 1, 0, 0, 0, nI 1, 0, []), (10, .isub, 1, 0, 0, 0, nI 0, 0, []), (11, .invokestatic 75, 3, 100, 3, 0, nI 0, 0, []), (14, .ireturn, 1, 0, 0, 0, nI 0, 0, [])]]
def md_X8_isPerson : MD := (8, yX8_isPerson, cX8_isPerson, 2, (some .boolean), false, rw_X8_isPerson)
def rw_X8_isOffice : List (List Row) := [[(0, .iload_n 1, 1, 1, 0, 0, nI 0, 0, []), (1, .iconst 0, 1, 0, 0, 0, nI 0, 0, []), (2, .aload_n 0, 1, 0, 0, 0, nI 0, 0, []), (3, .getfield 63, 3, 8, 8, 0, nI 0, 0, []), (6, .getfield 119, 3, 4, 8, 0, nI 0, 0, []), (9, .iconst 1, 1, 0, 0, 0, nI 1, 0, []), (10, .isub, 1, 0, 0, 0, nI 0, 0, []), (11, .invokestatic 75, 3, 100, 3, 0, nI 0, 0, []), (14, .ireturn, 1, 0, 0, 0, nI 0, 0, [])]]
def md_X8_isOffice : MD := (8, yX8_isOffice, cX8_isOffice, 2, (some .boolean), false, rw_X8_isOffice)
def rw_X8_whyNoDays : List (List Row) := [[(0, .iload_n 1, 1, 1, 0, 0, nI 0, 0, []), (1, .iconst 1, 1, 0, 0, 0, nI 1, 0, []), (2, .bipush 30, 2, 0, 0, 0, nI 30, 0, []), (4, .invokestatic 75, 3, 100, 3, 0, nI 0, 0, []), (7, .ifCond .ne 6, 3, 13, 0, 0, nI 0, 0, []), (10, .ldc 79, 2, 0, 0, 0, (-1000000002), 0, []), (12, .ireturn, 1, 0, 0, 0, nI 0, 0, []), (13, .aload_n 0, 1, 0, 0, 0, nI 0, 0, []), (14, .getfield 63, 3, 8, 8, 0, nI 0, 0, [])],
  [(17, .invokevirtual 183, 3, 15, 1, 4, nI 0, 0, []), (20, .ifCond .ne 6, 3, 26, 0, 0, nI 0, 0, []), (23, .ldc 190, 2, 0, 0, 0, (-1000000003), 0, []), (25, .ireturn, 1, 0, 0, 0, nI 0, 0, []), (26, .aload_n 0, 1, 0, 0, 0, nI 0, 0, []), (27, .getfield 19, 3, 8, 1, 0, nI 0, 0, []), (30, .getfield 125, 3, 6, 7, 0, nI 0, 0, [])],
  [(33, .ldc_w 299, 3, 0, 0, 0, nI 90000, 0, []), (36, .if_icmp .le 8, 3, 44, 0, 0, nI 0, 0, []), (39, .ldc 83, 2, 0, 0, 0, (-1000000004), 0, []), (41, .goto 4, 3, 45, 0, 0, nI 0, 0, []), (44, .iconst 0, 1, 0, 0, 0, nI 0, 0, []), (45, .ireturn, 1, 0, 0, 0, nI 0, 0, [])]]
def md_X8_whyNoDays : MD := (8, yX8_whyNoDays, cX8_whyNoDays, 2, (some .int), false, rw_X8_whyNoDays)
def rw_X8_draw : List (List Row) := [[(0, .aload_n 0, 1, 0, 0, 0, nI 0, 0, []), (1, .aload_n 0, 1, 0, 0, 0, nI 0, 0, []), (2, .getfield 70, 3, 8, 10, 0, nI 0, 0, []), (5, .ldc_w 300, 3, 0, 0, 0, nI 1103515245, 0, []), (8, .imul, 1, 0, 0, 0, nI 0, 0, []), (9, .sipush 12345, 3, 0, 0, 0, nI 12345, 0, []), (12, .iadd, 1, 0, 0, 0, nI 0, 0, []), (13, .ldc_w 301, 3, 0, 0, 0, nI 2147483647, 0, [])],
  [(16, .iand, 1, 0, 0, 0, nI 0, 0, []), (17, .putfield 70, 3, 8, 10, 0, nI 0, 0, []), (20, .iload_n 1, 1, 1, 0, 0, nI 0, 0, []), (21, .iconst 1, 1, 0, 0, 0, nI 1, 0, []), (22, .if_icmp .ge 7, 3, 29, 0, 0, nI 0, 0, []), (25, .iconst 0, 1, 0, 0, 0, nI 0, 0, []), (26, .goto 13, 3, 39, 0, 0, nI 0, 0, []), (29, .aload_n 0, 1, 0, 0, 0, nI 0, 0, []), (30, .getfield 70, 3, 8, 10, 0, nI 0, 0, [])],
  [(33, .ldc_w 302, 3, 0, 0, 0, nI 65536, 0, []), (36, .idiv, 1, 0, 0, 0, nI 0, 0, []), (37, .iload_n 1, 1, 1, 0, 0, nI 0, 0, []), (38, .irem, 1, 0, 0, 0, nI 0, 0, []), (39, .ireturn, 1, 0, 0, 0, nI 0, 0, [])]]
def md_X8_draw : MD := (8, yX8_draw, cX8_draw, 2, (some .int), false, rw_X8_draw)
def rw_X8_drawWeatherAndEffort : List (List Row) := [[(0, .aload_n 0, 1, 0, 0, 0, nI 0, 0, []), (1, .getfield 63, 3, 8, 8, 0, nI 0, 0, []), (4, .getfield 107, 3, 4, 6, 0, nI 0, 0, []), (7, .ifCond .le 30, 3, 37, 0, 0, nI 0, 0, []), (10, .aload_n 0, 1, 0, 0, 0, nI 0, 0, []), (11, .aload_n 0, 1, 0, 0, 0, nI 0, 0, []), (12, .getfield 63, 3, 8, 8, 0, nI 0, 0, []), (15, .getfield 107, 3, 4, 6, 0, nI 0, 0, [])],
  [(18, .invokevirtual 303, 3, 105, 2, 8, nI 0, 0, []), (21, .istore_n 1, 1, 1, 0, 0, nI 0, 0, []), (22, .aload_n 0, 1, 0, 0, 0, nI 0, 0, []), (23, .getfield 19, 3, 8, 1, 0, nI 0, 0, []), (26, .getfield 165, 3, 6, 1, 0, nI 0, 0, []), (29, .iload_n 1, 1, 1, 0, 0, nI 0, 0, []), (30, .aload_n 0, 1, 0, 0, 0, nI 0, 0, []), (31, .bipush 10, 2, 0, 0, 0, nI 10, 0, [])],
  [(33, .invokevirtual 303, 3, 105, 2, 8, nI 0, 0, []), (36, .iastore, 1, 0, 0, 0, nI 0, 0, []), (37, .aload_n 0, 1, 0, 0, 0, nI 0, 0, []), (38, .getfield 19, 3, 8, 1, 0, nI 0, 0, []), (41, .aload_n 0, 1, 0, 0, 0, nI 0, 0, []), (42, .iconst 4, 1, 0, 0, 0, nI 4, 0, []), (43, .invokevirtual 303, 3, 105, 2, 8, nI 0, 0, []), (46, .ifCond .ne 7, 3, 53, 0, 0, nI 0, 0, [])],
  [(49, .iconst 1, 1, 0, 0, 0, nI 1, 0, []), (50, .goto 4, 3, 54, 0, 0, nI 0, 0, []), (53, .iconst 0, 1, 0, 0, 0, nI 0, 0, []), (54, .putfield 128, 3, 6, 8, 0, nI 0, 0, []), (57, .return_, 1, 0, 0, 0, nI 0, 0, [])]]
def md_X8_drawWeatherAndEffort : MD := (8, yX8_drawWeatherAndEffort, cX8_drawWeatherAndEffort, 2, none, false, rw_X8_drawWeatherAndEffort)
def rw_X8_secondIn : List (List Row) := [[(0, .aload_n 0, 1, 0, 0, 0, nI 0, 0, []), (1, .getfield 29, 3, 8, 3, 0, nI 0, 0, []), (4, .aload_n 0, 1, 0, 0, 0, nI 0, 0, []), (5, .getfield 63, 3, 8, 8, 0, nI 0, 0, []), (8, .aload_n 1, 1, 1, 0, 0, nI 0, 0, []), (9, .iload_n 2, 1, 2, 0, 0, nI 0, 0, []), (10, .invokevirtual 235, 3, 4, 4, 1, nI 0, 0, []), (13, .aload_n 0, 1, 0, 0, 0, nI 0, 0, []), (14, .getfield 29, 3, 8, 3, 0, nI 0, 0, [])],
  [(17, .getfield 246, 3, 1, 3, 0, nI 0, 0, []), (20, .ireturn, 1, 0, 0, 0, nI 0, 0, [])]]
def md_X8_secondIn : MD := (8, yX8_secondIn, cX8_secondIn, 3, (some .int), false, rw_X8_secondIn)
def rw_X8_holderBehind : List (List Row) := [[(0, .iconst 0, 1, 0, 0, 0, nI 0, 0, []), (1, .istore_n 3, 1, 3, 0, 0, nI 0, 0, []), (2, .iload_n 3, 1, 3, 0, 0, nI 0, 0, []), (3, .iload_n 2, 1, 2, 0, 0, nI 0, 0, []), (4, .if_icmp .ge 24, 3, 28, 0, 0, nI 0, 0, []), (7, .aload_n 0, 1, 0, 0, 0, nI 0, 0, []), (8, .getfield 23, 3, 8, 2, 0, nI 0, 0, []), (11, .aload_n 0, 1, 0, 0, 0, nI 0, 0, []), (12, .getfield 63, 3, 8, 8, 0, nI 0, 0, []), (15, .aload_n 0, 1, 0, 0, 0, nI 0, 0, [])],
  [(16, .getfield 29, 3, 8, 3, 0, nI 0, 0, []), (19, .invokevirtual 201, 3, 36, 3, 6, nI 0, 0, []), (22, .iinc 3 1, 3, 3, 0, 0, nI 1, 0, []), (25, .goto (-23), 3, 2, 0, 0, nI 0, 0, []), (28, .aload_n 0, 1, 0, 0, 0, nI 0, 0, []), (29, .getfield 23, 3, 8, 2, 0, nI 0, 0, [])],
  [(32, .getfield 180, 3, 6, 4, 0, nI 0, 0, []), (35, .iload_n 1, 1, 1, 0, 0, nI 0, 0, []), (36, .iaload, 1, 0, 0, 0, nI 0, 0, []), (37, .ireturn, 1, 0, 0, 0, nI 0, 0, [])]]
def md_X8_holderBehind : MD := (8, yX8_holderBehind, cX8_holderBehind, 4, (some .int), false, rw_X8_holderBehind)
def rw_X8_secondByEfforts : List (List Row) := [[(0, .iconst 0, 1, 0, 0, 0, nI 0, 0, []), (1, .istore_n 3, 1, 3, 0, 0, nI 0, 0, []), (2, .aload_n 0, 1, 0, 0, 0, nI 0, 0, []), (3, .getfield 23, 3, 8, 2, 0, nI 0, 0, []), (6, .aload_n 0, 1, 0, 0, 0, nI 0, 0, []), (7, .getfield 19, 3, 8, 1, 0, nI 0, 0, []), (10, .invokevirtual 249, 3, 28, 2, 6, nI 0, 0, []), (13, .iconst 0, 1, 0, 0, 0, nI 0, 0, []), (14, .istore 4, 2, 4, 0, 0, nI 0, 0, [])],
  [(16, .iload 4, 2, 4, 0, 0, nI 0, 0, []), (18, .bipush 10, 2, 0, 0, 0, nI 10, 0, []), (20, .if_icmp .ge 40, 3, 60, 0, 0, nI 0, 0, []), (23, .aload_n 0, 1, 0, 0, 0, nI 0, 0, []), (24, .getfield 23, 3, 8, 2, 0, nI 0, 0, []), (27, .getfield 165, 3, 6, 1, 0, nI 0, 0, []), (30, .iload_n 1, 1, 1, 0, 0, nI 0, 0, []), (31, .iload 4, 2, 4, 0, 0, nI 0, 0, [])],
  [(33, .iastore, 1, 0, 0, 0, nI 0, 0, []), (34, .aload_n 0, 1, 0, 0, 0, nI 0, 0, []), (35, .aload_n 0, 1, 0, 0, 0, nI 0, 0, []), (36, .getfield 23, 3, 8, 2, 0, nI 0, 0, []), (39, .iload_n 2, 1, 2, 0, 0, nI 0, 0, []), (40, .invokevirtual 265, 3, 107, 3, 8, nI 0, 0, []), (43, .iload_n 1, 1, 1, 0, 0, nI 0, 0, []), (44, .if_icmp .ne 10, 3, 54, 0, 0, nI 0, 0, []), (47, .iload_n 3, 1, 3, 0, 0, nI 0, 0, [])],
  [(48, .iconst 1, 1, 0, 0, 0, nI 1, 0, []), (49, .iload 4, 2, 4, 0, 0, nI 0, 0, []), (51, .ishl, 1, 0, 0, 0, nI 0, 0, []), (52, .ior, 1, 0, 0, 0, nI 0, 0, []), (53, .istore_n 3, 1, 3, 0, 0, nI 0, 0, []), (54, .iinc 4 1, 3, 4, 0, 0, nI 1, 0, []), (57, .goto (-41), 3, 16, 0, 0, nI 0, 0, []), (60, .iload_n 3, 1, 3, 0, 0, nI 0, 0, []), (61, .ireturn, 1, 0, 0, 0, nI 0, 0, [])]]
def md_X8_secondByEfforts : MD := (8, yX8_secondByEfforts, cX8_secondByEfforts, 5, (some .int), false, rw_X8_secondByEfforts)
def rw_X8_isRestless : List (List Row) := [[(0, .aload_n 0, 1, 0, 0, 0, nI 0, 0, []), (1, .getfield 19, 3, 8, 1, 0, nI 0, 0, []), (4, .iload_n 1, 1, 1, 0, 0, nI 0, 0, []), (5, .invokevirtual 212, 3, 31, 2, 6, nI 0, 0, []), (8, .ifCond .eq 29, 3, 37, 0, 0, nI 0, 0, []), (11, .aload_n 0, 1, 0, 0, 0, nI 0, 0, []), (12, .aload_n 0, 1, 0, 0, 0, nI 0, 0, []), (13, .getfield 19, 3, 8, 1, 0, nI 0, 0, [])],
  [(16, .iload_n 2, 1, 2, 0, 0, nI 0, 0, []), (17, .invokevirtual 265, 3, 107, 3, 8, nI 0, 0, []), (20, .iload_n 1, 1, 1, 0, 0, nI 0, 0, []), (21, .if_icmp .eq 16, 3, 37, 0, 0, nI 0, 0, []), (24, .aload_n 0, 1, 0, 0, 0, nI 0, 0, []), (25, .iload_n 1, 1, 1, 0, 0, nI 0, 0, []), (26, .iload_n 2, 1, 2, 0, 0, nI 0, 0, []), (27, .invokevirtual 255, 3, 109, 3, 8, nI 0, 0, []), (30, .ifCond .eq 7, 3, 37, 0, 0, nI 0, 0, [])],
  [(33, .iconst 1, 1, 0, 0, 0, nI 1, 0, []), (34, .goto 4, 3, 38, 0, 0, nI 0, 0, []), (37, .iconst 0, 1, 0, 0, 0, nI 0, 0, []), (38, .ireturn, 1, 0, 0, 0, nI 0, 0, [])]]
def md_X8_isRestless : MD := (8, yX8_isRestless, cX8_isRestless, 3, (some .boolean), false, rw_X8_isRestless)
def rw_X8_fewestWhoLet : List (List Row) := [[(0, .aload_n 0, 1, 0, 0, 0, nI 0, 0, []), (1, .getfield 19, 3, 8, 1, 0, nI 0, 0, []), (4, .aload_n 0, 1, 0, 0, 0, nI 0, 0, []), (5, .getfield 63, 3, 8, 8, 0, nI 0, 0, []), (8, .invokevirtual 131, 3, 32, 2, 6, nI 0, 0, []), (11, .iconst 1, 1, 0, 0, 0, nI 1, 0, []), (12, .iload_n 1, 1, 1, 0, 0, nI 0, 0, []), (13, .ishl, 1, 0, 0, 0, nI 0, 0, []), (14, .iconst (-1), 1, 0, 0, 0, (-1), 0, []), (15, .ixor, 1, 0, 0, 0, nI 0, 0, [])],
  [(16, .iand, 1, 0, 0, 0, nI 0, 0, []), (17, .istore_n 3, 1, 3, 0, 0, nI 0, 0, []), (18, .iconst (-1), 1, 0, 0, 0, (-1), 0, []), (19, .istore 4, 2, 4, 0, 0, nI 0, 0, []), (21, .iconst 0, 1, 0, 0, 0, nI 0, 0, []), (22, .istore 5, 2, 5, 0, 0, nI 0, 0, []), (24, .iload 5, 2, 5, 0, 0, nI 0, 0, []), (26, .iload_n 3, 1, 3, 0, 0, nI 0, 0, []), (27, .if_icmp .gt 64, 3, 91, 0, 0, nI 0, 0, []), (30, .iload 4, 2, 4, 0, 0, nI 0, 0, [])],
  [(32, .iconst (-1), 1, 0, 0, 0, (-1), 0, []), (33, .if_icmp .eq 16, 3, 49, 0, 0, nI 0, 0, []), (36, .iload 5, 2, 5, 0, 0, nI 0, 0, []), (38, .invokestatic 219, 3, 196, 1, 0, nI 0, 0, []), (41, .iload 4, 2, 4, 0, 0, nI 0, 0, []), (43, .invokestatic 219, 3, 196, 1, 0, nI 0, 0, []), (46, .if_icmp .ge 7, 3, 53, 0, 0, nI 0, 0, [])],
  [(49, .iconst 1, 1, 0, 0, 0, nI 1, 0, []), (50, .goto 4, 3, 54, 0, 0, nI 0, 0, []), (53, .iconst 0, 1, 0, 0, 0, nI 0, 0, []), (54, .istore 6, 2, 6, 0, 0, nI 0, 0, []), (56, .iload 5, 2, 5, 0, 0, nI 0, 0, []), (58, .iload_n 3, 1, 3, 0, 0, nI 0, 0, []), (59, .iconst (-1), 1, 0, 0, 0, (-1), 0, []), (60, .ixor, 1, 0, 0, 0, nI 0, 0, []), (61, .iand, 1, 0, 0, 0, nI 0, 0, []), (62, .ifCond .ne 23, 3, 85, 0, 0, nI 0, 0, [])],
  [(65, .iload 6, 2, 6, 0, 0, nI 0, 0, []), (67, .ifCond .eq 18, 3, 85, 0, 0, nI 0, 0, []), (70, .aload_n 0, 1, 0, 0, 0, nI 0, 0, []), (71, .iload_n 1, 1, 1, 0, 0, nI 0, 0, []), (72, .iload_n 2, 1, 2, 0, 0, nI 0, 0, []), (73, .iload 5, 2, 5, 0, 0, nI 0, 0, []), (75, .invokevirtual 306, 3, 112, 4, 8, nI 0, 0, []), (78, .ifCond .eq 7, 3, 85, 0, 0, nI 0, 0, [])],
  [(81, .iload 5, 2, 5, 0, 0, nI 0, 0, []), (83, .istore 4, 2, 4, 0, 0, nI 0, 0, []), (85, .iinc 5 1, 3, 5, 0, 0, nI 1, 0, []), (88, .goto (-64), 3, 24, 0, 0, nI 0, 0, []), (91, .iload 4, 2, 4, 0, 0, nI 0, 0, []), (93, .ireturn, 1, 0, 0, 0, nI 0, 0, [])]]
def md_X8_fewestWhoLet : MD := (8, yX8_fewestWhoLet, cX8_fewestWhoLet, 7, (some .int), false, rw_X8_fewestWhoLet)
def rw_X8_isSecondIfLet : List (List Row) := [[(0, .aload_n 0, 1, 0, 0, 0, nI 0, 0, []), (1, .getfield 23, 3, 8, 2, 0, nI 0, 0, []), (4, .aload_n 0, 1, 0, 0, 0, nI 0, 0, []), (5, .getfield 19, 3, 8, 1, 0, nI 0, 0, []), (8, .invokevirtual 249, 3, 28, 2, 6, nI 0, 0, []), (11, .iconst 0, 1, 0, 0, 0, nI 0, 0, []), (12, .istore 4, 2, 4, 0, 0, nI 0, 0, []), (14, .iload 4, 2, 4, 0, 0, nI 0, 0, [])],
  [(16, .aload_n 0, 1, 0, 0, 0, nI 0, 0, []), (17, .getfield 63, 3, 8, 8, 0, nI 0, 0, []), (20, .getfield 107, 3, 4, 6, 0, nI 0, 0, []), (23, .if_icmp .ge 30, 3, 53, 0, 0, nI 0, 0, []), (26, .iload_n 3, 1, 3, 0, 0, nI 0, 0, []), (27, .iload 4, 2, 4, 0, 0, nI 0, 0, []), (29, .ishr, 1, 0, 0, 0, nI 0, 0, []), (30, .iconst 1, 1, 0, 0, 0, nI 1, 0, []), (31, .iand, 1, 0, 0, 0, nI 0, 0, [])],
  [(32, .iconst 1, 1, 0, 0, 0, nI 1, 0, []), (33, .if_icmp .ne 14, 3, 47, 0, 0, nI 0, 0, []), (36, .aload_n 0, 1, 0, 0, 0, nI 0, 0, []), (37, .getfield 23, 3, 8, 2, 0, nI 0, 0, []), (40, .getfield 165, 3, 6, 1, 0, nI 0, 0, []), (43, .iload 4, 2, 4, 0, 0, nI 0, 0, []), (45, .iconst 0, 1, 0, 0, 0, nI 0, 0, []), (46, .iastore, 1, 0, 0, 0, nI 0, 0, []), (47, .iinc 4 1, 3, 4, 0, 0, nI 1, 0, [])],
  [(50, .goto (-36), 3, 14, 0, 0, nI 0, 0, []), (53, .aload_n 0, 1, 0, 0, 0, nI 0, 0, []), (54, .aload_n 0, 1, 0, 0, 0, nI 0, 0, []), (55, .getfield 23, 3, 8, 2, 0, nI 0, 0, []), (58, .iload_n 2, 1, 2, 0, 0, nI 0, 0, []), (59, .invokevirtual 265, 3, 107, 3, 8, nI 0, 0, []), (62, .iload_n 1, 1, 1, 0, 0, nI 0, 0, []), (63, .if_icmp .ne 7, 3, 70, 0, 0, nI 0, 0, [])],
  [(66, .iconst 1, 1, 0, 0, 0, nI 1, 0, []), (67, .goto 4, 3, 71, 0, 0, nI 0, 0, []), (70, .iconst 0, 1, 0, 0, 0, nI 0, 0, []), (71, .ireturn, 1, 0, 0, 0, nI 0, 0, [])]]
def md_X8_isSecondIfLet : MD := (8, yX8_isSecondIfLet, cX8_isSecondIfLet, 5, (some .boolean), false, rw_X8_isSecondIfLet)
def rw_X8_countRings : List (List Row) := [[(0, .iconst 0, 1, 0, 0, 0, nI 0, 0, []), (1, .istore_n 1, 1, 1, 0, 0, nI 0, 0, []), (2, .iconst 0, 1, 0, 0, 0, nI 0, 0, []), (3, .istore_n 2, 1, 2, 0, 0, nI 0, 0, []), (4, .iload_n 2, 1, 2, 0, 0, nI 0, 0, []), (5, .aload_n 0, 1, 0, 0, 0, nI 0, 0, []), (6, .getfield 63, 3, 8, 8, 0, nI 0, 0, []), (9, .getfield 107, 3, 4, 6, 0, nI 0, 0, []), (12, .if_icmp .ge 84, 3, 96, 0, 0, nI 0, 0, []), (15, .iload_n 2, 1, 2, 0, 0, nI 0, 0, [])],
  [(16, .iconst 1, 1, 0, 0, 0, nI 1, 0, []), (17, .iadd, 1, 0, 0, 0, nI 0, 0, []), (18, .istore_n 3, 1, 3, 0, 0, nI 0, 0, []), (19, .iload_n 3, 1, 3, 0, 0, nI 0, 0, []), (20, .aload_n 0, 1, 0, 0, 0, nI 0, 0, []), (21, .getfield 63, 3, 8, 8, 0, nI 0, 0, []), (24, .getfield 107, 3, 4, 6, 0, nI 0, 0, []), (27, .if_icmp .ge 63, 3, 90, 0, 0, nI 0, 0, []), (30, .iload_n 3, 1, 3, 0, 0, nI 0, 0, []), (31, .iconst 1, 1, 0, 0, 0, nI 1, 0, [])],
  [(32, .iadd, 1, 0, 0, 0, nI 0, 0, []), (33, .istore 4, 2, 4, 0, 0, nI 0, 0, []), (35, .iload 4, 2, 4, 0, 0, nI 0, 0, []), (37, .aload_n 0, 1, 0, 0, 0, nI 0, 0, []), (38, .getfield 63, 3, 8, 8, 0, nI 0, 0, []), (41, .getfield 107, 3, 4, 6, 0, nI 0, 0, []), (44, .if_icmp .ge 40, 3, 84, 0, 0, nI 0, 0, []), (47, .aload_n 0, 1, 0, 0, 0, nI 0, 0, [])],
  [(48, .getfield 19, 3, 8, 1, 0, nI 0, 0, []), (51, .iload_n 2, 1, 2, 0, 0, nI 0, 0, []), (52, .iload_n 3, 1, 3, 0, 0, nI 0, 0, []), (53, .iload 4, 2, 4, 0, 0, nI 0, 0, []), (55, .invokevirtual 309, 3, 44, 4, 6, nI 0, 0, []), (58, .ifCond .ne 17, 3, 75, 0, 0, nI 0, 0, []), (61, .aload_n 0, 1, 0, 0, 0, nI 0, 0, []), (62, .getfield 19, 3, 8, 1, 0, nI 0, 0, [])],
  [(65, .iload_n 2, 1, 2, 0, 0, nI 0, 0, []), (66, .iload 4, 2, 4, 0, 0, nI 0, 0, []), (68, .iload_n 3, 1, 3, 0, 0, nI 0, 0, []), (69, .invokevirtual 309, 3, 44, 4, 6, nI 0, 0, []), (72, .ifCond .eq 6, 3, 78, 0, 0, nI 0, 0, []), (75, .iinc 1 1, 3, 1, 0, 0, nI 1, 0, []), (78, .iinc 4 1, 3, 4, 0, 0, nI 1, 0, [])],
  [(81, .goto (-46), 3, 35, 0, 0, nI 0, 0, []), (84, .iinc 3 1, 3, 3, 0, 0, nI 1, 0, []), (87, .goto (-68), 3, 19, 0, 0, nI 0, 0, []), (90, .iinc 2 1, 3, 2, 0, 0, nI 1, 0, []), (93, .goto (-89), 3, 4, 0, 0, nI 0, 0, [])],
  [(96, .iload_n 1, 1, 1, 0, 0, nI 0, 0, []), (97, .ireturn, 1, 0, 0, 0, nI 0, 0, [])]]
def md_X8_countRings : MD := (8, yX8_countRings, cX8_countRings, 5, (some .int), false, rw_X8_countRings)
def rw_X9_init : List (List Row) := [[(0, .aload_n 0, 1, 0, 0, 0, nI 0, 0, []), (1, .invokespecial 1, 3, 0, 1, 1, nI 0, 0, []), (4, .aload_n 0, 1, 0, 0, 0, nI 0, 0, []), (5, .sipush 4420, 3, 0, 0, 0, nI 4420, 0, []), (8, .newarray .int, 2, 0, 0, 0, nI 0, 0, []), (10, .putfield 7, 3, 9, 0, 0, nI 0, 0, []), (13, .aload_n 0, 1, 0, 0, 0, nI 0, 0, []), (14, .bipush 7, 2, 0, 0, 0, nI 7, 0, [])],
  [(16, .newarray .int, 2, 0, 0, 0, nI 0, 0, []), (18, .putfield 13, 3, 9, 1, 0, nI 0, 0, []), (21, .aload_n 0, 1, 0, 0, 0, nI 0, 0, []), (22, .iconst 4, 1, 0, 0, 0, nI 4, 0, []), (23, .newarray .int, 2, 0, 0, 0, nI 0, 0, []), (25, .putfield 16, 3, 9, 2, 0, nI 0, 0, []), (28, .aload_n 0, 1, 0, 0, 0, nI 0, 0, []), (29, .bipush 12, 2, 0, 0, 0, nI 12, 0, []), (31, .newarray .int, 2, 0, 0, 0, nI 0, 0, [])],
  [(33, .putfield 19, 3, 9, 3, 0, nI 0, 0, []), (36, .aload_n 0, 1, 0, 0, 0, nI 0, 0, []), (37, .iconst (-1), 1, 0, 0, 0, (-1), 0, []), (38, .putfield 22, 3, 9, 4, 0, nI 0, 0, []), (41, .aload_n 0, 1, 0, 0, 0, nI 0, 0, []), (42, .sipush 240, 3, 0, 0, 0, nI 240, 0, []), (45, .newarray .int, 2, 0, 0, 0, nI 0, 0, []), (47, .putfield 26, 3, 9, 11, 0, nI 0, 0, [])],
  [(50, .aload_n 0, 1, 0, 0, 0, nI 0, 0, []), (51, .iconst (-1), 1, 0, 0, 0, (-1), 0, []), (52, .putfield 29, 3, 9, 13, 0, nI 0, 0, []), (55, .aload_n 0, 1, 0, 0, 0, nI 0, 0, []), (56, .bipush 6, 2, 0, 0, 0, nI 6, 0, []), (58, .newarray .int, 2, 0, 0, 0, nI 0, 0, []), (60, .putfield 32, 3, 9, 14, 0, nI 0, 0, []), (63, .aload_n 0, 1, 0, 0, 0, nI 0, 0, [])],
  [(64, .bipush 6, 2, 0, 0, 0, nI 6, 0, []), (66, .newarray .int, 2, 0, 0, 0, nI 0, 0, []), (68, .putfield 35, 3, 9, 15, 0, nI 0, 0, []), (71, .aload_n 0, 1, 0, 0, 0, nI 0, 0, []), (72, .bipush 20, 2, 0, 0, 0, nI 20, 0, []), (74, .newarray .int, 2, 0, 0, 0, nI 0, 0, []), (76, .putfield 38, 3, 9, 17, 0, nI 0, 0, []), (79, .aload_n 0, 1, 0, 0, 0, nI 0, 0, [])],
  [(80, .bipush 20, 2, 0, 0, 0, nI 20, 0, []), (82, .newarray .int, 2, 0, 0, 0, nI 0, 0, []), (84, .putfield 41, 3, 9, 18, 0, nI 0, 0, []), (87, .aload_n 0, 1, 0, 0, 0, nI 0, 0, []), (88, .bipush 21, 2, 0, 0, 0, nI 21, 0, []), (90, .newarray .int, 2, 0, 0, 0, nI 0, 0, []), (92, .putfield 44, 3, 9, 28, 0, nI 0, 0, []), (95, .aload_n 0, 1, 0, 0, 0, nI 0, 0, [])],
  [(96, .bipush 7, 2, 0, 0, 0, nI 7, 0, []), (98, .newarray .int, 2, 0, 0, 0, nI 0, 0, []), (100, .putfield 47, 3, 9, 29, 0, nI 0, 0, []), (103, .aload_n 0, 1, 0, 0, 0, nI 0, 0, []), (104, .iconst 4, 1, 0, 0, 0, nI 4, 0, []), (105, .newarray .int, 2, 0, 0, 0, nI 0, 0, []), (107, .putfield 50, 3, 9, 30, 0, nI 0, 0, []), (110, .aload_n 0, 1, 0, 0, 0, nI 0, 0, []), (111, .bipush 12, 2, 0, 0, 0, nI 12, 0, [])],
  [(113, .newarray .int, 2, 0, 0, 0, nI 0, 0, []), (115, .putfield 53, 3, 9, 31, 0, nI 0, 0, []), (118, .aload_n 0, 1, 0, 0, 0, nI 0, 0, []), (119, .getfield 7, 3, 9, 0, 0, nI 0, 0, []), (122, .sipush 129, 3, 0, 0, 0, nI 129, 0, []), (125, .iconst 0, 1, 0, 0, 0, nI 0, 0, []), (126, .iastore, 1, 0, 0, 0, nI 0, 0, []), (127, .return_, 1, 0, 0, 0, nI 0, 0, [])]]
def md_X9_init : MD := (9, yX9_init, cX9_init, 1, none, true, rw_X9_init)
def rw_X9_in : List (List Row) := [[(0, .iload_n 0, 1, 0, 0, 0, nI 0, 0, []), (1, .iload_n 1, 1, 1, 0, 0, nI 0, 0, []), (2, .if_icmp .lt 12, 3, 14, 0, 0, nI 0, 0, []), (5, .iload_n 0, 1, 0, 0, 0, nI 0, 0, []), (6, .iload_n 2, 1, 2, 0, 0, nI 0, 0, []), (7, .if_icmp .gt 7, 3, 14, 0, 0, nI 0, 0, []), (10, .iconst 1, 1, 0, 0, 0, nI 1, 0, []), (11, .goto 4, 3, 15, 0, 0, nI 0, 0, []), (14, .iconst 0, 1, 0, 0, 0, nI 0, 0, []), (15, .ireturn, 1, 0, 0, 0, nI 0, 0, [])]]
def md_X9_in : MD := (9, yX9_in, cX9_in, 3, (some .boolean), false, rw_X9_in)
def rw_X9_has : List (List Row) := [[(0, .iload_n 0, 1, 0, 0, 0, nI 0, 0, []), (1, .iload_n 1, 1, 1, 0, 0, nI 0, 0, []), (2, .ishr, 1, 0, 0, 0, nI 0, 0, []), (3, .iconst 1, 1, 0, 0, 0, nI 1, 0, []), (4, .iand, 1, 0, 0, 0, nI 0, 0, []), (5, .iconst 1, 1, 0, 0, 0, nI 1, 0, []), (6, .if_icmp .ne 7, 3, 13, 0, 0, nI 0, 0, []), (9, .iconst 1, 1, 0, 0, 0, nI 1, 0, []), (10, .goto 4, 3, 14, 0, 0, nI 0, 0, []), (13, .iconst 0, 1, 0, 0, 0, nI 0, 0, []), (14, .ireturn, 1, 0, 0, 0, nI 0, 0, [])]]
def md_X9_has : MD := (9, yX9_has, cX9_has, 2, (some .boolean), false, rw_X9_has)
def rw_X9_isPerson : List (List Row) := [[(0, .iload_n 1, 1, 1, 0, 0, nI 0, 0, []), (1, .iconst 0, 1, 0, 0, 0, nI 0, 0, []), (2, .aload_n 0, 1, 0, 0, 0, nI 0, 0, []), (3, .getfield 56, 3, 9, 6, 0, nI 0, 0, []), (6, .iconst 1, 1, 0, 0, 0, nI 1, 0, []), (7, .isub, 1, 0, 0, 0, nI 0, 0, []), (8, .invokestatic 59, 3, 115, 3, 0, nI 0, 0, []), (11, .ireturn, 1, 0, 0, 0, nI 0, 0, [])]]
def md_X9_isPerson : MD := (9, yX9_isPerson, cX9_isPerson, 2, (some .boolean), false, rw_X9_isPerson)
def rw_X9_isOffice : List (List Row) := [[(0, .iload_n 1, 1, 1, 0, 0, nI 0, 0, []), (1, .iconst 0, 1, 0, 0, 0, nI 0, 0, []), (2, .aload_n 0, 1, 0, 0, 0, nI 0, 0, []), (3, .getfield 63, 3, 9, 7, 0, nI 0, 0, []), (6, .iconst 1, 1, 0, 0, 0, nI 1, 0, []), (7, .isub, 1, 0, 0, 0, nI 0, 0, []), (8, .invokestatic 59, 3, 115, 3, 0, nI 0, 0, []), (11, .ireturn, 1, 0, 0, 0, nI 0, 0, [])]]
def md_X9_isOffice : MD := (9, yX9_isOffice, cX9_isOffice, 2, (some .boolean), false, rw_X9_isOffice)
def rw_X9_copyRow : List (List Row) := [[(0, .iconst 0, 1, 0, 0, 0, nI 0, 0, []), (1, .istore_n 3, 1, 3, 0, 0, nI 0, 0, []), (2, .iload_n 3, 1, 3, 0, 0, nI 0, 0, []), (3, .sipush 130, 3, 0, 0, 0, nI 130, 0, []), (6, .if_icmp .ge 25, 3, 31, 0, 0, nI 0, 0, []), (9, .aload_n 0, 1, 0, 0, 0, nI 0, 0, []), (10, .getfield 7, 3, 9, 0, 0, nI 0, 0, []), (13, .iload_n 2, 1, 2, 0, 0, nI 0, 0, []), (14, .iload_n 3, 1, 3, 0, 0, nI 0, 0, []), (15, .iadd, 1, 0, 0, 0, nI 0, 0, [])],
  [(16, .aload_n 0, 1, 0, 0, 0, nI 0, 0, []), (17, .getfield 7, 3, 9, 0, 0, nI 0, 0, []), (20, .iload_n 1, 1, 1, 0, 0, nI 0, 0, []), (21, .iload_n 3, 1, 3, 0, 0, nI 0, 0, []), (22, .iadd, 1, 0, 0, 0, nI 0, 0, []), (23, .iaload, 1, 0, 0, 0, nI 0, 0, []), (24, .iastore, 1, 0, 0, 0, nI 0, 0, []), (25, .iinc 3 1, 3, 3, 0, 0, nI 1, 0, []), (28, .goto (-26), 3, 2, 0, 0, nI 0, 0, []), (31, .return_, 1, 0, 0, 0, nI 0, 0, [])]]
def md_X9_copyRow : MD := (9, yX9_copyRow, cX9_copyRow, 4, none, false, rw_X9_copyRow)
def rw_X9_feed : List (List Row) := [[(0, .iload_n 1, 1, 1, 0, 0, nI 0, 0, []), (1, .iconst 0, 1, 0, 0, 0, nI 0, 0, []), (2, .sipush 255, 3, 0, 0, 0, nI 255, 0, []), (5, .invokestatic 59, 3, 115, 3, 0, nI 0, 0, []), (8, .ifCond .ne 6, 3, 14, 0, 0, nI 0, 0, []), (11, .ldc 66, 2, 0, 0, 0, (-1000000002), 0, []), (13, .ireturn, 1, 0, 0, 0, nI 0, 0, []), (14, .aload_n 0, 1, 0, 0, 0, nI 0, 0, []), (15, .getfield 67, 3, 9, 12, 0, nI 0, 0, [])],
  [(18, .sipush 240, 3, 0, 0, 0, nI 240, 0, []), (21, .if_icmp .ne 6, 3, 27, 0, 0, nI 0, 0, []), (24, .ldc 70, 2, 0, 0, 0, (-1000000004), 0, []), (26, .ireturn, 1, 0, 0, 0, nI 0, 0, []), (27, .aload_n 0, 1, 0, 0, 0, nI 0, 0, []), (28, .getfield 26, 3, 9, 11, 0, nI 0, 0, []), (31, .aload_n 0, 1, 0, 0, 0, nI 0, 0, [])],
  [(32, .getfield 67, 3, 9, 12, 0, nI 0, 0, []), (35, .iload_n 1, 1, 1, 0, 0, nI 0, 0, []), (36, .iastore, 1, 0, 0, 0, nI 0, 0, []), (37, .aload_n 0, 1, 0, 0, 0, nI 0, 0, []), (38, .dup, 1, 0, 0, 0, nI 0, 0, []), (39, .getfield 67, 3, 9, 12, 0, nI 0, 0, []), (42, .iconst 1, 1, 0, 0, 0, nI 1, 0, []), (43, .iadd, 1, 0, 0, 0, nI 0, 0, []), (44, .putfield 67, 3, 9, 12, 0, nI 0, 0, []), (47, .aload_n 0, 1, 0, 0, 0, nI 0, 0, [])],
  [(48, .getfield 67, 3, 9, 12, 0, nI 0, 0, []), (51, .ireturn, 1, 0, 0, 0, nI 0, 0, [])]]
def md_X9_feed : MD := (9, yX9_feed, cX9_feed, 2, (some .int), false, rw_X9_feed)
def rw_X9_wrong : List (List Row) := [[(0, .aload_n 0, 1, 0, 0, 0, nI 0, 0, []), (1, .getfield 71, 3, 9, 21, 0, nI 0, 0, []), (4, .ifCond .ne 13, 3, 17, 0, 0, nI 0, 0, []), (7, .aload_n 0, 1, 0, 0, 0, nI 0, 0, []), (8, .iload_n 1, 1, 1, 0, 0, nI 0, 0, []), (9, .putfield 71, 3, 9, 21, 0, nI 0, 0, []), (12, .aload_n 0, 1, 0, 0, 0, nI 0, 0, []), (13, .iload_n 2, 1, 2, 0, 0, nI 0, 0, []), (14, .putfield 74, 3, 9, 22, 0, nI 0, 0, [])],
  [(17, .return_, 1, 0, 0, 0, nI 0, 0, [])]]
def md_X9_wrong : MD := (9, yX9_wrong, cX9_wrong, 3, none, false, rw_X9_wrong)
def rw_X9_fine : List (List Row) := [[(0, .aload_n 0, 1, 0, 0, 0, nI 0, 0, []), (1, .getfield 71, 3, 9, 21, 0, nI 0, 0, []), (4, .ifCond .ne 7, 3, 11, 0, 0, nI 0, 0, []), (7, .iconst 1, 1, 0, 0, 0, nI 1, 0, []), (8, .goto 4, 3, 12, 0, 0, nI 0, 0, []), (11, .iconst 0, 1, 0, 0, 0, nI 0, 0, []), (12, .ireturn, 1, 0, 0, 0, nI 0, 0, [])]]
def md_X9_fine : MD := (9, yX9_fine, cX9_fine, 1, (some .boolean), false, rw_X9_fine)
def rw_X9_here : List (List Row) := [[(0, .aload_n 0, 1, 0, 0, 0, nI 0, 0, []), (1, .getfield 77, 3, 9, 20, 0, nI 0, 0, []), (4, .aload_n 0, 1, 0, 0, 0, nI 0, 0, []), (5, .getfield 67, 3, 9, 12, 0, nI 0, 0, []), (8, .if_icmp .ge 30, 3, 38, 0, 0, nI 0, 0, []), (11, .aload_n 0, 1, 0, 0, 0, nI 0, 0, []), (12, .getfield 26, 3, 9, 11, 0, nI 0, 0, []), (15, .aload_n 0, 1, 0, 0, 0, nI 0, 0, [])],
  [(16, .getfield 77, 3, 9, 20, 0, nI 0, 0, []), (19, .iaload, 1, 0, 0, 0, nI 0, 0, []), (20, .bipush 32, 2, 0, 0, 0, nI 32, 0, []), (22, .if_icmp .ne 16, 3, 38, 0, 0, nI 0, 0, []), (25, .aload_n 0, 1, 0, 0, 0, nI 0, 0, []), (26, .dup, 1, 0, 0, 0, nI 0, 0, []), (27, .getfield 77, 3, 9, 20, 0, nI 0, 0, []), (30, .iconst 1, 1, 0, 0, 0, nI 1, 0, []), (31, .iadd, 1, 0, 0, 0, nI 0, 0, [])],
  [(32, .putfield 77, 3, 9, 20, 0, nI 0, 0, []), (35, .goto (-35), 3, 0, 0, 0, nI 0, 0, []), (38, .aload_n 0, 1, 0, 0, 0, nI 0, 0, []), (39, .getfield 77, 3, 9, 20, 0, nI 0, 0, []), (42, .aload_n 0, 1, 0, 0, 0, nI 0, 0, []), (43, .getfield 67, 3, 9, 12, 0, nI 0, 0, []), (46, .if_icmp .ge 15, 3, 61, 0, 0, nI 0, 0, [])],
  [(49, .aload_n 0, 1, 0, 0, 0, nI 0, 0, []), (50, .getfield 26, 3, 9, 11, 0, nI 0, 0, []), (53, .aload_n 0, 1, 0, 0, 0, nI 0, 0, []), (54, .getfield 77, 3, 9, 20, 0, nI 0, 0, []), (57, .iaload, 1, 0, 0, 0, nI 0, 0, []), (58, .goto 4, 3, 62, 0, 0, nI 0, 0, []), (61, .iconst (-1), 1, 0, 0, 0, (-1), 0, []), (62, .ireturn, 1, 0, 0, 0, nI 0, 0, [])]]
def md_X9_here : MD := (9, yX9_here, cX9_here, 1, (some .int), false, rw_X9_here)
def rw_X9_number : List (List Row) := [[(0, .aload_n 0, 1, 0, 0, 0, nI 0, 0, []), (1, .invokevirtual 80, 3, 122, 1, 9, nI 0, 0, []), (4, .ifCond .ne 5, 3, 9, 0, 0, nI 0, 0, []), (7, .iconst 0, 1, 0, 0, 0, nI 0, 0, []), (8, .ireturn, 1, 0, 0, 0, nI 0, 0, []), (9, .aload_n 0, 1, 0, 0, 0, nI 0, 0, []), (10, .invokevirtual 84, 3, 123, 1, 9, nI 0, 0, []), (13, .bipush 48, 2, 0, 0, 0, nI 48, 0, []), (15, .bipush 57, 2, 0, 0, 0, nI 57, 0, [])],
  [(17, .invokestatic 59, 3, 115, 3, 0, nI 0, 0, []), (20, .ifCond .ne 14, 3, 34, 0, 0, nI 0, 0, []), (23, .aload_n 0, 1, 0, 0, 0, nI 0, 0, []), (24, .iconst 1, 1, 0, 0, 0, nI 1, 0, []), (25, .aload_n 0, 1, 0, 0, 0, nI 0, 0, []), (26, .getfield 77, 3, 9, 20, 0, nI 0, 0, []), (29, .invokevirtual 88, 3, 121, 3, 9, nI 0, 0, [])],
  [(32, .iconst 0, 1, 0, 0, 0, nI 0, 0, []), (33, .ireturn, 1, 0, 0, 0, nI 0, 0, []), (34, .aload_n 0, 1, 0, 0, 0, nI 0, 0, []), (35, .getfield 77, 3, 9, 20, 0, nI 0, 0, []), (38, .istore_n 3, 1, 3, 0, 0, nI 0, 0, []), (39, .iconst 0, 1, 0, 0, 0, nI 0, 0, []), (40, .istore 4, 2, 4, 0, 0, nI 0, 0, []), (42, .aload_n 0, 1, 0, 0, 0, nI 0, 0, []), (43, .getfield 77, 3, 9, 20, 0, nI 0, 0, []), (46, .aload_n 0, 1, 0, 0, 0, nI 0, 0, []), (47, .getfield 67, 3, 9, 12, 0, nI 0, 0, [])],
  [(50, .if_icmp .ge 70, 3, 120, 0, 0, nI 0, 0, []), (53, .aload_n 0, 1, 0, 0, 0, nI 0, 0, []), (54, .getfield 26, 3, 9, 11, 0, nI 0, 0, []), (57, .aload_n 0, 1, 0, 0, 0, nI 0, 0, []), (58, .getfield 77, 3, 9, 20, 0, nI 0, 0, []), (61, .iaload, 1, 0, 0, 0, nI 0, 0, []), (62, .bipush 48, 2, 0, 0, 0, nI 48, 0, [])],
  [(64, .bipush 57, 2, 0, 0, 0, nI 57, 0, []), (66, .invokestatic 59, 3, 115, 3, 0, nI 0, 0, []), (69, .ifCond .eq 51, 3, 120, 0, 0, nI 0, 0, []), (72, .aload_n 0, 1, 0, 0, 0, nI 0, 0, []), (73, .getfield 77, 3, 9, 20, 0, nI 0, 0, []), (76, .iload_n 3, 1, 3, 0, 0, nI 0, 0, []), (77, .isub, 1, 0, 0, 0, nI 0, 0, []), (78, .iconst 4, 1, 0, 0, 0, nI 4, 0, []), (79, .if_icmp .ge 24, 3, 103, 0, 0, nI 0, 0, [])],
  [(82, .bipush 10, 2, 0, 0, 0, nI 10, 0, []), (84, .iload 4, 2, 4, 0, 0, nI 0, 0, []), (86, .imul, 1, 0, 0, 0, nI 0, 0, []), (87, .aload_n 0, 1, 0, 0, 0, nI 0, 0, []), (88, .getfield 26, 3, 9, 11, 0, nI 0, 0, []), (91, .aload_n 0, 1, 0, 0, 0, nI 0, 0, []), (92, .getfield 77, 3, 9, 20, 0, nI 0, 0, []), (95, .iaload, 1, 0, 0, 0, nI 0, 0, [])],
  [(96, .iadd, 1, 0, 0, 0, nI 0, 0, []), (97, .bipush 48, 2, 0, 0, 0, nI 48, 0, []), (99, .isub, 1, 0, 0, 0, nI 0, 0, []), (100, .goto 5, 3, 105, 0, 0, nI 0, 0, []), (103, .iload 4, 2, 4, 0, 0, nI 0, 0, []), (105, .istore 4, 2, 4, 0, 0, nI 0, 0, []), (107, .aload_n 0, 1, 0, 0, 0, nI 0, 0, []), (108, .dup, 1, 0, 0, 0, nI 0, 0, []), (109, .getfield 77, 3, 9, 20, 0, nI 0, 0, [])],
  [(112, .iconst 1, 1, 0, 0, 0, nI 1, 0, []), (113, .iadd, 1, 0, 0, 0, nI 0, 0, []), (114, .putfield 77, 3, 9, 20, 0, nI 0, 0, []), (117, .goto (-75), 3, 42, 0, 0, nI 0, 0, []), (120, .aload_n 0, 1, 0, 0, 0, nI 0, 0, []), (121, .getfield 77, 3, 9, 20, 0, nI 0, 0, []), (124, .iload_n 3, 1, 3, 0, 0, nI 0, 0, []), (125, .isub, 1, 0, 0, 0, nI 0, 0, []), (126, .iconst 3, 1, 0, 0, 0, nI 3, 0, []), (127, .if_icmp .gt 13, 3, 140, 0, 0, nI 0, 0, [])],
  [(130, .iload 4, 2, 4, 0, 0, nI 0, 0, []), (132, .iload_n 1, 1, 1, 0, 0, nI 0, 0, []), (133, .iload_n 2, 1, 2, 0, 0, nI 0, 0, []), (134, .invokestatic 59, 3, 115, 3, 0, nI 0, 0, []), (137, .ifCond .ne 9, 3, 146, 0, 0, nI 0, 0, []), (140, .aload_n 0, 1, 0, 0, 0, nI 0, 0, []), (141, .iconst 2, 1, 0, 0, 0, nI 2, 0, []), (142, .iload_n 3, 1, 3, 0, 0, nI 0, 0, []), (143, .invokevirtual 88, 3, 121, 3, 9, nI 0, 0, [])],
  [(146, .iload 4, 2, 4, 0, 0, nI 0, 0, []), (148, .ireturn, 1, 0, 0, 0, nI 0, 0, [])]]
def md_X9_number : MD := (9, yX9_number, cX9_number, 5, (some .int), false, rw_X9_number)
def rw_X9_readLaw : List (List Row) := [[(0, .aload_n 0, 1, 0, 0, 0, nI 0, 0, []), (1, .getfield 92, 3, 9, 23, 0, nI 0, 0, []), (4, .iconst (-1), 1, 0, 0, 0, (-1), 0, []), (5, .if_icmp .eq 10, 3, 15, 0, 0, nI 0, 0, []), (8, .aload_n 0, 1, 0, 0, 0, nI 0, 0, []), (9, .iconst 3, 1, 0, 0, 0, nI 3, 0, []), (10, .iload_n 1, 1, 1, 0, 0, nI 0, 0, []), (11, .invokevirtual 88, 3, 121, 3, 9, nI 0, 0, []), (14, .return_, 1, 0, 0, 0, nI 0, 0, []), (15, .aload_n 0, 1, 0, 0, 0, nI 0, 0, [])],
  [(16, .aload_n 0, 1, 0, 0, 0, nI 0, 0, []), (17, .iconst 0, 1, 0, 0, 0, nI 0, 0, []), (18, .iconst 2, 1, 0, 0, 0, nI 2, 0, []), (19, .invokevirtual 95, 3, 124, 3, 9, nI 0, 0, []), (22, .putfield 92, 3, 9, 23, 0, nI 0, 0, []), (25, .aload_n 0, 1, 0, 0, 0, nI 0, 0, []), (26, .aload_n 0, 1, 0, 0, 0, nI 0, 0, []), (27, .iconst 1, 1, 0, 0, 0, nI 1, 0, []), (28, .bipush 9, 2, 0, 0, 0, nI 9, 0, []), (30, .invokevirtual 95, 3, 124, 3, 9, nI 0, 0, [])],
  [(33, .putfield 99, 3, 9, 24, 0, nI 0, 0, []), (36, .return_, 1, 0, 0, 0, nI 0, 0, [])]]
def md_X9_readLaw : MD := (9, yX9_readLaw, cX9_readLaw, 2, none, false, rw_X9_readLaw)
def rw_X9_readPerson : List (List Row) := [[(0, .aload_n 0, 1, 0, 0, 0, nI 0, 0, []), (1, .getfield 102, 3, 9, 25, 0, nI 0, 0, []), (4, .bipush 7, 2, 0, 0, 0, nI 7, 0, []), (6, .if_icmp .ne 10, 3, 16, 0, 0, nI 0, 0, []), (9, .aload_n 0, 1, 0, 0, 0, nI 0, 0, []), (10, .iconst 3, 1, 0, 0, 0, nI 3, 0, []), (11, .iload_n 1, 1, 1, 0, 0, nI 0, 0, []), (12, .invokevirtual 88, 3, 121, 3, 9, nI 0, 0, []), (15, .return_, 1, 0, 0, 0, nI 0, 0, [])],
  [(16, .iconst 0, 1, 0, 0, 0, nI 0, 0, []), (17, .istore_n 2, 1, 2, 0, 0, nI 0, 0, []), (18, .iload_n 2, 1, 2, 0, 0, nI 0, 0, []), (19, .iconst 3, 1, 0, 0, 0, nI 3, 0, []), (20, .if_icmp .ge 29, 3, 49, 0, 0, nI 0, 0, []), (23, .aload_n 0, 1, 0, 0, 0, nI 0, 0, []), (24, .getfield 44, 3, 9, 28, 0, nI 0, 0, []), (27, .iconst 3, 1, 0, 0, 0, nI 3, 0, []), (28, .aload_n 0, 1, 0, 0, 0, nI 0, 0, []), (29, .getfield 102, 3, 9, 25, 0, nI 0, 0, [])],
  [(32, .imul, 1, 0, 0, 0, nI 0, 0, []), (33, .iload_n 2, 1, 2, 0, 0, nI 0, 0, []), (34, .iadd, 1, 0, 0, 0, nI 0, 0, []), (35, .aload_n 0, 1, 0, 0, 0, nI 0, 0, []), (36, .iconst 0, 1, 0, 0, 0, nI 0, 0, []), (37, .bipush 9, 2, 0, 0, 0, nI 9, 0, []), (39, .invokevirtual 95, 3, 124, 3, 9, nI 0, 0, []), (42, .iastore, 1, 0, 0, 0, nI 0, 0, []), (43, .iinc 2 1, 3, 2, 0, 0, nI 1, 0, []), (46, .goto (-28), 3, 18, 0, 0, nI 0, 0, [])],
  [(49, .aload_n 0, 1, 0, 0, 0, nI 0, 0, []), (50, .getfield 47, 3, 9, 29, 0, nI 0, 0, []), (53, .aload_n 0, 1, 0, 0, 0, nI 0, 0, []), (54, .getfield 102, 3, 9, 25, 0, nI 0, 0, []), (57, .aload_n 0, 1, 0, 0, 0, nI 0, 0, []), (58, .iconst 0, 1, 0, 0, 0, nI 0, 0, []), (59, .bipush 9, 2, 0, 0, 0, nI 9, 0, []), (61, .invokevirtual 95, 3, 124, 3, 9, nI 0, 0, [])],
  [(64, .iastore, 1, 0, 0, 0, nI 0, 0, []), (65, .aload_n 0, 1, 0, 0, 0, nI 0, 0, []), (66, .dup, 1, 0, 0, 0, nI 0, 0, []), (67, .getfield 102, 3, 9, 25, 0, nI 0, 0, []), (70, .iconst 1, 1, 0, 0, 0, nI 1, 0, []), (71, .iadd, 1, 0, 0, 0, nI 0, 0, []), (72, .putfield 102, 3, 9, 25, 0, nI 0, 0, []), (75, .return_, 1, 0, 0, 0, nI 0, 0, [])]]
def md_X9_readPerson : MD := (9, yX9_readPerson, cX9_readPerson, 3, none, false, rw_X9_readPerson)
def rw_X9_readDays : List (List Row) := [[(0, .aload_n 0, 1, 0, 0, 0, nI 0, 0, []), (1, .getfield 105, 3, 9, 27, 0, nI 0, 0, []), (4, .ifCond .le 10, 3, 14, 0, 0, nI 0, 0, []), (7, .aload_n 0, 1, 0, 0, 0, nI 0, 0, []), (8, .iconst 3, 1, 0, 0, 0, nI 3, 0, []), (9, .iload_n 1, 1, 1, 0, 0, nI 0, 0, []), (10, .invokevirtual 88, 3, 121, 3, 9, nI 0, 0, []), (13, .return_, 1, 0, 0, 0, nI 0, 0, []), (14, .iconst 1, 1, 0, 0, 0, nI 1, 0, []), (15, .istore_n 2, 1, 2, 0, 0, nI 0, 0, [])],
  [(16, .iload_n 2, 1, 2, 0, 0, nI 0, 0, []), (17, .ifCond .eq 95, 3, 112, 0, 0, nI 0, 0, []), (20, .aload_n 0, 1, 0, 0, 0, nI 0, 0, []), (21, .getfield 53, 3, 9, 31, 0, nI 0, 0, []), (24, .aload_n 0, 1, 0, 0, 0, nI 0, 0, []), (25, .getfield 105, 3, 9, 27, 0, nI 0, 0, []), (28, .aload_n 0, 1, 0, 0, 0, nI 0, 0, []), (29, .iconst 0, 1, 0, 0, 0, nI 0, 0, []), (30, .iconst 2, 1, 0, 0, 0, nI 2, 0, []), (31, .invokevirtual 95, 3, 124, 3, 9, nI 0, 0, [])],
  [(34, .iastore, 1, 0, 0, 0, nI 0, 0, []), (35, .aload_n 0, 1, 0, 0, 0, nI 0, 0, []), (36, .dup, 1, 0, 0, 0, nI 0, 0, []), (37, .getfield 105, 3, 9, 27, 0, nI 0, 0, []), (40, .iconst 1, 1, 0, 0, 0, nI 1, 0, []), (41, .iadd, 1, 0, 0, 0, nI 0, 0, []), (42, .putfield 105, 3, 9, 27, 0, nI 0, 0, []), (45, .aload_n 0, 1, 0, 0, 0, nI 0, 0, []), (46, .invokevirtual 80, 3, 122, 1, 9, nI 0, 0, [])],
  [(49, .ifCond .eq 16, 3, 65, 0, 0, nI 0, 0, []), (52, .aload_n 0, 1, 0, 0, 0, nI 0, 0, []), (53, .invokevirtual 84, 3, 123, 1, 9, nI 0, 0, []), (56, .bipush 44, 2, 0, 0, 0, nI 44, 0, []), (58, .if_icmp .ne 7, 3, 65, 0, 0, nI 0, 0, []), (61, .iconst 1, 1, 0, 0, 0, nI 1, 0, []), (62, .goto 4, 3, 66, 0, 0, nI 0, 0, [])],
  [(65, .iconst 0, 1, 0, 0, 0, nI 0, 0, []), (66, .istore_n 2, 1, 2, 0, 0, nI 0, 0, []), (67, .iload_n 2, 1, 2, 0, 0, nI 0, 0, []), (68, .ifCond .eq 23, 3, 91, 0, 0, nI 0, 0, []), (71, .aload_n 0, 1, 0, 0, 0, nI 0, 0, []), (72, .getfield 105, 3, 9, 27, 0, nI 0, 0, []), (75, .bipush 12, 2, 0, 0, 0, nI 12, 0, []), (77, .if_icmp .ne 14, 3, 91, 0, 0, nI 0, 0, [])],
  [(80, .aload_n 0, 1, 0, 0, 0, nI 0, 0, []), (81, .iconst 1, 1, 0, 0, 0, nI 1, 0, []), (82, .aload_n 0, 1, 0, 0, 0, nI 0, 0, []), (83, .getfield 77, 3, 9, 20, 0, nI 0, 0, []), (86, .invokevirtual 88, 3, 121, 3, 9, nI 0, 0, []), (89, .iconst 0, 1, 0, 0, 0, nI 0, 0, []), (90, .istore_n 2, 1, 2, 0, 0, nI 0, 0, []), (91, .aload_n 0, 1, 0, 0, 0, nI 0, 0, []), (92, .dup, 1, 0, 0, 0, nI 0, 0, []), (93, .getfield 77, 3, 9, 20, 0, nI 0, 0, [])],
  [(96, .iload_n 2, 1, 2, 0, 0, nI 0, 0, []), (97, .ifCond .eq 7, 3, 104, 0, 0, nI 0, 0, []), (100, .iconst 1, 1, 0, 0, 0, nI 1, 0, []), (101, .goto 4, 3, 105, 0, 0, nI 0, 0, []), (104, .iconst 0, 1, 0, 0, 0, nI 0, 0, []), (105, .iadd, 1, 0, 0, 0, nI 0, 0, []), (106, .putfield 77, 3, 9, 20, 0, nI 0, 0, []), (109, .goto (-93), 3, 16, 0, 0, nI 0, 0, [])],
  [(112, .return_, 1, 0, 0, 0, nI 0, 0, [])]]
def md_X9_readDays : MD := (9, yX9_readDays, cX9_readDays, 3, none, false, rw_X9_readDays)
def rw_X9_readOffice : List (List Row) := [[(0, .aload_n 0, 1, 0, 0, 0, nI 0, 0, []), (1, .getfield 108, 3, 9, 26, 0, nI 0, 0, []), (4, .iconst 4, 1, 0, 0, 0, nI 4, 0, []), (5, .if_icmp .ne 10, 3, 15, 0, 0, nI 0, 0, []), (8, .aload_n 0, 1, 0, 0, 0, nI 0, 0, []), (9, .iconst 3, 1, 0, 0, 0, nI 3, 0, []), (10, .iload_n 1, 1, 1, 0, 0, nI 0, 0, []), (11, .invokevirtual 88, 3, 121, 3, 9, nI 0, 0, []), (14, .return_, 1, 0, 0, 0, nI 0, 0, []), (15, .aload_n 0, 1, 0, 0, 0, nI 0, 0, [])],
  [(16, .getfield 50, 3, 9, 30, 0, nI 0, 0, []), (19, .aload_n 0, 1, 0, 0, 0, nI 0, 0, []), (20, .getfield 108, 3, 9, 26, 0, nI 0, 0, []), (23, .aload_n 0, 1, 0, 0, 0, nI 0, 0, []), (24, .iconst 0, 1, 0, 0, 0, nI 0, 0, []), (25, .iconst 2, 1, 0, 0, 0, nI 2, 0, []), (26, .invokevirtual 95, 3, 124, 3, 9, nI 0, 0, []), (29, .iastore, 1, 0, 0, 0, nI 0, 0, []), (30, .aload_n 0, 1, 0, 0, 0, nI 0, 0, []), (31, .dup, 1, 0, 0, 0, nI 0, 0, [])],
  [(32, .getfield 108, 3, 9, 26, 0, nI 0, 0, []), (35, .iconst 1, 1, 0, 0, 0, nI 1, 0, []), (36, .iadd, 1, 0, 0, 0, nI 0, 0, []), (37, .putfield 108, 3, 9, 26, 0, nI 0, 0, []), (40, .return_, 1, 0, 0, 0, nI 0, 0, [])]]
def md_X9_readOffice : MD := (9, yX9_readOffice, cX9_readOffice, 2, none, false, rw_X9_readOffice)
def rw_X9_readClause : List (List Row) := [[(0, .aload_n 0, 1, 0, 0, 0, nI 0, 0, []), (1, .invokevirtual 84, 3, 123, 1, 9, nI 0, 0, []), (4, .istore_n 1, 1, 1, 0, 0, nI 0, 0, []), (5, .aload_n 0, 1, 0, 0, 0, nI 0, 0, []), (6, .getfield 77, 3, 9, 20, 0, nI 0, 0, []), (9, .istore_n 2, 1, 2, 0, 0, nI 0, 0, []), (10, .aload_n 0, 1, 0, 0, 0, nI 0, 0, []), (11, .dup, 1, 0, 0, 0, nI 0, 0, []), (12, .getfield 77, 3, 9, 20, 0, nI 0, 0, []), (15, .iconst 1, 1, 0, 0, 0, nI 1, 0, [])],
  [(16, .iadd, 1, 0, 0, 0, nI 0, 0, []), (17, .putfield 77, 3, 9, 20, 0, nI 0, 0, []), (20, .aload_n 0, 1, 0, 0, 0, nI 0, 0, []), (21, .getfield 92, 3, 9, 23, 0, nI 0, 0, []), (24, .iconst (-1), 1, 0, 0, 0, (-1), 0, []), (25, .if_icmp .ne 16, 3, 41, 0, 0, nI 0, 0, []), (28, .iload_n 1, 1, 1, 0, 0, nI 0, 0, []), (29, .bipush 107, 2, 0, 0, 0, nI 107, 0, []), (31, .if_icmp .eq 10, 3, 41, 0, 0, nI 0, 0, [])],
  [(34, .aload_n 0, 1, 0, 0, 0, nI 0, 0, []), (35, .iconst 1, 1, 0, 0, 0, nI 1, 0, []), (36, .iload_n 2, 1, 2, 0, 0, nI 0, 0, []), (37, .invokevirtual 88, 3, 121, 3, 9, nI 0, 0, []), (40, .return_, 1, 0, 0, 0, nI 0, 0, []), (41, .iload_n 1, 1, 1, 0, 0, nI 0, 0, []), (42, .lookupswitch 74 #[(100, 58), (107, 42), (111, 66), (112, 50)], 42, 116, 0, 0, nI 0, 0, [(nI 100, 100), (nI 107, 84), (nI 111, 108), (nI 112, 92)])],
  [],
  [],
  [(84, .aload_n 0, 1, 0, 0, 0, nI 0, 0, []), (85, .iload_n 2, 1, 2, 0, 0, nI 0, 0, []), (86, .invokevirtual 111, 3, 125, 2, 9, nI 0, 0, []), (89, .goto 33, 3, 122, 0, 0, nI 0, 0, []), (92, .aload_n 0, 1, 0, 0, 0, nI 0, 0, []), (93, .iload_n 2, 1, 2, 0, 0, nI 0, 0, []), (94, .invokevirtual 115, 3, 126, 2, 9, nI 0, 0, [])],
  [(97, .goto 25, 3, 122, 0, 0, nI 0, 0, []), (100, .aload_n 0, 1, 0, 0, 0, nI 0, 0, []), (101, .iload_n 2, 1, 2, 0, 0, nI 0, 0, []), (102, .invokevirtual 118, 3, 127, 2, 9, nI 0, 0, []), (105, .goto 17, 3, 122, 0, 0, nI 0, 0, []), (108, .aload_n 0, 1, 0, 0, 0, nI 0, 0, []), (109, .iload_n 2, 1, 2, 0, 0, nI 0, 0, []), (110, .invokevirtual 121, 3, 128, 2, 9, nI 0, 0, [])],
  [(113, .goto 9, 3, 122, 0, 0, nI 0, 0, []), (116, .aload_n 0, 1, 0, 0, 0, nI 0, 0, []), (117, .iconst 1, 1, 0, 0, 0, nI 1, 0, []), (118, .iload_n 2, 1, 2, 0, 0, nI 0, 0, []), (119, .invokevirtual 88, 3, 121, 3, 9, nI 0, 0, []), (122, .aload_n 0, 1, 0, 0, 0, nI 0, 0, []), (123, .invokevirtual 80, 3, 122, 1, 9, nI 0, 0, []), (126, .ifCond .eq 21, 3, 147, 0, 0, nI 0, 0, [])],
  [(129, .aload_n 0, 1, 0, 0, 0, nI 0, 0, []), (130, .invokevirtual 84, 3, 123, 1, 9, nI 0, 0, []), (133, .bipush 59, 2, 0, 0, 0, nI 59, 0, []), (135, .if_icmp .eq 12, 3, 147, 0, 0, nI 0, 0, []), (138, .aload_n 0, 1, 0, 0, 0, nI 0, 0, []), (139, .iconst 1, 1, 0, 0, 0, nI 1, 0, []), (140, .aload_n 0, 1, 0, 0, 0, nI 0, 0, []), (141, .getfield 77, 3, 9, 20, 0, nI 0, 0, [])],
  [(144, .invokevirtual 88, 3, 121, 3, 9, nI 0, 0, []), (147, .aload_n 0, 1, 0, 0, 0, nI 0, 0, []), (148, .dup, 1, 0, 0, 0, nI 0, 0, []), (149, .getfield 77, 3, 9, 20, 0, nI 0, 0, []), (152, .iconst 1, 1, 0, 0, 0, nI 1, 0, []), (153, .iadd, 1, 0, 0, 0, nI 0, 0, []), (154, .putfield 77, 3, 9, 20, 0, nI 0, 0, []), (157, .return_, 1, 0, 0, 0, nI 0, 0, [])]]
def md_X9_readClause : MD := (9, yX9_readClause, cX9_readClause, 3, none, false, rw_X9_readClause)
def rw_X9_kingdom : List (List Row) := [[(0, .aload_n 0, 1, 0, 0, 0, nI 0, 0, []), (1, .iconst 0, 1, 0, 0, 0, nI 0, 0, []), (2, .putfield 77, 3, 9, 20, 0, nI 0, 0, []), (5, .aload_n 0, 1, 0, 0, 0, nI 0, 0, []), (6, .iconst 0, 1, 0, 0, 0, nI 0, 0, []), (7, .putfield 71, 3, 9, 21, 0, nI 0, 0, []), (10, .aload_n 0, 1, 0, 0, 0, nI 0, 0, []), (11, .iconst (-1), 1, 0, 0, 0, (-1), 0, []), (12, .putfield 92, 3, 9, 23, 0, nI 0, 0, []), (15, .aload_n 0, 1, 0, 0, 0, nI 0, 0, [])],
  [(16, .iconst 0, 1, 0, 0, 0, nI 0, 0, []), (17, .putfield 99, 3, 9, 24, 0, nI 0, 0, []), (20, .aload_n 0, 1, 0, 0, 0, nI 0, 0, []), (21, .iconst 0, 1, 0, 0, 0, nI 0, 0, []), (22, .putfield 102, 3, 9, 25, 0, nI 0, 0, []), (25, .aload_n 0, 1, 0, 0, 0, nI 0, 0, []), (26, .iconst 0, 1, 0, 0, 0, nI 0, 0, []), (27, .putfield 108, 3, 9, 26, 0, nI 0, 0, []), (30, .aload_n 0, 1, 0, 0, 0, nI 0, 0, []), (31, .iconst 0, 1, 0, 0, 0, nI 0, 0, [])],
  [(32, .putfield 105, 3, 9, 27, 0, nI 0, 0, []), (35, .aload_n 0, 1, 0, 0, 0, nI 0, 0, []), (36, .invokevirtual 80, 3, 122, 1, 9, nI 0, 0, []), (39, .ifCond .eq 18, 3, 57, 0, 0, nI 0, 0, []), (42, .aload_n 0, 1, 0, 0, 0, nI 0, 0, []), (43, .invokevirtual 84, 3, 123, 1, 9, nI 0, 0, []), (46, .iconst (-1), 1, 0, 0, 0, (-1), 0, []), (47, .if_icmp .eq 10, 3, 57, 0, 0, nI 0, 0, [])],
  [(50, .aload_n 0, 1, 0, 0, 0, nI 0, 0, []), (51, .invokevirtual 124, 3, 129, 1, 9, nI 0, 0, []), (54, .goto (-19), 3, 35, 0, 0, nI 0, 0, []), (57, .aload_n 0, 1, 0, 0, 0, nI 0, 0, []), (58, .iconst 0, 1, 0, 0, 0, nI 0, 0, []), (59, .putfield 67, 3, 9, 12, 0, nI 0, 0, []), (62, .aload_n 0, 1, 0, 0, 0, nI 0, 0, []), (63, .aload_n 0, 1, 0, 0, 0, nI 0, 0, [])],
  [(64, .invokevirtual 80, 3, 122, 1, 9, nI 0, 0, []), (67, .ifCond .eq 7, 3, 74, 0, 0, nI 0, 0, []), (70, .iconst (-1), 1, 0, 0, 0, (-1), 0, []), (71, .goto 7, 3, 78, 0, 0, nI 0, 0, []), (74, .aload_n 0, 1, 0, 0, 0, nI 0, 0, []), (75, .getfield 74, 3, 9, 22, 0, nI 0, 0, []), (78, .putfield 29, 3, 9, 13, 0, nI 0, 0, [])],
  [(81, .aload_n 0, 1, 0, 0, 0, nI 0, 0, []), (82, .invokevirtual 80, 3, 122, 1, 9, nI 0, 0, []), (85, .ifCond .ne 11, 3, 96, 0, 0, nI 0, 0, []), (88, .bipush (-10), 2, 0, 0, 0, (-10), 0, []), (90, .aload_n 0, 1, 0, 0, 0, nI 0, 0, []), (91, .getfield 71, 3, 9, 21, 0, nI 0, 0, []), (94, .isub, 1, 0, 0, 0, nI 0, 0, []), (95, .ireturn, 1, 0, 0, 0, nI 0, 0, [])],
  [(96, .aload_n 0, 1, 0, 0, 0, nI 0, 0, []), (97, .invokevirtual 127, 3, 131, 1, 9, nI 0, 0, []), (100, .aload_n 0, 1, 0, 0, 0, nI 0, 0, []), (101, .getfield 56, 3, 9, 6, 0, nI 0, 0, []), (104, .ireturn, 1, 0, 0, 0, nI 0, 0, [])]]
def md_X9_kingdom : MD := (9, yX9_kingdom, cX9_kingdom, 1, (some .int), false, rw_X9_kingdom)
def rw_X9_begin : List (List Row) := [[(0, .aload_n 0, 1, 0, 0, 0, nI 0, 0, []), (1, .aload_n 0, 1, 0, 0, 0, nI 0, 0, []), (2, .getfield 92, 3, 9, 23, 0, nI 0, 0, []), (5, .putfield 22, 3, 9, 4, 0, nI 0, 0, []), (8, .aload_n 0, 1, 0, 0, 0, nI 0, 0, []), (9, .aload_n 0, 1, 0, 0, 0, nI 0, 0, []), (10, .getfield 99, 3, 9, 24, 0, nI 0, 0, []), (13, .putfield 130, 3, 9, 5, 0, nI 0, 0, [])],
  [(16, .aload_n 0, 1, 0, 0, 0, nI 0, 0, []), (17, .aload_n 0, 1, 0, 0, 0, nI 0, 0, []), (18, .getfield 102, 3, 9, 25, 0, nI 0, 0, []), (21, .putfield 56, 3, 9, 6, 0, nI 0, 0, []), (24, .aload_n 0, 1, 0, 0, 0, nI 0, 0, []), (25, .aload_n 0, 1, 0, 0, 0, nI 0, 0, []), (26, .getfield 108, 3, 9, 26, 0, nI 0, 0, []), (29, .putfield 63, 3, 9, 7, 0, nI 0, 0, [])],
  [(32, .aload_n 0, 1, 0, 0, 0, nI 0, 0, []), (33, .aload_n 0, 1, 0, 0, 0, nI 0, 0, []), (34, .getfield 105, 3, 9, 27, 0, nI 0, 0, []), (37, .putfield 133, 3, 9, 8, 0, nI 0, 0, []), (40, .aload_n 0, 1, 0, 0, 0, nI 0, 0, []), (41, .getfield 7, 3, 9, 0, 0, nI 0, 0, []), (44, .sipush 129, 3, 0, 0, 0, nI 129, 0, []), (47, .iaload, 1, 0, 0, 0, nI 0, 0, [])],
  [(48, .istore_n 1, 1, 1, 0, 0, nI 0, 0, []), (49, .iconst 0, 1, 0, 0, 0, nI 0, 0, []), (50, .istore_n 2, 1, 2, 0, 0, nI 0, 0, []), (51, .iload_n 2, 1, 2, 0, 0, nI 0, 0, []), (52, .sipush 130, 3, 0, 0, 0, nI 130, 0, []), (55, .if_icmp .ge 16, 3, 71, 0, 0, nI 0, 0, []), (58, .aload_n 0, 1, 0, 0, 0, nI 0, 0, []), (59, .getfield 7, 3, 9, 0, 0, nI 0, 0, []), (62, .iload_n 2, 1, 2, 0, 0, nI 0, 0, []), (63, .iconst 0, 1, 0, 0, 0, nI 0, 0, [])],
  [(64, .iastore, 1, 0, 0, 0, nI 0, 0, []), (65, .iinc 2 1, 3, 2, 0, 0, nI 1, 0, []), (68, .goto (-17), 3, 51, 0, 0, nI 0, 0, []), (71, .aload_n 0, 1, 0, 0, 0, nI 0, 0, []), (72, .getfield 7, 3, 9, 0, 0, nI 0, 0, []), (75, .sipush 129, 3, 0, 0, 0, nI 129, 0, []), (78, .iload_n 1, 1, 1, 0, 0, nI 0, 0, []), (79, .iastore, 1, 0, 0, 0, nI 0, 0, [])],
  [(80, .iconst 0, 1, 0, 0, 0, nI 0, 0, []), (81, .istore_n 2, 1, 2, 0, 0, nI 0, 0, []), (82, .iload_n 2, 1, 2, 0, 0, nI 0, 0, []), (83, .iconst 3, 1, 0, 0, 0, nI 3, 0, []), (84, .aload_n 0, 1, 0, 0, 0, nI 0, 0, []), (85, .getfield 56, 3, 9, 6, 0, nI 0, 0, []), (88, .imul, 1, 0, 0, 0, nI 0, 0, []), (89, .if_icmp .ge 21, 3, 110, 0, 0, nI 0, 0, []), (92, .aload_n 0, 1, 0, 0, 0, nI 0, 0, []), (93, .getfield 7, 3, 9, 0, 0, nI 0, 0, [])],
  [(96, .iload_n 2, 1, 2, 0, 0, nI 0, 0, []), (97, .aload_n 0, 1, 0, 0, 0, nI 0, 0, []), (98, .getfield 44, 3, 9, 28, 0, nI 0, 0, []), (101, .iload_n 2, 1, 2, 0, 0, nI 0, 0, []), (102, .iaload, 1, 0, 0, 0, nI 0, 0, []), (103, .iastore, 1, 0, 0, 0, nI 0, 0, []), (104, .iinc 2 1, 3, 2, 0, 0, nI 1, 0, []), (107, .goto (-25), 3, 82, 0, 0, nI 0, 0, []), (110, .iconst 0, 1, 0, 0, 0, nI 0, 0, []), (111, .istore_n 2, 1, 2, 0, 0, nI 0, 0, [])],
  [(112, .iload_n 2, 1, 2, 0, 0, nI 0, 0, []), (113, .aload_n 0, 1, 0, 0, 0, nI 0, 0, []), (114, .getfield 56, 3, 9, 6, 0, nI 0, 0, []), (117, .if_icmp .ge 31, 3, 148, 0, 0, nI 0, 0, []), (120, .aload_n 0, 1, 0, 0, 0, nI 0, 0, []), (121, .getfield 13, 3, 9, 1, 0, nI 0, 0, []), (124, .iload_n 2, 1, 2, 0, 0, nI 0, 0, []), (125, .aload_n 0, 1, 0, 0, 0, nI 0, 0, []), (126, .getfield 47, 3, 9, 29, 0, nI 0, 0, [])],
  [(129, .iload_n 2, 1, 2, 0, 0, nI 0, 0, []), (130, .iaload, 1, 0, 0, 0, nI 0, 0, []), (131, .iastore, 1, 0, 0, 0, nI 0, 0, []), (132, .aload_n 0, 1, 0, 0, 0, nI 0, 0, []), (133, .getfield 7, 3, 9, 0, 0, nI 0, 0, []), (136, .bipush 21, 2, 0, 0, 0, nI 21, 0, []), (138, .iload_n 2, 1, 2, 0, 0, nI 0, 0, []), (139, .iadd, 1, 0, 0, 0, nI 0, 0, []), (140, .iconst 5, 1, 0, 0, 0, nI 5, 0, []), (141, .iastore, 1, 0, 0, 0, nI 0, 0, []), (142, .iinc 2 1, 3, 2, 0, 0, nI 1, 0, [])],
  [(145, .goto (-33), 3, 112, 0, 0, nI 0, 0, []), (148, .iconst 0, 1, 0, 0, 0, nI 0, 0, []), (149, .istore_n 2, 1, 2, 0, 0, nI 0, 0, []), (150, .iload_n 2, 1, 2, 0, 0, nI 0, 0, []), (151, .iconst 4, 1, 0, 0, 0, nI 4, 0, []), (152, .if_icmp .ge 43, 3, 195, 0, 0, nI 0, 0, []), (155, .aload_n 0, 1, 0, 0, 0, nI 0, 0, []), (156, .getfield 16, 3, 9, 2, 0, nI 0, 0, []), (159, .iload_n 2, 1, 2, 0, 0, nI 0, 0, [])],
  [(160, .iload_n 2, 1, 2, 0, 0, nI 0, 0, []), (161, .aload_n 0, 1, 0, 0, 0, nI 0, 0, []), (162, .getfield 63, 3, 9, 7, 0, nI 0, 0, []), (165, .if_icmp .ge 12, 3, 177, 0, 0, nI 0, 0, []), (168, .aload_n 0, 1, 0, 0, 0, nI 0, 0, []), (169, .getfield 50, 3, 9, 30, 0, nI 0, 0, []), (172, .iload_n 2, 1, 2, 0, 0, nI 0, 0, []), (173, .iaload, 1, 0, 0, 0, nI 0, 0, []), (174, .goto 4, 3, 178, 0, 0, nI 0, 0, [])],
  [(177, .iconst 0, 1, 0, 0, 0, nI 0, 0, []), (178, .iastore, 1, 0, 0, 0, nI 0, 0, []), (179, .aload_n 0, 1, 0, 0, 0, nI 0, 0, []), (180, .getfield 7, 3, 9, 0, 0, nI 0, 0, []), (183, .bipush 42, 2, 0, 0, 0, nI 42, 0, []), (185, .iload_n 2, 1, 2, 0, 0, nI 0, 0, []), (186, .iadd, 1, 0, 0, 0, nI 0, 0, []), (187, .iconst (-1), 1, 0, 0, 0, (-1), 0, []), (188, .iastore, 1, 0, 0, 0, nI 0, 0, []), (189, .iinc 2 1, 3, 2, 0, 0, nI 1, 0, [])],
  [(192, .goto (-42), 3, 150, 0, 0, nI 0, 0, []), (195, .iconst 0, 1, 0, 0, 0, nI 0, 0, []), (196, .istore_n 2, 1, 2, 0, 0, nI 0, 0, []), (197, .iload_n 2, 1, 2, 0, 0, nI 0, 0, []), (198, .aload_n 0, 1, 0, 0, 0, nI 0, 0, []), (199, .getfield 133, 3, 9, 8, 0, nI 0, 0, []), (202, .if_icmp .ge 21, 3, 223, 0, 0, nI 0, 0, []), (205, .aload_n 0, 1, 0, 0, 0, nI 0, 0, []), (206, .getfield 19, 3, 9, 3, 0, nI 0, 0, [])],
  [(209, .iload_n 2, 1, 2, 0, 0, nI 0, 0, []), (210, .aload_n 0, 1, 0, 0, 0, nI 0, 0, []), (211, .getfield 53, 3, 9, 31, 0, nI 0, 0, []), (214, .iload_n 2, 1, 2, 0, 0, nI 0, 0, []), (215, .iaload, 1, 0, 0, 0, nI 0, 0, []), (216, .iastore, 1, 0, 0, 0, nI 0, 0, []), (217, .iinc 2 1, 3, 2, 0, 0, nI 1, 0, []), (220, .goto (-23), 3, 197, 0, 0, nI 0, 0, []), (223, .aload_n 0, 1, 0, 0, 0, nI 0, 0, [])],
  [(224, .iconst 0, 1, 0, 0, 0, nI 0, 0, []), (225, .putfield 136, 3, 9, 9, 0, nI 0, 0, []), (228, .aload_n 0, 1, 0, 0, 0, nI 0, 0, []), (229, .iconst 0, 1, 0, 0, 0, nI 0, 0, []), (230, .putfield 139, 3, 9, 10, 0, nI 0, 0, []), (233, .aload_n 0, 1, 0, 0, 0, nI 0, 0, []), (234, .iconst 0, 1, 0, 0, 0, nI 0, 0, []), (235, .putfield 142, 3, 9, 16, 0, nI 0, 0, []), (238, .aload_n 0, 1, 0, 0, 0, nI 0, 0, []), (239, .iconst 0, 1, 0, 0, 0, nI 0, 0, [])],
  [(240, .putfield 145, 3, 9, 19, 0, nI 0, 0, []), (243, .return_, 1, 0, 0, 0, nI 0, 0, [])]]
def md_X9_begin : MD := (9, yX9_begin, cX9_begin, 3, none, false, rw_X9_begin)
def rw_X9_fault : List (List Row) := [[(0, .aload_n 0, 1, 0, 0, 0, nI 0, 0, []), (1, .getfield 29, 3, 9, 13, 0, nI 0, 0, []), (4, .ireturn, 1, 0, 0, 0, nI 0, 0, [])]]
def md_X9_fault : MD := (9, yX9_fault, cX9_fault, 1, (some .int), false, rw_X9_fault)
def rw_X9_markIn : List (List Row) := [[(0, .aload_n 0, 1, 0, 0, 0, nI 0, 0, []), (1, .getfield 7, 3, 9, 0, 0, nI 0, 0, []), (4, .iload_n 1, 1, 1, 0, 0, nI 0, 0, []), (5, .bipush 46, 2, 0, 0, 0, nI 46, 0, []), (7, .iadd, 1, 0, 0, 0, nI 0, 0, []), (8, .iaload, 1, 0, 0, 0, nI 0, 0, []), (9, .iconst 1, 1, 0, 0, 0, nI 1, 0, []), (10, .if_icmp .ne 14, 3, 24, 0, 0, nI 0, 0, []), (13, .aload_n 0, 1, 0, 0, 0, nI 0, 0, []), (14, .getfield 13, 3, 9, 1, 0, nI 0, 0, [])],
  [(17, .iload_n 2, 1, 2, 0, 0, nI 0, 0, []), (18, .iaload, 1, 0, 0, 0, nI 0, 0, []), (19, .iconst 2, 1, 0, 0, 0, nI 2, 0, []), (20, .idiv, 1, 0, 0, 0, nI 0, 0, []), (21, .goto 9, 3, 30, 0, 0, nI 0, 0, []), (24, .aload_n 0, 1, 0, 0, 0, nI 0, 0, []), (25, .getfield 13, 3, 9, 1, 0, nI 0, 0, []), (28, .iload_n 2, 1, 2, 0, 0, nI 0, 0, []), (29, .iaload, 1, 0, 0, 0, nI 0, 0, []), (30, .istore 4, 2, 4, 0, 0, nI 0, 0, [])],
  [(32, .aload_n 0, 1, 0, 0, 0, nI 0, 0, []), (33, .getfield 7, 3, 9, 0, 0, nI 0, 0, []), (36, .iload_n 1, 1, 1, 0, 0, nI 0, 0, []), (37, .iconst 3, 1, 0, 0, 0, nI 3, 0, []), (38, .iload_n 2, 1, 2, 0, 0, nI 0, 0, []), (39, .imul, 1, 0, 0, 0, nI 0, 0, []), (40, .iadd, 1, 0, 0, 0, nI 0, 0, []), (41, .iload_n 3, 1, 3, 0, 0, nI 0, 0, []), (42, .iadd, 1, 0, 0, 0, nI 0, 0, []), (43, .iaload, 1, 0, 0, 0, nI 0, 0, []), (44, .aload_n 0, 1, 0, 0, 0, nI 0, 0, []), (45, .getfield 7, 3, 9, 0, 0, nI 0, 0, [])],
  [(48, .iload_n 1, 1, 1, 0, 0, nI 0, 0, []), (49, .bipush 21, 2, 0, 0, 0, nI 21, 0, []), (51, .iadd, 1, 0, 0, 0, nI 0, 0, []), (52, .iload_n 2, 1, 2, 0, 0, nI 0, 0, []), (53, .iadd, 1, 0, 0, 0, nI 0, 0, []), (54, .iaload, 1, 0, 0, 0, nI 0, 0, []), (55, .imul, 1, 0, 0, 0, nI 0, 0, []), (56, .iload 4, 2, 4, 0, 0, nI 0, 0, []), (58, .iadd, 1, 0, 0, 0, nI 0, 0, []), (59, .ireturn, 1, 0, 0, 0, nI 0, 0, [])]]
def md_X9_markIn : MD := (9, yX9_markIn, cX9_markIn, 5, (some .int), false, rw_X9_markIn)
def rw_X9_isAtCourt : List (List Row) := [[(0, .aload_n 0, 1, 0, 0, 0, nI 0, 0, []), (1, .getfield 7, 3, 9, 0, 0, nI 0, 0, []), (4, .iload_n 1, 1, 1, 0, 0, nI 0, 0, []), (5, .bipush 28, 2, 0, 0, 0, nI 28, 0, []), (7, .iadd, 1, 0, 0, 0, nI 0, 0, []), (8, .iload_n 2, 1, 2, 0, 0, nI 0, 0, []), (9, .iadd, 1, 0, 0, 0, nI 0, 0, []), (10, .iaload, 1, 0, 0, 0, nI 0, 0, []), (11, .ifCond .ne 7, 3, 18, 0, 0, nI 0, 0, []), (14, .iconst 1, 1, 0, 0, 0, nI 1, 0, []), (15, .goto 4, 3, 19, 0, 0, nI 0, 0, [])],
  [(18, .iconst 0, 1, 0, 0, 0, nI 0, 0, []), (19, .ireturn, 1, 0, 0, 0, nI 0, 0, [])]]
def md_X9_isAtCourt : MD := (9, yX9_isAtCourt, cX9_isAtCourt, 3, (some .boolean), false, rw_X9_isAtCourt)
def rw_X9_courtIn : List (List Row) := [[(0, .iconst 0, 1, 0, 0, 0, nI 0, 0, []), (1, .istore_n 2, 1, 2, 0, 0, nI 0, 0, []), (2, .iconst 0, 1, 0, 0, 0, nI 0, 0, []), (3, .istore_n 3, 1, 3, 0, 0, nI 0, 0, []), (4, .iload_n 3, 1, 3, 0, 0, nI 0, 0, []), (5, .aload_n 0, 1, 0, 0, 0, nI 0, 0, []), (6, .getfield 56, 3, 9, 6, 0, nI 0, 0, []), (9, .if_icmp .ge 28, 3, 37, 0, 0, nI 0, 0, []), (12, .iload_n 2, 1, 2, 0, 0, nI 0, 0, []), (13, .aload_n 0, 1, 0, 0, 0, nI 0, 0, []), (14, .iload_n 1, 1, 1, 0, 0, nI 0, 0, []), (15, .iload_n 3, 1, 3, 0, 0, nI 0, 0, [])],
  [(16, .invokevirtual 148, 3, 134, 3, 9, nI 0, 0, []), (19, .ifCond .eq 9, 3, 28, 0, 0, nI 0, 0, []), (22, .iconst 1, 1, 0, 0, 0, nI 1, 0, []), (23, .iload_n 3, 1, 3, 0, 0, nI 0, 0, []), (24, .ishl, 1, 0, 0, 0, nI 0, 0, []), (25, .goto 4, 3, 29, 0, 0, nI 0, 0, []), (28, .iconst 0, 1, 0, 0, 0, nI 0, 0, []), (29, .ior, 1, 0, 0, 0, nI 0, 0, []), (30, .istore_n 2, 1, 2, 0, 0, nI 0, 0, []), (31, .iinc 3 1, 3, 3, 0, 0, nI 1, 0, [])],
  [(34, .goto (-30), 3, 4, 0, 0, nI 0, 0, []), (37, .iload_n 2, 1, 2, 0, 0, nI 0, 0, []), (38, .ireturn, 1, 0, 0, 0, nI 0, 0, [])]]
def md_X9_courtIn : MD := (9, yX9_courtIn, cX9_courtIn, 4, (some .int), false, rw_X9_courtIn)
def rw_X9_isAhead : List (List Row) := [[(0, .aload_n 0, 1, 0, 0, 0, nI 0, 0, []), (1, .iload_n 1, 1, 1, 0, 0, nI 0, 0, []), (2, .iload_n 2, 1, 2, 0, 0, nI 0, 0, []), (3, .iload 4, 2, 4, 0, 0, nI 0, 0, []), (5, .invokevirtual 152, 3, 133, 4, 9, nI 0, 0, []), (8, .istore 5, 2, 5, 0, 0, nI 0, 0, []), (10, .aload_n 0, 1, 0, 0, 0, nI 0, 0, []), (11, .iload_n 1, 1, 1, 0, 0, nI 0, 0, []), (12, .iload_n 3, 1, 3, 0, 0, nI 0, 0, []), (13, .iload 4, 2, 4, 0, 0, nI 0, 0, []), (15, .invokevirtual 152, 3, 133, 4, 9, nI 0, 0, [])],
  [(18, .istore 6, 2, 6, 0, 0, nI 0, 0, []), (20, .iload 5, 2, 5, 0, 0, nI 0, 0, []), (22, .iload 6, 2, 6, 0, 0, nI 0, 0, []), (24, .if_icmp .eq 16, 3, 40, 0, 0, nI 0, 0, []), (27, .iload 5, 2, 5, 0, 0, nI 0, 0, []), (29, .iload 6, 2, 6, 0, 0, nI 0, 0, []), (31, .if_icmp .le 7, 3, 38, 0, 0, nI 0, 0, [])],
  [(34, .iconst 1, 1, 0, 0, 0, nI 1, 0, []), (35, .goto 4, 3, 39, 0, 0, nI 0, 0, []), (38, .iconst 0, 1, 0, 0, 0, nI 0, 0, []), (39, .ireturn, 1, 0, 0, 0, nI 0, 0, []), (40, .aload_n 0, 1, 0, 0, 0, nI 0, 0, []), (41, .getfield 22, 3, 9, 4, 0, nI 0, 0, []), (44, .iconst 1, 1, 0, 0, 0, nI 1, 0, []), (45, .if_icmp .ne 41, 3, 86, 0, 0, nI 0, 0, [])],
  [(48, .aload_n 0, 1, 0, 0, 0, nI 0, 0, []), (49, .getfield 13, 3, 9, 1, 0, nI 0, 0, []), (52, .iload_n 2, 1, 2, 0, 0, nI 0, 0, []), (53, .iaload, 1, 0, 0, 0, nI 0, 0, []), (54, .aload_n 0, 1, 0, 0, 0, nI 0, 0, []), (55, .getfield 13, 3, 9, 1, 0, nI 0, 0, []), (58, .iload_n 3, 1, 3, 0, 0, nI 0, 0, []), (59, .iaload, 1, 0, 0, 0, nI 0, 0, []), (60, .if_icmp .eq 26, 3, 86, 0, 0, nI 0, 0, []), (63, .aload_n 0, 1, 0, 0, 0, nI 0, 0, [])],
  [(64, .getfield 13, 3, 9, 1, 0, nI 0, 0, []), (67, .iload_n 2, 1, 2, 0, 0, nI 0, 0, []), (68, .iaload, 1, 0, 0, 0, nI 0, 0, []), (69, .aload_n 0, 1, 0, 0, 0, nI 0, 0, []), (70, .getfield 13, 3, 9, 1, 0, nI 0, 0, []), (73, .iload_n 3, 1, 3, 0, 0, nI 0, 0, []), (74, .iaload, 1, 0, 0, 0, nI 0, 0, []), (75, .if_icmp .le 7, 3, 82, 0, 0, nI 0, 0, []), (78, .iconst 1, 1, 0, 0, 0, nI 1, 0, []), (79, .goto 17, 3, 96, 0, 0, nI 0, 0, [])],
  [(82, .iconst 0, 1, 0, 0, 0, nI 0, 0, []), (83, .goto 13, 3, 96, 0, 0, nI 0, 0, []), (86, .iload_n 2, 1, 2, 0, 0, nI 0, 0, []), (87, .iload_n 3, 1, 3, 0, 0, nI 0, 0, []), (88, .if_icmp .ge 7, 3, 95, 0, 0, nI 0, 0, []), (91, .iconst 1, 1, 0, 0, 0, nI 1, 0, []), (92, .goto 4, 3, 96, 0, 0, nI 0, 0, []), (95, .iconst 0, 1, 0, 0, 0, nI 0, 0, [])],
  [(96, .ireturn, 1, 0, 0, 0, nI 0, 0, [])]]
def md_X9_isAhead : MD := (9, yX9_isAhead, cX9_isAhead, 7, (some .boolean), false, rw_X9_isAhead)
def rw_X9_bestOf : List (List Row) := [[(0, .iconst (-1), 1, 0, 0, 0, (-1), 0, []), (1, .istore 4, 2, 4, 0, 0, nI 0, 0, []), (3, .iconst 0, 1, 0, 0, 0, nI 0, 0, []), (4, .istore 5, 2, 5, 0, 0, nI 0, 0, []), (6, .iload 5, 2, 5, 0, 0, nI 0, 0, []), (8, .aload_n 0, 1, 0, 0, 0, nI 0, 0, []), (9, .getfield 56, 3, 9, 6, 0, nI 0, 0, []), (12, .if_icmp .ge 41, 3, 53, 0, 0, nI 0, 0, []), (15, .iload_n 2, 1, 2, 0, 0, nI 0, 0, [])],
  [(16, .iload 5, 2, 5, 0, 0, nI 0, 0, []), (18, .invokestatic 156, 3, 116, 2, 0, nI 0, 0, []), (21, .ifCond .eq 26, 3, 47, 0, 0, nI 0, 0, []), (24, .iload 4, 2, 4, 0, 0, nI 0, 0, []), (26, .iconst (-1), 1, 0, 0, 0, (-1), 0, []), (27, .if_icmp .eq 16, 3, 43, 0, 0, nI 0, 0, []), (30, .aload_n 0, 1, 0, 0, 0, nI 0, 0, []), (31, .iload_n 1, 1, 1, 0, 0, nI 0, 0, [])],
  [(32, .iload 5, 2, 5, 0, 0, nI 0, 0, []), (34, .iload 4, 2, 4, 0, 0, nI 0, 0, []), (36, .iload_n 3, 1, 3, 0, 0, nI 0, 0, []), (37, .invokevirtual 159, 3, 136, 5, 9, nI 0, 0, []), (40, .ifCond .eq 7, 3, 47, 0, 0, nI 0, 0, []), (43, .iload 5, 2, 5, 0, 0, nI 0, 0, []), (45, .istore 4, 2, 4, 0, 0, nI 0, 0, []), (47, .iinc 5 1, 3, 5, 0, 0, nI 1, 0, [])],
  [(50, .goto (-44), 3, 6, 0, 0, nI 0, 0, []), (53, .iload 4, 2, 4, 0, 0, nI 0, 0, []), (55, .ireturn, 1, 0, 0, 0, nI 0, 0, [])]]
def md_X9_bestOf : MD := (9, yX9_bestOf, cX9_bestOf, 6, (some .int), false, rw_X9_bestOf)
def rw_X9_firstOnes : List (List Row) := [[(0, .aload_n 0, 1, 0, 0, 0, nI 0, 0, []), (1, .iload_n 1, 1, 1, 0, 0, nI 0, 0, []), (2, .invokevirtual 163, 3, 135, 2, 9, nI 0, 0, []), (5, .istore_n 3, 1, 3, 0, 0, nI 0, 0, []), (6, .aload_n 0, 1, 0, 0, 0, nI 0, 0, []), (7, .iload_n 1, 1, 1, 0, 0, nI 0, 0, []), (8, .iload_n 3, 1, 3, 0, 0, nI 0, 0, []), (9, .iload_n 2, 1, 2, 0, 0, nI 0, 0, []), (10, .invokevirtual 167, 3, 137, 4, 9, nI 0, 0, []), (13, .istore 4, 2, 4, 0, 0, nI 0, 0, []), (15, .iload 4, 2, 4, 0, 0, nI 0, 0, [])],
  [(17, .iconst (-1), 1, 0, 0, 0, (-1), 0, []), (18, .if_icmp .ne 7, 3, 25, 0, 0, nI 0, 0, []), (21, .iconst 0, 1, 0, 0, 0, nI 0, 0, []), (22, .goto 7, 3, 29, 0, 0, nI 0, 0, []), (25, .iconst 1, 1, 0, 0, 0, nI 1, 0, []), (26, .iload 4, 2, 4, 0, 0, nI 0, 0, []), (28, .ishl, 1, 0, 0, 0, nI 0, 0, []), (29, .istore 5, 2, 5, 0, 0, nI 0, 0, []), (31, .iconst 0, 1, 0, 0, 0, nI 0, 0, [])],
  [(32, .istore 6, 2, 6, 0, 0, nI 0, 0, []), (34, .iload 6, 2, 6, 0, 0, nI 0, 0, []), (36, .aload_n 0, 1, 0, 0, 0, nI 0, 0, []), (37, .getfield 56, 3, 9, 6, 0, nI 0, 0, []), (40, .if_icmp .ge 58, 3, 98, 0, 0, nI 0, 0, []), (43, .aload_n 0, 1, 0, 0, 0, nI 0, 0, []), (44, .getfield 22, 3, 9, 4, 0, nI 0, 0, []), (47, .iconst 2, 1, 0, 0, 0, nI 2, 0, [])],
  [(48, .if_icmp .ne 50, 3, 98, 0, 0, nI 0, 0, []), (51, .iload 5, 2, 5, 0, 0, nI 0, 0, []), (53, .iload_n 3, 1, 3, 0, 0, nI 0, 0, []), (54, .iload 6, 2, 6, 0, 0, nI 0, 0, []), (56, .invokestatic 156, 3, 116, 2, 0, nI 0, 0, []), (59, .ifCond .eq 29, 3, 88, 0, 0, nI 0, 0, []), (62, .aload_n 0, 1, 0, 0, 0, nI 0, 0, []), (63, .iload_n 1, 1, 1, 0, 0, nI 0, 0, [])],
  [(64, .iload 6, 2, 6, 0, 0, nI 0, 0, []), (66, .iload_n 2, 1, 2, 0, 0, nI 0, 0, []), (67, .invokevirtual 152, 3, 133, 4, 9, nI 0, 0, []), (70, .aload_n 0, 1, 0, 0, 0, nI 0, 0, []), (71, .iload_n 1, 1, 1, 0, 0, nI 0, 0, []), (72, .iload 4, 2, 4, 0, 0, nI 0, 0, []), (74, .iload_n 2, 1, 2, 0, 0, nI 0, 0, []), (75, .invokevirtual 152, 3, 133, 4, 9, nI 0, 0, []), (78, .if_icmp .ne 10, 3, 88, 0, 0, nI 0, 0, [])],
  [(81, .iconst 1, 1, 0, 0, 0, nI 1, 0, []), (82, .iload 6, 2, 6, 0, 0, nI 0, 0, []), (84, .ishl, 1, 0, 0, 0, nI 0, 0, []), (85, .goto 4, 3, 89, 0, 0, nI 0, 0, []), (88, .iconst 0, 1, 0, 0, 0, nI 0, 0, []), (89, .ior, 1, 0, 0, 0, nI 0, 0, []), (90, .istore 5, 2, 5, 0, 0, nI 0, 0, []), (92, .iinc 6 1, 3, 6, 0, 0, nI 1, 0, []), (95, .goto (-61), 3, 34, 0, 0, nI 0, 0, [])],
  [(98, .iload 5, 2, 5, 0, 0, nI 0, 0, []), (100, .ireturn, 1, 0, 0, 0, nI 0, 0, [])]]
def md_X9_firstOnes : MD := (9, yX9_firstOnes, cX9_firstOnes, 7, (some .int), false, rw_X9_firstOnes)
def rw_X9_secondOne : List (List Row) := [[(0, .aload_n 0, 1, 0, 0, 0, nI 0, 0, []), (1, .iload_n 1, 1, 1, 0, 0, nI 0, 0, []), (2, .aload_n 0, 1, 0, 0, 0, nI 0, 0, []), (3, .iload_n 1, 1, 1, 0, 0, nI 0, 0, []), (4, .invokevirtual 163, 3, 135, 2, 9, nI 0, 0, []), (7, .aload_n 0, 1, 0, 0, 0, nI 0, 0, []), (8, .iload_n 1, 1, 1, 0, 0, nI 0, 0, []), (9, .iload_n 2, 1, 2, 0, 0, nI 0, 0, []), (10, .invokevirtual 170, 3, 138, 3, 9, nI 0, 0, []), (13, .iconst (-1), 1, 0, 0, 0, (-1), 0, []), (14, .ixor, 1, 0, 0, 0, nI 0, 0, []), (15, .iand, 1, 0, 0, 0, nI 0, 0, [])],
  [(16, .iload_n 2, 1, 2, 0, 0, nI 0, 0, []), (17, .invokevirtual 167, 3, 137, 4, 9, nI 0, 0, []), (20, .ireturn, 1, 0, 0, 0, nI 0, 0, [])]]
def md_X9_secondOne : MD := (9, yX9_secondOne, cX9_secondOne, 3, (some .int), false, rw_X9_secondOne)
def rw_X9_goOff : List (List Row) := [[(0, .aload_n 0, 1, 0, 0, 0, nI 0, 0, []), (1, .getfield 7, 3, 9, 0, 0, nI 0, 0, []), (4, .iload_n 1, 1, 1, 0, 0, nI 0, 0, []), (5, .bipush 28, 2, 0, 0, 0, nI 28, 0, []), (7, .iadd, 1, 0, 0, 0, nI 0, 0, []), (8, .iload_n 2, 1, 2, 0, 0, nI 0, 0, []), (9, .iadd, 1, 0, 0, 0, nI 0, 0, []), (10, .aload_n 0, 1, 0, 0, 0, nI 0, 0, []), (11, .getfield 130, 3, 9, 5, 0, nI 0, 0, []), (14, .iastore, 1, 0, 0, 0, nI 0, 0, []), (15, .iconst 0, 1, 0, 0, 0, nI 0, 0, [])],
  [(16, .istore_n 3, 1, 3, 0, 0, nI 0, 0, []), (17, .iload_n 3, 1, 3, 0, 0, nI 0, 0, []), (18, .aload_n 0, 1, 0, 0, 0, nI 0, 0, []), (19, .getfield 63, 3, 9, 7, 0, nI 0, 0, []), (22, .if_icmp .ge 50, 3, 72, 0, 0, nI 0, 0, []), (25, .aload_n 0, 1, 0, 0, 0, nI 0, 0, []), (26, .getfield 7, 3, 9, 0, 0, nI 0, 0, []), (29, .iload_n 1, 1, 1, 0, 0, nI 0, 0, []), (30, .bipush 42, 2, 0, 0, 0, nI 42, 0, [])],
  [(32, .iadd, 1, 0, 0, 0, nI 0, 0, []), (33, .iload_n 3, 1, 3, 0, 0, nI 0, 0, []), (34, .iadd, 1, 0, 0, 0, nI 0, 0, []), (35, .aload_n 0, 1, 0, 0, 0, nI 0, 0, []), (36, .getfield 7, 3, 9, 0, 0, nI 0, 0, []), (39, .iload_n 1, 1, 1, 0, 0, nI 0, 0, []), (40, .bipush 42, 2, 0, 0, 0, nI 42, 0, []), (42, .iadd, 1, 0, 0, 0, nI 0, 0, []), (43, .iload_n 3, 1, 3, 0, 0, nI 0, 0, []), (44, .iadd, 1, 0, 0, 0, nI 0, 0, []), (45, .iaload, 1, 0, 0, 0, nI 0, 0, []), (46, .iload_n 2, 1, 2, 0, 0, nI 0, 0, []), (47, .if_icmp .ne 7, 3, 54, 0, 0, nI 0, 0, [])],
  [(50, .iconst (-1), 1, 0, 0, 0, (-1), 0, []), (51, .goto 14, 3, 65, 0, 0, nI 0, 0, []), (54, .aload_n 0, 1, 0, 0, 0, nI 0, 0, []), (55, .getfield 7, 3, 9, 0, 0, nI 0, 0, []), (58, .iload_n 1, 1, 1, 0, 0, nI 0, 0, []), (59, .bipush 42, 2, 0, 0, 0, nI 42, 0, []), (61, .iadd, 1, 0, 0, 0, nI 0, 0, []), (62, .iload_n 3, 1, 3, 0, 0, nI 0, 0, []), (63, .iadd, 1, 0, 0, 0, nI 0, 0, [])],
  [(64, .iaload, 1, 0, 0, 0, nI 0, 0, []), (65, .iastore, 1, 0, 0, 0, nI 0, 0, []), (66, .iinc 3 1, 3, 3, 0, 0, nI 1, 0, []), (69, .goto (-52), 3, 17, 0, 0, nI 0, 0, []), (72, .return_, 1, 0, 0, 0, nI 0, 0, [])]]
def md_X9_goOff : MD := (9, yX9_goOff, cX9_goOff, 4, none, false, rw_X9_goOff)
def rw_X9_logIn : List (List Row) := [[(0, .aload_n 0, 1, 0, 0, 0, nI 0, 0, []), (1, .getfield 7, 3, 9, 0, 0, nI 0, 0, []), (4, .iload_n 1, 1, 1, 0, 0, nI 0, 0, []), (5, .bipush 48, 2, 0, 0, 0, nI 48, 0, []), (7, .iadd, 1, 0, 0, 0, nI 0, 0, []), (8, .iaload, 1, 0, 0, 0, nI 0, 0, []), (9, .bipush 20, 2, 0, 0, 0, nI 20, 0, []), (11, .if_icmp .ne 58, 3, 69, 0, 0, nI 0, 0, []), (14, .iconst 4, 1, 0, 0, 0, nI 4, 0, []), (15, .istore 5, 2, 5, 0, 0, nI 0, 0, [])],
  [(17, .iload 5, 2, 5, 0, 0, nI 0, 0, []), (19, .bipush 80, 2, 0, 0, 0, nI 80, 0, []), (21, .if_icmp .ge 35, 3, 56, 0, 0, nI 0, 0, []), (24, .aload_n 0, 1, 0, 0, 0, nI 0, 0, []), (25, .getfield 7, 3, 9, 0, 0, nI 0, 0, []), (28, .iload_n 1, 1, 1, 0, 0, nI 0, 0, []), (29, .bipush 49, 2, 0, 0, 0, nI 49, 0, []), (31, .iadd, 1, 0, 0, 0, nI 0, 0, [])],
  [(32, .iload 5, 2, 5, 0, 0, nI 0, 0, []), (34, .iadd, 1, 0, 0, 0, nI 0, 0, []), (35, .iconst 4, 1, 0, 0, 0, nI 4, 0, []), (36, .isub, 1, 0, 0, 0, nI 0, 0, []), (37, .aload_n 0, 1, 0, 0, 0, nI 0, 0, []), (38, .getfield 7, 3, 9, 0, 0, nI 0, 0, []), (41, .iload_n 1, 1, 1, 0, 0, nI 0, 0, []), (42, .bipush 49, 2, 0, 0, 0, nI 49, 0, []), (44, .iadd, 1, 0, 0, 0, nI 0, 0, []), (45, .iload 5, 2, 5, 0, 0, nI 0, 0, []), (47, .iadd, 1, 0, 0, 0, nI 0, 0, [])],
  [(48, .iaload, 1, 0, 0, 0, nI 0, 0, []), (49, .iastore, 1, 0, 0, 0, nI 0, 0, []), (50, .iinc 5 1, 3, 5, 0, 0, nI 1, 0, []), (53, .goto (-36), 3, 17, 0, 0, nI 0, 0, []), (56, .aload_n 0, 1, 0, 0, 0, nI 0, 0, []), (57, .getfield 7, 3, 9, 0, 0, nI 0, 0, []), (60, .iload_n 1, 1, 1, 0, 0, nI 0, 0, []), (61, .bipush 48, 2, 0, 0, 0, nI 48, 0, []), (63, .iadd, 1, 0, 0, 0, nI 0, 0, [])],
  [(64, .dup2, 1, 0, 0, 0, nI 0, 0, []), (65, .iaload, 1, 0, 0, 0, nI 0, 0, []), (66, .iconst 1, 1, 0, 0, 0, nI 1, 0, []), (67, .isub, 1, 0, 0, 0, nI 0, 0, []), (68, .iastore, 1, 0, 0, 0, nI 0, 0, []), (69, .iload_n 1, 1, 1, 0, 0, nI 0, 0, []), (70, .bipush 49, 2, 0, 0, 0, nI 49, 0, []), (72, .iadd, 1, 0, 0, 0, nI 0, 0, []), (73, .iconst 4, 1, 0, 0, 0, nI 4, 0, []), (74, .aload_n 0, 1, 0, 0, 0, nI 0, 0, []), (75, .getfield 7, 3, 9, 0, 0, nI 0, 0, []), (78, .iload_n 1, 1, 1, 0, 0, nI 0, 0, []), (79, .bipush 48, 2, 0, 0, 0, nI 48, 0, [])],
  [(81, .iadd, 1, 0, 0, 0, nI 0, 0, []), (82, .iaload, 1, 0, 0, 0, nI 0, 0, []), (83, .imul, 1, 0, 0, 0, nI 0, 0, []), (84, .iadd, 1, 0, 0, 0, nI 0, 0, []), (85, .istore 5, 2, 5, 0, 0, nI 0, 0, []), (87, .aload_n 0, 1, 0, 0, 0, nI 0, 0, []), (88, .getfield 7, 3, 9, 0, 0, nI 0, 0, []), (91, .iload 5, 2, 5, 0, 0, nI 0, 0, []), (93, .aload_n 0, 1, 0, 0, 0, nI 0, 0, []), (94, .getfield 7, 3, 9, 0, 0, nI 0, 0, [])],
  [(97, .iload_n 1, 1, 1, 0, 0, nI 0, 0, []), (98, .bipush 47, 2, 0, 0, 0, nI 47, 0, []), (100, .iadd, 1, 0, 0, 0, nI 0, 0, []), (101, .iaload, 1, 0, 0, 0, nI 0, 0, []), (102, .iastore, 1, 0, 0, 0, nI 0, 0, []), (103, .aload_n 0, 1, 0, 0, 0, nI 0, 0, []), (104, .getfield 7, 3, 9, 0, 0, nI 0, 0, []), (107, .iload 5, 2, 5, 0, 0, nI 0, 0, []), (109, .iconst 1, 1, 0, 0, 0, nI 1, 0, []), (110, .iadd, 1, 0, 0, 0, nI 0, 0, []), (111, .iload_n 2, 1, 2, 0, 0, nI 0, 0, [])],
  [(112, .iastore, 1, 0, 0, 0, nI 0, 0, []), (113, .aload_n 0, 1, 0, 0, 0, nI 0, 0, []), (114, .getfield 7, 3, 9, 0, 0, nI 0, 0, []), (117, .iload 5, 2, 5, 0, 0, nI 0, 0, []), (119, .iconst 2, 1, 0, 0, 0, nI 2, 0, []), (120, .iadd, 1, 0, 0, 0, nI 0, 0, []), (121, .iload_n 3, 1, 3, 0, 0, nI 0, 0, []), (122, .iastore, 1, 0, 0, 0, nI 0, 0, []), (123, .aload_n 0, 1, 0, 0, 0, nI 0, 0, []), (124, .getfield 7, 3, 9, 0, 0, nI 0, 0, []), (127, .iload 5, 2, 5, 0, 0, nI 0, 0, [])],
  [(129, .iconst 3, 1, 0, 0, 0, nI 3, 0, []), (130, .iadd, 1, 0, 0, 0, nI 0, 0, []), (131, .iload 4, 2, 4, 0, 0, nI 0, 0, []), (133, .iastore, 1, 0, 0, 0, nI 0, 0, []), (134, .aload_n 0, 1, 0, 0, 0, nI 0, 0, []), (135, .getfield 7, 3, 9, 0, 0, nI 0, 0, []), (138, .iload_n 1, 1, 1, 0, 0, nI 0, 0, []), (139, .bipush 48, 2, 0, 0, 0, nI 48, 0, []), (141, .iadd, 1, 0, 0, 0, nI 0, 0, []), (142, .dup2, 1, 0, 0, 0, nI 0, 0, []), (143, .iaload, 1, 0, 0, 0, nI 0, 0, [])],
  [(144, .iconst 1, 1, 0, 0, 0, nI 1, 0, []), (145, .iadd, 1, 0, 0, 0, nI 0, 0, []), (146, .iastore, 1, 0, 0, 0, nI 0, 0, []), (147, .return_, 1, 0, 0, 0, nI 0, 0, [])]]
def md_X9_logIn : MD := (9, yX9_logIn, cX9_logIn, 6, none, false, rw_X9_logIn)
def rw_X9_least : List (List Row) := [[(0, .iconst 0, 1, 0, 0, 0, nI 0, 0, []), (1, .istore_n 1, 1, 1, 0, 0, nI 0, 0, []), (2, .iload_n 0, 1, 0, 0, 0, nI 0, 0, []), (3, .iload_n 1, 1, 1, 0, 0, nI 0, 0, []), (4, .invokestatic 156, 3, 116, 2, 0, nI 0, 0, []), (7, .ifCond .ne 9, 3, 16, 0, 0, nI 0, 0, []), (10, .iinc 1 1, 3, 1, 0, 0, nI 1, 0, []), (13, .goto (-11), 3, 2, 0, 0, nI 0, 0, [])],
  [(16, .iload_n 1, 1, 1, 0, 0, nI 0, 0, []), (17, .ireturn, 1, 0, 0, 0, nI 0, 0, [])]]
def md_X9_least : MD := (9, yX9_least, cX9_least, 2, (some .int), false, rw_X9_least)
def rw_X9_contestIn : List (List Row) := [[(0, .aload_n 0, 1, 0, 0, 0, nI 0, 0, []), (1, .iload_n 1, 1, 1, 0, 0, nI 0, 0, []), (2, .iload_n 2, 1, 2, 0, 0, nI 0, 0, []), (3, .invokevirtual 170, 3, 138, 3, 9, nI 0, 0, []), (6, .istore_n 3, 1, 3, 0, 0, nI 0, 0, []), (7, .aload_n 0, 1, 0, 0, 0, nI 0, 0, []), (8, .iload_n 1, 1, 1, 0, 0, nI 0, 0, []), (9, .iload_n 2, 1, 2, 0, 0, nI 0, 0, []), (10, .invokevirtual 173, 3, 139, 3, 9, nI 0, 0, []), (13, .istore 4, 2, 4, 0, 0, nI 0, 0, []), (15, .iconst 0, 1, 0, 0, 0, nI 0, 0, [])],
  [(16, .istore 5, 2, 5, 0, 0, nI 0, 0, []), (18, .iload 5, 2, 5, 0, 0, nI 0, 0, []), (20, .aload_n 0, 1, 0, 0, 0, nI 0, 0, []), (21, .getfield 56, 3, 9, 6, 0, nI 0, 0, []), (24, .if_icmp .ge 25, 3, 49, 0, 0, nI 0, 0, []), (27, .iload_n 3, 1, 3, 0, 0, nI 0, 0, []), (28, .iload 5, 2, 5, 0, 0, nI 0, 0, []), (30, .invokestatic 156, 3, 116, 2, 0, nI 0, 0, [])],
  [(33, .ifCond .eq 10, 3, 43, 0, 0, nI 0, 0, []), (36, .aload_n 0, 1, 0, 0, 0, nI 0, 0, []), (37, .iload_n 1, 1, 1, 0, 0, nI 0, 0, []), (38, .iload 5, 2, 5, 0, 0, nI 0, 0, []), (40, .invokevirtual 176, 3, 140, 3, 9, nI 0, 0, []), (43, .iinc 5 1, 3, 5, 0, 0, nI 1, 0, []), (46, .goto (-28), 3, 18, 0, 0, nI 0, 0, [])],
  [(49, .iload 4, 2, 4, 0, 0, nI 0, 0, []), (51, .iconst (-1), 1, 0, 0, 0, (-1), 0, []), (52, .if_icmp .eq 117, 3, 169, 0, 0, nI 0, 0, []), (55, .iconst 0, 1, 0, 0, 0, nI 0, 0, []), (56, .istore 5, 2, 5, 0, 0, nI 0, 0, []), (58, .iload 5, 2, 5, 0, 0, nI 0, 0, []), (60, .aload_n 0, 1, 0, 0, 0, nI 0, 0, []), (61, .getfield 63, 3, 9, 7, 0, nI 0, 0, [])],
  [(64, .if_icmp .ge 49, 3, 113, 0, 0, nI 0, 0, []), (67, .aload_n 0, 1, 0, 0, 0, nI 0, 0, []), (68, .getfield 7, 3, 9, 0, 0, nI 0, 0, []), (71, .iload_n 1, 1, 1, 0, 0, nI 0, 0, []), (72, .bipush 42, 2, 0, 0, 0, nI 42, 0, []), (74, .iadd, 1, 0, 0, 0, nI 0, 0, []), (75, .iload 5, 2, 5, 0, 0, nI 0, 0, []), (77, .iadd, 1, 0, 0, 0, nI 0, 0, []), (78, .aload_n 0, 1, 0, 0, 0, nI 0, 0, []), (79, .getfield 16, 3, 9, 2, 0, nI 0, 0, [])],
  [(82, .iload 5, 2, 5, 0, 0, nI 0, 0, []), (84, .iaload, 1, 0, 0, 0, nI 0, 0, []), (85, .iload_n 2, 1, 2, 0, 0, nI 0, 0, []), (86, .if_icmp .ne 8, 3, 94, 0, 0, nI 0, 0, []), (89, .iload 4, 2, 4, 0, 0, nI 0, 0, []), (91, .goto 15, 3, 106, 0, 0, nI 0, 0, []), (94, .aload_n 0, 1, 0, 0, 0, nI 0, 0, []), (95, .getfield 7, 3, 9, 0, 0, nI 0, 0, [])],
  [(98, .iload_n 1, 1, 1, 0, 0, nI 0, 0, []), (99, .bipush 42, 2, 0, 0, 0, nI 42, 0, []), (101, .iadd, 1, 0, 0, 0, nI 0, 0, []), (102, .iload 5, 2, 5, 0, 0, nI 0, 0, []), (104, .iadd, 1, 0, 0, 0, nI 0, 0, []), (105, .iaload, 1, 0, 0, 0, nI 0, 0, []), (106, .iastore, 1, 0, 0, 0, nI 0, 0, []), (107, .iinc 5 1, 3, 5, 0, 0, nI 1, 0, []), (110, .goto (-52), 3, 58, 0, 0, nI 0, 0, [])],
  [(113, .aload_n 0, 1, 0, 0, 0, nI 0, 0, []), (114, .getfield 7, 3, 9, 0, 0, nI 0, 0, []), (117, .iload_n 1, 1, 1, 0, 0, nI 0, 0, []), (118, .bipush 35, 2, 0, 0, 0, nI 35, 0, []), (120, .iadd, 1, 0, 0, 0, nI 0, 0, []), (121, .iload 4, 2, 4, 0, 0, nI 0, 0, []), (123, .iadd, 1, 0, 0, 0, nI 0, 0, []), (124, .dup2, 1, 0, 0, 0, nI 0, 0, []), (125, .iaload, 1, 0, 0, 0, nI 0, 0, []), (126, .iconst 1, 1, 0, 0, 0, nI 1, 0, []), (127, .iadd, 1, 0, 0, 0, nI 0, 0, [])],
  [(128, .iastore, 1, 0, 0, 0, nI 0, 0, []), (129, .iload_n 1, 1, 1, 0, 0, nI 0, 0, []), (130, .iconst 3, 1, 0, 0, 0, nI 3, 0, []), (131, .iload 4, 2, 4, 0, 0, nI 0, 0, []), (133, .imul, 1, 0, 0, 0, nI 0, 0, []), (134, .iadd, 1, 0, 0, 0, nI 0, 0, []), (135, .iload_n 2, 1, 2, 0, 0, nI 0, 0, []), (136, .iadd, 1, 0, 0, 0, nI 0, 0, []), (137, .istore 5, 2, 5, 0, 0, nI 0, 0, []), (139, .aload_n 0, 1, 0, 0, 0, nI 0, 0, []), (140, .getfield 7, 3, 9, 0, 0, nI 0, 0, []), (143, .iload 5, 2, 5, 0, 0, nI 0, 0, [])],
  [(145, .aload_n 0, 1, 0, 0, 0, nI 0, 0, []), (146, .getfield 7, 3, 9, 0, 0, nI 0, 0, []), (149, .iload 5, 2, 5, 0, 0, nI 0, 0, []), (151, .iaload, 1, 0, 0, 0, nI 0, 0, []), (152, .ifCond .le 15, 3, 167, 0, 0, nI 0, 0, []), (155, .aload_n 0, 1, 0, 0, 0, nI 0, 0, []), (156, .getfield 7, 3, 9, 0, 0, nI 0, 0, []), (159, .iload 5, 2, 5, 0, 0, nI 0, 0, [])],
  [(161, .iaload, 1, 0, 0, 0, nI 0, 0, []), (162, .iconst 1, 1, 0, 0, 0, nI 1, 0, []), (163, .isub, 1, 0, 0, 0, nI 0, 0, []), (164, .goto 4, 3, 168, 0, 0, nI 0, 0, []), (167, .iconst 0, 1, 0, 0, 0, nI 0, 0, []), (168, .iastore, 1, 0, 0, 0, nI 0, 0, []), (169, .aload_n 0, 1, 0, 0, 0, nI 0, 0, []), (170, .iload_n 1, 1, 1, 0, 0, nI 0, 0, []), (171, .iload_n 2, 1, 2, 0, 0, nI 0, 0, []), (172, .iload_n 3, 1, 3, 0, 0, nI 0, 0, []), (173, .invokestatic 179, 3, 142, 1, 0, nI 0, 0, [])],
  [(176, .iload 4, 2, 4, 0, 0, nI 0, 0, []), (178, .invokevirtual 182, 3, 141, 5, 9, nI 0, 0, []), (181, .return_, 1, 0, 0, 0, nI 0, 0, [])]]
def md_X9_contestIn : MD := (9, yX9_contestIn, cX9_contestIn, 6, none, false, rw_X9_contestIn)
def rw_X9_kindOf : List (List Row) := [[(0, .aload_n 0, 1, 0, 0, 0, nI 0, 0, []), (1, .getfield 133, 3, 9, 8, 0, nI 0, 0, []), (4, .ifCond .ne 7, 3, 11, 0, 0, nI 0, 0, []), (7, .iconst 0, 1, 0, 0, 0, nI 0, 0, []), (8, .goto 14, 3, 22, 0, 0, nI 0, 0, []), (11, .aload_n 0, 1, 0, 0, 0, nI 0, 0, []), (12, .getfield 19, 3, 9, 3, 0, nI 0, 0, []), (15, .iload_n 1, 1, 1, 0, 0, nI 0, 0, [])],
  [(16, .aload_n 0, 1, 0, 0, 0, nI 0, 0, []), (17, .getfield 133, 3, 9, 8, 0, nI 0, 0, []), (20, .irem, 1, 0, 0, 0, nI 0, 0, []), (21, .iaload, 1, 0, 0, 0, nI 0, 0, []), (22, .ireturn, 1, 0, 0, 0, nI 0, 0, [])]]
def md_X9_kindOf : MD := (9, yX9_kindOf, cX9_kindOf, 2, (some .int), false, rw_X9_kindOf)
def rw_X9_dayIn : List (List Row) := [[(0, .aload_n 0, 1, 0, 0, 0, nI 0, 0, []), (1, .iload_n 1, 1, 1, 0, 0, nI 0, 0, []), (2, .invokevirtual 163, 3, 135, 2, 9, nI 0, 0, []), (5, .iconst (-1), 1, 0, 0, 0, (-1), 0, []), (6, .ixor, 1, 0, 0, 0, nI 0, 0, []), (7, .istore_n 2, 1, 2, 0, 0, nI 0, 0, []), (8, .aload_n 0, 1, 0, 0, 0, nI 0, 0, []), (9, .iload_n 1, 1, 1, 0, 0, nI 0, 0, []), (10, .invokevirtual 163, 3, 135, 2, 9, nI 0, 0, []), (13, .ifCond .eq 21, 3, 34, 0, 0, nI 0, 0, [])],
  [(16, .aload_n 0, 1, 0, 0, 0, nI 0, 0, []), (17, .iload_n 1, 1, 1, 0, 0, nI 0, 0, []), (18, .aload_n 0, 1, 0, 0, 0, nI 0, 0, []), (19, .aload_n 0, 1, 0, 0, 0, nI 0, 0, []), (20, .getfield 7, 3, 9, 0, 0, nI 0, 0, []), (23, .iload_n 1, 1, 1, 0, 0, nI 0, 0, []), (24, .bipush 47, 2, 0, 0, 0, nI 47, 0, []), (26, .iadd, 1, 0, 0, 0, nI 0, 0, []), (27, .iaload, 1, 0, 0, 0, nI 0, 0, []), (28, .invokevirtual 186, 3, 144, 2, 9, nI 0, 0, []), (31, .invokevirtual 189, 3, 143, 3, 9, nI 0, 0, [])],
  [(34, .iconst 0, 1, 0, 0, 0, nI 0, 0, []), (35, .istore_n 3, 1, 3, 0, 0, nI 0, 0, []), (36, .iload_n 3, 1, 3, 0, 0, nI 0, 0, []), (37, .aload_n 0, 1, 0, 0, 0, nI 0, 0, []), (38, .getfield 56, 3, 9, 6, 0, nI 0, 0, []), (41, .if_icmp .ge 36, 3, 77, 0, 0, nI 0, 0, []), (44, .aload_n 0, 1, 0, 0, 0, nI 0, 0, []), (45, .getfield 7, 3, 9, 0, 0, nI 0, 0, [])],
  [(48, .iload_n 1, 1, 1, 0, 0, nI 0, 0, []), (49, .bipush 28, 2, 0, 0, 0, nI 28, 0, []), (51, .iadd, 1, 0, 0, 0, nI 0, 0, []), (52, .iload_n 3, 1, 3, 0, 0, nI 0, 0, []), (53, .iadd, 1, 0, 0, 0, nI 0, 0, []), (54, .dup2, 1, 0, 0, 0, nI 0, 0, []), (55, .iaload, 1, 0, 0, 0, nI 0, 0, []), (56, .iload_n 2, 1, 2, 0, 0, nI 0, 0, []), (57, .iload_n 3, 1, 3, 0, 0, nI 0, 0, []), (58, .invokestatic 156, 3, 116, 2, 0, nI 0, 0, []), (61, .ifCond .eq 7, 3, 68, 0, 0, nI 0, 0, [])],
  [(64, .iconst 1, 1, 0, 0, 0, nI 1, 0, []), (65, .goto 4, 3, 69, 0, 0, nI 0, 0, []), (68, .iconst 0, 1, 0, 0, 0, nI 0, 0, []), (69, .isub, 1, 0, 0, 0, nI 0, 0, []), (70, .iastore, 1, 0, 0, 0, nI 0, 0, []), (71, .iinc 3 1, 3, 3, 0, 0, nI 1, 0, []), (74, .goto (-38), 3, 36, 0, 0, nI 0, 0, []), (77, .aload_n 0, 1, 0, 0, 0, nI 0, 0, []), (78, .getfield 7, 3, 9, 0, 0, nI 0, 0, [])],
  [(81, .iload_n 1, 1, 1, 0, 0, nI 0, 0, []), (82, .bipush 47, 2, 0, 0, 0, nI 47, 0, []), (84, .iadd, 1, 0, 0, 0, nI 0, 0, []), (85, .dup2, 1, 0, 0, 0, nI 0, 0, []), (86, .iaload, 1, 0, 0, 0, nI 0, 0, []), (87, .iconst 1, 1, 0, 0, 0, nI 1, 0, []), (88, .iadd, 1, 0, 0, 0, nI 0, 0, []), (89, .iastore, 1, 0, 0, 0, nI 0, 0, []), (90, .return_, 1, 0, 0, 0, nI 0, 0, [])]]
def md_X9_dayIn : MD := (9, yX9_dayIn, cX9_dayIn, 4, none, false, rw_X9_dayIn)
def rw_X9_nearly : List (List Row) := [[(0, .iconst (-1), 1, 0, 0, 0, (-1), 0, []), (1, .istore_n 1, 1, 1, 0, 0, nI 0, 0, []), (2, .iconst (-1), 1, 0, 0, 0, (-1), 0, []), (3, .istore_n 2, 1, 2, 0, 0, nI 0, 0, []), (4, .iconst 0, 1, 0, 0, 0, nI 0, 0, []), (5, .istore_n 3, 1, 3, 0, 0, nI 0, 0, []), (6, .iload_n 3, 1, 3, 0, 0, nI 0, 0, []), (7, .aload_n 0, 1, 0, 0, 0, nI 0, 0, []), (8, .getfield 56, 3, 9, 6, 0, nI 0, 0, []), (11, .if_icmp .ge 70, 3, 81, 0, 0, nI 0, 0, []), (14, .iload_n 1, 1, 1, 0, 0, nI 0, 0, []), (15, .iconst (-1), 1, 0, 0, 0, (-1), 0, [])],
  [(16, .if_icmp .eq 24, 3, 40, 0, 0, nI 0, 0, []), (19, .aload_n 0, 1, 0, 0, 0, nI 0, 0, []), (20, .getfield 7, 3, 9, 0, 0, nI 0, 0, []), (23, .bipush 35, 2, 0, 0, 0, nI 35, 0, []), (25, .iload_n 3, 1, 3, 0, 0, nI 0, 0, []), (26, .iadd, 1, 0, 0, 0, nI 0, 0, []), (27, .iaload, 1, 0, 0, 0, nI 0, 0, []), (28, .aload_n 0, 1, 0, 0, 0, nI 0, 0, []), (29, .getfield 7, 3, 9, 0, 0, nI 0, 0, [])],
  [(32, .bipush 35, 2, 0, 0, 0, nI 35, 0, []), (34, .iload_n 1, 1, 1, 0, 0, nI 0, 0, []), (35, .iadd, 1, 0, 0, 0, nI 0, 0, []), (36, .iaload, 1, 0, 0, 0, nI 0, 0, []), (37, .if_icmp .le 10, 3, 47, 0, 0, nI 0, 0, []), (40, .iload_n 1, 1, 1, 0, 0, nI 0, 0, []), (41, .istore_n 2, 1, 2, 0, 0, nI 0, 0, []), (42, .iload_n 3, 1, 3, 0, 0, nI 0, 0, []), (43, .istore_n 1, 1, 1, 0, 0, nI 0, 0, []), (44, .goto 31, 3, 75, 0, 0, nI 0, 0, []), (47, .iload_n 2, 1, 2, 0, 0, nI 0, 0, [])],
  [(48, .iconst (-1), 1, 0, 0, 0, (-1), 0, []), (49, .if_icmp .eq 24, 3, 73, 0, 0, nI 0, 0, []), (52, .aload_n 0, 1, 0, 0, 0, nI 0, 0, []), (53, .getfield 7, 3, 9, 0, 0, nI 0, 0, []), (56, .bipush 35, 2, 0, 0, 0, nI 35, 0, []), (58, .iload_n 3, 1, 3, 0, 0, nI 0, 0, []), (59, .iadd, 1, 0, 0, 0, nI 0, 0, []), (60, .iaload, 1, 0, 0, 0, nI 0, 0, []), (61, .aload_n 0, 1, 0, 0, 0, nI 0, 0, []), (62, .getfield 7, 3, 9, 0, 0, nI 0, 0, [])],
  [(65, .bipush 35, 2, 0, 0, 0, nI 35, 0, []), (67, .iload_n 2, 1, 2, 0, 0, nI 0, 0, []), (68, .iadd, 1, 0, 0, 0, nI 0, 0, []), (69, .iaload, 1, 0, 0, 0, nI 0, 0, []), (70, .if_icmp .le 5, 3, 75, 0, 0, nI 0, 0, []), (73, .iload_n 3, 1, 3, 0, 0, nI 0, 0, []), (74, .istore_n 2, 1, 2, 0, 0, nI 0, 0, []), (75, .iinc 3 1, 3, 3, 0, 0, nI 1, 0, []), (78, .goto (-72), 3, 6, 0, 0, nI 0, 0, [])],
  [(81, .iload_n 2, 1, 2, 0, 0, nI 0, 0, []), (82, .ireturn, 1, 0, 0, 0, nI 0, 0, [])]]
def md_X9_nearly : MD := (9, yX9_nearly, cX9_nearly, 4, (some .int), false, rw_X9_nearly)
def rw_X9_doesBeat : List (List Row) := [[(0, .iconst 0, 1, 0, 0, 0, nI 0, 0, []), (1, .istore_n 3, 1, 3, 0, 0, nI 0, 0, []), (2, .iconst 0, 1, 0, 0, 0, nI 0, 0, []), (3, .istore 4, 2, 4, 0, 0, nI 0, 0, []), (5, .iload 4, 2, 4, 0, 0, nI 0, 0, []), (7, .iconst 3, 1, 0, 0, 0, nI 3, 0, []), (8, .if_icmp .ge 61, 3, 69, 0, 0, nI 0, 0, []), (11, .aload_n 0, 1, 0, 0, 0, nI 0, 0, []), (12, .getfield 7, 3, 9, 0, 0, nI 0, 0, []), (15, .iconst 3, 1, 0, 0, 0, nI 3, 0, [])],
  [(16, .iload_n 1, 1, 1, 0, 0, nI 0, 0, []), (17, .imul, 1, 0, 0, 0, nI 0, 0, []), (18, .iload 4, 2, 4, 0, 0, nI 0, 0, []), (20, .iadd, 1, 0, 0, 0, nI 0, 0, []), (21, .iaload, 1, 0, 0, 0, nI 0, 0, []), (22, .istore 5, 2, 5, 0, 0, nI 0, 0, []), (24, .aload_n 0, 1, 0, 0, 0, nI 0, 0, []), (25, .getfield 7, 3, 9, 0, 0, nI 0, 0, []), (28, .iconst 3, 1, 0, 0, 0, nI 3, 0, []), (29, .iload_n 2, 1, 2, 0, 0, nI 0, 0, []), (30, .imul, 1, 0, 0, 0, nI 0, 0, []), (31, .iload 4, 2, 4, 0, 0, nI 0, 0, [])],
  [(33, .iadd, 1, 0, 0, 0, nI 0, 0, []), (34, .iaload, 1, 0, 0, 0, nI 0, 0, []), (35, .istore 6, 2, 6, 0, 0, nI 0, 0, []), (37, .iload_n 3, 1, 3, 0, 0, nI 0, 0, []), (38, .iload 5, 2, 5, 0, 0, nI 0, 0, []), (40, .iload 6, 2, 6, 0, 0, nI 0, 0, []), (42, .if_icmp .le 7, 3, 49, 0, 0, nI 0, 0, []), (45, .iconst 1, 1, 0, 0, 0, nI 1, 0, []), (46, .goto 15, 3, 61, 0, 0, nI 0, 0, [])],
  [(49, .iload 5, 2, 5, 0, 0, nI 0, 0, []), (51, .iload 6, 2, 6, 0, 0, nI 0, 0, []), (53, .if_icmp .ge 7, 3, 60, 0, 0, nI 0, 0, []), (56, .iconst (-1), 1, 0, 0, 0, (-1), 0, []), (57, .goto 4, 3, 61, 0, 0, nI 0, 0, []), (60, .iconst 0, 1, 0, 0, 0, nI 0, 0, []), (61, .iadd, 1, 0, 0, 0, nI 0, 0, []), (62, .istore_n 3, 1, 3, 0, 0, nI 0, 0, []), (63, .iinc 4 1, 3, 4, 0, 0, nI 1, 0, [])],
  [(66, .goto (-61), 3, 5, 0, 0, nI 0, 0, []), (69, .iload_n 3, 1, 3, 0, 0, nI 0, 0, []), (70, .ifCond .le 7, 3, 77, 0, 0, nI 0, 0, []), (73, .iconst 1, 1, 0, 0, 0, nI 1, 0, []), (74, .goto 4, 3, 78, 0, 0, nI 0, 0, []), (77, .iconst 0, 1, 0, 0, 0, nI 0, 0, []), (78, .ireturn, 1, 0, 0, 0, nI 0, 0, [])]]
def md_X9_doesBeat : MD := (9, yX9_doesBeat, cX9_doesBeat, 7, (some .boolean), false, rw_X9_doesBeat)
def rw_X9_rings : List (List Row) := [[(0, .iconst 0, 1, 0, 0, 0, nI 0, 0, []), (1, .istore_n 1, 1, 1, 0, 0, nI 0, 0, []), (2, .iconst 0, 1, 0, 0, 0, nI 0, 0, []), (3, .istore_n 2, 1, 2, 0, 0, nI 0, 0, []), (4, .iload_n 2, 1, 2, 0, 0, nI 0, 0, []), (5, .aload_n 0, 1, 0, 0, 0, nI 0, 0, []), (6, .getfield 56, 3, 9, 6, 0, nI 0, 0, []), (9, .if_icmp .ge 137, 3, 146, 0, 0, nI 0, 0, []), (12, .iload_n 2, 1, 2, 0, 0, nI 0, 0, []), (13, .iconst 1, 1, 0, 0, 0, nI 1, 0, []), (14, .iadd, 1, 0, 0, 0, nI 0, 0, []), (15, .istore_n 3, 1, 3, 0, 0, nI 0, 0, [])],
  [(16, .iload_n 3, 1, 3, 0, 0, nI 0, 0, []), (17, .aload_n 0, 1, 0, 0, 0, nI 0, 0, []), (18, .getfield 56, 3, 9, 6, 0, nI 0, 0, []), (21, .if_icmp .ge 119, 3, 140, 0, 0, nI 0, 0, []), (24, .iload_n 3, 1, 3, 0, 0, nI 0, 0, []), (25, .iconst 1, 1, 0, 0, 0, nI 1, 0, []), (26, .iadd, 1, 0, 0, 0, nI 0, 0, []), (27, .istore 4, 2, 4, 0, 0, nI 0, 0, []), (29, .iload 4, 2, 4, 0, 0, nI 0, 0, []), (31, .aload_n 0, 1, 0, 0, 0, nI 0, 0, [])],
  [(32, .getfield 56, 3, 9, 6, 0, nI 0, 0, []), (35, .if_icmp .ge 99, 3, 134, 0, 0, nI 0, 0, []), (38, .aload_n 0, 1, 0, 0, 0, nI 0, 0, []), (39, .iload_n 2, 1, 2, 0, 0, nI 0, 0, []), (40, .iload_n 3, 1, 3, 0, 0, nI 0, 0, []), (41, .invokevirtual 192, 3, 147, 3, 9, nI 0, 0, []), (44, .ifCond .eq 27, 3, 71, 0, 0, nI 0, 0, []), (47, .aload_n 0, 1, 0, 0, 0, nI 0, 0, [])],
  [(48, .iload_n 3, 1, 3, 0, 0, nI 0, 0, []), (49, .iload 4, 2, 4, 0, 0, nI 0, 0, []), (51, .invokevirtual 192, 3, 147, 3, 9, nI 0, 0, []), (54, .ifCond .eq 17, 3, 71, 0, 0, nI 0, 0, []), (57, .aload_n 0, 1, 0, 0, 0, nI 0, 0, []), (58, .iload 4, 2, 4, 0, 0, nI 0, 0, []), (60, .iload_n 2, 1, 2, 0, 0, nI 0, 0, []), (61, .invokevirtual 192, 3, 147, 3, 9, nI 0, 0, [])],
  [(64, .ifCond .eq 7, 3, 71, 0, 0, nI 0, 0, []), (67, .iconst 1, 1, 0, 0, 0, nI 1, 0, []), (68, .goto 4, 3, 72, 0, 0, nI 0, 0, []), (71, .iconst 0, 1, 0, 0, 0, nI 0, 0, []), (72, .istore 5, 2, 5, 0, 0, nI 0, 0, []), (74, .aload_n 0, 1, 0, 0, 0, nI 0, 0, []), (75, .iload_n 3, 1, 3, 0, 0, nI 0, 0, []), (76, .iload_n 2, 1, 2, 0, 0, nI 0, 0, []), (77, .invokevirtual 192, 3, 147, 3, 9, nI 0, 0, [])],
  [(80, .ifCond .eq 27, 3, 107, 0, 0, nI 0, 0, []), (83, .aload_n 0, 1, 0, 0, 0, nI 0, 0, []), (84, .iload 4, 2, 4, 0, 0, nI 0, 0, []), (86, .iload_n 3, 1, 3, 0, 0, nI 0, 0, []), (87, .invokevirtual 192, 3, 147, 3, 9, nI 0, 0, []), (90, .ifCond .eq 17, 3, 107, 0, 0, nI 0, 0, []), (93, .aload_n 0, 1, 0, 0, 0, nI 0, 0, []), (94, .iload_n 2, 1, 2, 0, 0, nI 0, 0, []), (95, .iload 4, 2, 4, 0, 0, nI 0, 0, [])],
  [(97, .invokevirtual 192, 3, 147, 3, 9, nI 0, 0, []), (100, .ifCond .eq 7, 3, 107, 0, 0, nI 0, 0, []), (103, .iconst 1, 1, 0, 0, 0, nI 1, 0, []), (104, .goto 4, 3, 108, 0, 0, nI 0, 0, []), (107, .iconst 0, 1, 0, 0, 0, nI 0, 0, []), (108, .istore 6, 2, 6, 0, 0, nI 0, 0, []), (110, .iload_n 1, 1, 1, 0, 0, nI 0, 0, []), (111, .iload 5, 2, 5, 0, 0, nI 0, 0, [])],
  [(113, .ifCond .ne 8, 3, 121, 0, 0, nI 0, 0, []), (116, .iload 6, 2, 6, 0, 0, nI 0, 0, []), (118, .ifCond .eq 7, 3, 125, 0, 0, nI 0, 0, []), (121, .iconst 1, 1, 0, 0, 0, nI 1, 0, []), (122, .goto 4, 3, 126, 0, 0, nI 0, 0, []), (125, .iconst 0, 1, 0, 0, 0, nI 0, 0, []), (126, .iadd, 1, 0, 0, 0, nI 0, 0, []), (127, .istore_n 1, 1, 1, 0, 0, nI 0, 0, [])],
  [(128, .iinc 4 1, 3, 4, 0, 0, nI 1, 0, []), (131, .goto (-102), 3, 29, 0, 0, nI 0, 0, []), (134, .iinc 3 1, 3, 3, 0, 0, nI 1, 0, []), (137, .goto (-121), 3, 16, 0, 0, nI 0, 0, []), (140, .iinc 2 1, 3, 2, 0, 0, nI 1, 0, []), (143, .goto (-139), 3, 4, 0, 0, nI 0, 0, [])],
  [(146, .iload_n 1, 1, 1, 0, 0, nI 0, 0, []), (147, .ireturn, 1, 0, 0, 0, nI 0, 0, [])]]
def md_X9_rings : MD := (9, yX9_rings, cX9_rings, 7, (some .int), false, rw_X9_rings)
def rw_X9_vacant : List (List Row) := [[(0, .iconst 0, 1, 0, 0, 0, nI 0, 0, []), (1, .istore_n 1, 1, 1, 0, 0, nI 0, 0, []), (2, .iconst 0, 1, 0, 0, 0, nI 0, 0, []), (3, .istore_n 2, 1, 2, 0, 0, nI 0, 0, []), (4, .iload_n 2, 1, 2, 0, 0, nI 0, 0, []), (5, .aload_n 0, 1, 0, 0, 0, nI 0, 0, []), (6, .getfield 63, 3, 9, 7, 0, nI 0, 0, []), (9, .if_icmp .ge 32, 3, 41, 0, 0, nI 0, 0, []), (12, .iload_n 1, 1, 1, 0, 0, nI 0, 0, []), (13, .aload_n 0, 1, 0, 0, 0, nI 0, 0, []), (14, .getfield 7, 3, 9, 0, 0, nI 0, 0, [])],
  [(17, .bipush 42, 2, 0, 0, 0, nI 42, 0, []), (19, .iload_n 2, 1, 2, 0, 0, nI 0, 0, []), (20, .iadd, 1, 0, 0, 0, nI 0, 0, []), (21, .iaload, 1, 0, 0, 0, nI 0, 0, []), (22, .iconst (-1), 1, 0, 0, 0, (-1), 0, []), (23, .if_icmp .ne 9, 3, 32, 0, 0, nI 0, 0, []), (26, .iconst 1, 1, 0, 0, 0, nI 1, 0, []), (27, .iload_n 2, 1, 2, 0, 0, nI 0, 0, []), (28, .ishl, 1, 0, 0, 0, nI 0, 0, []), (29, .goto 4, 3, 33, 0, 0, nI 0, 0, [])],
  [(32, .iconst 0, 1, 0, 0, 0, nI 0, 0, []), (33, .ior, 1, 0, 0, 0, nI 0, 0, []), (34, .istore_n 1, 1, 1, 0, 0, nI 0, 0, []), (35, .iinc 2 1, 3, 2, 0, 0, nI 1, 0, []), (38, .goto (-34), 3, 4, 0, 0, nI 0, 0, []), (41, .iload_n 1, 1, 1, 0, 0, nI 0, 0, []), (42, .ireturn, 1, 0, 0, 0, nI 0, 0, [])]]
def md_X9_vacant : MD := (9, yX9_vacant, cX9_vacant, 3, (some .int), false, rw_X9_vacant)
def rw_X9_brilliant : List (List Row) := [[(0, .iconst 0, 1, 0, 0, 0, nI 0, 0, []), (1, .istore_n 1, 1, 1, 0, 0, nI 0, 0, []), (2, .iconst 0, 1, 0, 0, 0, nI 0, 0, []), (3, .istore_n 2, 1, 2, 0, 0, nI 0, 0, []), (4, .iload_n 2, 1, 2, 0, 0, nI 0, 0, []), (5, .aload_n 0, 1, 0, 0, 0, nI 0, 0, []), (6, .getfield 56, 3, 9, 6, 0, nI 0, 0, []), (9, .if_icmp .ge 48, 3, 57, 0, 0, nI 0, 0, []), (12, .iconst 0, 1, 0, 0, 0, nI 0, 0, []), (13, .istore_n 3, 1, 3, 0, 0, nI 0, 0, []), (14, .iload_n 3, 1, 3, 0, 0, nI 0, 0, []), (15, .iconst 3, 1, 0, 0, 0, nI 3, 0, [])],
  [(16, .if_icmp .ge 35, 3, 51, 0, 0, nI 0, 0, []), (19, .iload_n 1, 1, 1, 0, 0, nI 0, 0, []), (20, .aload_n 0, 1, 0, 0, 0, nI 0, 0, []), (21, .iconst 0, 1, 0, 0, 0, nI 0, 0, []), (22, .iload_n 2, 1, 2, 0, 0, nI 0, 0, []), (23, .invokevirtual 148, 3, 134, 3, 9, nI 0, 0, []), (26, .ifCond .eq 7, 3, 33, 0, 0, nI 0, 0, []), (29, .iconst 0, 1, 0, 0, 0, nI 0, 0, []), (30, .goto 13, 3, 43, 0, 0, nI 0, 0, [])],
  [(33, .aload_n 0, 1, 0, 0, 0, nI 0, 0, []), (34, .getfield 7, 3, 9, 0, 0, nI 0, 0, []), (37, .iconst 3, 1, 0, 0, 0, nI 3, 0, []), (38, .iload_n 2, 1, 2, 0, 0, nI 0, 0, []), (39, .imul, 1, 0, 0, 0, nI 0, 0, []), (40, .iload_n 3, 1, 3, 0, 0, nI 0, 0, []), (41, .iadd, 1, 0, 0, 0, nI 0, 0, []), (42, .iaload, 1, 0, 0, 0, nI 0, 0, []), (43, .iadd, 1, 0, 0, 0, nI 0, 0, []), (44, .istore_n 1, 1, 1, 0, 0, nI 0, 0, []), (45, .iinc 3 1, 3, 3, 0, 0, nI 1, 0, [])],
  [(48, .goto (-34), 3, 14, 0, 0, nI 0, 0, []), (51, .iinc 2 1, 3, 2, 0, 0, nI 1, 0, []), (54, .goto (-50), 3, 4, 0, 0, nI 0, 0, []), (57, .iload_n 1, 1, 1, 0, 0, nI 0, 0, []), (58, .ireturn, 1, 0, 0, 0, nI 0, 0, [])]]
def md_X9_brilliant : MD := (9, yX9_brilliant, cX9_brilliant, 4, (some .int), false, rw_X9_brilliant)
def rw_X9_told : List (List Row) := [[(0, .iload_n 1, 1, 1, 0, 0, nI 0, 0, []), (1, .tableswitch 178 0 16 #[83, 88, 93, 98, 103, 108, 113, 121, 129, 135, 140, 145, 150, 155, 163, 168, 173], 83, 179, 0, 0, nI 0, 0, [(nI 0, 84), (nI 1, 89), (nI 2, 94), (nI 3, 99), (nI 4, 104), (nI 5, 109), (nI 6, 114), (nI 7, 122), (nI 8, 130), (nI 9, 136), (nI 10, 141), (nI 11, 146), (nI 12, 151), (nI 13, 156), (nI 14, 164), (nI 15, 169), (nI 16, 174)])],
  [],
  [],
  [],
  [],
  [(84, .aload_n 0, 1, 0, 0, 0, nI 0, 0, []), (85, .getfield 22, 3, 9, 4, 0, nI 0, 0, []), (88, .ireturn, 1, 0, 0, 0, nI 0, 0, []), (89, .aload_n 0, 1, 0, 0, 0, nI 0, 0, []), (90, .getfield 130, 3, 9, 5, 0, nI 0, 0, []), (93, .ireturn, 1, 0, 0, 0, nI 0, 0, []), (94, .aload_n 0, 1, 0, 0, 0, nI 0, 0, []), (95, .getfield 56, 3, 9, 6, 0, nI 0, 0, [])],
  [(98, .ireturn, 1, 0, 0, 0, nI 0, 0, []), (99, .aload_n 0, 1, 0, 0, 0, nI 0, 0, []), (100, .getfield 63, 3, 9, 7, 0, nI 0, 0, []), (103, .ireturn, 1, 0, 0, 0, nI 0, 0, []), (104, .aload_n 0, 1, 0, 0, 0, nI 0, 0, []), (105, .getfield 133, 3, 9, 8, 0, nI 0, 0, []), (108, .ireturn, 1, 0, 0, 0, nI 0, 0, []), (109, .aload_n 0, 1, 0, 0, 0, nI 0, 0, []), (110, .getfield 67, 3, 9, 12, 0, nI 0, 0, [])],
  [(113, .ireturn, 1, 0, 0, 0, nI 0, 0, []), (114, .aload_n 0, 1, 0, 0, 0, nI 0, 0, []), (115, .getfield 7, 3, 9, 0, 0, nI 0, 0, []), (118, .bipush 47, 2, 0, 0, 0, nI 47, 0, []), (120, .iaload, 1, 0, 0, 0, nI 0, 0, []), (121, .ireturn, 1, 0, 0, 0, nI 0, 0, []), (122, .aload_n 0, 1, 0, 0, 0, nI 0, 0, []), (123, .getfield 7, 3, 9, 0, 0, nI 0, 0, []), (126, .bipush 46, 2, 0, 0, 0, nI 46, 0, [])],
  [(128, .iaload, 1, 0, 0, 0, nI 0, 0, []), (129, .ireturn, 1, 0, 0, 0, nI 0, 0, []), (130, .aload_n 0, 1, 0, 0, 0, nI 0, 0, []), (131, .iconst 0, 1, 0, 0, 0, nI 0, 0, []), (132, .invokevirtual 163, 3, 135, 2, 9, nI 0, 0, []), (135, .ireturn, 1, 0, 0, 0, nI 0, 0, []), (136, .aload_n 0, 1, 0, 0, 0, nI 0, 0, []), (137, .invokevirtual 195, 3, 149, 1, 9, nI 0, 0, []), (140, .ireturn, 1, 0, 0, 0, nI 0, 0, []), (141, .aload_n 0, 1, 0, 0, 0, nI 0, 0, []), (142, .invokevirtual 198, 3, 146, 1, 9, nI 0, 0, [])],
  [(145, .ireturn, 1, 0, 0, 0, nI 0, 0, []), (146, .aload_n 0, 1, 0, 0, 0, nI 0, 0, []), (147, .invokevirtual 201, 3, 148, 1, 9, nI 0, 0, []), (150, .ireturn, 1, 0, 0, 0, nI 0, 0, []), (151, .aload_n 0, 1, 0, 0, 0, nI 0, 0, []), (152, .invokevirtual 204, 3, 150, 1, 9, nI 0, 0, []), (155, .ireturn, 1, 0, 0, 0, nI 0, 0, []), (156, .aload_n 0, 1, 0, 0, 0, nI 0, 0, []), (157, .getfield 7, 3, 9, 0, 0, nI 0, 0, [])],
  [(160, .bipush 48, 2, 0, 0, 0, nI 48, 0, []), (162, .iaload, 1, 0, 0, 0, nI 0, 0, []), (163, .ireturn, 1, 0, 0, 0, nI 0, 0, []), (164, .aload_n 0, 1, 0, 0, 0, nI 0, 0, []), (165, .getfield 142, 3, 9, 16, 0, nI 0, 0, []), (168, .ireturn, 1, 0, 0, 0, nI 0, 0, []), (169, .aload_n 0, 1, 0, 0, 0, nI 0, 0, []), (170, .getfield 145, 3, 9, 19, 0, nI 0, 0, []), (173, .ireturn, 1, 0, 0, 0, nI 0, 0, []), (174, .aload_n 0, 1, 0, 0, 0, nI 0, 0, []), (175, .getfield 136, 3, 9, 9, 0, nI 0, 0, [])],
  [(178, .ireturn, 1, 0, 0, 0, nI 0, 0, []), (179, .ldc 66, 2, 0, 0, 0, (-1000000002), 0, []), (181, .ireturn, 1, 0, 0, 0, nI 0, 0, [])]]
def md_X9_told : MD := (9, yX9_told, cX9_told, 2, (some .int), false, rw_X9_told)
def rw_X9_heldBy : List (List Row) := [[(0, .iconst 0, 1, 0, 0, 0, nI 0, 0, []), (1, .istore_n 2, 1, 2, 0, 0, nI 0, 0, []), (2, .iconst 0, 1, 0, 0, 0, nI 0, 0, []), (3, .istore_n 3, 1, 3, 0, 0, nI 0, 0, []), (4, .iload_n 3, 1, 3, 0, 0, nI 0, 0, []), (5, .aload_n 0, 1, 0, 0, 0, nI 0, 0, []), (6, .getfield 63, 3, 9, 7, 0, nI 0, 0, []), (9, .if_icmp .ge 32, 3, 41, 0, 0, nI 0, 0, []), (12, .iload_n 2, 1, 2, 0, 0, nI 0, 0, []), (13, .aload_n 0, 1, 0, 0, 0, nI 0, 0, []), (14, .getfield 7, 3, 9, 0, 0, nI 0, 0, [])],
  [(17, .bipush 42, 2, 0, 0, 0, nI 42, 0, []), (19, .iload_n 3, 1, 3, 0, 0, nI 0, 0, []), (20, .iadd, 1, 0, 0, 0, nI 0, 0, []), (21, .iaload, 1, 0, 0, 0, nI 0, 0, []), (22, .iload_n 1, 1, 1, 0, 0, nI 0, 0, []), (23, .if_icmp .ne 9, 3, 32, 0, 0, nI 0, 0, []), (26, .iconst 1, 1, 0, 0, 0, nI 1, 0, []), (27, .iload_n 3, 1, 3, 0, 0, nI 0, 0, []), (28, .ishl, 1, 0, 0, 0, nI 0, 0, []), (29, .goto 4, 3, 33, 0, 0, nI 0, 0, [])],
  [(32, .iconst 0, 1, 0, 0, 0, nI 0, 0, []), (33, .ior, 1, 0, 0, 0, nI 0, 0, []), (34, .istore_n 2, 1, 2, 0, 0, nI 0, 0, []), (35, .iinc 3 1, 3, 3, 0, 0, nI 1, 0, []), (38, .goto (-34), 3, 4, 0, 0, nI 0, 0, []), (41, .iload_n 2, 1, 2, 0, 0, nI 0, 0, []), (42, .ireturn, 1, 0, 0, 0, nI 0, 0, [])]]
def md_X9_heldBy : MD := (9, yX9_heldBy, cX9_heldBy, 4, (some .int), false, rw_X9_heldBy)
def rw_X9_person : List (List Row) := [[(0, .aload_n 0, 1, 0, 0, 0, nI 0, 0, []), (1, .iload_n 1, 1, 1, 0, 0, nI 0, 0, []), (2, .invokevirtual 207, 3, 117, 2, 9, nI 0, 0, []), (5, .ifCond .ne 6, 3, 11, 0, 0, nI 0, 0, []), (8, .ldc 211, 2, 0, 0, 0, (-1000000001), 0, []), (10, .ireturn, 1, 0, 0, 0, nI 0, 0, []), (11, .iload_n 2, 1, 2, 0, 0, nI 0, 0, []), (12, .tableswitch 122 0 7 #[48, 57, 68, 79, 86, 96, 106, 116], 48, 134, 0, 0, nI 0, 0, [(nI 0, 60), (nI 1, 69), (nI 2, 80), (nI 3, 91), (nI 4, 98), (nI 5, 108), (nI 6, 118), (nI 7, 128)])],
  [],
  [],
  [(60, .aload_n 0, 1, 0, 0, 0, nI 0, 0, []), (61, .getfield 7, 3, 9, 0, 0, nI 0, 0, [])],
  [(64, .iconst 3, 1, 0, 0, 0, nI 3, 0, []), (65, .iload_n 1, 1, 1, 0, 0, nI 0, 0, []), (66, .imul, 1, 0, 0, 0, nI 0, 0, []), (67, .iaload, 1, 0, 0, 0, nI 0, 0, []), (68, .ireturn, 1, 0, 0, 0, nI 0, 0, []), (69, .aload_n 0, 1, 0, 0, 0, nI 0, 0, []), (70, .getfield 7, 3, 9, 0, 0, nI 0, 0, []), (73, .iconst 3, 1, 0, 0, 0, nI 3, 0, []), (74, .iload_n 1, 1, 1, 0, 0, nI 0, 0, []), (75, .imul, 1, 0, 0, 0, nI 0, 0, []), (76, .iconst 1, 1, 0, 0, 0, nI 1, 0, []), (77, .iadd, 1, 0, 0, 0, nI 0, 0, []), (78, .iaload, 1, 0, 0, 0, nI 0, 0, []), (79, .ireturn, 1, 0, 0, 0, nI 0, 0, [])],
  [(80, .aload_n 0, 1, 0, 0, 0, nI 0, 0, []), (81, .getfield 7, 3, 9, 0, 0, nI 0, 0, []), (84, .iconst 3, 1, 0, 0, 0, nI 3, 0, []), (85, .iload_n 1, 1, 1, 0, 0, nI 0, 0, []), (86, .imul, 1, 0, 0, 0, nI 0, 0, []), (87, .iconst 2, 1, 0, 0, 0, nI 2, 0, []), (88, .iadd, 1, 0, 0, 0, nI 0, 0, []), (89, .iaload, 1, 0, 0, 0, nI 0, 0, []), (90, .ireturn, 1, 0, 0, 0, nI 0, 0, []), (91, .aload_n 0, 1, 0, 0, 0, nI 0, 0, []), (92, .getfield 13, 3, 9, 1, 0, nI 0, 0, []), (95, .iload_n 1, 1, 1, 0, 0, nI 0, 0, [])],
  [(96, .iaload, 1, 0, 0, 0, nI 0, 0, []), (97, .ireturn, 1, 0, 0, 0, nI 0, 0, []), (98, .aload_n 0, 1, 0, 0, 0, nI 0, 0, []), (99, .getfield 7, 3, 9, 0, 0, nI 0, 0, []), (102, .bipush 21, 2, 0, 0, 0, nI 21, 0, []), (104, .iload_n 1, 1, 1, 0, 0, nI 0, 0, []), (105, .iadd, 1, 0, 0, 0, nI 0, 0, []), (106, .iaload, 1, 0, 0, 0, nI 0, 0, []), (107, .ireturn, 1, 0, 0, 0, nI 0, 0, []), (108, .aload_n 0, 1, 0, 0, 0, nI 0, 0, []), (109, .getfield 7, 3, 9, 0, 0, nI 0, 0, [])],
  [(112, .bipush 28, 2, 0, 0, 0, nI 28, 0, []), (114, .iload_n 1, 1, 1, 0, 0, nI 0, 0, []), (115, .iadd, 1, 0, 0, 0, nI 0, 0, []), (116, .iaload, 1, 0, 0, 0, nI 0, 0, []), (117, .ireturn, 1, 0, 0, 0, nI 0, 0, []), (118, .aload_n 0, 1, 0, 0, 0, nI 0, 0, []), (119, .getfield 7, 3, 9, 0, 0, nI 0, 0, []), (122, .bipush 35, 2, 0, 0, 0, nI 35, 0, []), (124, .iload_n 1, 1, 1, 0, 0, nI 0, 0, []), (125, .iadd, 1, 0, 0, 0, nI 0, 0, []), (126, .iaload, 1, 0, 0, 0, nI 0, 0, []), (127, .ireturn, 1, 0, 0, 0, nI 0, 0, [])],
  [(128, .aload_n 0, 1, 0, 0, 0, nI 0, 0, []), (129, .iload_n 1, 1, 1, 0, 0, nI 0, 0, []), (130, .invokevirtual 212, 3, 152, 2, 9, nI 0, 0, []), (133, .ireturn, 1, 0, 0, 0, nI 0, 0, []), (134, .ldc 66, 2, 0, 0, 0, (-1000000002), 0, []), (136, .ireturn, 1, 0, 0, 0, nI 0, 0, [])]]
def md_X9_person : MD := (9, yX9_person, cX9_person, 3, (some .int), false, rw_X9_person)
def rw_X9_office : List (List Row) := [[(0, .aload_n 0, 1, 0, 0, 0, nI 0, 0, []), (1, .iload_n 1, 1, 1, 0, 0, nI 0, 0, []), (2, .invokevirtual 215, 3, 118, 2, 9, nI 0, 0, []), (5, .ifCond .ne 6, 3, 11, 0, 0, nI 0, 0, []), (8, .ldc 211, 2, 0, 0, 0, (-1000000001), 0, []), (10, .ireturn, 1, 0, 0, 0, nI 0, 0, []), (11, .iload_n 2, 1, 2, 0, 0, nI 0, 0, []), (12, .ifCond .ne 12, 3, 24, 0, 0, nI 0, 0, []), (15, .aload_n 0, 1, 0, 0, 0, nI 0, 0, [])],
  [(16, .getfield 16, 3, 9, 2, 0, nI 0, 0, []), (19, .iload_n 1, 1, 1, 0, 0, nI 0, 0, []), (20, .iaload, 1, 0, 0, 0, nI 0, 0, []), (21, .goto 22, 3, 43, 0, 0, nI 0, 0, []), (24, .iload_n 2, 1, 2, 0, 0, nI 0, 0, []), (25, .iconst 1, 1, 0, 0, 0, nI 1, 0, []), (26, .if_icmp .ne 15, 3, 41, 0, 0, nI 0, 0, []), (29, .aload_n 0, 1, 0, 0, 0, nI 0, 0, []), (30, .getfield 7, 3, 9, 0, 0, nI 0, 0, [])],
  [(33, .bipush 42, 2, 0, 0, 0, nI 42, 0, []), (35, .iload_n 1, 1, 1, 0, 0, nI 0, 0, []), (36, .iadd, 1, 0, 0, 0, nI 0, 0, []), (37, .iaload, 1, 0, 0, 0, nI 0, 0, []), (38, .goto 5, 3, 43, 0, 0, nI 0, 0, []), (41, .ldc 66, 2, 0, 0, 0, (-1000000002), 0, []), (43, .ireturn, 1, 0, 0, 0, nI 0, 0, [])]]
def md_X9_office : MD := (9, yX9_office, cX9_office, 3, (some .int), false, rw_X9_office)
def rw_X9_ahead : List (List Row) := [[(0, .iload_n 1, 1, 1, 0, 0, nI 0, 0, []), (1, .iconst 0, 1, 0, 0, 0, nI 0, 0, []), (2, .bipush 60, 2, 0, 0, 0, nI 60, 0, []), (4, .invokestatic 59, 3, 115, 3, 0, nI 0, 0, []), (7, .ifCond .ne 6, 3, 13, 0, 0, nI 0, 0, []), (10, .ldc 66, 2, 0, 0, 0, (-1000000002), 0, []), (12, .ireturn, 1, 0, 0, 0, nI 0, 0, []), (13, .aload_n 0, 1, 0, 0, 0, nI 0, 0, []), (14, .getfield 22, 3, 9, 4, 0, nI 0, 0, [])],
  [(17, .iconst (-1), 1, 0, 0, 0, (-1), 0, []), (18, .if_icmp .ne 8, 3, 26, 0, 0, nI 0, 0, []), (21, .ldc 218, 2, 0, 0, 0, (-1000000003), 0, []), (23, .goto 16, 3, 39, 0, 0, nI 0, 0, []), (26, .aload_n 0, 1, 0, 0, 0, nI 0, 0, []), (27, .aload_n 0, 1, 0, 0, 0, nI 0, 0, []), (28, .getfield 7, 3, 9, 0, 0, nI 0, 0, []), (31, .bipush 47, 2, 0, 0, 0, nI 47, 0, [])],
  [(33, .iaload, 1, 0, 0, 0, nI 0, 0, []), (34, .iload_n 1, 1, 1, 0, 0, nI 0, 0, []), (35, .iadd, 1, 0, 0, 0, nI 0, 0, []), (36, .invokevirtual 186, 3, 144, 2, 9, nI 0, 0, []), (39, .ireturn, 1, 0, 0, 0, nI 0, 0, [])]]
def md_X9_ahead : MD := (9, yX9_ahead, cX9_ahead, 2, (some .int), false, rw_X9_ahead)
def rw_X9_logged : List (List Row) := [[(0, .iload_n 2, 1, 2, 0, 0, nI 0, 0, []), (1, .iconst 0, 1, 0, 0, 0, nI 0, 0, []), (2, .iconst 3, 1, 0, 0, 0, nI 3, 0, []), (3, .invokestatic 59, 3, 115, 3, 0, nI 0, 0, []), (6, .ifCond .ne 6, 3, 12, 0, 0, nI 0, 0, []), (9, .ldc 66, 2, 0, 0, 0, (-1000000002), 0, []), (11, .ireturn, 1, 0, 0, 0, nI 0, 0, []), (12, .iload_n 1, 1, 1, 0, 0, nI 0, 0, []), (13, .iconst 0, 1, 0, 0, 0, nI 0, 0, []), (14, .aload_n 0, 1, 0, 0, 0, nI 0, 0, []), (15, .getfield 7, 3, 9, 0, 0, nI 0, 0, [])],
  [(18, .bipush 48, 2, 0, 0, 0, nI 48, 0, []), (20, .iaload, 1, 0, 0, 0, nI 0, 0, []), (21, .iconst 1, 1, 0, 0, 0, nI 1, 0, []), (22, .isub, 1, 0, 0, 0, nI 0, 0, []), (23, .invokestatic 59, 3, 115, 3, 0, nI 0, 0, []), (26, .ifCond .eq 29, 3, 55, 0, 0, nI 0, 0, []), (29, .aload_n 0, 1, 0, 0, 0, nI 0, 0, []), (30, .getfield 7, 3, 9, 0, 0, nI 0, 0, [])],
  [(33, .bipush 49, 2, 0, 0, 0, nI 49, 0, []), (35, .iconst 4, 1, 0, 0, 0, nI 4, 0, []), (36, .aload_n 0, 1, 0, 0, 0, nI 0, 0, []), (37, .getfield 7, 3, 9, 0, 0, nI 0, 0, []), (40, .bipush 48, 2, 0, 0, 0, nI 48, 0, []), (42, .iaload, 1, 0, 0, 0, nI 0, 0, []), (43, .iconst 1, 1, 0, 0, 0, nI 1, 0, []), (44, .isub, 1, 0, 0, 0, nI 0, 0, []), (45, .iload_n 1, 1, 1, 0, 0, nI 0, 0, []), (46, .isub, 1, 0, 0, 0, nI 0, 0, []), (47, .imul, 1, 0, 0, 0, nI 0, 0, [])],
  [(48, .iadd, 1, 0, 0, 0, nI 0, 0, []), (49, .iload_n 2, 1, 2, 0, 0, nI 0, 0, []), (50, .iadd, 1, 0, 0, 0, nI 0, 0, []), (51, .iaload, 1, 0, 0, 0, nI 0, 0, []), (52, .goto 4, 3, 56, 0, 0, nI 0, 0, []), (55, .iconst (-1), 1, 0, 0, 0, (-1), 0, []), (56, .ireturn, 1, 0, 0, 0, nI 0, 0, [])]]
def md_X9_logged : MD := (9, yX9_logged, cX9_logged, 3, (some .int), false, rw_X9_logged)
def rw_X9_remember : List (List Row) := [[(0, .aload_n 0, 1, 0, 0, 0, nI 0, 0, []), (1, .getfield 136, 3, 9, 9, 0, nI 0, 0, []), (4, .bipush 30, 2, 0, 0, 0, nI 30, 0, []), (6, .if_icmp .ne 51, 3, 57, 0, 0, nI 0, 0, []), (9, .iconst 1, 1, 0, 0, 0, nI 1, 0, []), (10, .istore_n 1, 1, 1, 0, 0, nI 0, 0, []), (11, .iload_n 1, 1, 1, 0, 0, nI 0, 0, []), (12, .bipush 30, 2, 0, 0, 0, nI 30, 0, []), (14, .if_icmp .ge 33, 3, 47, 0, 0, nI 0, 0, [])],
  [(17, .aload_n 0, 1, 0, 0, 0, nI 0, 0, []), (18, .sipush 520, 3, 0, 0, 0, nI 520, 0, []), (21, .sipush 130, 3, 0, 0, 0, nI 130, 0, []), (24, .iload_n 1, 1, 1, 0, 0, nI 0, 0, []), (25, .imul, 1, 0, 0, 0, nI 0, 0, []), (26, .iadd, 1, 0, 0, 0, nI 0, 0, []), (27, .sipush 520, 3, 0, 0, 0, nI 520, 0, []), (30, .sipush 130, 3, 0, 0, 0, nI 130, 0, [])],
  [(33, .iload_n 1, 1, 1, 0, 0, nI 0, 0, []), (34, .iconst 1, 1, 0, 0, 0, nI 1, 0, []), (35, .isub, 1, 0, 0, 0, nI 0, 0, []), (36, .imul, 1, 0, 0, 0, nI 0, 0, []), (37, .iadd, 1, 0, 0, 0, nI 0, 0, []), (38, .invokevirtual 219, 3, 119, 3, 9, nI 0, 0, []), (41, .iinc 1 1, 3, 1, 0, 0, nI 1, 0, []), (44, .goto (-33), 3, 11, 0, 0, nI 0, 0, []), (47, .aload_n 0, 1, 0, 0, 0, nI 0, 0, [])],
  [(48, .dup, 1, 0, 0, 0, nI 0, 0, []), (49, .getfield 136, 3, 9, 9, 0, nI 0, 0, []), (52, .iconst 1, 1, 0, 0, 0, nI 1, 0, []), (53, .isub, 1, 0, 0, 0, nI 0, 0, []), (54, .putfield 136, 3, 9, 9, 0, nI 0, 0, []), (57, .aload_n 0, 1, 0, 0, 0, nI 0, 0, []), (58, .iconst 0, 1, 0, 0, 0, nI 0, 0, []), (59, .sipush 520, 3, 0, 0, 0, nI 520, 0, []), (62, .sipush 130, 3, 0, 0, 0, nI 130, 0, [])],
  [(65, .aload_n 0, 1, 0, 0, 0, nI 0, 0, []), (66, .getfield 136, 3, 9, 9, 0, nI 0, 0, []), (69, .imul, 1, 0, 0, 0, nI 0, 0, []), (70, .iadd, 1, 0, 0, 0, nI 0, 0, []), (71, .invokevirtual 219, 3, 119, 3, 9, nI 0, 0, []), (74, .aload_n 0, 1, 0, 0, 0, nI 0, 0, []), (75, .dup, 1, 0, 0, 0, nI 0, 0, []), (76, .getfield 136, 3, 9, 9, 0, nI 0, 0, []), (79, .iconst 1, 1, 0, 0, 0, nI 1, 0, [])],
  [(80, .iadd, 1, 0, 0, 0, nI 0, 0, []), (81, .putfield 136, 3, 9, 9, 0, nI 0, 0, []), (84, .return_, 1, 0, 0, 0, nI 0, 0, [])]]
def md_X9_remember : MD := (9, yX9_remember, cX9_remember, 2, none, false, rw_X9_remember)
def rw_X9_whyNot : List (List Row) := [[(0, .iload_n 1, 1, 1, 0, 0, nI 0, 0, []), (1, .iconst 1, 1, 0, 0, 0, nI 1, 0, []), (2, .bipush 30, 2, 0, 0, 0, nI 30, 0, []), (4, .invokestatic 59, 3, 115, 3, 0, nI 0, 0, []), (7, .ifCond .ne 8, 3, 15, 0, 0, nI 0, 0, []), (10, .ldc 66, 2, 0, 0, 0, (-1000000002), 0, []), (12, .goto 34, 3, 46, 0, 0, nI 0, 0, []), (15, .aload_n 0, 1, 0, 0, 0, nI 0, 0, [])],
  [(16, .getfield 22, 3, 9, 4, 0, nI 0, 0, []), (19, .iconst (-1), 1, 0, 0, 0, (-1), 0, []), (20, .if_icmp .ne 8, 3, 28, 0, 0, nI 0, 0, []), (23, .ldc 218, 2, 0, 0, 0, (-1000000003), 0, []), (25, .goto 21, 3, 46, 0, 0, nI 0, 0, []), (28, .aload_n 0, 1, 0, 0, 0, nI 0, 0, []), (29, .getfield 7, 3, 9, 0, 0, nI 0, 0, [])],
  [(32, .bipush 47, 2, 0, 0, 0, nI 47, 0, []), (34, .iaload, 1, 0, 0, 0, nI 0, 0, []), (35, .ldc 222, 2, 0, 0, 0, nI 90000, 0, []), (37, .if_icmp .le 8, 3, 45, 0, 0, nI 0, 0, []), (40, .ldc 70, 2, 0, 0, 0, (-1000000004), 0, []), (42, .goto 4, 3, 46, 0, 0, nI 0, 0, []), (45, .iconst 1, 1, 0, 0, 0, nI 1, 0, []), (46, .ireturn, 1, 0, 0, 0, nI 0, 0, [])]]
def md_X9_whyNot : MD := (9, yX9_whyNot, cX9_whyNot, 2, (some .int), false, rw_X9_whyNot)
def rw_X9_day : List (List Row) := [[(0, .aload_n 0, 1, 0, 0, 0, nI 0, 0, []), (1, .iload_n 1, 1, 1, 0, 0, nI 0, 0, []), (2, .invokevirtual 223, 3, 158, 2, 9, nI 0, 0, []), (5, .ifCond .ge 9, 3, 14, 0, 0, nI 0, 0, []), (8, .aload_n 0, 1, 0, 0, 0, nI 0, 0, []), (9, .iload_n 1, 1, 1, 0, 0, nI 0, 0, []), (10, .invokevirtual 223, 3, 158, 2, 9, nI 0, 0, []), (13, .ireturn, 1, 0, 0, 0, nI 0, 0, []), (14, .iconst 0, 1, 0, 0, 0, nI 0, 0, []), (15, .istore_n 2, 1, 2, 0, 0, nI 0, 0, [])],
  [(16, .iload_n 2, 1, 2, 0, 0, nI 0, 0, []), (17, .iload_n 1, 1, 1, 0, 0, nI 0, 0, []), (18, .if_icmp .ge 18, 3, 36, 0, 0, nI 0, 0, []), (21, .aload_n 0, 1, 0, 0, 0, nI 0, 0, []), (22, .invokevirtual 226, 3, 157, 1, 9, nI 0, 0, []), (25, .aload_n 0, 1, 0, 0, 0, nI 0, 0, []), (26, .iconst 0, 1, 0, 0, 0, nI 0, 0, []), (27, .invokevirtual 229, 3, 145, 2, 9, nI 0, 0, []), (30, .iinc 2 1, 3, 2, 0, 0, nI 1, 0, [])],
  [(33, .goto (-17), 3, 16, 0, 0, nI 0, 0, []), (36, .aload_n 0, 1, 0, 0, 0, nI 0, 0, []), (37, .getfield 7, 3, 9, 0, 0, nI 0, 0, []), (40, .bipush 47, 2, 0, 0, 0, nI 47, 0, []), (42, .iaload, 1, 0, 0, 0, nI 0, 0, []), (43, .ireturn, 1, 0, 0, 0, nI 0, 0, [])]]
def md_X9_day : MD := (9, yX9_day, cX9_day, 3, (some .int), false, rw_X9_day)
def rw_X9_effort : List (List Row) := [[(0, .aload_n 0, 1, 0, 0, 0, nI 0, 0, []), (1, .iload_n 1, 1, 1, 0, 0, nI 0, 0, []), (2, .invokevirtual 207, 3, 117, 2, 9, nI 0, 0, []), (5, .ifCond .ne 6, 3, 11, 0, 0, nI 0, 0, []), (8, .ldc 211, 2, 0, 0, 0, (-1000000001), 0, []), (10, .ireturn, 1, 0, 0, 0, nI 0, 0, []), (11, .iload_n 2, 1, 2, 0, 0, nI 0, 0, []), (12, .iconst 0, 1, 0, 0, 0, nI 0, 0, []), (13, .bipush 9, 2, 0, 0, 0, nI 9, 0, []), (15, .invokestatic 59, 3, 115, 3, 0, nI 0, 0, [])],
  [(18, .ifCond .ne 6, 3, 24, 0, 0, nI 0, 0, []), (21, .ldc 66, 2, 0, 0, 0, (-1000000002), 0, []), (23, .ireturn, 1, 0, 0, 0, nI 0, 0, []), (24, .aload_n 0, 1, 0, 0, 0, nI 0, 0, []), (25, .invokevirtual 226, 3, 157, 1, 9, nI 0, 0, []), (28, .aload_n 0, 1, 0, 0, 0, nI 0, 0, []), (29, .getfield 7, 3, 9, 0, 0, nI 0, 0, [])],
  [(32, .bipush 21, 2, 0, 0, 0, nI 21, 0, []), (34, .iload_n 1, 1, 1, 0, 0, nI 0, 0, []), (35, .iadd, 1, 0, 0, 0, nI 0, 0, []), (36, .iaload, 1, 0, 0, 0, nI 0, 0, []), (37, .istore_n 3, 1, 3, 0, 0, nI 0, 0, []), (38, .aload_n 0, 1, 0, 0, 0, nI 0, 0, []), (39, .getfield 7, 3, 9, 0, 0, nI 0, 0, []), (42, .bipush 21, 2, 0, 0, 0, nI 21, 0, []), (44, .iload_n 1, 1, 1, 0, 0, nI 0, 0, []), (45, .iadd, 1, 0, 0, 0, nI 0, 0, []), (46, .iload_n 2, 1, 2, 0, 0, nI 0, 0, []), (47, .iastore, 1, 0, 0, 0, nI 0, 0, [])],
  [(48, .iload_n 3, 1, 3, 0, 0, nI 0, 0, []), (49, .ireturn, 1, 0, 0, 0, nI 0, 0, [])]]
def md_X9_effort : MD := (9, yX9_effort, cX9_effort, 4, (some .int), false, rw_X9_effort)
def rw_X9_rain : List (List Row) := [[(0, .aload_n 0, 1, 0, 0, 0, nI 0, 0, []), (1, .getfield 22, 3, 9, 4, 0, nI 0, 0, []), (4, .iconst (-1), 1, 0, 0, 0, (-1), 0, []), (5, .if_icmp .ne 6, 3, 11, 0, 0, nI 0, 0, []), (8, .ldc 218, 2, 0, 0, 0, (-1000000003), 0, []), (10, .ireturn, 1, 0, 0, 0, nI 0, 0, []), (11, .aload_n 0, 1, 0, 0, 0, nI 0, 0, []), (12, .invokevirtual 226, 3, 157, 1, 9, nI 0, 0, []), (15, .aload_n 0, 1, 0, 0, 0, nI 0, 0, [])],
  [(16, .getfield 7, 3, 9, 0, 0, nI 0, 0, []), (19, .bipush 46, 2, 0, 0, 0, nI 46, 0, []), (21, .iaload, 1, 0, 0, 0, nI 0, 0, []), (22, .istore_n 2, 1, 2, 0, 0, nI 0, 0, []), (23, .aload_n 0, 1, 0, 0, 0, nI 0, 0, []), (24, .getfield 7, 3, 9, 0, 0, nI 0, 0, []), (27, .bipush 46, 2, 0, 0, 0, nI 46, 0, []), (29, .iload_n 1, 1, 1, 0, 0, nI 0, 0, []), (30, .ifCond .eq 7, 3, 37, 0, 0, nI 0, 0, [])],
  [(33, .iconst 1, 1, 0, 0, 0, nI 1, 0, []), (34, .goto 4, 3, 38, 0, 0, nI 0, 0, []), (37, .iconst 0, 1, 0, 0, 0, nI 0, 0, []), (38, .iastore, 1, 0, 0, 0, nI 0, 0, []), (39, .iload_n 2, 1, 2, 0, 0, nI 0, 0, []), (40, .ireturn, 1, 0, 0, 0, nI 0, 0, [])]]
def md_X9_rain : MD := (9, yX9_rain, cX9_rain, 3, (some .int), false, rw_X9_rain)
def rw_X9_teach : List (List Row) := [[(0, .aload_n 0, 1, 0, 0, 0, nI 0, 0, []), (1, .iload_n 1, 1, 1, 0, 0, nI 0, 0, []), (2, .invokevirtual 207, 3, 117, 2, 9, nI 0, 0, []), (5, .ifCond .ne 6, 3, 11, 0, 0, nI 0, 0, []), (8, .ldc 211, 2, 0, 0, 0, (-1000000001), 0, []), (10, .ireturn, 1, 0, 0, 0, nI 0, 0, []), (11, .iload_n 2, 1, 2, 0, 0, nI 0, 0, []), (12, .iconst 0, 1, 0, 0, 0, nI 0, 0, []), (13, .iconst 2, 1, 0, 0, 0, nI 2, 0, []), (14, .invokestatic 59, 3, 115, 3, 0, nI 0, 0, [])],
  [(17, .ifCond .eq 13, 3, 30, 0, 0, nI 0, 0, []), (20, .iload_n 3, 1, 3, 0, 0, nI 0, 0, []), (21, .iconst 0, 1, 0, 0, 0, nI 0, 0, []), (22, .bipush 9, 2, 0, 0, 0, nI 9, 0, []), (24, .invokestatic 59, 3, 115, 3, 0, nI 0, 0, []), (27, .ifCond .ne 6, 3, 33, 0, 0, nI 0, 0, []), (30, .ldc 66, 2, 0, 0, 0, (-1000000002), 0, [])],
  [(32, .ireturn, 1, 0, 0, 0, nI 0, 0, []), (33, .aload_n 0, 1, 0, 0, 0, nI 0, 0, []), (34, .invokevirtual 226, 3, 157, 1, 9, nI 0, 0, []), (37, .aload_n 0, 1, 0, 0, 0, nI 0, 0, []), (38, .getfield 7, 3, 9, 0, 0, nI 0, 0, []), (41, .iconst 3, 1, 0, 0, 0, nI 3, 0, []), (42, .iload_n 1, 1, 1, 0, 0, nI 0, 0, []), (43, .imul, 1, 0, 0, 0, nI 0, 0, []), (44, .iload_n 2, 1, 2, 0, 0, nI 0, 0, []), (45, .iadd, 1, 0, 0, 0, nI 0, 0, []), (46, .iaload, 1, 0, 0, 0, nI 0, 0, []), (47, .istore 4, 2, 4, 0, 0, nI 0, 0, [])],
  [(49, .aload_n 0, 1, 0, 0, 0, nI 0, 0, []), (50, .getfield 7, 3, 9, 0, 0, nI 0, 0, []), (53, .iconst 3, 1, 0, 0, 0, nI 3, 0, []), (54, .iload_n 1, 1, 1, 0, 0, nI 0, 0, []), (55, .imul, 1, 0, 0, 0, nI 0, 0, []), (56, .iload_n 2, 1, 2, 0, 0, nI 0, 0, []), (57, .iadd, 1, 0, 0, 0, nI 0, 0, []), (58, .iload_n 3, 1, 3, 0, 0, nI 0, 0, []), (59, .iastore, 1, 0, 0, 0, nI 0, 0, []), (60, .iload 4, 2, 4, 0, 0, nI 0, 0, []), (62, .ireturn, 1, 0, 0, 0, nI 0, 0, [])]]
def md_X9_teach : MD := (9, yX9_teach, cX9_teach, 5, (some .int), false, rw_X9_teach)
def rw_X9_bits : List (List Row) := [[(0, .iconst 0, 1, 0, 0, 0, nI 0, 0, []), (1, .istore_n 1, 1, 1, 0, 0, nI 0, 0, []), (2, .iconst 0, 1, 0, 0, 0, nI 0, 0, []), (3, .istore_n 2, 1, 2, 0, 0, nI 0, 0, []), (4, .iload_n 2, 1, 2, 0, 0, nI 0, 0, []), (5, .bipush 7, 2, 0, 0, 0, nI 7, 0, []), (7, .if_icmp .ge 17, 3, 24, 0, 0, nI 0, 0, []), (10, .iload_n 1, 1, 1, 0, 0, nI 0, 0, []), (11, .iload_n 0, 1, 0, 0, 0, nI 0, 0, []), (12, .iload_n 2, 1, 2, 0, 0, nI 0, 0, []), (13, .ishr, 1, 0, 0, 0, nI 0, 0, []), (14, .iconst 1, 1, 0, 0, 0, nI 1, 0, []), (15, .iand, 1, 0, 0, 0, nI 0, 0, [])],
  [(16, .iadd, 1, 0, 0, 0, nI 0, 0, []), (17, .istore_n 1, 1, 1, 0, 0, nI 0, 0, []), (18, .iinc 2 1, 3, 2, 0, 0, nI 1, 0, []), (21, .goto (-17), 3, 4, 0, 0, nI 0, 0, []), (24, .iload_n 1, 1, 1, 0, 0, nI 0, 0, []), (25, .ireturn, 1, 0, 0, 0, nI 0, 0, [])]]
def md_X9_bits : MD := (9, yX9_bits, cX9_bits, 3, (some .int), false, rw_X9_bits)
def rw_X9_send : List (List Row) := [[(0, .aload_n 0, 1, 0, 0, 0, nI 0, 0, []), (1, .iload_n 1, 1, 1, 0, 0, nI 0, 0, []), (2, .invokevirtual 207, 3, 117, 2, 9, nI 0, 0, []), (5, .ifCond .ne 6, 3, 11, 0, 0, nI 0, 0, []), (8, .ldc 211, 2, 0, 0, 0, (-1000000001), 0, []), (10, .ireturn, 1, 0, 0, 0, nI 0, 0, []), (11, .aload_n 0, 1, 0, 0, 0, nI 0, 0, []), (12, .iconst 0, 1, 0, 0, 0, nI 0, 0, []), (13, .iload_n 1, 1, 1, 0, 0, nI 0, 0, []), (14, .invokevirtual 148, 3, 134, 3, 9, nI 0, 0, [])],
  [(17, .ifCond .ne 6, 3, 23, 0, 0, nI 0, 0, []), (20, .ldc 218, 2, 0, 0, 0, (-1000000003), 0, []), (22, .ireturn, 1, 0, 0, 0, nI 0, 0, []), (23, .aload_n 0, 1, 0, 0, 0, nI 0, 0, []), (24, .invokevirtual 226, 3, 157, 1, 9, nI 0, 0, []), (27, .aload_n 0, 1, 0, 0, 0, nI 0, 0, []), (28, .iconst 0, 1, 0, 0, 0, nI 0, 0, []), (29, .iload_n 1, 1, 1, 0, 0, nI 0, 0, []), (30, .invokevirtual 176, 3, 140, 3, 9, nI 0, 0, [])],
  [(33, .aload_n 0, 1, 0, 0, 0, nI 0, 0, []), (34, .iconst 0, 1, 0, 0, 0, nI 0, 0, []), (35, .invokevirtual 163, 3, 135, 2, 9, nI 0, 0, []), (38, .invokestatic 232, 3, 163, 1, 0, nI 0, 0, []), (41, .ireturn, 1, 0, 0, 0, nI 0, 0, [])]]
def md_X9_send : MD := (9, yX9_send, cX9_send, 2, (some .int), false, rw_X9_send)
def rw_X9_recall : List (List Row) := [[(0, .aload_n 0, 1, 0, 0, 0, nI 0, 0, []), (1, .iload_n 1, 1, 1, 0, 0, nI 0, 0, []), (2, .invokevirtual 207, 3, 117, 2, 9, nI 0, 0, []), (5, .ifCond .ne 6, 3, 11, 0, 0, nI 0, 0, []), (8, .ldc 211, 2, 0, 0, 0, (-1000000001), 0, []), (10, .ireturn, 1, 0, 0, 0, nI 0, 0, []), (11, .aload_n 0, 1, 0, 0, 0, nI 0, 0, []), (12, .iconst 0, 1, 0, 0, 0, nI 0, 0, []), (13, .iload_n 1, 1, 1, 0, 0, nI 0, 0, []), (14, .invokevirtual 148, 3, 134, 3, 9, nI 0, 0, [])],
  [(17, .ifCond .eq 6, 3, 23, 0, 0, nI 0, 0, []), (20, .ldc 218, 2, 0, 0, 0, (-1000000003), 0, []), (22, .ireturn, 1, 0, 0, 0, nI 0, 0, []), (23, .aload_n 0, 1, 0, 0, 0, nI 0, 0, []), (24, .invokevirtual 226, 3, 157, 1, 9, nI 0, 0, []), (27, .aload_n 0, 1, 0, 0, 0, nI 0, 0, []), (28, .getfield 7, 3, 9, 0, 0, nI 0, 0, []), (31, .bipush 28, 2, 0, 0, 0, nI 28, 0, [])],
  [(33, .iload_n 1, 1, 1, 0, 0, nI 0, 0, []), (34, .iadd, 1, 0, 0, 0, nI 0, 0, []), (35, .iconst 0, 1, 0, 0, 0, nI 0, 0, []), (36, .iastore, 1, 0, 0, 0, nI 0, 0, []), (37, .aload_n 0, 1, 0, 0, 0, nI 0, 0, []), (38, .iconst 0, 1, 0, 0, 0, nI 0, 0, []), (39, .invokevirtual 163, 3, 135, 2, 9, nI 0, 0, []), (42, .invokestatic 232, 3, 163, 1, 0, nI 0, 0, []), (45, .ireturn, 1, 0, 0, 0, nI 0, 0, [])]]
def md_X9_recall : MD := (9, yX9_recall, cX9_recall, 2, (some .int), false, rw_X9_recall)
def rw_X9_draw : List (List Row) := [[(0, .aload_n 0, 1, 0, 0, 0, nI 0, 0, []), (1, .getfield 7, 3, 9, 0, 0, nI 0, 0, []), (4, .sipush 129, 3, 0, 0, 0, nI 129, 0, []), (7, .aload_n 0, 1, 0, 0, 0, nI 0, 0, []), (8, .getfield 7, 3, 9, 0, 0, nI 0, 0, []), (11, .sipush 129, 3, 0, 0, 0, nI 129, 0, []), (14, .iaload, 1, 0, 0, 0, nI 0, 0, []), (15, .i2l, 1, 0, 0, 0, nI 0, 0, [])],
  [(16, .ldc2_w 235, 3, 0, 0, 0, nI 0, 1103515245, []), (19, .lmul, 1, 0, 0, 0, nI 0, 0, []), (20, .ldc2_w 237, 3, 0, 0, 0, nI 0, 12345, []), (23, .ladd, 1, 0, 0, 0, nI 0, 0, []), (24, .ldc2_w 239, 3, 0, 0, 0, nI 0, 2147483648, []), (27, .lrem, 1, 0, 0, 0, nI 0, 0, []), (28, .l2i, 1, 0, 0, 0, nI 0, 0, []), (29, .iastore, 1, 0, 0, 0, nI 0, 0, []), (30, .aload_n 0, 1, 0, 0, 0, nI 0, 0, []), (31, .getfield 7, 3, 9, 0, 0, nI 0, 0, [])],
  [(34, .sipush 129, 3, 0, 0, 0, nI 129, 0, []), (37, .iaload, 1, 0, 0, 0, nI 0, 0, []), (38, .ldc 241, 2, 0, 0, 0, nI 65536, 0, []), (40, .idiv, 1, 0, 0, 0, nI 0, 0, []), (41, .iload_n 1, 1, 1, 0, 0, nI 0, 0, []), (42, .irem, 1, 0, 0, 0, nI 0, 0, []), (43, .ireturn, 1, 0, 0, 0, nI 0, 0, [])]]
def md_X9_draw : MD := (9, yX9_draw, cX9_draw, 2, (some .int), false, rw_X9_draw)
def rw_X9_drift : List (List Row) := [[(0, .aload_n 0, 1, 0, 0, 0, nI 0, 0, []), (1, .iload_n 1, 1, 1, 0, 0, nI 0, 0, []), (2, .invokevirtual 223, 3, 158, 2, 9, nI 0, 0, []), (5, .ifCond .ge 9, 3, 14, 0, 0, nI 0, 0, []), (8, .aload_n 0, 1, 0, 0, 0, nI 0, 0, []), (9, .iload_n 1, 1, 1, 0, 0, nI 0, 0, []), (10, .invokevirtual 223, 3, 158, 2, 9, nI 0, 0, []), (13, .ireturn, 1, 0, 0, 0, nI 0, 0, []), (14, .iconst 0, 1, 0, 0, 0, nI 0, 0, []), (15, .istore_n 2, 1, 2, 0, 0, nI 0, 0, [])],
  [(16, .iload_n 2, 1, 2, 0, 0, nI 0, 0, []), (17, .iload_n 1, 1, 1, 0, 0, nI 0, 0, []), (18, .if_icmp .ge 69, 3, 87, 0, 0, nI 0, 0, []), (21, .aload_n 0, 1, 0, 0, 0, nI 0, 0, []), (22, .invokevirtual 226, 3, 157, 1, 9, nI 0, 0, []), (25, .aload_n 0, 1, 0, 0, 0, nI 0, 0, []), (26, .getfield 56, 3, 9, 6, 0, nI 0, 0, []), (29, .ifCond .le 27, 3, 56, 0, 0, nI 0, 0, [])],
  [(32, .aload_n 0, 1, 0, 0, 0, nI 0, 0, []), (33, .aload_n 0, 1, 0, 0, 0, nI 0, 0, []), (34, .getfield 56, 3, 9, 6, 0, nI 0, 0, []), (37, .invokevirtual 242, 3, 166, 2, 9, nI 0, 0, []), (40, .istore_n 3, 1, 3, 0, 0, nI 0, 0, []), (41, .aload_n 0, 1, 0, 0, 0, nI 0, 0, []), (42, .getfield 7, 3, 9, 0, 0, nI 0, 0, []), (45, .bipush 21, 2, 0, 0, 0, nI 21, 0, []), (47, .iload_n 3, 1, 3, 0, 0, nI 0, 0, [])],
  [(48, .iadd, 1, 0, 0, 0, nI 0, 0, []), (49, .aload_n 0, 1, 0, 0, 0, nI 0, 0, []), (50, .bipush 10, 2, 0, 0, 0, nI 10, 0, []), (52, .invokevirtual 242, 3, 166, 2, 9, nI 0, 0, []), (55, .iastore, 1, 0, 0, 0, nI 0, 0, []), (56, .aload_n 0, 1, 0, 0, 0, nI 0, 0, []), (57, .getfield 7, 3, 9, 0, 0, nI 0, 0, []), (60, .bipush 46, 2, 0, 0, 0, nI 46, 0, []), (62, .aload_n 0, 1, 0, 0, 0, nI 0, 0, []), (63, .iconst 4, 1, 0, 0, 0, nI 4, 0, [])],
  [(64, .invokevirtual 242, 3, 166, 2, 9, nI 0, 0, []), (67, .ifCond .ne 7, 3, 74, 0, 0, nI 0, 0, []), (70, .iconst 1, 1, 0, 0, 0, nI 1, 0, []), (71, .goto 4, 3, 75, 0, 0, nI 0, 0, []), (74, .iconst 0, 1, 0, 0, 0, nI 0, 0, []), (75, .iastore, 1, 0, 0, 0, nI 0, 0, []), (76, .aload_n 0, 1, 0, 0, 0, nI 0, 0, []), (77, .iconst 0, 1, 0, 0, 0, nI 0, 0, []), (78, .invokevirtual 229, 3, 145, 2, 9, nI 0, 0, [])],
  [(81, .iinc 2 1, 3, 2, 0, 0, nI 1, 0, []), (84, .goto (-68), 3, 16, 0, 0, nI 0, 0, []), (87, .aload_n 0, 1, 0, 0, 0, nI 0, 0, []), (88, .getfield 7, 3, 9, 0, 0, nI 0, 0, []), (91, .bipush 47, 2, 0, 0, 0, nI 47, 0, []), (93, .iaload, 1, 0, 0, 0, nI 0, 0, []), (94, .ireturn, 1, 0, 0, 0, nI 0, 0, [])]]
def md_X9_drift : MD := (9, yX9_drift, cX9_drift, 4, (some .int), false, rw_X9_drift)
def rw_X9_undo : List (List Row) := [[(0, .iload_n 1, 1, 1, 0, 0, nI 0, 0, []), (1, .iconst 1, 1, 0, 0, 0, nI 1, 0, []), (2, .bipush 30, 2, 0, 0, 0, nI 30, 0, []), (4, .invokestatic 59, 3, 115, 3, 0, nI 0, 0, []), (7, .ifCond .ne 6, 3, 13, 0, 0, nI 0, 0, []), (10, .ldc 66, 2, 0, 0, 0, (-1000000002), 0, []), (12, .ireturn, 1, 0, 0, 0, nI 0, 0, []), (13, .iload_n 1, 1, 1, 0, 0, nI 0, 0, []), (14, .aload_n 0, 1, 0, 0, 0, nI 0, 0, []), (15, .getfield 136, 3, 9, 9, 0, nI 0, 0, [])],
  [(18, .if_icmp .le 6, 3, 24, 0, 0, nI 0, 0, []), (21, .ldc 218, 2, 0, 0, 0, (-1000000003), 0, []), (23, .ireturn, 1, 0, 0, 0, nI 0, 0, []), (24, .aload_n 0, 1, 0, 0, 0, nI 0, 0, []), (25, .dup, 1, 0, 0, 0, nI 0, 0, []), (26, .getfield 136, 3, 9, 9, 0, nI 0, 0, []), (29, .iload_n 1, 1, 1, 0, 0, nI 0, 0, []), (30, .isub, 1, 0, 0, 0, nI 0, 0, []), (31, .putfield 136, 3, 9, 9, 0, nI 0, 0, [])],
  [(34, .aload_n 0, 1, 0, 0, 0, nI 0, 0, []), (35, .getfield 7, 3, 9, 0, 0, nI 0, 0, []), (38, .sipush 129, 3, 0, 0, 0, nI 129, 0, []), (41, .iaload, 1, 0, 0, 0, nI 0, 0, []), (42, .istore_n 2, 1, 2, 0, 0, nI 0, 0, []), (43, .aload_n 0, 1, 0, 0, 0, nI 0, 0, []), (44, .sipush 520, 3, 0, 0, 0, nI 520, 0, []), (47, .sipush 130, 3, 0, 0, 0, nI 130, 0, [])],
  [(50, .aload_n 0, 1, 0, 0, 0, nI 0, 0, []), (51, .getfield 136, 3, 9, 9, 0, nI 0, 0, []), (54, .imul, 1, 0, 0, 0, nI 0, 0, []), (55, .iadd, 1, 0, 0, 0, nI 0, 0, []), (56, .iconst 0, 1, 0, 0, 0, nI 0, 0, []), (57, .invokevirtual 219, 3, 119, 3, 9, nI 0, 0, []), (60, .aload_n 0, 1, 0, 0, 0, nI 0, 0, []), (61, .getfield 7, 3, 9, 0, 0, nI 0, 0, [])],
  [(64, .sipush 129, 3, 0, 0, 0, nI 129, 0, []), (67, .iload_n 2, 1, 2, 0, 0, nI 0, 0, []), (68, .iastore, 1, 0, 0, 0, nI 0, 0, []), (69, .aload_n 0, 1, 0, 0, 0, nI 0, 0, []), (70, .getfield 7, 3, 9, 0, 0, nI 0, 0, []), (73, .bipush 47, 2, 0, 0, 0, nI 47, 0, []), (75, .iaload, 1, 0, 0, 0, nI 0, 0, []), (76, .ireturn, 1, 0, 0, 0, nI 0, 0, [])]]
def md_X9_undo : MD := (9, yX9_undo, cX9_undo, 3, (some .int), false, rw_X9_undo)
def rw_X9_isKind : List (List Row) := [[(0, .iload_n 0, 1, 0, 0, 0, nI 0, 0, []), (1, .iconst 0, 1, 0, 0, 0, nI 0, 0, []), (2, .iconst 2, 1, 0, 0, 0, nI 2, 0, []), (3, .invokestatic 59, 3, 115, 3, 0, nI 0, 0, []), (6, .ireturn, 1, 0, 0, 0, nI 0, 0, [])]]
def md_X9_isKind : MD := (9, yX9_isKind, cX9_isKind, 1, (some .boolean), false, rw_X9_isKind)
def rw_X9_mark : List (List Row) := [[(0, .aload_n 0, 1, 0, 0, 0, nI 0, 0, []), (1, .iload_n 1, 1, 1, 0, 0, nI 0, 0, []), (2, .invokevirtual 207, 3, 117, 2, 9, nI 0, 0, []), (5, .ifCond .ne 6, 3, 11, 0, 0, nI 0, 0, []), (8, .ldc 211, 2, 0, 0, 0, (-1000000001), 0, []), (10, .ireturn, 1, 0, 0, 0, nI 0, 0, []), (11, .iload_n 2, 1, 2, 0, 0, nI 0, 0, []), (12, .invokestatic 245, 3, 169, 1, 0, nI 0, 0, []), (15, .ifCond .eq 13, 3, 28, 0, 0, nI 0, 0, [])],
  [(18, .aload_n 0, 1, 0, 0, 0, nI 0, 0, []), (19, .iconst 0, 1, 0, 0, 0, nI 0, 0, []), (20, .iload_n 1, 1, 1, 0, 0, nI 0, 0, []), (21, .iload_n 2, 1, 2, 0, 0, nI 0, 0, []), (22, .invokevirtual 152, 3, 133, 4, 9, nI 0, 0, []), (25, .goto 5, 3, 30, 0, 0, nI 0, 0, []), (28, .ldc 66, 2, 0, 0, 0, (-1000000002), 0, []), (30, .ireturn, 1, 0, 0, 0, nI 0, 0, [])]]
def md_X9_mark : MD := (9, yX9_mark, cX9_mark, 3, (some .int), false, rw_X9_mark)
def rw_X9_place : List (List Row) := [[(0, .aload_n 0, 1, 0, 0, 0, nI 0, 0, []), (1, .iload_n 1, 1, 1, 0, 0, nI 0, 0, []), (2, .invokevirtual 207, 3, 117, 2, 9, nI 0, 0, []), (5, .ifCond .ne 6, 3, 11, 0, 0, nI 0, 0, []), (8, .ldc 211, 2, 0, 0, 0, (-1000000001), 0, []), (10, .ireturn, 1, 0, 0, 0, nI 0, 0, []), (11, .iload_n 2, 1, 2, 0, 0, nI 0, 0, []), (12, .invokestatic 245, 3, 169, 1, 0, nI 0, 0, []), (15, .ifCond .ne 6, 3, 21, 0, 0, nI 0, 0, [])],
  [(18, .ldc 66, 2, 0, 0, 0, (-1000000002), 0, []), (20, .ireturn, 1, 0, 0, 0, nI 0, 0, []), (21, .aload_n 0, 1, 0, 0, 0, nI 0, 0, []), (22, .iconst 0, 1, 0, 0, 0, nI 0, 0, []), (23, .iload_n 1, 1, 1, 0, 0, nI 0, 0, []), (24, .invokevirtual 148, 3, 134, 3, 9, nI 0, 0, []), (27, .ifCond .ne 5, 3, 32, 0, 0, nI 0, 0, []), (30, .iconst (-1), 1, 0, 0, 0, (-1), 0, []), (31, .ireturn, 1, 0, 0, 0, nI 0, 0, [])],
  [(32, .aload_n 0, 1, 0, 0, 0, nI 0, 0, []), (33, .iconst 0, 1, 0, 0, 0, nI 0, 0, []), (34, .iload_n 2, 1, 2, 0, 0, nI 0, 0, []), (35, .invokevirtual 170, 3, 138, 3, 9, nI 0, 0, []), (38, .istore_n 3, 1, 3, 0, 0, nI 0, 0, []), (39, .aload_n 0, 1, 0, 0, 0, nI 0, 0, []), (40, .iconst 0, 1, 0, 0, 0, nI 0, 0, []), (41, .invokevirtual 163, 3, 135, 2, 9, nI 0, 0, []), (44, .iload_n 3, 1, 3, 0, 0, nI 0, 0, []), (45, .iconst (-1), 1, 0, 0, 0, (-1), 0, []), (46, .ixor, 1, 0, 0, 0, nI 0, 0, []), (47, .iand, 1, 0, 0, 0, nI 0, 0, [])],
  [(48, .istore 4, 2, 4, 0, 0, nI 0, 0, []), (50, .iload_n 3, 1, 3, 0, 0, nI 0, 0, []), (51, .iload_n 1, 1, 1, 0, 0, nI 0, 0, []), (52, .invokestatic 156, 3, 116, 2, 0, nI 0, 0, []), (55, .ifCond .eq 7, 3, 62, 0, 0, nI 0, 0, []), (58, .iconst 0, 1, 0, 0, 0, nI 0, 0, []), (59, .goto 4, 3, 63, 0, 0, nI 0, 0, []), (62, .iconst 1, 1, 0, 0, 0, nI 1, 0, []), (63, .istore 5, 2, 5, 0, 0, nI 0, 0, [])],
  [(65, .iconst 0, 1, 0, 0, 0, nI 0, 0, []), (66, .istore 6, 2, 6, 0, 0, nI 0, 0, []), (68, .iload 6, 2, 6, 0, 0, nI 0, 0, []), (70, .aload_n 0, 1, 0, 0, 0, nI 0, 0, []), (71, .getfield 56, 3, 9, 6, 0, nI 0, 0, []), (74, .if_icmp .ge 55, 3, 129, 0, 0, nI 0, 0, []), (77, .iload 5, 2, 5, 0, 0, nI 0, 0, []), (79, .iload_n 3, 1, 3, 0, 0, nI 0, 0, [])],
  [(80, .iload_n 1, 1, 1, 0, 0, nI 0, 0, []), (81, .invokestatic 156, 3, 116, 2, 0, nI 0, 0, []), (84, .ifCond .ne 35, 3, 119, 0, 0, nI 0, 0, []), (87, .iload 6, 2, 6, 0, 0, nI 0, 0, []), (89, .iload_n 1, 1, 1, 0, 0, nI 0, 0, []), (90, .if_icmp .eq 29, 3, 119, 0, 0, nI 0, 0, []), (93, .iload 4, 2, 4, 0, 0, nI 0, 0, []), (95, .iload 6, 2, 6, 0, 0, nI 0, 0, [])],
  [(97, .invokestatic 156, 3, 116, 2, 0, nI 0, 0, []), (100, .ifCond .eq 19, 3, 119, 0, 0, nI 0, 0, []), (103, .aload_n 0, 1, 0, 0, 0, nI 0, 0, []), (104, .iconst 0, 1, 0, 0, 0, nI 0, 0, []), (105, .iload 6, 2, 6, 0, 0, nI 0, 0, []), (107, .iload_n 1, 1, 1, 0, 0, nI 0, 0, []), (108, .iload_n 2, 1, 2, 0, 0, nI 0, 0, []), (109, .invokevirtual 159, 3, 136, 5, 9, nI 0, 0, [])],
  [(112, .ifCond .eq 7, 3, 119, 0, 0, nI 0, 0, []), (115, .iconst 1, 1, 0, 0, 0, nI 1, 0, []), (116, .goto 4, 3, 120, 0, 0, nI 0, 0, []), (119, .iconst 0, 1, 0, 0, 0, nI 0, 0, []), (120, .iadd, 1, 0, 0, 0, nI 0, 0, []), (121, .istore 5, 2, 5, 0, 0, nI 0, 0, []), (123, .iinc 6 1, 3, 6, 0, 0, nI 1, 0, []), (126, .goto (-58), 3, 68, 0, 0, nI 0, 0, [])],
  [(129, .iload 5, 2, 5, 0, 0, nI 0, 0, []), (131, .ireturn, 1, 0, 0, 0, nI 0, 0, [])]]
def md_X9_place : MD := (9, yX9_place, cX9_place, 7, (some .int), false, rw_X9_place)
def rw_X9_wouldBe : List (List Row) := [[(0, .iload_n 1, 1, 1, 0, 0, nI 0, 0, []), (1, .invokestatic 245, 3, 169, 1, 0, nI 0, 0, []), (4, .ifCond .eq 12, 3, 16, 0, 0, nI 0, 0, []), (7, .iload_n 2, 1, 2, 0, 0, nI 0, 0, []), (8, .iconst 0, 1, 0, 0, 0, nI 0, 0, []), (9, .iconst 1, 1, 0, 0, 0, nI 1, 0, []), (10, .invokestatic 59, 3, 115, 3, 0, nI 0, 0, []), (13, .ifCond .ne 6, 3, 19, 0, 0, nI 0, 0, [])],
  [(16, .ldc 66, 2, 0, 0, 0, (-1000000002), 0, []), (18, .ireturn, 1, 0, 0, 0, nI 0, 0, []), (19, .iload_n 2, 1, 2, 0, 0, nI 0, 0, []), (20, .ifCond .ne 12, 3, 32, 0, 0, nI 0, 0, []), (23, .aload_n 0, 1, 0, 0, 0, nI 0, 0, []), (24, .iconst 0, 1, 0, 0, 0, nI 0, 0, []), (25, .iload_n 1, 1, 1, 0, 0, nI 0, 0, []), (26, .invokevirtual 170, 3, 138, 3, 9, nI 0, 0, []), (29, .goto 9, 3, 38, 0, 0, nI 0, 0, [])],
  [(32, .aload_n 0, 1, 0, 0, 0, nI 0, 0, []), (33, .iconst 0, 1, 0, 0, 0, nI 0, 0, []), (34, .iload_n 1, 1, 1, 0, 0, nI 0, 0, []), (35, .invokevirtual 173, 3, 139, 3, 9, nI 0, 0, []), (38, .ireturn, 1, 0, 0, 0, nI 0, 0, [])]]
def md_X9_wouldBe : MD := (9, yX9_wouldBe, cX9_wouldBe, 3, (some .int), false, rw_X9_wouldBe)
def rw_X9_holds : List (List Row) := [[(0, .aload_n 0, 1, 0, 0, 0, nI 0, 0, []), (1, .iload_n 1, 1, 1, 0, 0, nI 0, 0, []), (2, .invokevirtual 215, 3, 118, 2, 9, nI 0, 0, []), (5, .ifCond .ne 6, 3, 11, 0, 0, nI 0, 0, []), (8, .ldc 211, 2, 0, 0, 0, (-1000000001), 0, []), (10, .ireturn, 1, 0, 0, 0, nI 0, 0, []), (11, .iload_n 2, 1, 2, 0, 0, nI 0, 0, []), (12, .iconst 0, 1, 0, 0, 0, nI 0, 0, []), (13, .bipush 60, 2, 0, 0, 0, nI 60, 0, []), (15, .invokestatic 59, 3, 115, 3, 0, nI 0, 0, [])],
  [(18, .ifCond .ne 6, 3, 24, 0, 0, nI 0, 0, []), (21, .ldc 66, 2, 0, 0, 0, (-1000000002), 0, []), (23, .ireturn, 1, 0, 0, 0, nI 0, 0, []), (24, .aload_n 0, 1, 0, 0, 0, nI 0, 0, []), (25, .iconst 0, 1, 0, 0, 0, nI 0, 0, []), (26, .sipush 130, 3, 0, 0, 0, nI 130, 0, []), (29, .invokevirtual 219, 3, 119, 3, 9, nI 0, 0, [])],
  [(32, .iconst 0, 1, 0, 0, 0, nI 0, 0, []), (33, .istore_n 3, 1, 3, 0, 0, nI 0, 0, []), (34, .iload_n 3, 1, 3, 0, 0, nI 0, 0, []), (35, .iload_n 2, 1, 2, 0, 0, nI 0, 0, []), (36, .if_icmp .ge 16, 3, 52, 0, 0, nI 0, 0, []), (39, .aload_n 0, 1, 0, 0, 0, nI 0, 0, []), (40, .sipush 130, 3, 0, 0, 0, nI 130, 0, []), (43, .invokevirtual 229, 3, 145, 2, 9, nI 0, 0, []), (46, .iinc 3 1, 3, 3, 0, 0, nI 1, 0, [])],
  [(49, .goto (-15), 3, 34, 0, 0, nI 0, 0, []), (52, .aload_n 0, 1, 0, 0, 0, nI 0, 0, []), (53, .getfield 7, 3, 9, 0, 0, nI 0, 0, []), (56, .sipush 172, 3, 0, 0, 0, nI 172, 0, []), (59, .iload_n 1, 1, 1, 0, 0, nI 0, 0, []), (60, .iadd, 1, 0, 0, 0, nI 0, 0, []), (61, .iaload, 1, 0, 0, 0, nI 0, 0, []), (62, .ireturn, 1, 0, 0, 0, nI 0, 0, [])]]
def md_X9_holds : MD := (9, yX9_holds, cX9_holds, 4, (some .int), false, rw_X9_holds)
def rw_X9_effortsOf : List (List Row) := [[(0, .iconst 0, 1, 0, 0, 0, nI 0, 0, []), (1, .istore_n 3, 1, 3, 0, 0, nI 0, 0, []), (2, .aload_n 0, 1, 0, 0, 0, nI 0, 0, []), (3, .iconst 0, 1, 0, 0, 0, nI 0, 0, []), (4, .sipush 130, 3, 0, 0, 0, nI 130, 0, []), (7, .invokevirtual 219, 3, 119, 3, 9, nI 0, 0, []), (10, .iconst 0, 1, 0, 0, 0, nI 0, 0, []), (11, .istore 4, 2, 4, 0, 0, nI 0, 0, []), (13, .iload 4, 2, 4, 0, 0, nI 0, 0, []), (15, .bipush 10, 2, 0, 0, 0, nI 10, 0, [])],
  [(17, .if_icmp .ge 44, 3, 61, 0, 0, nI 0, 0, []), (20, .aload_n 0, 1, 0, 0, 0, nI 0, 0, []), (21, .getfield 7, 3, 9, 0, 0, nI 0, 0, []), (24, .sipush 151, 3, 0, 0, 0, nI 151, 0, []), (27, .iload_n 1, 1, 1, 0, 0, nI 0, 0, []), (28, .iadd, 1, 0, 0, 0, nI 0, 0, []), (29, .iload 4, 2, 4, 0, 0, nI 0, 0, []), (31, .iastore, 1, 0, 0, 0, nI 0, 0, [])],
  [(32, .iload_n 3, 1, 3, 0, 0, nI 0, 0, []), (33, .aload_n 0, 1, 0, 0, 0, nI 0, 0, []), (34, .sipush 130, 3, 0, 0, 0, nI 130, 0, []), (37, .iload_n 2, 1, 2, 0, 0, nI 0, 0, []), (38, .invokevirtual 173, 3, 139, 3, 9, nI 0, 0, []), (41, .iload_n 1, 1, 1, 0, 0, nI 0, 0, []), (42, .if_icmp .ne 10, 3, 52, 0, 0, nI 0, 0, []), (45, .iconst 1, 1, 0, 0, 0, nI 1, 0, []), (46, .iload 4, 2, 4, 0, 0, nI 0, 0, [])],
  [(48, .ishl, 1, 0, 0, 0, nI 0, 0, []), (49, .goto 4, 3, 53, 0, 0, nI 0, 0, []), (52, .iconst 0, 1, 0, 0, 0, nI 0, 0, []), (53, .ior, 1, 0, 0, 0, nI 0, 0, []), (54, .istore_n 3, 1, 3, 0, 0, nI 0, 0, []), (55, .iinc 4 1, 3, 4, 0, 0, nI 1, 0, []), (58, .goto (-45), 3, 13, 0, 0, nI 0, 0, []), (61, .iload_n 3, 1, 3, 0, 0, nI 0, 0, []), (62, .ireturn, 1, 0, 0, 0, nI 0, 0, [])]]
def md_X9_effortsOf : MD := (9, yX9_effortsOf, cX9_effortsOf, 5, (some .int), false, rw_X9_effortsOf)
def rw_X9_efforts : List (List Row) := [[(0, .aload_n 0, 1, 0, 0, 0, nI 0, 0, []), (1, .iload_n 1, 1, 1, 0, 0, nI 0, 0, []), (2, .invokevirtual 207, 3, 117, 2, 9, nI 0, 0, []), (5, .ifCond .ne 6, 3, 11, 0, 0, nI 0, 0, []), (8, .ldc 211, 2, 0, 0, 0, (-1000000001), 0, []), (10, .ireturn, 1, 0, 0, 0, nI 0, 0, []), (11, .iload_n 2, 1, 2, 0, 0, nI 0, 0, []), (12, .invokestatic 245, 3, 169, 1, 0, nI 0, 0, []), (15, .ifCond .ne 6, 3, 21, 0, 0, nI 0, 0, [])],
  [(18, .ldc 66, 2, 0, 0, 0, (-1000000002), 0, []), (20, .ireturn, 1, 0, 0, 0, nI 0, 0, []), (21, .aload_n 0, 1, 0, 0, 0, nI 0, 0, []), (22, .iconst 0, 1, 0, 0, 0, nI 0, 0, []), (23, .iload_n 1, 1, 1, 0, 0, nI 0, 0, []), (24, .invokevirtual 148, 3, 134, 3, 9, nI 0, 0, []), (27, .ifCond .eq 12, 3, 39, 0, 0, nI 0, 0, []), (30, .aload_n 0, 1, 0, 0, 0, nI 0, 0, []), (31, .iload_n 1, 1, 1, 0, 0, nI 0, 0, [])],
  [(32, .iload_n 2, 1, 2, 0, 0, nI 0, 0, []), (33, .invokevirtual 248, 3, 174, 3, 9, nI 0, 0, []), (36, .goto 5, 3, 41, 0, 0, nI 0, 0, []), (39, .ldc 218, 2, 0, 0, 0, (-1000000003), 0, []), (41, .ireturn, 1, 0, 0, 0, nI 0, 0, [])]]
def md_X9_efforts : MD := (9, yX9_efforts, cX9_efforts, 3, (some .int), false, rw_X9_efforts)
def rw_X9_restless : List (List Row) := [[(0, .iload_n 1, 1, 1, 0, 0, nI 0, 0, []), (1, .invokestatic 245, 3, 169, 1, 0, nI 0, 0, []), (4, .ifCond .ne 6, 3, 10, 0, 0, nI 0, 0, []), (7, .ldc 66, 2, 0, 0, 0, (-1000000002), 0, []), (9, .ireturn, 1, 0, 0, 0, nI 0, 0, []), (10, .iconst 0, 1, 0, 0, 0, nI 0, 0, []), (11, .istore_n 2, 1, 2, 0, 0, nI 0, 0, []), (12, .aload_n 0, 1, 0, 0, 0, nI 0, 0, []), (13, .iconst 0, 1, 0, 0, 0, nI 0, 0, []), (14, .iload_n 1, 1, 1, 0, 0, nI 0, 0, []), (15, .invokevirtual 173, 3, 139, 3, 9, nI 0, 0, [])],
  [(18, .istore_n 3, 1, 3, 0, 0, nI 0, 0, []), (19, .iconst 0, 1, 0, 0, 0, nI 0, 0, []), (20, .istore 4, 2, 4, 0, 0, nI 0, 0, []), (22, .iload 4, 2, 4, 0, 0, nI 0, 0, []), (24, .aload_n 0, 1, 0, 0, 0, nI 0, 0, []), (25, .getfield 56, 3, 9, 6, 0, nI 0, 0, []), (28, .if_icmp .ge 46, 3, 74, 0, 0, nI 0, 0, []), (31, .iload_n 2, 1, 2, 0, 0, nI 0, 0, [])],
  [(32, .aload_n 0, 1, 0, 0, 0, nI 0, 0, []), (33, .iconst 0, 1, 0, 0, 0, nI 0, 0, []), (34, .iload 4, 2, 4, 0, 0, nI 0, 0, []), (36, .invokevirtual 148, 3, 134, 3, 9, nI 0, 0, []), (39, .ifCond .eq 26, 3, 65, 0, 0, nI 0, 0, []), (42, .iload 4, 2, 4, 0, 0, nI 0, 0, []), (44, .iload_n 3, 1, 3, 0, 0, nI 0, 0, []), (45, .if_icmp .eq 20, 3, 65, 0, 0, nI 0, 0, [])],
  [(48, .aload_n 0, 1, 0, 0, 0, nI 0, 0, []), (49, .iload 4, 2, 4, 0, 0, nI 0, 0, []), (51, .iload_n 1, 1, 1, 0, 0, nI 0, 0, []), (52, .invokevirtual 248, 3, 174, 3, 9, nI 0, 0, []), (55, .ifCond .eq 10, 3, 65, 0, 0, nI 0, 0, []), (58, .iconst 1, 1, 0, 0, 0, nI 1, 0, []), (59, .iload 4, 2, 4, 0, 0, nI 0, 0, []), (61, .ishl, 1, 0, 0, 0, nI 0, 0, []), (62, .goto 4, 3, 66, 0, 0, nI 0, 0, [])],
  [(65, .iconst 0, 1, 0, 0, 0, nI 0, 0, []), (66, .ior, 1, 0, 0, 0, nI 0, 0, []), (67, .istore_n 2, 1, 2, 0, 0, nI 0, 0, []), (68, .iinc 4 1, 3, 4, 0, 0, nI 1, 0, []), (71, .goto (-49), 3, 22, 0, 0, nI 0, 0, []), (74, .iload_n 2, 1, 2, 0, 0, nI 0, 0, []), (75, .ireturn, 1, 0, 0, 0, nI 0, 0, [])]]
def md_X9_restless : MD := (9, yX9_restless, cX9_restless, 5, (some .int), false, rw_X9_restless)
def rw_X9_winsIf : List (List Row) := [[(0, .aload_n 0, 1, 0, 0, 0, nI 0, 0, []), (1, .iconst 0, 1, 0, 0, 0, nI 0, 0, []), (2, .sipush 130, 3, 0, 0, 0, nI 130, 0, []), (5, .invokevirtual 219, 3, 119, 3, 9, nI 0, 0, []), (8, .iconst 0, 1, 0, 0, 0, nI 0, 0, []), (9, .istore 4, 2, 4, 0, 0, nI 0, 0, []), (11, .iload 4, 2, 4, 0, 0, nI 0, 0, []), (13, .aload_n 0, 1, 0, 0, 0, nI 0, 0, []), (14, .getfield 56, 3, 9, 6, 0, nI 0, 0, [])],
  [(17, .if_icmp .ge 44, 3, 61, 0, 0, nI 0, 0, []), (20, .aload_n 0, 1, 0, 0, 0, nI 0, 0, []), (21, .getfield 7, 3, 9, 0, 0, nI 0, 0, []), (24, .sipush 151, 3, 0, 0, 0, nI 151, 0, []), (27, .iload 4, 2, 4, 0, 0, nI 0, 0, []), (29, .iadd, 1, 0, 0, 0, nI 0, 0, []), (30, .iload_n 3, 1, 3, 0, 0, nI 0, 0, []), (31, .iload 4, 2, 4, 0, 0, nI 0, 0, [])],
  [(33, .invokestatic 156, 3, 116, 2, 0, nI 0, 0, []), (36, .ifCond .eq 7, 3, 43, 0, 0, nI 0, 0, []), (39, .iconst 0, 1, 0, 0, 0, nI 0, 0, []), (40, .goto 14, 3, 54, 0, 0, nI 0, 0, []), (43, .aload_n 0, 1, 0, 0, 0, nI 0, 0, []), (44, .getfield 7, 3, 9, 0, 0, nI 0, 0, []), (47, .sipush 151, 3, 0, 0, 0, nI 151, 0, [])],
  [(50, .iload 4, 2, 4, 0, 0, nI 0, 0, []), (52, .iadd, 1, 0, 0, 0, nI 0, 0, []), (53, .iaload, 1, 0, 0, 0, nI 0, 0, []), (54, .iastore, 1, 0, 0, 0, nI 0, 0, []), (55, .iinc 4 1, 3, 4, 0, 0, nI 1, 0, []), (58, .goto (-47), 3, 11, 0, 0, nI 0, 0, []), (61, .aload_n 0, 1, 0, 0, 0, nI 0, 0, []), (62, .sipush 130, 3, 0, 0, 0, nI 130, 0, [])],
  [(65, .iload_n 2, 1, 2, 0, 0, nI 0, 0, []), (66, .invokevirtual 173, 3, 139, 3, 9, nI 0, 0, []), (69, .iload_n 1, 1, 1, 0, 0, nI 0, 0, []), (70, .if_icmp .ne 7, 3, 77, 0, 0, nI 0, 0, []), (73, .iconst 1, 1, 0, 0, 0, nI 1, 0, []), (74, .goto 4, 3, 78, 0, 0, nI 0, 0, []), (77, .iconst 0, 1, 0, 0, 0, nI 0, 0, []), (78, .ireturn, 1, 0, 0, 0, nI 0, 0, [])]]
def md_X9_winsIf : MD := (9, yX9_winsIf, cX9_winsIf, 5, (some .boolean), false, rw_X9_winsIf)
def rw_X9_letWin : List (List Row) := [[(0, .aload_n 0, 1, 0, 0, 0, nI 0, 0, []), (1, .iload_n 1, 1, 1, 0, 0, nI 0, 0, []), (2, .invokevirtual 207, 3, 117, 2, 9, nI 0, 0, []), (5, .ifCond .ne 6, 3, 11, 0, 0, nI 0, 0, []), (8, .ldc 211, 2, 0, 0, 0, (-1000000001), 0, []), (10, .ireturn, 1, 0, 0, 0, nI 0, 0, []), (11, .iload_n 2, 1, 2, 0, 0, nI 0, 0, []), (12, .invokestatic 245, 3, 169, 1, 0, nI 0, 0, []), (15, .ifCond .eq 12, 3, 27, 0, 0, nI 0, 0, [])],
  [(18, .iload_n 3, 1, 3, 0, 0, nI 0, 0, []), (19, .iconst 0, 1, 0, 0, 0, nI 0, 0, []), (20, .iconst 1, 1, 0, 0, 0, nI 1, 0, []), (21, .invokestatic 59, 3, 115, 3, 0, nI 0, 0, []), (24, .ifCond .ne 6, 3, 30, 0, 0, nI 0, 0, []), (27, .ldc 66, 2, 0, 0, 0, (-1000000002), 0, []), (29, .ireturn, 1, 0, 0, 0, nI 0, 0, []), (30, .aload_n 0, 1, 0, 0, 0, nI 0, 0, []), (31, .iconst 0, 1, 0, 0, 0, nI 0, 0, [])],
  [(32, .iload_n 1, 1, 1, 0, 0, nI 0, 0, []), (33, .invokevirtual 148, 3, 134, 3, 9, nI 0, 0, []), (36, .ifCond .ne 6, 3, 42, 0, 0, nI 0, 0, []), (39, .ldc 218, 2, 0, 0, 0, (-1000000003), 0, []), (41, .ireturn, 1, 0, 0, 0, nI 0, 0, []), (42, .aload_n 0, 1, 0, 0, 0, nI 0, 0, []), (43, .iconst 0, 1, 0, 0, 0, nI 0, 0, []), (44, .invokevirtual 163, 3, 135, 2, 9, nI 0, 0, []), (47, .iconst 1, 1, 0, 0, 0, nI 1, 0, [])],
  [(48, .iload_n 1, 1, 1, 0, 0, nI 0, 0, []), (49, .ishl, 1, 0, 0, 0, nI 0, 0, []), (50, .iconst (-1), 1, 0, 0, 0, (-1), 0, []), (51, .ixor, 1, 0, 0, 0, nI 0, 0, []), (52, .iand, 1, 0, 0, 0, nI 0, 0, []), (53, .istore 4, 2, 4, 0, 0, nI 0, 0, []), (55, .iconst (-1), 1, 0, 0, 0, (-1), 0, []), (56, .istore 5, 2, 5, 0, 0, nI 0, 0, []), (58, .bipush 8, 2, 0, 0, 0, nI 8, 0, []), (60, .istore 6, 2, 6, 0, 0, nI 0, 0, []), (62, .iconst 0, 1, 0, 0, 0, nI 0, 0, []), (63, .istore 7, 2, 7, 0, 0, nI 0, 0, [])],
  [(65, .iload 7, 2, 7, 0, 0, nI 0, 0, []), (67, .iconst 1, 1, 0, 0, 0, nI 1, 0, []), (68, .aload_n 0, 1, 0, 0, 0, nI 0, 0, []), (69, .getfield 56, 3, 9, 6, 0, nI 0, 0, []), (72, .ishl, 1, 0, 0, 0, nI 0, 0, []), (73, .if_icmp .ge 51, 3, 124, 0, 0, nI 0, 0, []), (76, .iload 7, 2, 7, 0, 0, nI 0, 0, []), (78, .iload 4, 2, 4, 0, 0, nI 0, 0, [])],
  [(80, .iconst (-1), 1, 0, 0, 0, (-1), 0, []), (81, .ixor, 1, 0, 0, 0, nI 0, 0, []), (82, .iand, 1, 0, 0, 0, nI 0, 0, []), (83, .ifCond .ne 35, 3, 118, 0, 0, nI 0, 0, []), (86, .iload 7, 2, 7, 0, 0, nI 0, 0, []), (88, .invokestatic 232, 3, 163, 1, 0, nI 0, 0, []), (91, .iload 6, 2, 6, 0, 0, nI 0, 0, []), (93, .if_icmp .ge 25, 3, 118, 0, 0, nI 0, 0, [])],
  [(96, .aload_n 0, 1, 0, 0, 0, nI 0, 0, []), (97, .iload_n 1, 1, 1, 0, 0, nI 0, 0, []), (98, .iload_n 2, 1, 2, 0, 0, nI 0, 0, []), (99, .iload 7, 2, 7, 0, 0, nI 0, 0, []), (101, .invokevirtual 251, 3, 177, 4, 9, nI 0, 0, []), (104, .ifCond .eq 14, 3, 118, 0, 0, nI 0, 0, []), (107, .iload 7, 2, 7, 0, 0, nI 0, 0, []), (109, .istore 5, 2, 5, 0, 0, nI 0, 0, []), (111, .iload 7, 2, 7, 0, 0, nI 0, 0, [])],
  [(113, .invokestatic 232, 3, 163, 1, 0, nI 0, 0, []), (116, .istore 6, 2, 6, 0, 0, nI 0, 0, []), (118, .iinc 7 1, 3, 7, 0, 0, nI 1, 0, []), (121, .goto (-56), 3, 65, 0, 0, nI 0, 0, []), (124, .iload 5, 2, 5, 0, 0, nI 0, 0, []), (126, .iconst (-1), 1, 0, 0, 0, (-1), 0, []), (127, .if_icmp .ne 7, 3, 134, 0, 0, nI 0, 0, [])],
  [(130, .iconst (-1), 1, 0, 0, 0, (-1), 0, []), (131, .goto 14, 3, 145, 0, 0, nI 0, 0, []), (134, .iload_n 3, 1, 3, 0, 0, nI 0, 0, []), (135, .ifCond .ne 8, 3, 143, 0, 0, nI 0, 0, []), (138, .iload 6, 2, 6, 0, 0, nI 0, 0, []), (140, .goto 5, 3, 145, 0, 0, nI 0, 0, []), (143, .iload 5, 2, 5, 0, 0, nI 0, 0, [])],
  [(145, .ireturn, 1, 0, 0, 0, nI 0, 0, [])]]
def md_X9_letWin : MD := (9, yX9_letWin, cX9_letWin, 8, (some .int), false, rw_X9_letWin)
def rw_X9_win : List (List Row) := [[(0, .aload_n 0, 1, 0, 0, 0, nI 0, 0, []), (1, .iload_n 1, 1, 1, 0, 0, nI 0, 0, []), (2, .invokevirtual 207, 3, 117, 2, 9, nI 0, 0, []), (5, .ifCond .eq 11, 3, 16, 0, 0, nI 0, 0, []), (8, .aload_n 0, 1, 0, 0, 0, nI 0, 0, []), (9, .iload_n 2, 1, 2, 0, 0, nI 0, 0, []), (10, .invokevirtual 215, 3, 118, 2, 9, nI 0, 0, []), (13, .ifCond .ne 6, 3, 19, 0, 0, nI 0, 0, [])],
  [(16, .ldc 211, 2, 0, 0, 0, (-1000000001), 0, []), (18, .ireturn, 1, 0, 0, 0, nI 0, 0, []), (19, .iload_n 3, 1, 3, 0, 0, nI 0, 0, []), (20, .iconst 1, 1, 0, 0, 0, nI 1, 0, []), (21, .bipush 60, 2, 0, 0, 0, nI 60, 0, []), (23, .invokestatic 59, 3, 115, 3, 0, nI 0, 0, []), (26, .ifCond .ne 6, 3, 32, 0, 0, nI 0, 0, []), (29, .ldc 66, 2, 0, 0, 0, (-1000000002), 0, []), (31, .ireturn, 1, 0, 0, 0, nI 0, 0, [])],
  [(32, .iconst 0, 1, 0, 0, 0, nI 0, 0, []), (33, .istore 4, 2, 4, 0, 0, nI 0, 0, []), (35, .iload 4, 2, 4, 0, 0, nI 0, 0, []), (37, .bipush 10, 2, 0, 0, 0, nI 10, 0, []), (39, .if_icmp .ge 68, 3, 107, 0, 0, nI 0, 0, []), (42, .aload_n 0, 1, 0, 0, 0, nI 0, 0, []), (43, .iconst 0, 1, 0, 0, 0, nI 0, 0, []), (44, .sipush 130, 3, 0, 0, 0, nI 130, 0, []), (47, .invokevirtual 219, 3, 119, 3, 9, nI 0, 0, [])],
  [(50, .aload_n 0, 1, 0, 0, 0, nI 0, 0, []), (51, .getfield 7, 3, 9, 0, 0, nI 0, 0, []), (54, .sipush 151, 3, 0, 0, 0, nI 151, 0, []), (57, .iload_n 1, 1, 1, 0, 0, nI 0, 0, []), (58, .iadd, 1, 0, 0, 0, nI 0, 0, []), (59, .iload 4, 2, 4, 0, 0, nI 0, 0, []), (61, .iastore, 1, 0, 0, 0, nI 0, 0, []), (62, .iconst 0, 1, 0, 0, 0, nI 0, 0, []), (63, .istore 5, 2, 5, 0, 0, nI 0, 0, [])],
  [(65, .iload 5, 2, 5, 0, 0, nI 0, 0, []), (67, .iload_n 3, 1, 3, 0, 0, nI 0, 0, []), (68, .if_icmp .ge 16, 3, 84, 0, 0, nI 0, 0, []), (71, .aload_n 0, 1, 0, 0, 0, nI 0, 0, []), (72, .sipush 130, 3, 0, 0, 0, nI 130, 0, []), (75, .invokevirtual 229, 3, 145, 2, 9, nI 0, 0, []), (78, .iinc 5 1, 3, 5, 0, 0, nI 1, 0, [])],
  [(81, .goto (-16), 3, 65, 0, 0, nI 0, 0, []), (84, .aload_n 0, 1, 0, 0, 0, nI 0, 0, []), (85, .getfield 7, 3, 9, 0, 0, nI 0, 0, []), (88, .sipush 172, 3, 0, 0, 0, nI 172, 0, []), (91, .iload_n 2, 1, 2, 0, 0, nI 0, 0, []), (92, .iadd, 1, 0, 0, 0, nI 0, 0, []), (93, .iaload, 1, 0, 0, 0, nI 0, 0, []), (94, .iload_n 1, 1, 1, 0, 0, nI 0, 0, []), (95, .if_icmp .ne 6, 3, 101, 0, 0, nI 0, 0, [])],
  [(98, .iload 4, 2, 4, 0, 0, nI 0, 0, []), (100, .ireturn, 1, 0, 0, 0, nI 0, 0, []), (101, .iinc 4 1, 3, 4, 0, 0, nI 1, 0, []), (104, .goto (-69), 3, 35, 0, 0, nI 0, 0, []), (107, .iconst (-1), 1, 0, 0, 0, (-1), 0, []), (108, .ireturn, 1, 0, 0, 0, nI 0, 0, [])]]
def md_X9_win : MD := (9, yX9_win, cX9_win, 6, (some .int), false, rw_X9_win)
def rw_X9_next : List (List Row) := [[(0, .aload_n 0, 1, 0, 0, 0, nI 0, 0, []), (1, .iload_n 1, 1, 1, 0, 0, nI 0, 0, []), (2, .invokevirtual 207, 3, 117, 2, 9, nI 0, 0, []), (5, .ifCond .ne 6, 3, 11, 0, 0, nI 0, 0, []), (8, .ldc 211, 2, 0, 0, 0, (-1000000001), 0, []), (10, .ireturn, 1, 0, 0, 0, nI 0, 0, []), (11, .iconst 0, 1, 0, 0, 0, nI 0, 0, []), (12, .istore_n 2, 1, 2, 0, 0, nI 0, 0, []), (13, .iconst 0, 1, 0, 0, 0, nI 0, 0, []), (14, .istore_n 3, 1, 3, 0, 0, nI 0, 0, []), (15, .iload_n 3, 1, 3, 0, 0, nI 0, 0, [])],
  [(16, .iconst 3, 1, 0, 0, 0, nI 3, 0, []), (17, .if_icmp .ge 29, 3, 46, 0, 0, nI 0, 0, []), (20, .iload_n 2, 1, 2, 0, 0, nI 0, 0, []), (21, .aload_n 0, 1, 0, 0, 0, nI 0, 0, []), (22, .iconst 0, 1, 0, 0, 0, nI 0, 0, []), (23, .iload_n 3, 1, 3, 0, 0, nI 0, 0, []), (24, .invokevirtual 173, 3, 139, 3, 9, nI 0, 0, []), (27, .iload_n 1, 1, 1, 0, 0, nI 0, 0, []), (28, .if_icmp .ne 9, 3, 37, 0, 0, nI 0, 0, []), (31, .iconst 1, 1, 0, 0, 0, nI 1, 0, [])],
  [(32, .iload_n 3, 1, 3, 0, 0, nI 0, 0, []), (33, .ishl, 1, 0, 0, 0, nI 0, 0, []), (34, .goto 4, 3, 38, 0, 0, nI 0, 0, []), (37, .iconst 0, 1, 0, 0, 0, nI 0, 0, []), (38, .ior, 1, 0, 0, 0, nI 0, 0, []), (39, .istore_n 2, 1, 2, 0, 0, nI 0, 0, []), (40, .iinc 3 1, 3, 3, 0, 0, nI 1, 0, []), (43, .goto (-28), 3, 15, 0, 0, nI 0, 0, []), (46, .iload_n 2, 1, 2, 0, 0, nI 0, 0, []), (47, .ireturn, 1, 0, 0, 0, nI 0, 0, [])]]
def md_X9_next : MD := (9, yX9_next, cX9_next, 4, (some .int), false, rw_X9_next)
def rw_X9_beats : List (List Row) := [[(0, .aload_n 0, 1, 0, 0, 0, nI 0, 0, []), (1, .iload_n 1, 1, 1, 0, 0, nI 0, 0, []), (2, .invokevirtual 207, 3, 117, 2, 9, nI 0, 0, []), (5, .ifCond .eq 16, 3, 21, 0, 0, nI 0, 0, []), (8, .aload_n 0, 1, 0, 0, 0, nI 0, 0, []), (9, .iload_n 2, 1, 2, 0, 0, nI 0, 0, []), (10, .invokevirtual 207, 3, 117, 2, 9, nI 0, 0, []), (13, .ifCond .eq 8, 3, 21, 0, 0, nI 0, 0, [])],
  [(16, .iload_n 1, 1, 1, 0, 0, nI 0, 0, []), (17, .iload_n 2, 1, 2, 0, 0, nI 0, 0, []), (18, .if_icmp .ne 6, 3, 24, 0, 0, nI 0, 0, []), (21, .ldc 211, 2, 0, 0, 0, (-1000000001), 0, []), (23, .ireturn, 1, 0, 0, 0, nI 0, 0, []), (24, .aload_n 0, 1, 0, 0, 0, nI 0, 0, []), (25, .iload_n 1, 1, 1, 0, 0, nI 0, 0, []), (26, .iload_n 2, 1, 2, 0, 0, nI 0, 0, []), (27, .invokevirtual 192, 3, 147, 3, 9, nI 0, 0, []), (30, .ifCond .eq 7, 3, 37, 0, 0, nI 0, 0, [])],
  [(33, .iconst 1, 1, 0, 0, 0, nI 1, 0, []), (34, .goto 4, 3, 38, 0, 0, nI 0, 0, []), (37, .iconst 0, 1, 0, 0, 0, nI 0, 0, []), (38, .ireturn, 1, 0, 0, 0, nI 0, 0, [])]]
def md_X9_beats : MD := (9, yX9_beats, cX9_beats, 3, (some .int), false, rw_X9_beats)
def rw_X9_spread : List (List Row) := [[(0, .iload_n 1, 1, 1, 0, 0, nI 0, 0, []), (1, .invokestatic 245, 3, 169, 1, 0, nI 0, 0, []), (4, .ifCond .ne 6, 3, 10, 0, 0, nI 0, 0, []), (7, .ldc 66, 2, 0, 0, 0, (-1000000002), 0, []), (9, .ireturn, 1, 0, 0, 0, nI 0, 0, []), (10, .iconst 0, 1, 0, 0, 0, nI 0, 0, []), (11, .istore_n 2, 1, 2, 0, 0, nI 0, 0, []), (12, .aload_n 0, 1, 0, 0, 0, nI 0, 0, []), (13, .getfield 56, 3, 9, 6, 0, nI 0, 0, [])],
  [(16, .ifCond .ne 7, 3, 23, 0, 0, nI 0, 0, []), (19, .iconst 0, 1, 0, 0, 0, nI 0, 0, []), (20, .goto 5, 3, 25, 0, 0, nI 0, 0, []), (23, .bipush 9, 2, 0, 0, 0, nI 9, 0, []), (25, .istore_n 3, 1, 3, 0, 0, nI 0, 0, []), (26, .iconst 0, 1, 0, 0, 0, nI 0, 0, []), (27, .istore 4, 2, 4, 0, 0, nI 0, 0, []), (29, .iload 4, 2, 4, 0, 0, nI 0, 0, []), (31, .aload_n 0, 1, 0, 0, 0, nI 0, 0, [])],
  [(32, .getfield 56, 3, 9, 6, 0, nI 0, 0, []), (35, .if_icmp .ge 48, 3, 83, 0, 0, nI 0, 0, []), (38, .aload_n 0, 1, 0, 0, 0, nI 0, 0, []), (39, .getfield 7, 3, 9, 0, 0, nI 0, 0, []), (42, .iconst 3, 1, 0, 0, 0, nI 3, 0, []), (43, .iload 4, 2, 4, 0, 0, nI 0, 0, []), (45, .imul, 1, 0, 0, 0, nI 0, 0, []), (46, .iload_n 1, 1, 1, 0, 0, nI 0, 0, []), (47, .iadd, 1, 0, 0, 0, nI 0, 0, [])],
  [(48, .iaload, 1, 0, 0, 0, nI 0, 0, []), (49, .istore 5, 2, 5, 0, 0, nI 0, 0, []), (51, .iload 5, 2, 5, 0, 0, nI 0, 0, []), (53, .iload_n 2, 1, 2, 0, 0, nI 0, 0, []), (54, .if_icmp .le 8, 3, 62, 0, 0, nI 0, 0, []), (57, .iload 5, 2, 5, 0, 0, nI 0, 0, []), (59, .goto 4, 3, 63, 0, 0, nI 0, 0, []), (62, .iload_n 2, 1, 2, 0, 0, nI 0, 0, []), (63, .istore_n 2, 1, 2, 0, 0, nI 0, 0, [])],
  [(64, .iload 5, 2, 5, 0, 0, nI 0, 0, []), (66, .iload_n 3, 1, 3, 0, 0, nI 0, 0, []), (67, .if_icmp .ge 8, 3, 75, 0, 0, nI 0, 0, []), (70, .iload 5, 2, 5, 0, 0, nI 0, 0, []), (72, .goto 4, 3, 76, 0, 0, nI 0, 0, []), (75, .iload_n 3, 1, 3, 0, 0, nI 0, 0, []), (76, .istore_n 3, 1, 3, 0, 0, nI 0, 0, []), (77, .iinc 4 1, 3, 4, 0, 0, nI 1, 0, [])],
  [(80, .goto (-51), 3, 29, 0, 0, nI 0, 0, []), (83, .iload_n 2, 1, 2, 0, 0, nI 0, 0, []), (84, .iload_n 3, 1, 3, 0, 0, nI 0, 0, []), (85, .isub, 1, 0, 0, 0, nI 0, 0, []), (86, .ireturn, 1, 0, 0, 0, nI 0, 0, [])]]
def md_X9_spread : MD := (9, yX9_spread, cX9_spread, 6, (some .int), false, rw_X9_spread)
def rw_X9_dry : List (List Row) := [[(0, .iload_n 1, 1, 1, 0, 0, nI 0, 0, []), (1, .iconst 0, 1, 0, 0, 0, nI 0, 0, []), (2, .bipush 60, 2, 0, 0, 0, nI 60, 0, []), (4, .invokestatic 59, 3, 115, 3, 0, nI 0, 0, []), (7, .ifCond .eq 13, 3, 20, 0, 0, nI 0, 0, []), (10, .iload_n 2, 1, 2, 0, 0, nI 0, 0, []), (11, .iconst 0, 1, 0, 0, 0, nI 0, 0, []), (12, .bipush 100, 2, 0, 0, 0, nI 100, 0, []), (14, .invokestatic 59, 3, 115, 3, 0, nI 0, 0, [])],
  [(17, .ifCond .ne 6, 3, 23, 0, 0, nI 0, 0, []), (20, .ldc 66, 2, 0, 0, 0, (-1000000002), 0, []), (22, .ireturn, 1, 0, 0, 0, nI 0, 0, []), (23, .ldc2_w 254, 3, 0, 0, 0, nI 0, 1000000000, []), (26, .lstore_n 3, 1, 3, 0, 0, nI 0, 0, []), (27, .iconst 0, 1, 0, 0, 0, nI 0, 0, []), (28, .istore 5, 2, 5, 0, 0, nI 0, 0, []), (30, .iload 5, 2, 5, 0, 0, nI 0, 0, [])],
  [(32, .iload_n 1, 1, 1, 0, 0, nI 0, 0, []), (33, .if_icmp .ge 18, 3, 51, 0, 0, nI 0, 0, []), (36, .lload_n 3, 1, 3, 0, 0, nI 0, 0, []), (37, .iload_n 2, 1, 2, 0, 0, nI 0, 0, []), (38, .i2l, 1, 0, 0, 0, nI 0, 0, []), (39, .lmul, 1, 0, 0, 0, nI 0, 0, []), (40, .ldc2_w 256, 3, 0, 0, 0, nI 0, 100, []), (43, .ldiv, 1, 0, 0, 0, nI 0, 0, []), (44, .lstore_n 3, 1, 3, 0, 0, nI 0, 0, []), (45, .iinc 5 1, 3, 5, 0, 0, nI 1, 0, [])],
  [(48, .goto (-18), 3, 30, 0, 0, nI 0, 0, []), (51, .lload_n 3, 1, 3, 0, 0, nI 0, 0, []), (52, .l2i, 1, 0, 0, 0, nI 0, 0, []), (53, .ireturn, 1, 0, 0, 0, nI 0, 0, [])]]
def md_X9_dry : MD := (9, yX9_dry, cX9_dry, 6, (some .int), false, rw_X9_dry)
def rw_X9_see : List (List Row) := [[(0, .iload_n 1, 1, 1, 0, 0, nI 0, 0, []), (1, .iconst 0, 1, 0, 0, 0, nI 0, 0, []), (2, .bipush 9, 2, 0, 0, 0, nI 9, 0, []), (4, .invokestatic 59, 3, 115, 3, 0, nI 0, 0, []), (7, .ifCond .eq 13, 3, 20, 0, 0, nI 0, 0, []), (10, .iload_n 2, 1, 2, 0, 0, nI 0, 0, []), (11, .iconst 0, 1, 0, 0, 0, nI 0, 0, []), (12, .bipush 99, 2, 0, 0, 0, nI 99, 0, []), (14, .invokestatic 59, 3, 115, 3, 0, nI 0, 0, [])],
  [(17, .ifCond .ne 6, 3, 23, 0, 0, nI 0, 0, []), (20, .ldc 66, 2, 0, 0, 0, (-1000000002), 0, []), (22, .ireturn, 1, 0, 0, 0, nI 0, 0, []), (23, .aload_n 0, 1, 0, 0, 0, nI 0, 0, []), (24, .getfield 142, 3, 9, 16, 0, nI 0, 0, []), (27, .bipush 6, 2, 0, 0, 0, nI 6, 0, []), (29, .if_icmp .ne 6, 3, 35, 0, 0, nI 0, 0, [])],
  [(32, .ldc 70, 2, 0, 0, 0, (-1000000004), 0, []), (34, .ireturn, 1, 0, 0, 0, nI 0, 0, []), (35, .aload_n 0, 1, 0, 0, 0, nI 0, 0, []), (36, .getfield 32, 3, 9, 14, 0, nI 0, 0, []), (39, .aload_n 0, 1, 0, 0, 0, nI 0, 0, []), (40, .getfield 142, 3, 9, 16, 0, nI 0, 0, []), (43, .iload_n 1, 1, 1, 0, 0, nI 0, 0, []), (44, .iastore, 1, 0, 0, 0, nI 0, 0, []), (45, .aload_n 0, 1, 0, 0, 0, nI 0, 0, []), (46, .getfield 35, 3, 9, 15, 0, nI 0, 0, [])],
  [(49, .aload_n 0, 1, 0, 0, 0, nI 0, 0, []), (50, .getfield 142, 3, 9, 16, 0, nI 0, 0, []), (53, .iload_n 2, 1, 2, 0, 0, nI 0, 0, []), (54, .iastore, 1, 0, 0, 0, nI 0, 0, []), (55, .aload_n 0, 1, 0, 0, 0, nI 0, 0, []), (56, .dup, 1, 0, 0, 0, nI 0, 0, []), (57, .getfield 142, 3, 9, 16, 0, nI 0, 0, []), (60, .iconst 1, 1, 0, 0, 0, nI 1, 0, []), (61, .iadd, 1, 0, 0, 0, nI 0, 0, []), (62, .putfield 142, 3, 9, 16, 0, nI 0, 0, [])],
  [(65, .aload_n 0, 1, 0, 0, 0, nI 0, 0, []), (66, .getfield 142, 3, 9, 16, 0, nI 0, 0, []), (69, .ireturn, 1, 0, 0, 0, nI 0, 0, [])]]
def md_X9_see : MD := (9, yX9_see, cX9_see, 3, (some .int), false, rw_X9_see)
def rw_X9_isSo : List (List Row) := [[(0, .iconst 1, 1, 0, 0, 0, nI 1, 0, []), (1, .istore_n 2, 1, 2, 0, 0, nI 0, 0, []), (2, .iconst 0, 1, 0, 0, 0, nI 0, 0, []), (3, .istore_n 3, 1, 3, 0, 0, nI 0, 0, []), (4, .iload_n 3, 1, 3, 0, 0, nI 0, 0, []), (5, .aload_n 0, 1, 0, 0, 0, nI 0, 0, []), (6, .getfield 142, 3, 9, 16, 0, nI 0, 0, []), (9, .if_icmp .ge 44, 3, 53, 0, 0, nI 0, 0, []), (12, .iload_n 2, 1, 2, 0, 0, nI 0, 0, []), (13, .ifCond .eq 32, 3, 45, 0, 0, nI 0, 0, [])],
  [(16, .iload_n 1, 1, 1, 0, 0, nI 0, 0, []), (17, .bipush 10, 2, 0, 0, 0, nI 10, 0, []), (19, .idiv, 1, 0, 0, 0, nI 0, 0, []), (20, .aload_n 0, 1, 0, 0, 0, nI 0, 0, []), (21, .getfield 32, 3, 9, 14, 0, nI 0, 0, []), (24, .iload_n 3, 1, 3, 0, 0, nI 0, 0, []), (25, .iaload, 1, 0, 0, 0, nI 0, 0, []), (26, .imul, 1, 0, 0, 0, nI 0, 0, []), (27, .iload_n 1, 1, 1, 0, 0, nI 0, 0, []), (28, .bipush 10, 2, 0, 0, 0, nI 10, 0, []), (30, .irem, 1, 0, 0, 0, nI 0, 0, []), (31, .iadd, 1, 0, 0, 0, nI 0, 0, [])],
  [(32, .aload_n 0, 1, 0, 0, 0, nI 0, 0, []), (33, .getfield 35, 3, 9, 15, 0, nI 0, 0, []), (36, .iload_n 3, 1, 3, 0, 0, nI 0, 0, []), (37, .iaload, 1, 0, 0, 0, nI 0, 0, []), (38, .if_icmp .ne 7, 3, 45, 0, 0, nI 0, 0, []), (41, .iconst 1, 1, 0, 0, 0, nI 1, 0, []), (42, .goto 4, 3, 46, 0, 0, nI 0, 0, []), (45, .iconst 0, 1, 0, 0, 0, nI 0, 0, []), (46, .istore_n 2, 1, 2, 0, 0, nI 0, 0, []), (47, .iinc 3 1, 3, 3, 0, 0, nI 1, 0, [])],
  [(50, .goto (-46), 3, 4, 0, 0, nI 0, 0, []), (53, .iload_n 2, 1, 2, 0, 0, nI 0, 0, []), (54, .ireturn, 1, 0, 0, 0, nI 0, 0, [])]]
def md_X9_isSo : MD := (9, yX9_isSo, cX9_isSo, 4, (some .boolean), false, rw_X9_isSo)
def rw_X9_truly : List (List Row) := [[(0, .iload_n 1, 1, 1, 0, 0, nI 0, 0, []), (1, .iconst 0, 1, 0, 0, 0, nI 0, 0, []), (2, .iconst 1, 1, 0, 0, 0, nI 1, 0, []), (3, .invokestatic 59, 3, 115, 3, 0, nI 0, 0, []), (6, .ifCond .ne 6, 3, 12, 0, 0, nI 0, 0, []), (9, .ldc 66, 2, 0, 0, 0, (-1000000002), 0, []), (11, .ireturn, 1, 0, 0, 0, nI 0, 0, []), (12, .iconst 0, 1, 0, 0, 0, nI 0, 0, []), (13, .istore_n 2, 1, 2, 0, 0, nI 0, 0, []), (14, .iconst (-1), 1, 0, 0, 0, (-1), 0, []), (15, .istore_n 3, 1, 3, 0, 0, nI 0, 0, [])],
  [(16, .bipush 99, 2, 0, 0, 0, nI 99, 0, []), (18, .istore 4, 2, 4, 0, 0, nI 0, 0, []), (20, .iload 4, 2, 4, 0, 0, nI 0, 0, []), (22, .ifCond .lt 42, 3, 64, 0, 0, nI 0, 0, []), (25, .iload_n 2, 1, 2, 0, 0, nI 0, 0, []), (26, .aload_n 0, 1, 0, 0, 0, nI 0, 0, []), (27, .iload 4, 2, 4, 0, 0, nI 0, 0, []), (29, .invokevirtual 258, 3, 185, 2, 9, nI 0, 0, [])],
  [(32, .ifCond .eq 7, 3, 39, 0, 0, nI 0, 0, []), (35, .iconst 1, 1, 0, 0, 0, nI 1, 0, []), (36, .goto 4, 3, 40, 0, 0, nI 0, 0, []), (39, .iconst 0, 1, 0, 0, 0, nI 0, 0, []), (40, .iadd, 1, 0, 0, 0, nI 0, 0, []), (41, .istore_n 2, 1, 2, 0, 0, nI 0, 0, []), (42, .aload_n 0, 1, 0, 0, 0, nI 0, 0, []), (43, .iload 4, 2, 4, 0, 0, nI 0, 0, []), (45, .invokevirtual 258, 3, 185, 2, 9, nI 0, 0, [])],
  [(48, .ifCond .eq 8, 3, 56, 0, 0, nI 0, 0, []), (51, .iload 4, 2, 4, 0, 0, nI 0, 0, []), (53, .goto 4, 3, 57, 0, 0, nI 0, 0, []), (56, .iload_n 3, 1, 3, 0, 0, nI 0, 0, []), (57, .istore_n 3, 1, 3, 0, 0, nI 0, 0, []), (58, .iinc 4 (-1), 3, 4, 0, 0, (-1), 0, []), (61, .goto (-41), 3, 20, 0, 0, nI 0, 0, [])],
  [(64, .iload_n 1, 1, 1, 0, 0, nI 0, 0, []), (65, .ifCond .ne 7, 3, 72, 0, 0, nI 0, 0, []), (68, .iload_n 2, 1, 2, 0, 0, nI 0, 0, []), (69, .goto 4, 3, 73, 0, 0, nI 0, 0, []), (72, .iload_n 3, 1, 3, 0, 0, nI 0, 0, []), (73, .ireturn, 1, 0, 0, 0, nI 0, 0, [])]]
def md_X9_truly : MD := (9, yX9_truly, cX9_truly, 5, (some .int), false, rw_X9_truly)
def rw_X9_partBy : List (List Row) := [[(0, .iconst 0, 1, 0, 0, 0, nI 0, 0, []), (1, .istore_n 2, 1, 2, 0, 0, nI 0, 0, []), (2, .iconst 0, 1, 0, 0, 0, nI 0, 0, []), (3, .istore_n 3, 1, 3, 0, 0, nI 0, 0, []), (4, .iload_n 3, 1, 3, 0, 0, nI 0, 0, []), (5, .bipush 100, 2, 0, 0, 0, nI 100, 0, []), (7, .if_icmp .ge 77, 3, 84, 0, 0, nI 0, 0, []), (10, .iconst 0, 1, 0, 0, 0, nI 0, 0, []), (11, .istore 4, 2, 4, 0, 0, nI 0, 0, []), (13, .iconst 0, 1, 0, 0, 0, nI 0, 0, []), (14, .istore 5, 2, 5, 0, 0, nI 0, 0, [])],
  [(16, .iload 5, 2, 5, 0, 0, nI 0, 0, []), (18, .bipush 100, 2, 0, 0, 0, nI 100, 0, []), (20, .if_icmp .ge 45, 3, 65, 0, 0, nI 0, 0, []), (23, .iload 4, 2, 4, 0, 0, nI 0, 0, []), (25, .iload 5, 2, 5, 0, 0, nI 0, 0, []), (27, .bipush 10, 2, 0, 0, 0, nI 10, 0, []), (29, .idiv, 1, 0, 0, 0, nI 0, 0, []), (30, .iload_n 1, 1, 1, 0, 0, nI 0, 0, []), (31, .imul, 1, 0, 0, 0, nI 0, 0, [])],
  [(32, .iload 5, 2, 5, 0, 0, nI 0, 0, []), (34, .bipush 10, 2, 0, 0, 0, nI 10, 0, []), (36, .irem, 1, 0, 0, 0, nI 0, 0, []), (37, .iadd, 1, 0, 0, 0, nI 0, 0, []), (38, .iload_n 3, 1, 3, 0, 0, nI 0, 0, []), (39, .if_icmp .ne 16, 3, 55, 0, 0, nI 0, 0, []), (42, .aload_n 0, 1, 0, 0, 0, nI 0, 0, []), (43, .iload 5, 2, 5, 0, 0, nI 0, 0, []), (45, .invokevirtual 258, 3, 185, 2, 9, nI 0, 0, [])],
  [(48, .ifCond .eq 7, 3, 55, 0, 0, nI 0, 0, []), (51, .iconst 1, 1, 0, 0, 0, nI 1, 0, []), (52, .goto 4, 3, 56, 0, 0, nI 0, 0, []), (55, .iconst 0, 1, 0, 0, 0, nI 0, 0, []), (56, .iadd, 1, 0, 0, 0, nI 0, 0, []), (57, .istore 4, 2, 4, 0, 0, nI 0, 0, []), (59, .iinc 5 1, 3, 5, 0, 0, nI 1, 0, []), (62, .goto (-46), 3, 16, 0, 0, nI 0, 0, [])],
  [(65, .iload 4, 2, 4, 0, 0, nI 0, 0, []), (67, .iload_n 2, 1, 2, 0, 0, nI 0, 0, []), (68, .if_icmp .le 8, 3, 76, 0, 0, nI 0, 0, []), (71, .iload 4, 2, 4, 0, 0, nI 0, 0, []), (73, .goto 4, 3, 77, 0, 0, nI 0, 0, []), (76, .iload_n 2, 1, 2, 0, 0, nI 0, 0, []), (77, .istore_n 2, 1, 2, 0, 0, nI 0, 0, []), (78, .iinc 3 1, 3, 3, 0, 0, nI 1, 0, [])],
  [(81, .goto (-77), 3, 4, 0, 0, nI 0, 0, []), (84, .iload_n 2, 1, 2, 0, 0, nI 0, 0, []), (85, .ireturn, 1, 0, 0, 0, nI 0, 0, [])]]
def md_X9_partBy : MD := (9, yX9_partBy, cX9_partBy, 6, (some .int), false, rw_X9_partBy)
def rw_X9_tryNext : List (List Row) := [[(0, .iconst (-1), 1, 0, 0, 0, (-1), 0, []), (1, .istore_n 1, 1, 1, 0, 0, nI 0, 0, []), (2, .aload_n 0, 1, 0, 0, 0, nI 0, 0, []), (3, .iconst 0, 1, 0, 0, 0, nI 0, 0, []), (4, .invokevirtual 261, 3, 186, 2, 9, nI 0, 0, []), (7, .istore_n 2, 1, 2, 0, 0, nI 0, 0, []), (8, .iconst 0, 1, 0, 0, 0, nI 0, 0, []), (9, .istore_n 3, 1, 3, 0, 0, nI 0, 0, []), (10, .iload_n 3, 1, 3, 0, 0, nI 0, 0, []), (11, .bipush 10, 2, 0, 0, 0, nI 10, 0, []), (13, .if_icmp .ge 27, 3, 40, 0, 0, nI 0, 0, [])],
  [(16, .aload_n 0, 1, 0, 0, 0, nI 0, 0, []), (17, .iload_n 3, 1, 3, 0, 0, nI 0, 0, []), (18, .invokevirtual 264, 3, 187, 2, 9, nI 0, 0, []), (21, .istore 4, 2, 4, 0, 0, nI 0, 0, []), (23, .iload 4, 2, 4, 0, 0, nI 0, 0, []), (25, .iload_n 2, 1, 2, 0, 0, nI 0, 0, []), (26, .if_icmp .ge 8, 3, 34, 0, 0, nI 0, 0, []), (29, .iload_n 3, 1, 3, 0, 0, nI 0, 0, []), (30, .istore_n 1, 1, 1, 0, 0, nI 0, 0, []), (31, .iload 4, 2, 4, 0, 0, nI 0, 0, [])],
  [(33, .istore_n 2, 1, 2, 0, 0, nI 0, 0, []), (34, .iinc 3 1, 3, 3, 0, 0, nI 1, 0, []), (37, .goto (-27), 3, 10, 0, 0, nI 0, 0, []), (40, .iload_n 1, 1, 1, 0, 0, nI 0, 0, []), (41, .ireturn, 1, 0, 0, 0, nI 0, 0, [])]]
def md_X9_tryNext : MD := (9, yX9_tryNext, cX9_tryNext, 5, (some .int), false, rw_X9_tryNext)
def rw_X9_write : List (List Row) := [[(0, .aload_n 0, 1, 0, 0, 0, nI 0, 0, []), (1, .iload_n 1, 1, 1, 0, 0, nI 0, 0, []), (2, .invokevirtual 215, 3, 118, 2, 9, nI 0, 0, []), (5, .ifCond .eq 16, 3, 21, 0, 0, nI 0, 0, []), (8, .iload_n 2, 1, 2, 0, 0, nI 0, 0, []), (9, .iconst (-1), 1, 0, 0, 0, (-1), 0, []), (10, .if_icmp .eq 14, 3, 24, 0, 0, nI 0, 0, []), (13, .aload_n 0, 1, 0, 0, 0, nI 0, 0, []), (14, .iload_n 2, 1, 2, 0, 0, nI 0, 0, []), (15, .invokevirtual 207, 3, 117, 2, 9, nI 0, 0, [])],
  [(18, .ifCond .ne 6, 3, 24, 0, 0, nI 0, 0, []), (21, .ldc 211, 2, 0, 0, 0, (-1000000001), 0, []), (23, .ireturn, 1, 0, 0, 0, nI 0, 0, []), (24, .aload_n 0, 1, 0, 0, 0, nI 0, 0, []), (25, .getfield 145, 3, 9, 19, 0, nI 0, 0, []), (28, .bipush 20, 2, 0, 0, 0, nI 20, 0, []), (30, .if_icmp .ne 6, 3, 36, 0, 0, nI 0, 0, [])],
  [(33, .ldc 70, 2, 0, 0, 0, (-1000000004), 0, []), (35, .ireturn, 1, 0, 0, 0, nI 0, 0, []), (36, .aload_n 0, 1, 0, 0, 0, nI 0, 0, []), (37, .getfield 38, 3, 9, 17, 0, nI 0, 0, []), (40, .aload_n 0, 1, 0, 0, 0, nI 0, 0, []), (41, .getfield 145, 3, 9, 19, 0, nI 0, 0, []), (44, .iload_n 1, 1, 1, 0, 0, nI 0, 0, []), (45, .iastore, 1, 0, 0, 0, nI 0, 0, []), (46, .aload_n 0, 1, 0, 0, 0, nI 0, 0, []), (47, .getfield 41, 3, 9, 18, 0, nI 0, 0, [])],
  [(50, .aload_n 0, 1, 0, 0, 0, nI 0, 0, []), (51, .getfield 145, 3, 9, 19, 0, nI 0, 0, []), (54, .iload_n 2, 1, 2, 0, 0, nI 0, 0, []), (55, .iastore, 1, 0, 0, 0, nI 0, 0, []), (56, .aload_n 0, 1, 0, 0, 0, nI 0, 0, []), (57, .dup, 1, 0, 0, 0, nI 0, 0, []), (58, .getfield 145, 3, 9, 19, 0, nI 0, 0, []), (61, .iconst 1, 1, 0, 0, 0, nI 1, 0, []), (62, .iadd, 1, 0, 0, 0, nI 0, 0, []), (63, .putfield 145, 3, 9, 19, 0, nI 0, 0, [])],
  [(66, .aload_n 0, 1, 0, 0, 0, nI 0, 0, []), (67, .getfield 145, 3, 9, 19, 0, nI 0, 0, []), (70, .ireturn, 1, 0, 0, 0, nI 0, 0, [])]]
def md_X9_write : MD := (9, yX9_write, cX9_write, 3, (some .int), false, rw_X9_write)
def rw_X9_judge : List (List Row) := [[(0, .iconst 0, 1, 0, 0, 0, nI 0, 0, []), (1, .istore_n 1, 1, 1, 0, 0, nI 0, 0, []), (2, .iload_n 1, 1, 1, 0, 0, nI 0, 0, []), (3, .aload_n 0, 1, 0, 0, 0, nI 0, 0, []), (4, .getfield 145, 3, 9, 19, 0, nI 0, 0, []), (7, .if_icmp .ge 34, 3, 41, 0, 0, nI 0, 0, []), (10, .aload_n 0, 1, 0, 0, 0, nI 0, 0, []), (11, .getfield 7, 3, 9, 0, 0, nI 0, 0, []), (14, .bipush 42, 2, 0, 0, 0, nI 42, 0, [])],
  [(16, .aload_n 0, 1, 0, 0, 0, nI 0, 0, []), (17, .getfield 38, 3, 9, 17, 0, nI 0, 0, []), (20, .iload_n 1, 1, 1, 0, 0, nI 0, 0, []), (21, .iaload, 1, 0, 0, 0, nI 0, 0, []), (22, .iadd, 1, 0, 0, 0, nI 0, 0, []), (23, .iaload, 1, 0, 0, 0, nI 0, 0, []), (24, .aload_n 0, 1, 0, 0, 0, nI 0, 0, []), (25, .getfield 41, 3, 9, 18, 0, nI 0, 0, []), (28, .iload_n 1, 1, 1, 0, 0, nI 0, 0, []), (29, .iaload, 1, 0, 0, 0, nI 0, 0, []), (30, .if_icmp .eq 5, 3, 35, 0, 0, nI 0, 0, [])],
  [(33, .iload_n 1, 1, 1, 0, 0, nI 0, 0, []), (34, .ireturn, 1, 0, 0, 0, nI 0, 0, []), (35, .iinc 1 1, 3, 1, 0, 0, nI 1, 0, []), (38, .goto (-36), 3, 2, 0, 0, nI 0, 0, []), (41, .iconst (-1), 1, 0, 0, 0, (-1), 0, []), (42, .ireturn, 1, 0, 0, 0, nI 0, 0, [])]]
def md_X9_judge : MD := (9, yX9_judge, cX9_judge, 2, (some .int), false, rw_X9_judge)
def rw_X9_tear : List (List Row) := [[(0, .aload_n 0, 1, 0, 0, 0, nI 0, 0, []), (1, .getfield 142, 3, 9, 16, 0, nI 0, 0, []), (4, .aload_n 0, 1, 0, 0, 0, nI 0, 0, []), (5, .getfield 145, 3, 9, 19, 0, nI 0, 0, []), (8, .iadd, 1, 0, 0, 0, nI 0, 0, []), (9, .istore_n 1, 1, 1, 0, 0, nI 0, 0, []), (10, .aload_n 0, 1, 0, 0, 0, nI 0, 0, []), (11, .iconst 0, 1, 0, 0, 0, nI 0, 0, []), (12, .putfield 142, 3, 9, 16, 0, nI 0, 0, []), (15, .aload_n 0, 1, 0, 0, 0, nI 0, 0, [])],
  [(16, .iconst 0, 1, 0, 0, 0, nI 0, 0, []), (17, .putfield 145, 3, 9, 19, 0, nI 0, 0, []), (20, .iload_n 1, 1, 1, 0, 0, nI 0, 0, []), (21, .ireturn, 1, 0, 0, 0, nI 0, 0, [])]]
def md_X9_tear : MD := (9, yX9_tear, cX9_tear, 2, (some .int), false, rw_X9_tear)
def rw_X9_seed : List (List Row) := [[(0, .iload_n 1, 1, 1, 0, 0, nI 0, 0, []), (1, .ifCond .ge 6, 3, 7, 0, 0, nI 0, 0, []), (4, .ldc 66, 2, 0, 0, 0, (-1000000002), 0, []), (6, .ireturn, 1, 0, 0, 0, nI 0, 0, []), (7, .aload_n 0, 1, 0, 0, 0, nI 0, 0, []), (8, .getfield 7, 3, 9, 0, 0, nI 0, 0, []), (11, .sipush 129, 3, 0, 0, 0, nI 129, 0, []), (14, .iaload, 1, 0, 0, 0, nI 0, 0, []), (15, .istore_n 2, 1, 2, 0, 0, nI 0, 0, [])],
  [(16, .aload_n 0, 1, 0, 0, 0, nI 0, 0, []), (17, .getfield 7, 3, 9, 0, 0, nI 0, 0, []), (20, .sipush 129, 3, 0, 0, 0, nI 129, 0, []), (23, .iload_n 1, 1, 1, 0, 0, nI 0, 0, []), (24, .iastore, 1, 0, 0, 0, nI 0, 0, []), (25, .iload_n 2, 1, 2, 0, 0, nI 0, 0, []), (26, .ireturn, 1, 0, 0, 0, nI 0, 0, [])]]
def md_X9_seed : MD := (9, yX9_seed, cX9_seed, 3, (some .int), false, rw_X9_seed)
def rw_X9_keep : List (List Row) := [[(0, .iload_n 1, 1, 1, 0, 0, nI 0, 0, []), (1, .iconst 0, 1, 0, 0, 0, nI 0, 0, []), (2, .iconst 1, 1, 0, 0, 0, nI 1, 0, []), (3, .invokestatic 59, 3, 115, 3, 0, nI 0, 0, []), (6, .ifCond .ne 6, 3, 12, 0, 0, nI 0, 0, []), (9, .ldc 211, 2, 0, 0, 0, (-1000000001), 0, []), (11, .ireturn, 1, 0, 0, 0, nI 0, 0, []), (12, .aload_n 0, 1, 0, 0, 0, nI 0, 0, []), (13, .iconst 0, 1, 0, 0, 0, nI 0, 0, []), (14, .sipush 260, 3, 0, 0, 0, nI 260, 0, [])],
  [(17, .sipush 130, 3, 0, 0, 0, nI 130, 0, []), (20, .iload_n 1, 1, 1, 0, 0, nI 0, 0, []), (21, .imul, 1, 0, 0, 0, nI 0, 0, []), (22, .iadd, 1, 0, 0, 0, nI 0, 0, []), (23, .invokevirtual 219, 3, 119, 3, 9, nI 0, 0, []), (26, .aload_n 0, 1, 0, 0, 0, nI 0, 0, []), (27, .dup, 1, 0, 0, 0, nI 0, 0, []), (28, .getfield 139, 3, 9, 10, 0, nI 0, 0, []), (31, .iconst 1, 1, 0, 0, 0, nI 1, 0, [])],
  [(32, .iload_n 1, 1, 1, 0, 0, nI 0, 0, []), (33, .ishl, 1, 0, 0, 0, nI 0, 0, []), (34, .ior, 1, 0, 0, 0, nI 0, 0, []), (35, .putfield 139, 3, 9, 10, 0, nI 0, 0, []), (38, .aload_n 0, 1, 0, 0, 0, nI 0, 0, []), (39, .iconst 0, 1, 0, 0, 0, nI 0, 0, []), (40, .putfield 136, 3, 9, 9, 0, nI 0, 0, []), (43, .iconst 1, 1, 0, 0, 0, nI 1, 0, []), (44, .ireturn, 1, 0, 0, 0, nI 0, 0, [])]]
def md_X9_keep : MD := (9, yX9_keep, cX9_keep, 2, (some .int), false, rw_X9_keep)
def rw_X9_goBack : List (List Row) := [[(0, .iload_n 1, 1, 1, 0, 0, nI 0, 0, []), (1, .iconst 0, 1, 0, 0, 0, nI 0, 0, []), (2, .iconst 1, 1, 0, 0, 0, nI 1, 0, []), (3, .invokestatic 59, 3, 115, 3, 0, nI 0, 0, []), (6, .ifCond .ne 6, 3, 12, 0, 0, nI 0, 0, []), (9, .ldc 211, 2, 0, 0, 0, (-1000000001), 0, []), (11, .ireturn, 1, 0, 0, 0, nI 0, 0, []), (12, .aload_n 0, 1, 0, 0, 0, nI 0, 0, []), (13, .getfield 139, 3, 9, 10, 0, nI 0, 0, [])],
  [(16, .iload_n 1, 1, 1, 0, 0, nI 0, 0, []), (17, .invokestatic 156, 3, 116, 2, 0, nI 0, 0, []), (20, .ifCond .ne 6, 3, 26, 0, 0, nI 0, 0, []), (23, .ldc 218, 2, 0, 0, 0, (-1000000003), 0, []), (25, .ireturn, 1, 0, 0, 0, nI 0, 0, []), (26, .aload_n 0, 1, 0, 0, 0, nI 0, 0, []), (27, .sipush 260, 3, 0, 0, 0, nI 260, 0, []), (30, .sipush 130, 3, 0, 0, 0, nI 130, 0, [])],
  [(33, .iload_n 1, 1, 1, 0, 0, nI 0, 0, []), (34, .imul, 1, 0, 0, 0, nI 0, 0, []), (35, .iadd, 1, 0, 0, 0, nI 0, 0, []), (36, .iconst 0, 1, 0, 0, 0, nI 0, 0, []), (37, .invokevirtual 219, 3, 119, 3, 9, nI 0, 0, []), (40, .aload_n 0, 1, 0, 0, 0, nI 0, 0, []), (41, .iconst 0, 1, 0, 0, 0, nI 0, 0, []), (42, .putfield 136, 3, 9, 9, 0, nI 0, 0, []), (45, .iconst 1, 1, 0, 0, 0, nI 1, 0, []), (46, .ireturn, 1, 0, 0, 0, nI 0, 0, [])]]
def md_X9_goBack : MD := (9, yX9_goBack, cX9_goBack, 2, (some .int), false, rw_X9_goBack)
def rw_J6_compare_7cf53 : List (List Row) := [[(0, .iload_n 0, 1, 0, 0, 0, nI 0, 0, []), (1, .iload_n 1, 1, 1, 0, 0, nI 0, 0, []), (2, .if_icmp .ge 7, 3, 9, 0, 0, nI 0, 0, []), (5, .iconst (-1), 1, 0, 0, 0, (-1), 0, []), (6, .goto 13, 3, 19, 0, 0, nI 0, 0, []), (9, .iload_n 0, 1, 0, 0, 0, nI 0, 0, []), (10, .iload_n 1, 1, 1, 0, 0, nI 0, 0, []), (11, .if_icmp .ne 7, 3, 18, 0, 0, nI 0, 0, []), (14, .iconst 0, 1, 0, 0, 0, nI 0, 0, []), (15, .goto 4, 3, 19, 0, 0, nI 0, 0, [])],
  [(18, .iconst 1, 1, 0, 0, 0, nI 1, 0, []), (19, .ireturn, 1, 0, 0, 0, nI 0, 0, [])]]
def md_J6_compare_7cf53 : MD := (10, yJ6_compare_7cf53, cJ6_compare_7cf53, 2, (some .int), false, rw_J6_compare_7cf53)
def rw_J6_bitCount_0f7a4 : List (List Row) := [[(0, .iload_n 0, 1, 0, 0, 0, nI 0, 0, []), (1, .iload_n 0, 1, 0, 0, 0, nI 0, 0, []), (2, .iconst 1, 1, 0, 0, 0, nI 1, 0, []), (3, .iushr, 1, 0, 0, 0, nI 0, 0, []), (4, .ldc_w 265, 3, 0, 0, 0, nI 1431655765, 0, []), (7, .iand, 1, 0, 0, 0, nI 0, 0, []), (8, .isub, 1, 0, 0, 0, nI 0, 0, []), (9, .istore_n 0, 1, 0, 0, 0, nI 0, 0, []), (10, .iload_n 0, 1, 0, 0, 0, nI 0, 0, []), (11, .ldc_w 266, 3, 0, 0, 0, nI 858993459, 0, []), (14, .iand, 1, 0, 0, 0, nI 0, 0, []), (15, .iload_n 0, 1, 0, 0, 0, nI 0, 0, [])],
  [(16, .iconst 2, 1, 0, 0, 0, nI 2, 0, []), (17, .iushr, 1, 0, 0, 0, nI 0, 0, []), (18, .ldc_w 266, 3, 0, 0, 0, nI 858993459, 0, []), (21, .iand, 1, 0, 0, 0, nI 0, 0, []), (22, .iadd, 1, 0, 0, 0, nI 0, 0, []), (23, .istore_n 0, 1, 0, 0, 0, nI 0, 0, []), (24, .iload_n 0, 1, 0, 0, 0, nI 0, 0, []), (25, .iload_n 0, 1, 0, 0, 0, nI 0, 0, []), (26, .iconst 4, 1, 0, 0, 0, nI 4, 0, []), (27, .iushr, 1, 0, 0, 0, nI 0, 0, []), (28, .iadd, 1, 0, 0, 0, nI 0, 0, []), (29, .ldc_w 267, 3, 0, 0, 0, nI 252645135, 0, [])],
  [(32, .iand, 1, 0, 0, 0, nI 0, 0, []), (33, .istore_n 0, 1, 0, 0, 0, nI 0, 0, []), (34, .iload_n 0, 1, 0, 0, 0, nI 0, 0, []), (35, .iload_n 0, 1, 0, 0, 0, nI 0, 0, []), (36, .bipush 8, 2, 0, 0, 0, nI 8, 0, []), (38, .iushr, 1, 0, 0, 0, nI 0, 0, []), (39, .iadd, 1, 0, 0, 0, nI 0, 0, []), (40, .istore_n 0, 1, 0, 0, 0, nI 0, 0, []), (41, .iload_n 0, 1, 0, 0, 0, nI 0, 0, []), (42, .iload_n 0, 1, 0, 0, 0, nI 0, 0, []), (43, .bipush 16, 2, 0, 0, 0, nI 16, 0, []), (45, .iushr, 1, 0, 0, 0, nI 0, 0, []), (46, .iadd, 1, 0, 0, 0, nI 0, 0, []), (47, .istore_n 0, 1, 0, 0, 0, nI 0, 0, [])],
  [(48, .iload_n 0, 1, 0, 0, 0, nI 0, 0, []), (49, .bipush 63, 2, 0, 0, 0, nI 63, 0, []), (51, .iand, 1, 0, 0, 0, nI 0, 0, []), (52, .ireturn, 1, 0, 0, 0, nI 0, 0, [])]]
def md_J6_bitCount_0f7a4 : MD := (10, yJ6_bitCount_0f7a4, cJ6_bitCount_0f7a4, 1, (some .int), false, rw_J6_bitCount_0f7a4)
def rw_J9_max_7cf53 : List (List Row) := [[(0, .iload_n 0, 1, 0, 0, 0, nI 0, 0, []), (1, .iload_n 1, 1, 1, 0, 0, nI 0, 0, []), (2, .if_icmp .lt 7, 3, 9, 0, 0, nI 0, 0, []), (5, .iload_n 0, 1, 0, 0, 0, nI 0, 0, []), (6, .goto 4, 3, 10, 0, 0, nI 0, 0, []), (9, .iload_n 1, 1, 1, 0, 0, nI 0, 0, []), (10, .ireturn, 1, 0, 0, 0, nI 0, 0, [])]]
def md_J9_max_7cf53 : MD := (11, yJ9_max_7cf53, cJ9_max_7cf53, 2, (some .int), false, rw_J9_max_7cf53)
def rw_J9_min_7cf53 : List (List Row) := [[(0, .iload_n 0, 1, 0, 0, 0, nI 0, 0, []), (1, .iload_n 1, 1, 1, 0, 0, nI 0, 0, []), (2, .if_icmp .gt 7, 3, 9, 0, 0, nI 0, 0, []), (5, .iload_n 0, 1, 0, 0, 0, nI 0, 0, []), (6, .goto 4, 3, 10, 0, 0, nI 0, 0, []), (9, .iload_n 1, 1, 1, 0, 0, nI 0, 0, []), (10, .ireturn, 1, 0, 0, 0, nI 0, 0, [])]]
def md_J9_min_7cf53 : MD := (11, yJ9_min_7cf53, cJ9_min_7cf53, 2, (some .int), false, rw_J9_min_7cf53)
def rw_L_law : List (List Row) := [[(0, .new 7, 3, 8, 0, 0, nI 0, 0, []), (3, .dup, 1, 0, 0, 0, nI 0, 0, []), (4, .invokespecial 9, 3, 62, 1, 0, nI 0, 0, []), (7, .astore_n 1, 1, 1, 0, 0, nI 0, 0, []), (8, .new 10, 3, 9, 0, 0, nI 0, 0, []), (11, .dup, 1, 0, 0, 0, nI 0, 0, []), (12, .invokespecial 12, 3, 114, 1, 0, nI 0, 0, []), (15, .astore_n 2, 1, 2, 0, 0, nI 0, 0, [])],
  [(16, .iconst 0, 1, 0, 0, 0, nI 0, 0, []), (17, .istore_n 3, 1, 3, 0, 0, nI 0, 0, []), (18, .iload_n 3, 1, 3, 0, 0, nI 0, 0, []), (19, .aload_n 0, 1, 0, 0, 0, nI 0, 0, []), (20, .arraylength, 1, 0, 0, 0, nI 0, 0, []), (21, .iconst 4, 1, 0, 0, 0, nI 4, 0, []), (22, .isub, 1, 0, 0, 0, nI 0, 0, []), (23, .if_icmp .gt 1186, 3, 1209, 0, 0, nI 0, 0, []), (26, .aload_n 0, 1, 0, 0, 0, nI 0, 0, []), (27, .iload_n 3, 1, 3, 0, 0, nI 0, 0, []), (28, .iaload, 1, 0, 0, 0, nI 0, 0, []), (29, .bipush 63, 2, 0, 0, 0, nI 63, 0, []), (31, .iand, 1, 0, 0, 0, nI 0, 0, [])],
  [(32, .tableswitch 1171 0 36 #[164, 187, 200, 213, 236, 269, 302, 325, 358, 381, 414, 453, 496, 519, 542, 565, 588, 621, 654, 687, 720, 753, 776, 819, 862, 885, 918, 941, 974, 1007, 1030, 1043, 1076, 1089, 1102, 1125, 1148], 164, 1203, 0, 0, nI 0, 0, [(nI 0, 196), (nI 1, 219), (nI 2, 232), (nI 3, 245), (nI 4, 268), (nI 5, 301), (nI 6, 334), (nI 7, 357), (nI 8, 390), (nI 9, 413), (nI 10, 446), (nI 11, 485), (nI 12, 528), (nI 13, 551), (nI 14, 574), (nI 15, 597), (nI 16, 620), (nI 17, 653), (nI 18, 686), (nI 19, 719), (nI 20, 752), (nI 21, 785), (nI 22, 808), (nI 23, 851), (nI 24, 894), (nI 25, 917), (nI 26, 950), (nI 27, 973), (nI 28, 1006), (nI 29, 1039), (nI 30, 1062), (nI 31, 1075), (nI 32, 1108), (nI 33, 1121), (nI 34, 1134), (nI 35, 1157), (nI 36, 1180)])],
  [],
  [],
  [],
  [],
  [],
  [],
  [],
  [],
  [],
  [(196, .aload_n 1, 1, 1, 0, 0, nI 0, 0, []), (197, .aload_n 0, 1, 0, 0, 0, nI 0, 0, []), (198, .iload_n 3, 1, 3, 0, 0, nI 0, 0, []), (199, .iconst 1, 1, 0, 0, 0, nI 1, 0, []), (200, .iadd, 1, 0, 0, 0, nI 0, 0, []), (201, .iaload, 1, 0, 0, 0, nI 0, 0, []), (202, .invokevirtual 13, 3, 63, 2, 8, nI 0, 0, []), (205, .aload_n 2, 1, 2, 0, 0, nI 0, 0, []), (206, .aload_n 0, 1, 0, 0, 0, nI 0, 0, []), (207, .iload_n 3, 1, 3, 0, 0, nI 0, 0, [])],
  [(208, .iconst 1, 1, 0, 0, 0, nI 1, 0, []), (209, .iadd, 1, 0, 0, 0, nI 0, 0, []), (210, .iaload, 1, 0, 0, 0, nI 0, 0, []), (211, .invokevirtual 17, 3, 120, 2, 9, nI 0, 0, []), (214, .if_icmp .eq 989, 3, 1203, 0, 0, nI 0, 0, []), (217, .iconst 0, 1, 0, 0, 0, nI 0, 0, []), (218, .ireturn, 1, 0, 0, 0, nI 0, 0, []), (219, .aload_n 1, 1, 1, 0, 0, nI 0, 0, []), (220, .invokevirtual 18, 3, 64, 1, 8, nI 0, 0, []), (223, .aload_n 2, 1, 2, 0, 0, nI 0, 0, [])],
  [(224, .invokevirtual 22, 3, 130, 1, 9, nI 0, 0, []), (227, .if_icmp .eq 976, 3, 1203, 0, 0, nI 0, 0, []), (230, .iconst 0, 1, 0, 0, 0, nI 0, 0, []), (231, .ireturn, 1, 0, 0, 0, nI 0, 0, []), (232, .aload_n 1, 1, 1, 0, 0, nI 0, 0, []), (233, .invokevirtual 23, 3, 65, 1, 8, nI 0, 0, []), (236, .aload_n 2, 1, 2, 0, 0, nI 0, 0, []), (237, .invokevirtual 26, 3, 132, 1, 9, nI 0, 0, [])],
  [(240, .if_icmp .eq 963, 3, 1203, 0, 0, nI 0, 0, []), (243, .iconst 0, 1, 0, 0, 0, nI 0, 0, []), (244, .ireturn, 1, 0, 0, 0, nI 0, 0, []), (245, .aload_n 1, 1, 1, 0, 0, nI 0, 0, []), (246, .aload_n 0, 1, 0, 0, 0, nI 0, 0, []), (247, .iload_n 3, 1, 3, 0, 0, nI 0, 0, []), (248, .iconst 1, 1, 0, 0, 0, nI 1, 0, []), (249, .iadd, 1, 0, 0, 0, nI 0, 0, []), (250, .iaload, 1, 0, 0, 0, nI 0, 0, []), (251, .invokevirtual 27, 3, 66, 2, 8, nI 0, 0, []), (254, .aload_n 2, 1, 2, 0, 0, nI 0, 0, []), (255, .aload_n 0, 1, 0, 0, 0, nI 0, 0, [])],
  [(256, .iload_n 3, 1, 3, 0, 0, nI 0, 0, []), (257, .iconst 1, 1, 0, 0, 0, nI 1, 0, []), (258, .iadd, 1, 0, 0, 0, nI 0, 0, []), (259, .iaload, 1, 0, 0, 0, nI 0, 0, []), (260, .invokevirtual 30, 3, 151, 2, 9, nI 0, 0, []), (263, .if_icmp .eq 940, 3, 1203, 0, 0, nI 0, 0, []), (266, .iconst 0, 1, 0, 0, 0, nI 0, 0, []), (267, .ireturn, 1, 0, 0, 0, nI 0, 0, []), (268, .aload_n 1, 1, 1, 0, 0, nI 0, 0, []), (269, .aload_n 0, 1, 0, 0, 0, nI 0, 0, []), (270, .iload_n 3, 1, 3, 0, 0, nI 0, 0, []), (271, .iconst 1, 1, 0, 0, 0, nI 1, 0, [])],
  [(272, .iadd, 1, 0, 0, 0, nI 0, 0, []), (273, .iaload, 1, 0, 0, 0, nI 0, 0, []), (274, .aload_n 0, 1, 0, 0, 0, nI 0, 0, []), (275, .iload_n 3, 1, 3, 0, 0, nI 0, 0, []), (276, .iconst 2, 1, 0, 0, 0, nI 2, 0, []), (277, .iadd, 1, 0, 0, 0, nI 0, 0, []), (278, .iaload, 1, 0, 0, 0, nI 0, 0, []), (279, .invokevirtual 31, 3, 67, 3, 8, nI 0, 0, []), (282, .aload_n 2, 1, 2, 0, 0, nI 0, 0, []), (283, .aload_n 0, 1, 0, 0, 0, nI 0, 0, []), (284, .iload_n 3, 1, 3, 0, 0, nI 0, 0, []), (285, .iconst 1, 1, 0, 0, 0, nI 1, 0, []), (286, .iadd, 1, 0, 0, 0, nI 0, 0, []), (287, .iaload, 1, 0, 0, 0, nI 0, 0, [])],
  [(288, .aload_n 0, 1, 0, 0, 0, nI 0, 0, []), (289, .iload_n 3, 1, 3, 0, 0, nI 0, 0, []), (290, .iconst 2, 1, 0, 0, 0, nI 2, 0, []), (291, .iadd, 1, 0, 0, 0, nI 0, 0, []), (292, .iaload, 1, 0, 0, 0, nI 0, 0, []), (293, .invokevirtual 35, 3, 153, 3, 9, nI 0, 0, []), (296, .if_icmp .eq 907, 3, 1203, 0, 0, nI 0, 0, []), (299, .iconst 0, 1, 0, 0, 0, nI 0, 0, []), (300, .ireturn, 1, 0, 0, 0, nI 0, 0, []), (301, .aload_n 1, 1, 1, 0, 0, nI 0, 0, []), (302, .aload_n 0, 1, 0, 0, 0, nI 0, 0, []), (303, .iload_n 3, 1, 3, 0, 0, nI 0, 0, [])],
  [(304, .iconst 1, 1, 0, 0, 0, nI 1, 0, []), (305, .iadd, 1, 0, 0, 0, nI 0, 0, []), (306, .iaload, 1, 0, 0, 0, nI 0, 0, []), (307, .aload_n 0, 1, 0, 0, 0, nI 0, 0, []), (308, .iload_n 3, 1, 3, 0, 0, nI 0, 0, []), (309, .iconst 2, 1, 0, 0, 0, nI 2, 0, []), (310, .iadd, 1, 0, 0, 0, nI 0, 0, []), (311, .iaload, 1, 0, 0, 0, nI 0, 0, []), (312, .invokevirtual 36, 3, 68, 3, 8, nI 0, 0, []), (315, .aload_n 2, 1, 2, 0, 0, nI 0, 0, []), (316, .aload_n 0, 1, 0, 0, 0, nI 0, 0, []), (317, .iload_n 3, 1, 3, 0, 0, nI 0, 0, []), (318, .iconst 1, 1, 0, 0, 0, nI 1, 0, []), (319, .iadd, 1, 0, 0, 0, nI 0, 0, [])],
  [(320, .iaload, 1, 0, 0, 0, nI 0, 0, []), (321, .aload_n 0, 1, 0, 0, 0, nI 0, 0, []), (322, .iload_n 3, 1, 3, 0, 0, nI 0, 0, []), (323, .iconst 2, 1, 0, 0, 0, nI 2, 0, []), (324, .iadd, 1, 0, 0, 0, nI 0, 0, []), (325, .iaload, 1, 0, 0, 0, nI 0, 0, []), (326, .invokevirtual 39, 3, 154, 3, 9, nI 0, 0, []), (329, .if_icmp .eq 874, 3, 1203, 0, 0, nI 0, 0, []), (332, .iconst 0, 1, 0, 0, 0, nI 0, 0, []), (333, .ireturn, 1, 0, 0, 0, nI 0, 0, []), (334, .aload_n 1, 1, 1, 0, 0, nI 0, 0, []), (335, .aload_n 0, 1, 0, 0, 0, nI 0, 0, [])],
  [(336, .iload_n 3, 1, 3, 0, 0, nI 0, 0, []), (337, .iconst 1, 1, 0, 0, 0, nI 1, 0, []), (338, .iadd, 1, 0, 0, 0, nI 0, 0, []), (339, .iaload, 1, 0, 0, 0, nI 0, 0, []), (340, .invokevirtual 40, 3, 69, 2, 8, nI 0, 0, []), (343, .aload_n 2, 1, 2, 0, 0, nI 0, 0, []), (344, .aload_n 0, 1, 0, 0, 0, nI 0, 0, []), (345, .iload_n 3, 1, 3, 0, 0, nI 0, 0, []), (346, .iconst 1, 1, 0, 0, 0, nI 1, 0, []), (347, .iadd, 1, 0, 0, 0, nI 0, 0, []), (348, .iaload, 1, 0, 0, 0, nI 0, 0, []), (349, .invokevirtual 43, 3, 155, 2, 9, nI 0, 0, [])],
  [(352, .if_icmp .eq 851, 3, 1203, 0, 0, nI 0, 0, []), (355, .iconst 0, 1, 0, 0, 0, nI 0, 0, []), (356, .ireturn, 1, 0, 0, 0, nI 0, 0, []), (357, .aload_n 1, 1, 1, 0, 0, nI 0, 0, []), (358, .aload_n 0, 1, 0, 0, 0, nI 0, 0, []), (359, .iload_n 3, 1, 3, 0, 0, nI 0, 0, []), (360, .iconst 1, 1, 0, 0, 0, nI 1, 0, []), (361, .iadd, 1, 0, 0, 0, nI 0, 0, []), (362, .iaload, 1, 0, 0, 0, nI 0, 0, []), (363, .aload_n 0, 1, 0, 0, 0, nI 0, 0, []), (364, .iload_n 3, 1, 3, 0, 0, nI 0, 0, []), (365, .iconst 2, 1, 0, 0, 0, nI 2, 0, []), (366, .iadd, 1, 0, 0, 0, nI 0, 0, []), (367, .iaload, 1, 0, 0, 0, nI 0, 0, [])],
  [(368, .invokevirtual 44, 3, 70, 3, 8, nI 0, 0, []), (371, .aload_n 2, 1, 2, 0, 0, nI 0, 0, []), (372, .aload_n 0, 1, 0, 0, 0, nI 0, 0, []), (373, .iload_n 3, 1, 3, 0, 0, nI 0, 0, []), (374, .iconst 1, 1, 0, 0, 0, nI 1, 0, []), (375, .iadd, 1, 0, 0, 0, nI 0, 0, []), (376, .iaload, 1, 0, 0, 0, nI 0, 0, []), (377, .aload_n 0, 1, 0, 0, 0, nI 0, 0, []), (378, .iload_n 3, 1, 3, 0, 0, nI 0, 0, []), (379, .iconst 2, 1, 0, 0, 0, nI 2, 0, []), (380, .iadd, 1, 0, 0, 0, nI 0, 0, []), (381, .iaload, 1, 0, 0, 0, nI 0, 0, []), (382, .invokevirtual 47, 3, 156, 3, 9, nI 0, 0, [])],
  [(385, .if_icmp .eq 818, 3, 1203, 0, 0, nI 0, 0, []), (388, .iconst 0, 1, 0, 0, 0, nI 0, 0, []), (389, .ireturn, 1, 0, 0, 0, nI 0, 0, []), (390, .aload_n 1, 1, 1, 0, 0, nI 0, 0, []), (391, .aload_n 0, 1, 0, 0, 0, nI 0, 0, []), (392, .iload_n 3, 1, 3, 0, 0, nI 0, 0, []), (393, .iconst 1, 1, 0, 0, 0, nI 1, 0, []), (394, .iadd, 1, 0, 0, 0, nI 0, 0, []), (395, .iaload, 1, 0, 0, 0, nI 0, 0, []), (396, .invokevirtual 48, 3, 71, 2, 8, nI 0, 0, []), (399, .aload_n 2, 1, 2, 0, 0, nI 0, 0, [])],
  [(400, .aload_n 0, 1, 0, 0, 0, nI 0, 0, []), (401, .iload_n 3, 1, 3, 0, 0, nI 0, 0, []), (402, .iconst 1, 1, 0, 0, 0, nI 1, 0, []), (403, .iadd, 1, 0, 0, 0, nI 0, 0, []), (404, .iaload, 1, 0, 0, 0, nI 0, 0, []), (405, .invokevirtual 51, 3, 159, 2, 9, nI 0, 0, []), (408, .if_icmp .eq 795, 3, 1203, 0, 0, nI 0, 0, []), (411, .iconst 0, 1, 0, 0, 0, nI 0, 0, []), (412, .ireturn, 1, 0, 0, 0, nI 0, 0, []), (413, .aload_n 1, 1, 1, 0, 0, nI 0, 0, []), (414, .aload_n 0, 1, 0, 0, 0, nI 0, 0, []), (415, .iload_n 3, 1, 3, 0, 0, nI 0, 0, [])],
  [(416, .iconst 1, 1, 0, 0, 0, nI 1, 0, []), (417, .iadd, 1, 0, 0, 0, nI 0, 0, []), (418, .iaload, 1, 0, 0, 0, nI 0, 0, []), (419, .aload_n 0, 1, 0, 0, 0, nI 0, 0, []), (420, .iload_n 3, 1, 3, 0, 0, nI 0, 0, []), (421, .iconst 2, 1, 0, 0, 0, nI 2, 0, []), (422, .iadd, 1, 0, 0, 0, nI 0, 0, []), (423, .iaload, 1, 0, 0, 0, nI 0, 0, []), (424, .invokevirtual 52, 3, 72, 3, 8, nI 0, 0, []), (427, .aload_n 2, 1, 2, 0, 0, nI 0, 0, []), (428, .aload_n 0, 1, 0, 0, 0, nI 0, 0, []), (429, .iload_n 3, 1, 3, 0, 0, nI 0, 0, []), (430, .iconst 1, 1, 0, 0, 0, nI 1, 0, []), (431, .iadd, 1, 0, 0, 0, nI 0, 0, [])],
  [(432, .iaload, 1, 0, 0, 0, nI 0, 0, []), (433, .aload_n 0, 1, 0, 0, 0, nI 0, 0, []), (434, .iload_n 3, 1, 3, 0, 0, nI 0, 0, []), (435, .iconst 2, 1, 0, 0, 0, nI 2, 0, []), (436, .iadd, 1, 0, 0, 0, nI 0, 0, []), (437, .iaload, 1, 0, 0, 0, nI 0, 0, []), (438, .invokevirtual 55, 3, 160, 3, 9, nI 0, 0, []), (441, .if_icmp .eq 762, 3, 1203, 0, 0, nI 0, 0, []), (444, .iconst 0, 1, 0, 0, 0, nI 0, 0, []), (445, .ireturn, 1, 0, 0, 0, nI 0, 0, []), (446, .aload_n 1, 1, 1, 0, 0, nI 0, 0, []), (447, .aload_n 0, 1, 0, 0, 0, nI 0, 0, [])],
  [(448, .iload_n 3, 1, 3, 0, 0, nI 0, 0, []), (449, .iconst 1, 1, 0, 0, 0, nI 1, 0, []), (450, .iadd, 1, 0, 0, 0, nI 0, 0, []), (451, .iaload, 1, 0, 0, 0, nI 0, 0, []), (452, .ifCond .eq 7, 3, 459, 0, 0, nI 0, 0, []), (455, .iconst 1, 1, 0, 0, 0, nI 1, 0, []), (456, .goto 4, 3, 460, 0, 0, nI 0, 0, []), (459, .iconst 0, 1, 0, 0, 0, nI 0, 0, []), (460, .invokevirtual 56, 3, 73, 2, 8, nI 0, 0, []), (463, .aload_n 2, 1, 2, 0, 0, nI 0, 0, [])],
  [(464, .aload_n 0, 1, 0, 0, 0, nI 0, 0, []), (465, .iload_n 3, 1, 3, 0, 0, nI 0, 0, []), (466, .iconst 1, 1, 0, 0, 0, nI 1, 0, []), (467, .iadd, 1, 0, 0, 0, nI 0, 0, []), (468, .iaload, 1, 0, 0, 0, nI 0, 0, []), (469, .ifCond .eq 7, 3, 476, 0, 0, nI 0, 0, []), (472, .iconst 1, 1, 0, 0, 0, nI 1, 0, []), (473, .goto 4, 3, 477, 0, 0, nI 0, 0, []), (476, .iconst 0, 1, 0, 0, 0, nI 0, 0, []), (477, .invokevirtual 60, 3, 161, 2, 9, nI 0, 0, [])],
  [(480, .if_icmp .eq 723, 3, 1203, 0, 0, nI 0, 0, []), (483, .iconst 0, 1, 0, 0, 0, nI 0, 0, []), (484, .ireturn, 1, 0, 0, 0, nI 0, 0, []), (485, .aload_n 1, 1, 1, 0, 0, nI 0, 0, []), (486, .aload_n 0, 1, 0, 0, 0, nI 0, 0, []), (487, .iload_n 3, 1, 3, 0, 0, nI 0, 0, []), (488, .iconst 1, 1, 0, 0, 0, nI 1, 0, []), (489, .iadd, 1, 0, 0, 0, nI 0, 0, []), (490, .iaload, 1, 0, 0, 0, nI 0, 0, []), (491, .aload_n 0, 1, 0, 0, 0, nI 0, 0, []), (492, .iload_n 3, 1, 3, 0, 0, nI 0, 0, []), (493, .iconst 2, 1, 0, 0, 0, nI 2, 0, []), (494, .iadd, 1, 0, 0, 0, nI 0, 0, []), (495, .iaload, 1, 0, 0, 0, nI 0, 0, [])],
  [(496, .aload_n 0, 1, 0, 0, 0, nI 0, 0, []), (497, .iload_n 3, 1, 3, 0, 0, nI 0, 0, []), (498, .iconst 3, 1, 0, 0, 0, nI 3, 0, []), (499, .iadd, 1, 0, 0, 0, nI 0, 0, []), (500, .iaload, 1, 0, 0, 0, nI 0, 0, []), (501, .invokevirtual 61, 3, 74, 4, 8, nI 0, 0, []), (504, .aload_n 2, 1, 2, 0, 0, nI 0, 0, []), (505, .aload_n 0, 1, 0, 0, 0, nI 0, 0, []), (506, .iload_n 3, 1, 3, 0, 0, nI 0, 0, []), (507, .iconst 1, 1, 0, 0, 0, nI 1, 0, []), (508, .iadd, 1, 0, 0, 0, nI 0, 0, []), (509, .iaload, 1, 0, 0, 0, nI 0, 0, []), (510, .aload_n 0, 1, 0, 0, 0, nI 0, 0, []), (511, .iload_n 3, 1, 3, 0, 0, nI 0, 0, [])],
  [(512, .iconst 2, 1, 0, 0, 0, nI 2, 0, []), (513, .iadd, 1, 0, 0, 0, nI 0, 0, []), (514, .iaload, 1, 0, 0, 0, nI 0, 0, []), (515, .aload_n 0, 1, 0, 0, 0, nI 0, 0, []), (516, .iload_n 3, 1, 3, 0, 0, nI 0, 0, []), (517, .iconst 3, 1, 0, 0, 0, nI 3, 0, []), (518, .iadd, 1, 0, 0, 0, nI 0, 0, []), (519, .iaload, 1, 0, 0, 0, nI 0, 0, []), (520, .invokevirtual 65, 3, 162, 4, 9, nI 0, 0, []), (523, .if_icmp .eq 680, 3, 1203, 0, 0, nI 0, 0, []), (526, .iconst 0, 1, 0, 0, 0, nI 0, 0, []), (527, .ireturn, 1, 0, 0, 0, nI 0, 0, [])],
  [(528, .aload_n 1, 1, 1, 0, 0, nI 0, 0, []), (529, .aload_n 0, 1, 0, 0, 0, nI 0, 0, []), (530, .iload_n 3, 1, 3, 0, 0, nI 0, 0, []), (531, .iconst 1, 1, 0, 0, 0, nI 1, 0, []), (532, .iadd, 1, 0, 0, 0, nI 0, 0, []), (533, .iaload, 1, 0, 0, 0, nI 0, 0, []), (534, .invokevirtual 66, 3, 75, 2, 8, nI 0, 0, []), (537, .aload_n 2, 1, 2, 0, 0, nI 0, 0, []), (538, .aload_n 0, 1, 0, 0, 0, nI 0, 0, []), (539, .iload_n 3, 1, 3, 0, 0, nI 0, 0, []), (540, .iconst 1, 1, 0, 0, 0, nI 1, 0, []), (541, .iadd, 1, 0, 0, 0, nI 0, 0, []), (542, .iaload, 1, 0, 0, 0, nI 0, 0, []), (543, .invokevirtual 69, 3, 164, 2, 9, nI 0, 0, [])],
  [(546, .if_icmp .eq 657, 3, 1203, 0, 0, nI 0, 0, []), (549, .iconst 0, 1, 0, 0, 0, nI 0, 0, []), (550, .ireturn, 1, 0, 0, 0, nI 0, 0, []), (551, .aload_n 1, 1, 1, 0, 0, nI 0, 0, []), (552, .aload_n 0, 1, 0, 0, 0, nI 0, 0, []), (553, .iload_n 3, 1, 3, 0, 0, nI 0, 0, []), (554, .iconst 1, 1, 0, 0, 0, nI 1, 0, []), (555, .iadd, 1, 0, 0, 0, nI 0, 0, []), (556, .iaload, 1, 0, 0, 0, nI 0, 0, []), (557, .invokevirtual 70, 3, 76, 2, 8, nI 0, 0, [])],
  [(560, .aload_n 2, 1, 2, 0, 0, nI 0, 0, []), (561, .aload_n 0, 1, 0, 0, 0, nI 0, 0, []), (562, .iload_n 3, 1, 3, 0, 0, nI 0, 0, []), (563, .iconst 1, 1, 0, 0, 0, nI 1, 0, []), (564, .iadd, 1, 0, 0, 0, nI 0, 0, []), (565, .iaload, 1, 0, 0, 0, nI 0, 0, []), (566, .invokevirtual 73, 3, 165, 2, 9, nI 0, 0, []), (569, .if_icmp .eq 634, 3, 1203, 0, 0, nI 0, 0, []), (572, .iconst 0, 1, 0, 0, 0, nI 0, 0, []), (573, .ireturn, 1, 0, 0, 0, nI 0, 0, []), (574, .aload_n 1, 1, 1, 0, 0, nI 0, 0, []), (575, .aload_n 0, 1, 0, 0, 0, nI 0, 0, [])],
  [(576, .iload_n 3, 1, 3, 0, 0, nI 0, 0, []), (577, .iconst 1, 1, 0, 0, 0, nI 1, 0, []), (578, .iadd, 1, 0, 0, 0, nI 0, 0, []), (579, .iaload, 1, 0, 0, 0, nI 0, 0, []), (580, .invokevirtual 74, 3, 77, 2, 8, nI 0, 0, []), (583, .aload_n 2, 1, 2, 0, 0, nI 0, 0, []), (584, .aload_n 0, 1, 0, 0, 0, nI 0, 0, []), (585, .iload_n 3, 1, 3, 0, 0, nI 0, 0, []), (586, .iconst 1, 1, 0, 0, 0, nI 1, 0, []), (587, .iadd, 1, 0, 0, 0, nI 0, 0, []), (588, .iaload, 1, 0, 0, 0, nI 0, 0, []), (589, .invokevirtual 77, 3, 167, 2, 9, nI 0, 0, [])],
  [(592, .if_icmp .eq 611, 3, 1203, 0, 0, nI 0, 0, []), (595, .iconst 0, 1, 0, 0, 0, nI 0, 0, []), (596, .ireturn, 1, 0, 0, 0, nI 0, 0, []), (597, .aload_n 1, 1, 1, 0, 0, nI 0, 0, []), (598, .aload_n 0, 1, 0, 0, 0, nI 0, 0, []), (599, .iload_n 3, 1, 3, 0, 0, nI 0, 0, []), (600, .iconst 1, 1, 0, 0, 0, nI 1, 0, []), (601, .iadd, 1, 0, 0, 0, nI 0, 0, []), (602, .iaload, 1, 0, 0, 0, nI 0, 0, []), (603, .invokevirtual 78, 3, 78, 2, 8, nI 0, 0, []), (606, .aload_n 2, 1, 2, 0, 0, nI 0, 0, []), (607, .aload_n 0, 1, 0, 0, 0, nI 0, 0, [])],
  [(608, .iload_n 3, 1, 3, 0, 0, nI 0, 0, []), (609, .iconst 1, 1, 0, 0, 0, nI 1, 0, []), (610, .iadd, 1, 0, 0, 0, nI 0, 0, []), (611, .iaload, 1, 0, 0, 0, nI 0, 0, []), (612, .invokevirtual 81, 3, 168, 2, 9, nI 0, 0, []), (615, .if_icmp .eq 588, 3, 1203, 0, 0, nI 0, 0, []), (618, .iconst 0, 1, 0, 0, 0, nI 0, 0, []), (619, .ireturn, 1, 0, 0, 0, nI 0, 0, []), (620, .aload_n 1, 1, 1, 0, 0, nI 0, 0, []), (621, .aload_n 0, 1, 0, 0, 0, nI 0, 0, []), (622, .iload_n 3, 1, 3, 0, 0, nI 0, 0, []), (623, .iconst 1, 1, 0, 0, 0, nI 1, 0, [])],
  [(624, .iadd, 1, 0, 0, 0, nI 0, 0, []), (625, .iaload, 1, 0, 0, 0, nI 0, 0, []), (626, .aload_n 0, 1, 0, 0, 0, nI 0, 0, []), (627, .iload_n 3, 1, 3, 0, 0, nI 0, 0, []), (628, .iconst 2, 1, 0, 0, 0, nI 2, 0, []), (629, .iadd, 1, 0, 0, 0, nI 0, 0, []), (630, .iaload, 1, 0, 0, 0, nI 0, 0, []), (631, .invokevirtual 82, 3, 79, 3, 8, nI 0, 0, []), (634, .aload_n 2, 1, 2, 0, 0, nI 0, 0, []), (635, .aload_n 0, 1, 0, 0, 0, nI 0, 0, []), (636, .iload_n 3, 1, 3, 0, 0, nI 0, 0, []), (637, .iconst 1, 1, 0, 0, 0, nI 1, 0, []), (638, .iadd, 1, 0, 0, 0, nI 0, 0, []), (639, .iaload, 1, 0, 0, 0, nI 0, 0, [])],
  [(640, .aload_n 0, 1, 0, 0, 0, nI 0, 0, []), (641, .iload_n 3, 1, 3, 0, 0, nI 0, 0, []), (642, .iconst 2, 1, 0, 0, 0, nI 2, 0, []), (643, .iadd, 1, 0, 0, 0, nI 0, 0, []), (644, .iaload, 1, 0, 0, 0, nI 0, 0, []), (645, .invokevirtual 85, 3, 170, 3, 9, nI 0, 0, []), (648, .if_icmp .eq 555, 3, 1203, 0, 0, nI 0, 0, []), (651, .iconst 0, 1, 0, 0, 0, nI 0, 0, []), (652, .ireturn, 1, 0, 0, 0, nI 0, 0, []), (653, .aload_n 1, 1, 1, 0, 0, nI 0, 0, []), (654, .aload_n 0, 1, 0, 0, 0, nI 0, 0, []), (655, .iload_n 3, 1, 3, 0, 0, nI 0, 0, [])],
  [(656, .iconst 1, 1, 0, 0, 0, nI 1, 0, []), (657, .iadd, 1, 0, 0, 0, nI 0, 0, []), (658, .iaload, 1, 0, 0, 0, nI 0, 0, []), (659, .aload_n 0, 1, 0, 0, 0, nI 0, 0, []), (660, .iload_n 3, 1, 3, 0, 0, nI 0, 0, []), (661, .iconst 2, 1, 0, 0, 0, nI 2, 0, []), (662, .iadd, 1, 0, 0, 0, nI 0, 0, []), (663, .iaload, 1, 0, 0, 0, nI 0, 0, []), (664, .invokevirtual 86, 3, 80, 3, 8, nI 0, 0, []), (667, .aload_n 2, 1, 2, 0, 0, nI 0, 0, []), (668, .aload_n 0, 1, 0, 0, 0, nI 0, 0, []), (669, .iload_n 3, 1, 3, 0, 0, nI 0, 0, []), (670, .iconst 1, 1, 0, 0, 0, nI 1, 0, []), (671, .iadd, 1, 0, 0, 0, nI 0, 0, [])],
  [(672, .iaload, 1, 0, 0, 0, nI 0, 0, []), (673, .aload_n 0, 1, 0, 0, 0, nI 0, 0, []), (674, .iload_n 3, 1, 3, 0, 0, nI 0, 0, []), (675, .iconst 2, 1, 0, 0, 0, nI 2, 0, []), (676, .iadd, 1, 0, 0, 0, nI 0, 0, []), (677, .iaload, 1, 0, 0, 0, nI 0, 0, []), (678, .invokevirtual 89, 3, 171, 3, 9, nI 0, 0, []), (681, .if_icmp .eq 522, 3, 1203, 0, 0, nI 0, 0, []), (684, .iconst 0, 1, 0, 0, 0, nI 0, 0, []), (685, .ireturn, 1, 0, 0, 0, nI 0, 0, []), (686, .aload_n 1, 1, 1, 0, 0, nI 0, 0, []), (687, .aload_n 0, 1, 0, 0, 0, nI 0, 0, [])],
  [(688, .iload_n 3, 1, 3, 0, 0, nI 0, 0, []), (689, .iconst 1, 1, 0, 0, 0, nI 1, 0, []), (690, .iadd, 1, 0, 0, 0, nI 0, 0, []), (691, .iaload, 1, 0, 0, 0, nI 0, 0, []), (692, .aload_n 0, 1, 0, 0, 0, nI 0, 0, []), (693, .iload_n 3, 1, 3, 0, 0, nI 0, 0, []), (694, .iconst 2, 1, 0, 0, 0, nI 2, 0, []), (695, .iadd, 1, 0, 0, 0, nI 0, 0, []), (696, .iaload, 1, 0, 0, 0, nI 0, 0, []), (697, .invokevirtual 90, 3, 81, 3, 8, nI 0, 0, []), (700, .aload_n 2, 1, 2, 0, 0, nI 0, 0, []), (701, .aload_n 0, 1, 0, 0, 0, nI 0, 0, []), (702, .iload_n 3, 1, 3, 0, 0, nI 0, 0, []), (703, .iconst 1, 1, 0, 0, 0, nI 1, 0, [])],
  [(704, .iadd, 1, 0, 0, 0, nI 0, 0, []), (705, .iaload, 1, 0, 0, 0, nI 0, 0, []), (706, .aload_n 0, 1, 0, 0, 0, nI 0, 0, []), (707, .iload_n 3, 1, 3, 0, 0, nI 0, 0, []), (708, .iconst 2, 1, 0, 0, 0, nI 2, 0, []), (709, .iadd, 1, 0, 0, 0, nI 0, 0, []), (710, .iaload, 1, 0, 0, 0, nI 0, 0, []), (711, .invokevirtual 93, 3, 172, 3, 9, nI 0, 0, []), (714, .if_icmp .eq 489, 3, 1203, 0, 0, nI 0, 0, []), (717, .iconst 0, 1, 0, 0, 0, nI 0, 0, []), (718, .ireturn, 1, 0, 0, 0, nI 0, 0, []), (719, .aload_n 1, 1, 1, 0, 0, nI 0, 0, [])],
  [(720, .aload_n 0, 1, 0, 0, 0, nI 0, 0, []), (721, .iload_n 3, 1, 3, 0, 0, nI 0, 0, []), (722, .iconst 1, 1, 0, 0, 0, nI 1, 0, []), (723, .iadd, 1, 0, 0, 0, nI 0, 0, []), (724, .iaload, 1, 0, 0, 0, nI 0, 0, []), (725, .aload_n 0, 1, 0, 0, 0, nI 0, 0, []), (726, .iload_n 3, 1, 3, 0, 0, nI 0, 0, []), (727, .iconst 2, 1, 0, 0, 0, nI 2, 0, []), (728, .iadd, 1, 0, 0, 0, nI 0, 0, []), (729, .iaload, 1, 0, 0, 0, nI 0, 0, []), (730, .invokevirtual 94, 3, 82, 3, 8, nI 0, 0, []), (733, .aload_n 2, 1, 2, 0, 0, nI 0, 0, []), (734, .aload_n 0, 1, 0, 0, 0, nI 0, 0, []), (735, .iload_n 3, 1, 3, 0, 0, nI 0, 0, [])],
  [(736, .iconst 1, 1, 0, 0, 0, nI 1, 0, []), (737, .iadd, 1, 0, 0, 0, nI 0, 0, []), (738, .iaload, 1, 0, 0, 0, nI 0, 0, []), (739, .aload_n 0, 1, 0, 0, 0, nI 0, 0, []), (740, .iload_n 3, 1, 3, 0, 0, nI 0, 0, []), (741, .iconst 2, 1, 0, 0, 0, nI 2, 0, []), (742, .iadd, 1, 0, 0, 0, nI 0, 0, []), (743, .iaload, 1, 0, 0, 0, nI 0, 0, []), (744, .invokevirtual 97, 3, 173, 3, 9, nI 0, 0, []), (747, .if_icmp .eq 456, 3, 1203, 0, 0, nI 0, 0, []), (750, .iconst 0, 1, 0, 0, 0, nI 0, 0, []), (751, .ireturn, 1, 0, 0, 0, nI 0, 0, [])],
  [(752, .aload_n 1, 1, 1, 0, 0, nI 0, 0, []), (753, .aload_n 0, 1, 0, 0, 0, nI 0, 0, []), (754, .iload_n 3, 1, 3, 0, 0, nI 0, 0, []), (755, .iconst 1, 1, 0, 0, 0, nI 1, 0, []), (756, .iadd, 1, 0, 0, 0, nI 0, 0, []), (757, .iaload, 1, 0, 0, 0, nI 0, 0, []), (758, .aload_n 0, 1, 0, 0, 0, nI 0, 0, []), (759, .iload_n 3, 1, 3, 0, 0, nI 0, 0, []), (760, .iconst 2, 1, 0, 0, 0, nI 2, 0, []), (761, .iadd, 1, 0, 0, 0, nI 0, 0, []), (762, .iaload, 1, 0, 0, 0, nI 0, 0, []), (763, .invokevirtual 98, 3, 83, 3, 8, nI 0, 0, []), (766, .aload_n 2, 1, 2, 0, 0, nI 0, 0, []), (767, .aload_n 0, 1, 0, 0, 0, nI 0, 0, [])],
  [(768, .iload_n 3, 1, 3, 0, 0, nI 0, 0, []), (769, .iconst 1, 1, 0, 0, 0, nI 1, 0, []), (770, .iadd, 1, 0, 0, 0, nI 0, 0, []), (771, .iaload, 1, 0, 0, 0, nI 0, 0, []), (772, .aload_n 0, 1, 0, 0, 0, nI 0, 0, []), (773, .iload_n 3, 1, 3, 0, 0, nI 0, 0, []), (774, .iconst 2, 1, 0, 0, 0, nI 2, 0, []), (775, .iadd, 1, 0, 0, 0, nI 0, 0, []), (776, .iaload, 1, 0, 0, 0, nI 0, 0, []), (777, .invokevirtual 101, 3, 175, 3, 9, nI 0, 0, []), (780, .if_icmp .eq 423, 3, 1203, 0, 0, nI 0, 0, []), (783, .iconst 0, 1, 0, 0, 0, nI 0, 0, [])],
  [(784, .ireturn, 1, 0, 0, 0, nI 0, 0, []), (785, .aload_n 1, 1, 1, 0, 0, nI 0, 0, []), (786, .aload_n 0, 1, 0, 0, 0, nI 0, 0, []), (787, .iload_n 3, 1, 3, 0, 0, nI 0, 0, []), (788, .iconst 1, 1, 0, 0, 0, nI 1, 0, []), (789, .iadd, 1, 0, 0, 0, nI 0, 0, []), (790, .iaload, 1, 0, 0, 0, nI 0, 0, []), (791, .invokevirtual 102, 3, 84, 2, 8, nI 0, 0, []), (794, .aload_n 2, 1, 2, 0, 0, nI 0, 0, []), (795, .aload_n 0, 1, 0, 0, 0, nI 0, 0, []), (796, .iload_n 3, 1, 3, 0, 0, nI 0, 0, []), (797, .iconst 1, 1, 0, 0, 0, nI 1, 0, []), (798, .iadd, 1, 0, 0, 0, nI 0, 0, []), (799, .iaload, 1, 0, 0, 0, nI 0, 0, [])],
  [(800, .invokevirtual 105, 3, 176, 2, 9, nI 0, 0, []), (803, .if_icmp .eq 400, 3, 1203, 0, 0, nI 0, 0, []), (806, .iconst 0, 1, 0, 0, 0, nI 0, 0, []), (807, .ireturn, 1, 0, 0, 0, nI 0, 0, []), (808, .aload_n 1, 1, 1, 0, 0, nI 0, 0, []), (809, .aload_n 0, 1, 0, 0, 0, nI 0, 0, []), (810, .iload_n 3, 1, 3, 0, 0, nI 0, 0, []), (811, .iconst 1, 1, 0, 0, 0, nI 1, 0, []), (812, .iadd, 1, 0, 0, 0, nI 0, 0, []), (813, .iaload, 1, 0, 0, 0, nI 0, 0, []), (814, .aload_n 0, 1, 0, 0, 0, nI 0, 0, []), (815, .iload_n 3, 1, 3, 0, 0, nI 0, 0, [])],
  [(816, .iconst 2, 1, 0, 0, 0, nI 2, 0, []), (817, .iadd, 1, 0, 0, 0, nI 0, 0, []), (818, .iaload, 1, 0, 0, 0, nI 0, 0, []), (819, .aload_n 0, 1, 0, 0, 0, nI 0, 0, []), (820, .iload_n 3, 1, 3, 0, 0, nI 0, 0, []), (821, .iconst 3, 1, 0, 0, 0, nI 3, 0, []), (822, .iadd, 1, 0, 0, 0, nI 0, 0, []), (823, .iaload, 1, 0, 0, 0, nI 0, 0, []), (824, .invokevirtual 106, 3, 85, 4, 8, nI 0, 0, []), (827, .aload_n 2, 1, 2, 0, 0, nI 0, 0, []), (828, .aload_n 0, 1, 0, 0, 0, nI 0, 0, []), (829, .iload_n 3, 1, 3, 0, 0, nI 0, 0, []), (830, .iconst 1, 1, 0, 0, 0, nI 1, 0, []), (831, .iadd, 1, 0, 0, 0, nI 0, 0, [])],
  [(832, .iaload, 1, 0, 0, 0, nI 0, 0, []), (833, .aload_n 0, 1, 0, 0, 0, nI 0, 0, []), (834, .iload_n 3, 1, 3, 0, 0, nI 0, 0, []), (835, .iconst 2, 1, 0, 0, 0, nI 2, 0, []), (836, .iadd, 1, 0, 0, 0, nI 0, 0, []), (837, .iaload, 1, 0, 0, 0, nI 0, 0, []), (838, .aload_n 0, 1, 0, 0, 0, nI 0, 0, []), (839, .iload_n 3, 1, 3, 0, 0, nI 0, 0, []), (840, .iconst 3, 1, 0, 0, 0, nI 3, 0, []), (841, .iadd, 1, 0, 0, 0, nI 0, 0, []), (842, .iaload, 1, 0, 0, 0, nI 0, 0, []), (843, .invokevirtual 109, 3, 178, 4, 9, nI 0, 0, []), (846, .if_icmp .eq 357, 3, 1203, 0, 0, nI 0, 0, [])],
  [(849, .iconst 0, 1, 0, 0, 0, nI 0, 0, []), (850, .ireturn, 1, 0, 0, 0, nI 0, 0, []), (851, .aload_n 1, 1, 1, 0, 0, nI 0, 0, []), (852, .aload_n 0, 1, 0, 0, 0, nI 0, 0, []), (853, .iload_n 3, 1, 3, 0, 0, nI 0, 0, []), (854, .iconst 1, 1, 0, 0, 0, nI 1, 0, []), (855, .iadd, 1, 0, 0, 0, nI 0, 0, []), (856, .iaload, 1, 0, 0, 0, nI 0, 0, []), (857, .aload_n 0, 1, 0, 0, 0, nI 0, 0, []), (858, .iload_n 3, 1, 3, 0, 0, nI 0, 0, []), (859, .iconst 2, 1, 0, 0, 0, nI 2, 0, []), (860, .iadd, 1, 0, 0, 0, nI 0, 0, []), (861, .iaload, 1, 0, 0, 0, nI 0, 0, []), (862, .aload_n 0, 1, 0, 0, 0, nI 0, 0, []), (863, .iload_n 3, 1, 3, 0, 0, nI 0, 0, [])],
  [(864, .iconst 3, 1, 0, 0, 0, nI 3, 0, []), (865, .iadd, 1, 0, 0, 0, nI 0, 0, []), (866, .iaload, 1, 0, 0, 0, nI 0, 0, []), (867, .invokevirtual 110, 3, 86, 4, 8, nI 0, 0, []), (870, .aload_n 2, 1, 2, 0, 0, nI 0, 0, []), (871, .aload_n 0, 1, 0, 0, 0, nI 0, 0, []), (872, .iload_n 3, 1, 3, 0, 0, nI 0, 0, []), (873, .iconst 1, 1, 0, 0, 0, nI 1, 0, []), (874, .iadd, 1, 0, 0, 0, nI 0, 0, []), (875, .iaload, 1, 0, 0, 0, nI 0, 0, []), (876, .aload_n 0, 1, 0, 0, 0, nI 0, 0, []), (877, .iload_n 3, 1, 3, 0, 0, nI 0, 0, []), (878, .iconst 2, 1, 0, 0, 0, nI 2, 0, []), (879, .iadd, 1, 0, 0, 0, nI 0, 0, [])],
  [(880, .iaload, 1, 0, 0, 0, nI 0, 0, []), (881, .aload_n 0, 1, 0, 0, 0, nI 0, 0, []), (882, .iload_n 3, 1, 3, 0, 0, nI 0, 0, []), (883, .iconst 3, 1, 0, 0, 0, nI 3, 0, []), (884, .iadd, 1, 0, 0, 0, nI 0, 0, []), (885, .iaload, 1, 0, 0, 0, nI 0, 0, []), (886, .invokevirtual 113, 3, 179, 4, 9, nI 0, 0, []), (889, .if_icmp .eq 314, 3, 1203, 0, 0, nI 0, 0, []), (892, .iconst 0, 1, 0, 0, 0, nI 0, 0, []), (893, .ireturn, 1, 0, 0, 0, nI 0, 0, []), (894, .aload_n 1, 1, 1, 0, 0, nI 0, 0, []), (895, .aload_n 0, 1, 0, 0, 0, nI 0, 0, [])],
  [(896, .iload_n 3, 1, 3, 0, 0, nI 0, 0, []), (897, .iconst 1, 1, 0, 0, 0, nI 1, 0, []), (898, .iadd, 1, 0, 0, 0, nI 0, 0, []), (899, .iaload, 1, 0, 0, 0, nI 0, 0, []), (900, .invokevirtual 114, 3, 87, 2, 8, nI 0, 0, []), (903, .aload_n 2, 1, 2, 0, 0, nI 0, 0, []), (904, .aload_n 0, 1, 0, 0, 0, nI 0, 0, []), (905, .iload_n 3, 1, 3, 0, 0, nI 0, 0, []), (906, .iconst 1, 1, 0, 0, 0, nI 1, 0, []), (907, .iadd, 1, 0, 0, 0, nI 0, 0, []), (908, .iaload, 1, 0, 0, 0, nI 0, 0, []), (909, .invokevirtual 117, 3, 180, 2, 9, nI 0, 0, [])],
  [(912, .if_icmp .eq 291, 3, 1203, 0, 0, nI 0, 0, []), (915, .iconst 0, 1, 0, 0, 0, nI 0, 0, []), (916, .ireturn, 1, 0, 0, 0, nI 0, 0, []), (917, .aload_n 1, 1, 1, 0, 0, nI 0, 0, []), (918, .aload_n 0, 1, 0, 0, 0, nI 0, 0, []), (919, .iload_n 3, 1, 3, 0, 0, nI 0, 0, []), (920, .iconst 1, 1, 0, 0, 0, nI 1, 0, []), (921, .iadd, 1, 0, 0, 0, nI 0, 0, []), (922, .iaload, 1, 0, 0, 0, nI 0, 0, []), (923, .aload_n 0, 1, 0, 0, 0, nI 0, 0, []), (924, .iload_n 3, 1, 3, 0, 0, nI 0, 0, []), (925, .iconst 2, 1, 0, 0, 0, nI 2, 0, []), (926, .iadd, 1, 0, 0, 0, nI 0, 0, []), (927, .iaload, 1, 0, 0, 0, nI 0, 0, [])],
  [(928, .invokevirtual 118, 3, 88, 3, 8, nI 0, 0, []), (931, .aload_n 2, 1, 2, 0, 0, nI 0, 0, []), (932, .aload_n 0, 1, 0, 0, 0, nI 0, 0, []), (933, .iload_n 3, 1, 3, 0, 0, nI 0, 0, []), (934, .iconst 1, 1, 0, 0, 0, nI 1, 0, []), (935, .iadd, 1, 0, 0, 0, nI 0, 0, []), (936, .iaload, 1, 0, 0, 0, nI 0, 0, []), (937, .aload_n 0, 1, 0, 0, 0, nI 0, 0, []), (938, .iload_n 3, 1, 3, 0, 0, nI 0, 0, []), (939, .iconst 2, 1, 0, 0, 0, nI 2, 0, []), (940, .iadd, 1, 0, 0, 0, nI 0, 0, []), (941, .iaload, 1, 0, 0, 0, nI 0, 0, []), (942, .invokevirtual 121, 3, 181, 3, 9, nI 0, 0, [])],
  [(945, .if_icmp .eq 258, 3, 1203, 0, 0, nI 0, 0, []), (948, .iconst 0, 1, 0, 0, 0, nI 0, 0, []), (949, .ireturn, 1, 0, 0, 0, nI 0, 0, []), (950, .aload_n 1, 1, 1, 0, 0, nI 0, 0, []), (951, .aload_n 0, 1, 0, 0, 0, nI 0, 0, []), (952, .iload_n 3, 1, 3, 0, 0, nI 0, 0, []), (953, .iconst 1, 1, 0, 0, 0, nI 1, 0, []), (954, .iadd, 1, 0, 0, 0, nI 0, 0, []), (955, .iaload, 1, 0, 0, 0, nI 0, 0, []), (956, .invokevirtual 122, 3, 89, 2, 8, nI 0, 0, []), (959, .aload_n 2, 1, 2, 0, 0, nI 0, 0, [])],
  [(960, .aload_n 0, 1, 0, 0, 0, nI 0, 0, []), (961, .iload_n 3, 1, 3, 0, 0, nI 0, 0, []), (962, .iconst 1, 1, 0, 0, 0, nI 1, 0, []), (963, .iadd, 1, 0, 0, 0, nI 0, 0, []), (964, .iaload, 1, 0, 0, 0, nI 0, 0, []), (965, .invokevirtual 125, 3, 182, 2, 9, nI 0, 0, []), (968, .if_icmp .eq 235, 3, 1203, 0, 0, nI 0, 0, []), (971, .iconst 0, 1, 0, 0, 0, nI 0, 0, []), (972, .ireturn, 1, 0, 0, 0, nI 0, 0, []), (973, .aload_n 1, 1, 1, 0, 0, nI 0, 0, []), (974, .aload_n 0, 1, 0, 0, 0, nI 0, 0, []), (975, .iload_n 3, 1, 3, 0, 0, nI 0, 0, [])],
  [(976, .iconst 1, 1, 0, 0, 0, nI 1, 0, []), (977, .iadd, 1, 0, 0, 0, nI 0, 0, []), (978, .iaload, 1, 0, 0, 0, nI 0, 0, []), (979, .aload_n 0, 1, 0, 0, 0, nI 0, 0, []), (980, .iload_n 3, 1, 3, 0, 0, nI 0, 0, []), (981, .iconst 2, 1, 0, 0, 0, nI 2, 0, []), (982, .iadd, 1, 0, 0, 0, nI 0, 0, []), (983, .iaload, 1, 0, 0, 0, nI 0, 0, []), (984, .invokevirtual 126, 3, 90, 3, 8, nI 0, 0, []), (987, .aload_n 2, 1, 2, 0, 0, nI 0, 0, []), (988, .aload_n 0, 1, 0, 0, 0, nI 0, 0, []), (989, .iload_n 3, 1, 3, 0, 0, nI 0, 0, []), (990, .iconst 1, 1, 0, 0, 0, nI 1, 0, []), (991, .iadd, 1, 0, 0, 0, nI 0, 0, [])],
  [(992, .iaload, 1, 0, 0, 0, nI 0, 0, []), (993, .aload_n 0, 1, 0, 0, 0, nI 0, 0, []), (994, .iload_n 3, 1, 3, 0, 0, nI 0, 0, []), (995, .iconst 2, 1, 0, 0, 0, nI 2, 0, []), (996, .iadd, 1, 0, 0, 0, nI 0, 0, []), (997, .iaload, 1, 0, 0, 0, nI 0, 0, []), (998, .invokevirtual 129, 3, 183, 3, 9, nI 0, 0, []), (1001, .if_icmp .eq 202, 3, 1203, 0, 0, nI 0, 0, []), (1004, .iconst 0, 1, 0, 0, 0, nI 0, 0, []), (1005, .ireturn, 1, 0, 0, 0, nI 0, 0, []), (1006, .aload_n 1, 1, 1, 0, 0, nI 0, 0, []), (1007, .aload_n 0, 1, 0, 0, 0, nI 0, 0, [])],
  [(1008, .iload_n 3, 1, 3, 0, 0, nI 0, 0, []), (1009, .iconst 1, 1, 0, 0, 0, nI 1, 0, []), (1010, .iadd, 1, 0, 0, 0, nI 0, 0, []), (1011, .iaload, 1, 0, 0, 0, nI 0, 0, []), (1012, .aload_n 0, 1, 0, 0, 0, nI 0, 0, []), (1013, .iload_n 3, 1, 3, 0, 0, nI 0, 0, []), (1014, .iconst 2, 1, 0, 0, 0, nI 2, 0, []), (1015, .iadd, 1, 0, 0, 0, nI 0, 0, []), (1016, .iaload, 1, 0, 0, 0, nI 0, 0, []), (1017, .invokevirtual 130, 3, 91, 3, 8, nI 0, 0, []), (1020, .aload_n 2, 1, 2, 0, 0, nI 0, 0, []), (1021, .aload_n 0, 1, 0, 0, 0, nI 0, 0, []), (1022, .iload_n 3, 1, 3, 0, 0, nI 0, 0, []), (1023, .iconst 1, 1, 0, 0, 0, nI 1, 0, [])],
  [(1024, .iadd, 1, 0, 0, 0, nI 0, 0, []), (1025, .iaload, 1, 0, 0, 0, nI 0, 0, []), (1026, .aload_n 0, 1, 0, 0, 0, nI 0, 0, []), (1027, .iload_n 3, 1, 3, 0, 0, nI 0, 0, []), (1028, .iconst 2, 1, 0, 0, 0, nI 2, 0, []), (1029, .iadd, 1, 0, 0, 0, nI 0, 0, []), (1030, .iaload, 1, 0, 0, 0, nI 0, 0, []), (1031, .invokevirtual 133, 3, 184, 3, 9, nI 0, 0, []), (1034, .if_icmp .eq 169, 3, 1203, 0, 0, nI 0, 0, []), (1037, .iconst 0, 1, 0, 0, 0, nI 0, 0, []), (1038, .ireturn, 1, 0, 0, 0, nI 0, 0, []), (1039, .aload_n 1, 1, 1, 0, 0, nI 0, 0, [])],
  [(1040, .aload_n 0, 1, 0, 0, 0, nI 0, 0, []), (1041, .iload_n 3, 1, 3, 0, 0, nI 0, 0, []), (1042, .iconst 1, 1, 0, 0, 0, nI 1, 0, []), (1043, .iadd, 1, 0, 0, 0, nI 0, 0, []), (1044, .iaload, 1, 0, 0, 0, nI 0, 0, []), (1045, .invokevirtual 134, 3, 92, 2, 8, nI 0, 0, []), (1048, .aload_n 2, 1, 2, 0, 0, nI 0, 0, []), (1049, .aload_n 0, 1, 0, 0, 0, nI 0, 0, []), (1050, .iload_n 3, 1, 3, 0, 0, nI 0, 0, []), (1051, .iconst 1, 1, 0, 0, 0, nI 1, 0, []), (1052, .iadd, 1, 0, 0, 0, nI 0, 0, []), (1053, .iaload, 1, 0, 0, 0, nI 0, 0, []), (1054, .invokevirtual 137, 3, 186, 2, 9, nI 0, 0, [])],
  [(1057, .if_icmp .eq 146, 3, 1203, 0, 0, nI 0, 0, []), (1060, .iconst 0, 1, 0, 0, 0, nI 0, 0, []), (1061, .ireturn, 1, 0, 0, 0, nI 0, 0, []), (1062, .aload_n 1, 1, 1, 0, 0, nI 0, 0, []), (1063, .invokevirtual 138, 3, 93, 1, 8, nI 0, 0, []), (1066, .aload_n 2, 1, 2, 0, 0, nI 0, 0, []), (1067, .invokevirtual 141, 3, 188, 1, 9, nI 0, 0, []), (1070, .if_icmp .eq 133, 3, 1203, 0, 0, nI 0, 0, [])],
  [(1073, .iconst 0, 1, 0, 0, 0, nI 0, 0, []), (1074, .ireturn, 1, 0, 0, 0, nI 0, 0, []), (1075, .aload_n 1, 1, 1, 0, 0, nI 0, 0, []), (1076, .aload_n 0, 1, 0, 0, 0, nI 0, 0, []), (1077, .iload_n 3, 1, 3, 0, 0, nI 0, 0, []), (1078, .iconst 1, 1, 0, 0, 0, nI 1, 0, []), (1079, .iadd, 1, 0, 0, 0, nI 0, 0, []), (1080, .iaload, 1, 0, 0, 0, nI 0, 0, []), (1081, .aload_n 0, 1, 0, 0, 0, nI 0, 0, []), (1082, .iload_n 3, 1, 3, 0, 0, nI 0, 0, []), (1083, .iconst 2, 1, 0, 0, 0, nI 2, 0, []), (1084, .iadd, 1, 0, 0, 0, nI 0, 0, []), (1085, .iaload, 1, 0, 0, 0, nI 0, 0, []), (1086, .invokevirtual 142, 3, 94, 3, 8, nI 0, 0, [])],
  [(1089, .aload_n 2, 1, 2, 0, 0, nI 0, 0, []), (1090, .aload_n 0, 1, 0, 0, 0, nI 0, 0, []), (1091, .iload_n 3, 1, 3, 0, 0, nI 0, 0, []), (1092, .iconst 1, 1, 0, 0, 0, nI 1, 0, []), (1093, .iadd, 1, 0, 0, 0, nI 0, 0, []), (1094, .iaload, 1, 0, 0, 0, nI 0, 0, []), (1095, .aload_n 0, 1, 0, 0, 0, nI 0, 0, []), (1096, .iload_n 3, 1, 3, 0, 0, nI 0, 0, []), (1097, .iconst 2, 1, 0, 0, 0, nI 2, 0, []), (1098, .iadd, 1, 0, 0, 0, nI 0, 0, []), (1099, .iaload, 1, 0, 0, 0, nI 0, 0, []), (1100, .invokevirtual 145, 3, 189, 3, 9, nI 0, 0, []), (1103, .if_icmp .eq 100, 3, 1203, 0, 0, nI 0, 0, [])],
  [(1106, .iconst 0, 1, 0, 0, 0, nI 0, 0, []), (1107, .ireturn, 1, 0, 0, 0, nI 0, 0, []), (1108, .aload_n 1, 1, 1, 0, 0, nI 0, 0, []), (1109, .invokevirtual 146, 3, 95, 1, 8, nI 0, 0, []), (1112, .aload_n 2, 1, 2, 0, 0, nI 0, 0, []), (1113, .invokevirtual 149, 3, 190, 1, 9, nI 0, 0, []), (1116, .if_icmp .eq 87, 3, 1203, 0, 0, nI 0, 0, []), (1119, .iconst 0, 1, 0, 0, 0, nI 0, 0, [])],
  [(1120, .ireturn, 1, 0, 0, 0, nI 0, 0, []), (1121, .aload_n 1, 1, 1, 0, 0, nI 0, 0, []), (1122, .invokevirtual 150, 3, 96, 1, 8, nI 0, 0, []), (1125, .aload_n 2, 1, 2, 0, 0, nI 0, 0, []), (1126, .invokevirtual 153, 3, 191, 1, 9, nI 0, 0, []), (1129, .if_icmp .eq 74, 3, 1203, 0, 0, nI 0, 0, []), (1132, .iconst 0, 1, 0, 0, 0, nI 0, 0, []), (1133, .ireturn, 1, 0, 0, 0, nI 0, 0, []), (1134, .aload_n 1, 1, 1, 0, 0, nI 0, 0, []), (1135, .aload_n 0, 1, 0, 0, 0, nI 0, 0, [])],
  [(1136, .iload_n 3, 1, 3, 0, 0, nI 0, 0, []), (1137, .iconst 1, 1, 0, 0, 0, nI 1, 0, []), (1138, .iadd, 1, 0, 0, 0, nI 0, 0, []), (1139, .iaload, 1, 0, 0, 0, nI 0, 0, []), (1140, .invokevirtual 154, 3, 97, 2, 8, nI 0, 0, []), (1143, .aload_n 2, 1, 2, 0, 0, nI 0, 0, []), (1144, .aload_n 0, 1, 0, 0, 0, nI 0, 0, []), (1145, .iload_n 3, 1, 3, 0, 0, nI 0, 0, []), (1146, .iconst 1, 1, 0, 0, 0, nI 1, 0, []), (1147, .iadd, 1, 0, 0, 0, nI 0, 0, []), (1148, .iaload, 1, 0, 0, 0, nI 0, 0, []), (1149, .invokevirtual 157, 3, 192, 2, 9, nI 0, 0, [])],
  [(1152, .if_icmp .eq 51, 3, 1203, 0, 0, nI 0, 0, []), (1155, .iconst 0, 1, 0, 0, 0, nI 0, 0, []), (1156, .ireturn, 1, 0, 0, 0, nI 0, 0, []), (1157, .aload_n 1, 1, 1, 0, 0, nI 0, 0, []), (1158, .aload_n 0, 1, 0, 0, 0, nI 0, 0, []), (1159, .iload_n 3, 1, 3, 0, 0, nI 0, 0, []), (1160, .iconst 1, 1, 0, 0, 0, nI 1, 0, []), (1161, .iadd, 1, 0, 0, 0, nI 0, 0, []), (1162, .iaload, 1, 0, 0, 0, nI 0, 0, []), (1163, .invokevirtual 158, 3, 98, 2, 8, nI 0, 0, []), (1166, .aload_n 2, 1, 2, 0, 0, nI 0, 0, []), (1167, .aload_n 0, 1, 0, 0, 0, nI 0, 0, [])],
  [(1168, .iload_n 3, 1, 3, 0, 0, nI 0, 0, []), (1169, .iconst 1, 1, 0, 0, 0, nI 1, 0, []), (1170, .iadd, 1, 0, 0, 0, nI 0, 0, []), (1171, .iaload, 1, 0, 0, 0, nI 0, 0, []), (1172, .invokevirtual 161, 3, 193, 2, 9, nI 0, 0, []), (1175, .if_icmp .eq 28, 3, 1203, 0, 0, nI 0, 0, []), (1178, .iconst 0, 1, 0, 0, 0, nI 0, 0, []), (1179, .ireturn, 1, 0, 0, 0, nI 0, 0, []), (1180, .aload_n 1, 1, 1, 0, 0, nI 0, 0, []), (1181, .aload_n 0, 1, 0, 0, 0, nI 0, 0, []), (1182, .iload_n 3, 1, 3, 0, 0, nI 0, 0, []), (1183, .iconst 1, 1, 0, 0, 0, nI 1, 0, [])],
  [(1184, .iadd, 1, 0, 0, 0, nI 0, 0, []), (1185, .iaload, 1, 0, 0, 0, nI 0, 0, []), (1186, .invokevirtual 162, 3, 99, 2, 8, nI 0, 0, []), (1189, .aload_n 2, 1, 2, 0, 0, nI 0, 0, []), (1190, .aload_n 0, 1, 0, 0, 0, nI 0, 0, []), (1191, .iload_n 3, 1, 3, 0, 0, nI 0, 0, []), (1192, .iconst 1, 1, 0, 0, 0, nI 1, 0, []), (1193, .iadd, 1, 0, 0, 0, nI 0, 0, []), (1194, .iaload, 1, 0, 0, 0, nI 0, 0, []), (1195, .invokevirtual 165, 3, 194, 2, 9, nI 0, 0, []), (1198, .if_icmp .eq 5, 3, 1203, 0, 0, nI 0, 0, [])],
  [(1201, .iconst 0, 1, 0, 0, 0, nI 0, 0, []), (1202, .ireturn, 1, 0, 0, 0, nI 0, 0, []), (1203, .iinc 3 4, 3, 3, 0, 0, nI 4, 0, []), (1206, .goto (-1188), 3, 18, 0, 0, nI 0, 0, []), (1209, .iconst 1, 1, 0, 0, 0, nI 1, 0, []), (1210, .ireturn, 1, 0, 0, 0, nI 0, 0, [])]]
def md_L_law : MD := (12, yL_law, cL_law, 4, (some .boolean), false, rw_L_law)
/-- the methods by number -/
def mdT : List MD := [md_X0_init, md_X0_append, md_X0_firstWrong, md_X1_init, md_X1_rank, md_X1_isFirst, md_X1_placeOf, md_X1_foremost, md_X1_allLike, md_X1_isAheadOf, md_X2_init, md_X3_init, md_X3_remember, md_X3_takeBack, md_X4_init, md_X4_isThere, md_X4_clear, md_X4_kindOfDay, md_X5_init, md_X5_append, md_X5_countFitting, md_X5_leastFitting, md_X5_bestEffort, md_X5_greatestPart, md_X5_isFitting, md_X5_markBy, md_X6_init, md_X6_beginIn, md_X6_copyFrom, md_X6_giftOf, md_X6_setGift, md_X6_isAtCourt, md_X6_courtOf, md_X6_officesOf, md_X6_markOf, md_X6_toCoast, md_X6_passDay, md_X6_settle, md_X6_promote, md_X6_logContest, md_X6_logSize, md_X6_logEntry, md_X6_nearlyOf, md_X6_hasMoreGifts, md_X6_isRing, md_X6_brillianceOf, md_X6_spreadOf, md_X7_init, md_X7_append, md_X7_readInto, md_X7_readClause, md_X7_whyNoWord, md_X7_readLaw, md_X7_readPerson, md_X7_readTurns, md_X7_readOffice, md_X7_readNumber, md_X7_readSign, md_X7_isNext, md_X7_skipBlanks, md_X7_isFigure, md_X7_blame, md_X8_init, md_X8_feed, md_X8_kingdom, md_X8_fault, md_X8_told, md_X8_person, md_X8_office, md_X8_ahead, md_X8_logged, md_X8_day, md_X8_effort, md_X8_rain, md_X8_teach, md_X8_send, md_X8_recall, md_X8_drift, md_X8_undo, md_X8_mark, md_X8_place, md_X8_wouldBe, md_X8_holds, md_X8_efforts, md_X8_restless, md_X8_letWin, md_X8_win, md_X8_next, md_X8_beats, md_X8_spread, md_X8_dry, md_X8_see, md_X8_truly, md_X8_tryNext, md_X8_write, md_X8_judge, md_X8_tear, md_X8_seed, md_X8_keep, md_X8_goBack, md_X8_isWithin, md_X8_isKind, md_X8_isPerson, md_X8_isOffice, md_X8_whyNoDays, md_X8_draw, md_X8_drawWeatherAndEffort, md_X8_secondIn, md_X8_holderBehind, md_X8_secondByEfforts, md_X8_isRestless, md_X8_fewestWhoLet, md_X8_isSecondIfLet, md_X8_countRings, md_X9_init, md_X9_in, md_X9_has, md_X9_isPerson, md_X9_isOffice, md_X9_copyRow, md_X9_feed, md_X9_wrong, md_X9_fine, md_X9_here, md_X9_number, md_X9_readLaw, md_X9_readPerson, md_X9_readDays, md_X9_readOffice, md_X9_readClause, md_X9_kingdom, md_X9_begin, md_X9_fault, md_X9_markIn, md_X9_isAtCourt, md_X9_courtIn, md_X9_isAhead, md_X9_bestOf, md_X9_firstOnes, md_X9_secondOne, md_X9_goOff, md_X9_logIn, md_X9_least, md_X9_contestIn, md_X9_kindOf, md_X9_dayIn, md_X9_nearly, md_X9_doesBeat, md_X9_rings, md_X9_vacant, md_X9_brilliant, md_X9_told, md_X9_heldBy, md_X9_person, md_X9_office, md_X9_ahead, md_X9_logged, md_X9_remember, md_X9_whyNot, md_X9_day, md_X9_effort, md_X9_rain, md_X9_teach, md_X9_bits, md_X9_send, md_X9_recall, md_X9_draw, md_X9_drift, md_X9_undo, md_X9_isKind, md_X9_mark, md_X9_place, md_X9_wouldBe, md_X9_holds, md_X9_effortsOf, md_X9_efforts, md_X9_restless, md_X9_winsIf, md_X9_letWin, md_X9_win, md_X9_next, md_X9_beats, md_X9_spread, md_X9_dry, md_X9_see, md_X9_isSo, md_X9_truly, md_X9_partBy, md_X9_tryNext, md_X9_write, md_X9_judge, md_X9_tear, md_X9_seed, md_X9_keep, md_X9_goBack, md_J6_compare_7cf53, md_J6_bitCount_0f7a4, md_J9_max_7cf53, md_J9_min_7cf53, md_L_law]
def mdOf (n : Nat) : MD := mdT.getD n md_L_law
def rN (c : Nat) : String := [RX0, RX1, RX2, RX3, RX4, RX5, RX6, RX7, RX8, RX9, RJ6, RJ9, RL].getD c RL
def tN (c : Nat) : u_T := [TX0, TX1, TX2, TX3, TX4, TX5, TX6, TX7, TX8, TX9].getD c TX0
def tyN (c : Nat) : Nat → FieldType := [tyX0, tyX1, tyX2, tyX3, tyX4, tyX5, tyX6, tyX7, tyX8, tyX9].getD c tyX0
def nF (c : Nat) : Nat := [3, 4, 3, 3, 9, 4, 9, 5, 11, 32].getD c 0
def FLt : List (Nat × Nat × Nat × Nat) := [(7, 9, 7, 0), (7, 15, 7, 1), (8, 80, 7, 1), (7, 19, 7, 2), (7, 22, 7, 3), (8, 92, 7, 3), (7, 25, 7, 4), (8, 110, 7, 4), (6, 9, 6, 0), (6, 15, 6, 1), (8, 165, 6, 1), (6, 18, 6, 2), (8, 168, 6, 2), (6, 21, 6, 3), (8, 171, 6, 3), (6, 24, 6, 4), (0, 22, 6, 4), (8, 180, 6, 4), (6, 27, 6, 5), (6, 30, 6, 6), (6, 34, 6, 7), (8, 125, 6, 7), (6, 37, 6, 8), (8, 128, 6, 8), (1, 9, 1, 0), (1, 15, 1, 1), (8, 243, 1, 1), (1, 19, 1, 2), (6, 118, 1, 2), (1, 22, 1, 3), (6, 95, 1, 3), (8, 246, 1, 3), (3, 11, 3, 0), (3, 17, 3, 1), (3, 21, 3, 2), (8, 98, 3, 2), (5, 9, 5, 0), (5, 15, 5, 1), (5, 18, 5, 2), (5, 21, 5, 3), (8, 105, 5, 3), (0, 9, 0, 0), (0, 15, 0, 1), (0, 18, 0, 2), (8, 106, 0, 2), (4, 9, 4, 0), (6, 41, 4, 0), (7, 87, 4, 0), (4, 15, 4, 1), (8, 161, 4, 1), (7, 90, 4, 1), (1, 58, 4, 1), (6, 60, 4, 1), (4, 18, 4, 2), (7, 93, 4, 2), (4, 21, 4, 3), (8, 177, 4, 3), (7, 100, 4, 3), (6, 106, 4, 3), (4, 24, 4, 4), (1, 40, 4, 4), (8, 113, 4, 4), (7, 81, 4, 4), (4, 28, 4, 5), (8, 116, 4, 5), (7, 84, 4, 5), (6, 67, 4, 5), (4, 31, 4, 6), (1, 25, 4, 6), (8, 107, 4, 6), (7, 68, 4, 6), (6, 50, 4, 6), (4, 34, 4, 7), (7, 71, 4, 7), (8, 122, 4, 7), (4, 37, 4, 8), (7, 74, 4, 8), (8, 119, 4, 8), (6, 57, 4, 8), (2, 10, 2, 0), (8, 295, 2, 0), (2, 16, 2, 1), (8, 298, 2, 1), (2, 20, 2, 2), (8, 101, 2, 2), (8, 10, 8, 0), (8, 19, 8, 1), (8, 23, 8, 2), (8, 29, 8, 3), (8, 36, 8, 4), (8, 42, 8, 5), (8, 49, 8, 6), (8, 56, 8, 7), (8, 63, 8, 8), (8, 67, 8, 9), (8, 70, 8, 10), (9, 7, 9, 0), (9, 13, 9, 1), (9, 16, 9, 2), (9, 19, 9, 3), (9, 22, 9, 4), (9, 130, 9, 5), (9, 56, 9, 6), (9, 63, 9, 7), (9, 133, 9, 8), (9, 136, 9, 9), (9, 139, 9, 10), (9, 26, 9, 11), (9, 67, 9, 12), (9, 29, 9, 13), (9, 32, 9, 14), (9, 35, 9, 15), (9, 142, 9, 16), (9, 38, 9, 17), (9, 41, 9, 18), (9, 145, 9, 19), (9, 77, 9, 20), (9, 71, 9, 21), (9, 74, 9, 22), (9, 92, 9, 23), (9, 99, 9, 24), (9, 102, 9, 25), (9, 108, 9, 26), (9, 105, 9, 27), (9, 44, 9, 28), (9, 47, 9, 29), (9, 50, 9, 30), (9, 53, 9, 31)]
def FLtg : List Nat := [96, 0, 0, 0, 0, 0, 0, 0, 18, 0, 0, 0, 0, 0, 0, 0, 0, 0, 0, 0, 0, 0, 0, 0, 25, 0, 0, 0, 0, 0, 0, 0, 18, 0, 0, 0, 15, 0, 0, 0, 0, 15, 0, 0, 0, 13, 0, 0, 0, 0, 0, 0, 0, 0, 0, 0, 0, 0, 0, 0, 0, 0, 0, 0, 0, 0, 0, 0, 0, 0, 0, 0, 0, 0, 0, 0, 0, 0, 0, 26, 0, 0, 0, 0, 0, 7, 0, 0, 0, 0, 0, 0, 0, 0, 0, 0, 489, 0, 0, 0, 0, 0, 0, 0, 0, 0, 0, 0, 0, 0, 0, 0, 0, 0, 0, 0, 0, 0, 0, 0, 0, 0, 0, 0, 0, 0, 0, 0]
def MLt : List (Nat × Nat × Nat) := [(12, 9, 62), (8, 35, 11), (12, 13, 63), (8, 75, 100), (8, 84, 48), (12, 18, 64), (8, 88, 49), (7, 28, 16), (7, 33, 59), (7, 36, 50), (7, 40, 51), (7, 64, 15), (7, 44, 61), (7, 48, 52), (7, 77, 56), (7, 103, 60), (7, 51, 53), (7, 54, 54), (7, 96, 58), (7, 57, 55), (7, 60, 57), (8, 95, 27), (12, 23, 65), (12, 27, 66), (8, 131, 32), (6, 53, 31), (8, 135, 33), (8, 139, 42), (8, 142, 113), (8, 309, 44), (6, 133, 43), (6, 63, 29), (6, 128, 195), (8, 146, 45), (8, 149, 40), (6, 121, 198), (12, 31, 67), (8, 152, 102), (8, 157, 29), (12, 36, 68), (8, 174, 103), (12, 40, 69), (8, 183, 15), (8, 187, 17), (12, 44, 70), (8, 191, 41), (6, 124, 40), (12, 48, 71), (8, 194, 104), (8, 197, 12), (3, 25, 28), (3, 29, 198), (8, 201, 36), (6, 70, 17), (6, 74, 32), (6, 78, 4), (1, 30, 34), (1, 36, 7), (1, 51, 31), (1, 47, 5), (1, 54, 9), (1, 43, 8), (6, 84, 37), (6, 88, 5), (6, 91, 35), (6, 98, 38), (6, 109, 197), (6, 114, 30), (6, 102, 39), (12, 52, 72), (12, 56, 73), (12, 61, 74), (8, 205, 101), (8, 208, 30), (12, 66, 75), (8, 212, 31), (8, 215, 35), (8, 219, 196), (12, 70, 76), (12, 74, 77), (8, 224, 106), (8, 303, 105), (12, 78, 78), (8, 227, 13), (12, 82, 79), (8, 231, 34), (12, 86, 80), (8, 235, 4), (8, 239, 6), (12, 90, 81), (12, 94, 82), (8, 249, 28), (8, 252, 108), (12, 98, 83), (8, 255, 109), (8, 265, 107), (12, 102, 84), (8, 258, 110), (12, 106, 85), (8, 262, 111), (8, 306, 112), (12, 110, 86), (12, 114, 87), (12, 118, 88), (8, 269, 43), (12, 122, 89), (8, 272, 46), (12, 126, 90), (12, 130, 91), (8, 279, 19), (12, 134, 92), (8, 281, 20), (5, 25, 24), (5, 37, 25), (8, 284, 21), (12, 138, 93), (8, 287, 22), (5, 29, 20), (5, 33, 23), (5, 41, 197), (12, 142, 94), (8, 290, 1), (12, 146, 95), (8, 291, 2), (12, 150, 96), (12, 154, 97), (12, 158, 98), (12, 162, 99), (12, 12, 114), (12, 17, 120), (9, 59, 115), (12, 22, 130), (9, 80, 122), (9, 84, 123), (9, 124, 129), (9, 88, 121), (9, 111, 125), (9, 95, 124), (9, 115, 126), (9, 118, 127), (9, 121, 128), (9, 127, 131), (12, 26, 132), (12, 30, 151), (9, 163, 135), (9, 148, 134), (9, 195, 149), (9, 198, 146), (9, 201, 148), (9, 192, 147), (9, 204, 150), (12, 35, 153), (9, 207, 117), (9, 212, 152), (12, 39, 154), (9, 215, 118), (12, 43, 155), (9, 186, 144), (12, 47, 156), (12, 51, 159), (9, 223, 158), (9, 226, 157), (9, 219, 119), (9, 229, 145), (9, 189, 143), (9, 170, 138), (9, 167, 137), (9, 156, 116), (9, 159, 136), (9, 152, 133), (9, 173, 139), (9, 176, 140), (9, 179, 142), (9, 182, 141), (12, 55, 160), (12, 60, 161), (12, 65, 162), (12, 69, 164), (9, 232, 163), (12, 73, 165), (12, 77, 167), (9, 242, 166), (12, 81, 168), (12, 85, 170), (9, 245, 169), (12, 89, 171), (12, 93, 172), (12, 97, 173), (12, 101, 175), (9, 248, 174), (12, 105, 176), (12, 109, 178), (9, 251, 177), (12, 113, 179), (12, 117, 180), (12, 121, 181), (12, 125, 182), (12, 129, 183), (12, 133, 184), (12, 137, 186), (9, 258, 185), (12, 141, 188), (9, 261, 186), (9, 264, 187), (12, 145, 189), (12, 149, 190), (12, 153, 191), (12, 157, 192), (12, 161, 193), (12, 165, 194)]
def MLtg : List Nat := [84, 97, 169, 3, 4, 3, 3, 3, 3, 3, 3, 2, 3, 3, 3, 3, 2, 3, 3, 3, 3, 3, 6, 3, 3, 3, 3, 3, 3, 3, 3, 3, 3, 2, 3, 3, 2, 3, 4, 0, 3, 3, 3, 0, 4, 3, 3, 0, 3, 4, 3, 3, 0, 3, 0, 0, 3, 3, 3, 0, 3, 3, 3, 3, 0, 3, 3, 2, 3, 3, 3, 3, 3, 2, 0, 3, 0, 0, 5, 3, 3, 3, 6, 3, 3, 3, 0, 3, 0, 3, 3, 3, 0, 3, 3, 3, 3, 3, 3, 3, 3, 3, 3, 3, 3, 0, 3, 3, 5, 3, 3, 3, 3, 3, 2, 3, 3, 3, 0, 3, 0, 3, 3, 3, 3, 3, 3, 3, 5, 100, 3, 4, 3, 3, 3, 3, 3, 3, 3, 3, 3, 3, 3, 3, 3, 3, 3, 3, 3, 3, 3, 3, 3, 4, 3, 3, 3, 4, 3, 3, 3, 4, 3, 3, 3, 3, 3, 3, 2, 3, 3, 3, 3, 2, 3, 3, 3, 3, 3, 2, 3, 3, 7, 3, 3, 2, 3, 3, 3, 3, 3, 3, 3, 3, 3, 3, 3, 3, 5, 3, 3, 3, 3, 0, 3, 3, 3, 3, 3, 3]
def MNt : List (Nat × Nat × Nat × Nat) := [(8, 9, 47, 8), (8, 18, 26, 8), (8, 28, 3, 8), (3, 24, 26, 8), (8, 48, 18, 8), (8, 55, 0, 8), (8, 62, 14, 8), (8, 74, 10, 8), (2, 9, 26, 8)]
def MNtg : List Nat := [92, 25, 40, 28, 15, 19, 16, 57, 4]
def OIt : List (Nat × Nat) := [(8, 1), (7, 3), (6, 3), (1, 3), (3, 3), (5, 3), (0, 3), (4, 3), (2, 1), (9, 1)]
def OItg : List Nat := [87, 7, 25, 40, 22, 21, 19, 16, 57, 514]
def ACt : List (Nat × Nat) := [(6, 44)]
def ACtg : List Nat := [431]
def KIt : List (Nat × Nat × Int32) := [(8, 79, (-1000000002)), (8, 83, (-1000000004)), (8, 156, (-1000000001)), (8, 190, (-1000000003)), (8, 299, nI 90000), (10, 265, nI 1431655765), (10, 266, nI 858993459), (10, 267, nI 252645135), (8, 300, nI 1103515245), (8, 301, nI 2147483647), (8, 302, nI 65536), (9, 66, (-1000000002)), (9, 70, (-1000000004)), (9, 211, (-1000000001)), (9, 218, (-1000000003)), (9, 222, nI 90000), (9, 241, nI 65536)]
def KItg : List Nat := [359, 0, 135, 18, 17, 89, 0, 0, 16, 0, 0, 277, 0, 88, 16, 16, 84]
def KLt : List (Nat × Nat × Int64) := [(8, 275, 1000000000), (8, 277, 100), (9, 235, 1103515245), (9, 237, 12345), (9, 239, 2147483648), (9, 254, 1000000000), (9, 256, 100)]
def KLtg : List Nat := [737, 0, 389, 0, 0, 64, 0]
def NLt : List (Nat × Nat × Nat) := [(12, 7, 8), (8, 7, 7), (8, 16, 6), (8, 26, 1), (8, 33, 3), (3, 9, 6), (8, 40, 2), (8, 46, 5), (8, 53, 0), (8, 60, 4), (2, 7, 6), (12, 10, 9)]
def NLtg : List Nat := [82, 7, 25, 40, 22, 5, 13, 1, 19, 16, 63, 508]
def CWt : List (Nat) := [62, 47, 26, 3, 11, 18, 0, 14, 10, 63, 100, 48, 64, 49, 16, 59, 50, 51, 15, 61, 52, 56, 60, 53, 54, 58, 55, 57, 27, 65, 66, 32, 31, 33, 42, 113, 44, 43, 29, 195, 45, 40, 198, 67, 102, 68, 103, 69, 17, 70, 41, 71, 104, 12, 28, 36, 4, 34, 7, 5, 9, 8, 37, 35, 38, 197, 30, 39, 72, 73, 74, 101, 75, 196, 76, 77, 106, 105, 78, 13, 79, 80, 6, 81, 82, 108, 83, 109, 107, 84, 110, 85, 111, 112, 86, 87, 88, 89, 46, 90, 91, 19, 92, 20, 24, 25, 21, 93, 22, 23, 94, 1, 95, 2, 96, 97, 98, 99, 114, 120, 115, 130, 122, 123, 129, 121, 125, 124, 126, 127, 128, 131, 132, 151, 135, 134, 149, 146, 148, 147, 150, 153, 117, 152, 154, 118, 155, 144, 156, 159, 158, 157, 119, 145, 143, 138, 137, 116, 136, 133, 139, 140, 142, 141, 160, 161, 162, 164, 163, 165, 167, 166, 168, 170, 169, 171, 172, 173, 175, 174, 176, 178, 177, 179, 180, 181, 182, 183, 184, 186, 185, 188, 187, 189, 190, 191, 192, 193, 194]
def CWtg : List Nat := [86, 7, 25, 40, 22, 21, 19, 16, 57, 53, 2, 5, 3, 3, 3, 3, 3, 2, 3, 3, 3, 3, 2, 3, 3, 3, 3, 3, 3, 6, 3, 3, 3, 3, 3, 3, 3, 3, 3, 2, 3, 3, 2, 3, 3, 5, 3, 3, 4, 4, 3, 4, 3, 4, 3, 4, 5, 3, 3, 4, 3, 3, 3, 4, 3, 2, 3, 3, 3, 3, 3, 2, 4, 4, 6, 3, 3, 3, 6, 3, 3, 4, 4, 3, 3, 4, 3, 3, 3, 3, 3, 3, 3, 3, 3, 3, 3, 4, 3, 3, 5, 3, 3, 3, 3, 2, 3, 3, 3, 4, 4, 3, 3, 3, 3, 3, 3, 3, 4, 101, 2, 5, 3, 3, 3, 3, 3, 3, 3, 3, 3, 3, 3, 3, 3, 3, 3, 3, 3, 3, 3, 3, 3, 4, 3, 3, 3, 4, 3, 3, 3, 4, 3, 3, 3, 3, 3, 2, 3, 3, 3, 3, 2, 3, 3, 3, 3, 3, 2, 3, 3, 3, 7, 3, 2, 3, 3, 3, 3, 3, 3, 3, 3, 3, 3, 3, 3, 3, 5, 3, 3, 3, 4, 3, 3, 3, 3, 3, 3]
def IMt : List (Nat) := [62, 47, 26, 3, 11, 18, 0, 14, 10, 63, 48, 64, 49, 16, 59, 50, 15, 61, 52, 56, 53, 54, 58, 55, 57, 27, 65, 66, 32, 31, 33, 42, 113, 44, 43, 29, 45, 40, 67, 102, 68, 103, 69, 17, 70, 41, 71, 104, 12, 28, 36, 4, 34, 7, 5, 9, 8, 37, 35, 38, 30, 39, 72, 73, 74, 75, 76, 77, 106, 105, 78, 13, 79, 80, 6, 81, 82, 108, 83, 109, 107, 84, 110, 85, 111, 112, 86, 87, 88, 89, 46, 90, 91, 19, 92, 20, 24, 21, 93, 22, 23, 94, 1, 95, 2, 96, 97, 98, 99, 114, 120, 130, 122, 123, 129, 121, 125, 124, 126, 127, 128, 131, 132, 151, 135, 134, 149, 146, 148, 147, 150, 153, 117, 152, 154, 118, 155, 144, 156, 159, 158, 157, 119, 145, 143, 138, 137, 136, 133, 139, 140, 141, 160, 161, 162, 164, 165, 167, 166, 168, 170, 171, 172, 173, 175, 174, 176, 178, 177, 179, 180, 181, 182, 183, 184, 186, 185, 188, 187, 189, 190, 191, 192, 193, 194]
def IMtg : List Nat := [85, 7, 25, 40, 22, 21, 19, 16, 57, 52, 8, 3, 3, 3, 4, 3, 5, 4, 3, 3, 6, 3, 3, 3, 3, 2, 6, 3, 3, 3, 3, 3, 4, 2, 3, 3, 6, 3, 6, 4, 4, 4, 2, 4, 4, 3, 4, 4, 3, 3, 4, 5, 3, 4, 3, 4, 3, 3, 3, 4, 5, 4, 2, 3, 3, 7, 11, 3, 4, 3, 5, 3, 3, 4, 4, 3, 3, 5, 2, 4, 3, 2, 4, 2, 4, 3, 2, 3, 3, 4, 3, 3, 5, 3, 3, 3, 4, 5, 3, 3, 5, 3, 3, 3, 3, 3, 3, 3, 3, 5, 100, 8, 4, 3, 3, 3, 3, 3, 3, 3, 3, 3, 2, 3, 4, 3, 3, 3, 3, 3, 3, 2, 4, 4, 2, 4, 2, 5, 2, 3, 4, 4, 3, 3, 3, 3, 3, 6, 3, 3, 3, 6, 2, 3, 3, 3, 6, 3, 4, 6, 3, 6, 3, 3, 3, 4, 2, 3, 4, 2, 3, 3, 3, 3, 5, 3, 4, 2, 5, 2, 3, 3, 3, 3, 3]
def SMt : List (Nat) := [100, 51, 60, 195, 198, 197, 101, 196, 25, 115, 116, 142, 163, 169]
def SMtg : List Nat := [357, 28, 18, 69, 10, 101, 22, 9, 138, 159, 151, 18, 22, 26]
def SEt : List (Nat) := [59, 50, 61, 52, 56, 53, 54, 58, 55, 57, 113, 102, 103, 104, 7, 9, 8, 37, 38, 39, 106, 105, 108, 109, 107, 110, 111, 112, 24, 23, 122, 123, 129, 121, 125, 124, 126, 127, 128, 131, 135, 134, 149, 146, 148, 147, 150, 117, 152, 118, 144, 158, 157, 119, 145, 143, 138, 137, 136, 133, 139, 140, 141, 166, 174, 177, 185, 187, 63, 48, 64, 49, 16, 15, 27, 65, 66, 32, 31, 33, 42, 44, 43, 29, 45, 40, 67, 68, 69, 17, 70, 41, 71, 12, 28, 36, 4, 34, 5, 35, 30, 72, 73, 74, 75, 76, 77, 78, 13, 79, 80, 6, 81, 82, 83, 84, 85, 86, 87, 88, 89, 46, 90, 91, 19, 92, 20, 21, 93, 22, 94, 1, 95, 2, 96, 97, 98, 99, 120, 130, 132, 151, 153, 154, 155, 156, 159, 160, 161, 162, 164, 165, 167, 168, 170, 171, 172, 173, 175, 176, 178, 179, 180, 181, 182, 183, 184, 186, 188, 189, 190, 191, 192, 193, 194]
def SEtg : List Nat := [0, 0, 0, 0, 0, 0, 0, 0, 0, 0, 0, 0, 0, 0, 0, 0, 0, 0, 0, 0, 0, 0, 0, 0, 0, 0, 0, 0, 0, 0, 0, 0, 0, 0, 0, 0, 0, 0, 0, 0, 0, 0, 0, 0, 0, 0, 0, 0, 0, 0, 0, 0, 0, 0, 0, 0, 0, 0, 0, 0, 0, 0, 0, 0, 0, 0, 0, 0, 286, 8, 3, 3, 3, 14, 38, 6, 3, 3, 3, 3, 3, 7, 3, 3, 6, 3, 6, 9, 7, 4, 4, 3, 4, 8, 3, 4, 5, 3, 8, 16, 10, 7, 3, 3, 7, 11, 3, 14, 3, 3, 4, 4, 3, 3, 8, 11, 7, 11, 3, 3, 4, 3, 3, 5, 3, 3, 3, 10, 3, 3, 9, 3, 3, 3, 3, 3, 3, 3, 106, 8, 43, 3, 31, 12, 7, 8, 3, 58, 3, 3, 3, 6, 3, 11, 3, 6, 3, 3, 3, 7, 3, 7, 3, 3, 3, 3, 5, 3, 7, 8, 3, 3, 3, 3, 3]
def INt : List (Nat) := [12, 8, 7, 6, 1, 3, 5, 0, 4, 2, 9, 10, 11]
def INtg : List Nat := [68, 0, 0, 0, 0, 0, 0, 0, 0, 0, 0, 1, 0]
def IBt : List (Nat) := [8, 7, 6, 1, 3, 5, 0, 4, 2, 9]
def IBtg : List Nat := [83, 7, 25, 40, 22, 21, 19, 16, 57, 514]
def dsT : List (String × Nat) := [("()I", 0), ("()V", 0), ("()Z", 0), ("(I)I", 1), ("(I)V", 1), ("(I)Z", 1), ("(II)I", 2), ("(II)V", 2), ("(II)Z", 2), ("(III)I", 3), ("(III)V", 3), ("(III)Z", 3), ("(IIII)V", 4), ("(IIII)Z", 4), ("(ILSecondBest$Contest;)V", 2), ("(ILSecondBest$Realm;)I", 2), ("(LSecondBest$Realm;)I", 1), ("(LSecondBest$Realm;)V", 1), ("(LSecondBest$Realm;I)I", 2), ("(LSecondBest$Realm;I)V", 2), ("(LSecondBest$Realm;II)I", 3), ("(LSecondBest$Realm;II)V", 3), ("(LSecondBest$Realm;II)Z", 3), ("(LSecondBest$Realm;LSecondBest$Contest;)V", 2), ("(LSecondBest$Realm;LSecondBest$Contest;I)V", 3), ("(LSecondBest$Realm;LSecondBest$State;)I", 2), ("(LSecondBest$Realm;LSecondBest$State;I)I", 3), ("(LSecondBest$Realm;LSecondBest$State;I)V", 3), ("(LSecondBest$State;)I", 1), ("(LSecondBest$State;)V", 1), ("(LSecondBest$State;I)I", 2), ("(LSecondBest$State;I)V", 2), ("(Z)I", 1), ("([I)Z", 1)]
def dxT : List Nat := [1, 6, 28, 1, 27, 5, 26, 25, 26, 22, 1, 1, 29, 31, 1, 2, 1, 3, 1, 6, 0, 0, 0, 3, 5, 6, 1, 17, 29, 6, 10, 5, 16, 18, 20, 19, 23, 24, 21, 14, 0, 6, 16, 8, 11, 16, 18, 1, 3, 17, 17, 15, 17, 17, 17, 17, 6, 4, 5, 1, 5, 7, 1, 3, 0, 0, 3, 6, 6, 3, 6, 3, 6, 32, 9, 3, 3, 3, 3, 6, 6, 6, 6, 6, 3, 9, 9, 3, 6, 3, 6, 6, 3, 0, 6, 0, 0, 3, 3, 3, 11, 5, 5, 5, 3, 3, 1, 30, 6, 6, 8, 6, 11, 0, 1, 11, 8, 5, 5, 7, 3, 7, 2, 0, 6, 4, 4, 4, 4, 1, 0, 1, 0, 9, 8, 3, 13, 9, 6, 6, 7, 12, 3, 7, 3, 4, 0, 8, 0, 0, 0, 3, 3, 6, 6, 3, 6, 1, 3, 3, 6, 32, 9, 3, 3, 3, 3, 3, 3, 5, 6, 6, 6, 6, 6, 6, 3, 11, 9, 9, 3, 6, 3, 6, 6, 5, 3, 3, 0, 6, 0, 0, 3, 3, 3, 6, 3, 6, 6, 33]
/-- parameters of each method, and how it is called: 0 on an object, 1 alone, 2 a constructor -/
def npT : List Nat := [0, 2, 1, 0, 3, 1, 3, 2, 3, 3, 0, 0, 1, 2, 0, 0, 0, 1, 0, 2, 0, 0, 0, 1, 1, 2, 0, 1, 1, 2, 3, 1, 1, 2, 3, 2, 2, 3, 3, 2, 0, 2, 1, 2, 3, 1, 2, 0, 1, 1, 1, 2, 1, 1, 1, 1, 2, 1, 1, 0, 1, 2, 0, 1, 0, 0, 1, 2, 2, 1, 2, 1, 2, 1, 3, 1, 1, 1, 1, 2, 2, 2, 2, 2, 1, 3, 3, 1, 2, 1, 2, 2, 1, 0, 2, 0, 0, 1, 1, 1, 3, 1, 1, 1, 1, 1, 0, 2, 2, 2, 2, 2, 3, 0, 0, 3, 2, 1, 1, 2, 1, 2, 0, 0, 2, 1, 1, 1, 1, 0, 0, 0, 0, 3, 2, 1, 4, 3, 2, 2, 2, 4, 1, 2, 1, 1, 0, 2, 0, 0, 0, 1, 1, 2, 2, 1, 2, 0, 1, 1, 2, 1, 3, 1, 1, 1, 1, 1, 1, 1, 2, 2, 2, 2, 2, 2, 1, 3, 3, 3, 1, 2, 1, 2, 2, 1, 1, 1, 0, 2, 0, 0, 1, 1, 1, 2, 1, 2, 2, 1]
def skT : List Nat := [2, 0, 0, 2, 0, 0, 0, 0, 0, 0, 2, 2, 0, 0, 2, 0, 0, 0, 2, 0, 0, 0, 0, 0, 0, 1, 2, 0, 0, 0, 0, 0, 0, 0, 0, 0, 0, 0, 0, 0, 0, 0, 0, 0, 0, 0, 0, 2, 0, 0, 0, 1, 0, 0, 0, 0, 0, 0, 0, 0, 1, 0, 2, 0, 0, 0, 0, 0, 0, 0, 0, 0, 0, 0, 0, 0, 0, 0, 0, 0, 0, 0, 0, 0, 0, 0, 0, 0, 0, 0, 0, 0, 0, 0, 0, 0, 0, 0, 0, 0, 1, 1, 0, 0, 0, 0, 0, 0, 0, 0, 0, 0, 0, 0, 2, 1, 1, 0, 0, 0, 0, 0, 0, 0, 0, 0, 0, 0, 0, 0, 0, 0, 0, 0, 0, 0, 0, 0, 0, 0, 0, 0, 1, 0, 0, 0, 0, 0, 0, 0, 0, 0, 0, 0, 0, 0, 0, 0, 0, 0, 0, 0, 0, 1, 0, 0, 0, 0, 0, 1, 0, 0, 0, 0, 0, 0, 0, 0, 0, 0, 0, 0, 0, 0, 0, 0, 0, 0, 0, 0, 0, 0, 0, 0, 0, 1, 1, 1, 1, 1]
end
section
/-! how memory is laid out: an address is (kind of object, which of them, 0: the object, k + 1: the array in its field k) -/
abbrev AA : Type := Nat × Nat × Nat
/-- kinds of fields: 0 int, 1 boolean, 2 int array, 3 array of references, 4 an object, 5 a realm (one of two) -/
def fkT : List (List Nat) := [[2, 2, 0], [2, 0, 0, 0], [4, 0, 1], [3, 0, 0], [2, 2, 2, 2, 0, 0, 0, 0, 0], [2, 2, 2, 0], [2, 2, 2, 2, 2, 2, 0, 0, 1], [2, 0, 0, 0, 0], [4, 4, 4, 4, 4, 3, 4, 4, 5, 5, 0], [2, 2, 2, 2, 0, 0, 0, 0, 0, 0, 0, 2, 0, 0, 2, 2, 0, 2, 2, 0, 0, 0, 0, 0, 0, 0, 0, 0, 2, 2, 2, 2]]
def fk (c k : Nat) : Nat := (fkT.getD c []).getD k 9
/-- lengths of arrays -/
def alT : List (List Nat) := [[0, 20, 20, 0], [0, 7, 0, 0, 0], [0, 0, 0, 0], [0, 30, 0, 0], [0, 21, 7, 12, 4, 0, 0, 0, 0, 0], [0, 6, 6, 100, 0], [0, 21, 7, 7, 7, 4, 80, 0, 0, 0], [0, 240, 0, 0, 0, 0], [0, 0, 0, 0, 0, 0, 2, 0, 0, 0, 0, 0], [0, 4420, 7, 4, 12, 0, 0, 0, 0, 0, 0, 0, 240, 0, 0, 6, 6, 0, 20, 20, 0, 0, 0, 0, 0, 0, 0, 0, 0, 21, 7, 4, 12]]
def al (c o : Nat) : Nat := (alT.getD c []).getD o 0
/-- in which order cells are made -/
def ordL : List AA := [(8, 0, 0), (7, 0, 0), (7, 0, 1), (6, 0, 0), (6, 0, 1), (6, 0, 2), (6, 0, 3), (6, 0, 4), (6, 0, 5), (6, 0, 6), (6, 1, 0), (6, 1, 1), (6, 1, 2), (6, 1, 3), (6, 1, 4), (6, 1, 5), (6, 1, 6), (1, 0, 0), (1, 0, 1), (3, 0, 0), (3, 0, 1), (6, 2, 0), (6, 2, 1), (6, 2, 2), (6, 2, 3), (6, 2, 4), (6, 2, 5), (6, 2, 6), (6, 3, 0), (6, 3, 1), (6, 3, 2), (6, 3, 3), (6, 3, 4), (6, 3, 5), (6, 3, 6), (6, 4, 0), (6, 4, 1), (6, 4, 2), (6, 4, 3), (6, 4, 4), (6, 4, 5), (6, 4, 6), (6, 5, 0), (6, 5, 1), (6, 5, 2), (6, 5, 3), (6, 5, 4), (6, 5, 5), (6, 5, 6), (6, 6, 0), (6, 6, 1), (6, 6, 2), (6, 6, 3), (6, 6, 4), (6, 6, 5), (6, 6, 6), (6, 7, 0), (6, 7, 1), (6, 7, 2), (6, 7, 3), (6, 7, 4), (6, 7, 5), (6, 7, 6), (6, 8, 0), (6, 8, 1), (6, 8, 2), (6, 8, 3), (6, 8, 4), (6, 8, 5), (6, 8, 6), (6, 9, 0), (6, 9, 1), (6, 9, 2), (6, 9, 3), (6, 9, 4), (6, 9, 5), (6, 9, 6), (6, 10, 0), (6, 10, 1), (6, 10, 2), (6, 10, 3), (6, 10, 4), (6, 10, 5), (6, 10, 6), (6, 11, 0), (6, 11, 1), (6, 11, 2), (6, 11, 3), (6, 11, 4), (6, 11, 5), (6, 11, 6), (6, 12, 0), (6, 12, 1), (6, 12, 2), (6, 12, 3), (6, 12, 4), (6, 12, 5), (6, 12, 6), (6, 13, 0), (6, 13, 1), (6, 13, 2), (6, 13, 3), (6, 13, 4), (6, 13, 5), (6, 13, 6), (6, 14, 0), (6, 14, 1), (6, 14, 2), (6, 14, 3), (6, 14, 4), (6, 14, 5), (6, 14, 6), (6, 15, 0), (6, 15, 1), (6, 15, 2), (6, 15, 3), (6, 15, 4), (6, 15, 5), (6, 15, 6), (6, 16, 0), (6, 16, 1), (6, 16, 2), (6, 16, 3), (6, 16, 4), (6, 16, 5), (6, 16, 6), (6, 17, 0), (6, 17, 1), (6, 17, 2), (6, 17, 3), (6, 17, 4), (6, 17, 5), (6, 17, 6), (6, 18, 0), (6, 18, 1), (6, 18, 2), (6, 18, 3), (6, 18, 4), (6, 18, 5), (6, 18, 6), (6, 19, 0), (6, 19, 1), (6, 19, 2), (6, 19, 3), (6, 19, 4), (6, 19, 5), (6, 19, 6), (6, 20, 0), (6, 20, 1), (6, 20, 2), (6, 20, 3), (6, 20, 4), (6, 20, 5), (6, 20, 6), (6, 21, 0), (6, 21, 1), (6, 21, 2), (6, 21, 3), (6, 21, 4), (6, 21, 5), (6, 21, 6), (6, 22, 0), (6, 22, 1), (6, 22, 2), (6, 22, 3), (6, 22, 4), (6, 22, 5), (6, 22, 6), (6, 23, 0), (6, 23, 1), (6, 23, 2), (6, 23, 3), (6, 23, 4), (6, 23, 5), (6, 23, 6), (6, 24, 0), (6, 24, 1), (6, 24, 2), (6, 24, 3), (6, 24, 4), (6, 24, 5), (6, 24, 6), (6, 25, 0), (6, 25, 1), (6, 25, 2), (6, 25, 3), (6, 25, 4), (6, 25, 5), (6, 25, 6), (6, 26, 0), (6, 26, 1), (6, 26, 2), (6, 26, 3), (6, 26, 4), (6, 26, 5), (6, 26, 6), (6, 27, 0), (6, 27, 1), (6, 27, 2), (6, 27, 3), (6, 27, 4), (6, 27, 5), (6, 27, 6), (6, 28, 0), (6, 28, 1), (6, 28, 2), (6, 28, 3), (6, 28, 4), (6, 28, 5), (6, 28, 6), (6, 29, 0), (6, 29, 1), (6, 29, 2), (6, 29, 3), (6, 29, 4), (6, 29, 5), (6, 29, 6), (6, 30, 0), (6, 30, 1), (6, 30, 2), (6, 30, 3), (6, 30, 4), (6, 30, 5), (6, 30, 6), (6, 31, 0), (6, 31, 1), (6, 31, 2), (6, 31, 3), (6, 31, 4), (6, 31, 5), (6, 31, 6), (8, 0, 6), (5, 0, 0), (5, 0, 1), (5, 0, 2), (5, 0, 3), (0, 0, 0), (0, 0, 1), (0, 0, 2), (4, 0, 0), (4, 0, 1), (4, 0, 2), (4, 0, 3), (4, 0, 4), (4, 1, 0), (4, 1, 1), (4, 1, 2), (4, 1, 3), (4, 1, 4), (2, 0, 0), (6, 32, 0), (6, 32, 1), (6, 32, 2), (6, 32, 3), (6, 32, 4), (6, 32, 5), (6, 32, 6), (2, 1, 0), (6, 33, 0), (6, 33, 1), (6, 33, 2), (6, 33, 3), (6, 33, 4), (6, 33, 5), (6, 33, 6), (9, 0, 0), (9, 0, 1), (9, 0, 2), (9, 0, 3), (9, 0, 4), (9, 0, 12), (9, 0, 15), (9, 0, 16), (9, 0, 18), (9, 0, 19), (9, 0, 29), (9, 0, 30), (9, 0, 31), (9, 0, 32)]
def ogT : List AA := [(7, 0, 0), (6, 0, 0), (6, 1, 0), (1, 0, 0), (3, 0, 0), (99, 0, 0), (5, 0, 0), (0, 0, 0), (99, 0, 0), (99, 0, 0), (99, 0, 0)]
/-- which object a field of kind 4 holds -/
def og (c i k : Nat) : AA := bif c.beq 2 then (6, 32 + i, 0) else ogT.getD k (99, 0, 0)
/-- which object a place of an array of references holds -/
def et (c j : Nat) : AA := bif c.beq 3 then (6, 2 + j, 0) else (2, j, 0)
/-- cells that a new one has -/
def slO (a : AA) : Nat := match a.2.2 with
  | 0 => nF a.1
  | o + 1 => al a.1 (o + 1)
end
section
/-! a small machine of our own, over the memory as it is laid out: ints and longs by value, addresses as triples -/
abbrev AV : Type := Int32 ⊕ (Int64 ⊕ AA)
/-- cells made so far; which references are set; the script's length; all ints, by address and place -/
abbrev Mem : Type := Nat × (Nat → Nat → Nat → Bool) × Nat × (Nat → Nat → Nat → Nat → Int32)
abbrev St : Type := Nat × List (Option AV) × List AV × Mem
abbrev Res : Type := Option (St ⊕ ((Nat × List AV × St) ⊕ (Option AV × Mem)))
def u4 (w : Nat → Nat → Nat → Nat → Int32) (c i o k : Nat) (v : Int32) : Nat → Nat → Nat → Nat → Int32 := fun c' i' o' k' => if c' = c ∧ i' = i ∧ o' = o ∧ k' = k then v else w c' i' o' k'
def uf (fl : Nat → Nat → Nat → Bool) (c i k : Nat) : Nat → Nat → Nat → Bool := fun c' i' k' => (c'.beq c && i'.beq i && k'.beq k) || fl c' i' k'
/-- a whole array is copied -/
def uc (w : Nat → Nat → Nat → Nat → Int32) (c i o : Nat) (f : Nat → Int32) : Nat → Nat → Nat → Nat → Int32 := fun c' i' o' k' => if c' = c ∧ i' = i ∧ o' = o then f k' else w c' i' o' k'
/-- which address a reference in a field is, if it is set -/
def tg (w : Nat → Nat → Nat → Nat → Int32) (c i k : Nat) : AA := match fk c k with
  | 4 => og c i k
  | 5 => (4, (w c i 0 k).toNatClampNeg, 0)
  | _ => (c, i, k + 1)
def aLen (L c o : Nat) : Nat := bif c.beq 13 then L else al c o
def isIA (c o : Nat) : Bool := match o with
  | 0 => c.beq 13
  | k + 1 => (fk c k).beq 2
def isRA (c o : Nat) : Bool := match o with
  | 0 => false
  | k + 1 => (fk c k).beq 3
def isL (v : AV) : Bool := match v with
  | .inr (.inl _) => true
  | _ => false
def swT (x : Int32) : List (Int32 × Nat) → Nat → Nat
  | [], d => d
  | q :: r, d => if x = q.1 then q.2 else swT x r d
def nx (S : St) : Res := some (.inl S)
/-- a value of one word is stored -/
def lS (ls : List (Option AV)) (i : Nat) (v : AV) : List (Option AV) := match i with
  | 0 => ls.set 0 (some v)
  | j + 1 => match ls[j]? with
    | some (some (.inr (.inl _))) => (ls.set j none).set (j + 1) (some v)
    | _ => ls.set (j + 1) (some v)
/-- a long is stored -/
def lSL (ls : List (Option AV)) (i : Nat) (v : AV) : List (Option AV) := (lS ls i v).set (i + 1) none
def brs (b : Bool) (t f : Nat) : Nat := match b with
  | true => t
  | false => f
def cRow (rws : List (List Row)) (pc : Nat) : Option (Instr × Nat × Nat × Nat × Nat × Int32 × Int64 × List (Int32 × Nat)) := match rws[pc / 16]? with
  | some l => l.lookup pc
  | none => none
def cmpI (op : Jvm.ClassFile.Cond) (x y : Int32) (t f : St) : Res := match op with
  | .eq => if x = y then nx t else nx f
  | .ne => if x = y then nx f else nx t
  | .lt => if x < y then nx t else nx f
  | .ge => if y ≤ x then nx t else nx f
  | .gt => if y < x then nx t else nx f
  | .le => if x ≤ y then nx t else nx f
def exF (M : Mem) (c i k : Nat) : Option AV := match fk c k with
  | 0 => some (.inl (M.2.2.2 c i 0 k))
  | 1 => some (.inl (M.2.2.2 c i 0 k))
  | _ + 2 => bif M.2.1 c i k then some (.inr (.inr (tg M.2.2.2 c i k))) else none
/-- a field is set -/
def exP (pc : Nat) (ls : List (Option AV)) (r : List AV) (M : Mem) (c i k : Nat) (v : AV) : Res := match fk c k with
  | 0 => match v with
    | .inl x => nx (pc, ls, r, (M.1, M.2.1, M.2.2.1, u4 M.2.2.2 c i 0 k x))
    | _ => none
  | 1 => match v with
    | .inl x => if x = 0 ∨ x = 1 then nx (pc, ls, r, (M.1, M.2.1, M.2.2.1, u4 M.2.2.2 c i 0 k x)) else none
    | _ => none
  | 5 => match v with
    | .inr (.inr (4, j, 0)) => if j < 2 then nx (pc, ls, r, (M.1, uf M.2.1 c i k, M.2.2.1, u4 M.2.2.2 c i 0 k (Int32.ofNat j))) else none
    | _ => none
  | _ => match v with
    | .inr (.inr a) => if a = tg M.2.2.2 c i k then nx (pc, ls, r, (M.1, uf M.2.1 c i k, M.2.2.1, M.2.2.2)) else none
    | _ => none
def bin (f : Int32 → Int32 → Int32) (pc : Nat) (ls : List (Option AV)) (st : List AV) (M : Mem) : Res := match st with
  | .inl y :: .inl x :: r => nx (pc + 1, ls, .inl (f x y) :: r, M)
  | _ => none
def binL (f : Int64 → Int64 → Int64) (pc : Nat) (ls : List (Option AV)) (st : List AV) (M : Mem) : Res := match st with
  | .inr (.inl y) :: .inr (.inl x) :: r => nx (pc + 1, ls, .inr (.inl (f x y)) :: r, M)
  | _ => none
/-- one instruction -/
def exI (ret : Option FieldType) (ins : Instr) (len a b c : Nat) (v : Int32) (l : Int64) (ks : List (Int32 × Nat)) (pc : Nat) (ls : List (Option AV)) (st : List AV) (M : Mem) : Res := match ins with
  | .iconst _ => nx (pc + 1, ls, .inl v :: st, M)
  | .bipush _ => nx (pc + 2, ls, .inl v :: st, M)
  | .sipush _ => nx (pc + 3, ls, .inl v :: st, M)
  | .ldc _ => nx (pc + 2, ls, .inl v :: st, M)
  | .ldc_w _ => nx (pc + 3, ls, .inl v :: st, M)
  | .ldc2_w _ => nx (pc + 3, ls, .inr (.inl l) :: st, M)
  | .iload_n _ => match ls[a]? with
    | some (some (.inl x)) => nx (pc + 1, ls, .inl x :: st, M)
    | _ => none
  | .iload _ => match ls[a]? with
    | some (some (.inl x)) => nx (pc + 2, ls, .inl x :: st, M)
    | _ => none
  | .lload_n _ => match ls[a]? with
    | some (some (.inr (.inl x))) => nx (pc + 1, ls, .inr (.inl x) :: st, M)
    | _ => none
  | .aload_n _ => match ls[a]? with
    | some (some (.inr (.inr x))) => nx (pc + 1, ls, .inr (.inr x) :: st, M)
    | _ => none
  | .istore_n _ => match st with
    | .inl x :: r => nx (pc + 1, lS ls a (.inl x), r, M)
    | _ => none
  | .istore _ => match st with
    | .inl x :: r => nx (pc + 2, lS ls a (.inl x), r, M)
    | _ => none
  | .astore_n _ => match st with
    | .inr (.inr x) :: r => nx (pc + 1, lS ls a (.inr (.inr x)), r, M)
    | _ => none
  | .lstore_n _ => match st with
    | .inr (.inl x) :: r => nx (pc + 1, lSL ls a (.inr (.inl x)), r, M)
    | _ => none
  | .iinc _ _ => match ls[a]? with
    | some (some (.inl x)) => nx (pc + 3, lS ls a (.inl (x + v)), st, M)
    | _ => none
  | .iadd => bin (· + ·) pc ls st M
  | .isub => bin (· - ·) pc ls st M
  | .imul => bin (· * ·) pc ls st M
  | .iand => bin (· &&& ·) pc ls st M
  | .ior => bin (· ||| ·) pc ls st M
  | .ixor => bin (· ^^^ ·) pc ls st M
  | .ishl => bin (fun x y => x <<< (y &&& 31)) pc ls st M
  | .ishr => bin (fun x y => x >>> (y &&& 31)) pc ls st M
  | .iushr => bin (fun x y => (x.toUInt32 >>> (y.toUInt32 &&& Int32.toUInt32 31)).toInt32) pc ls st M
  | .idiv => match st with
    | .inl y :: .inl x :: r => if y = 0 then none else nx (pc + 1, ls, .inl (x / y) :: r, M)
    | _ => none
  | .irem => match st with
    | .inl y :: .inl x :: r => if y = 0 then none else nx (pc + 1, ls, .inl (x - x / y * y) :: r, M)
    | _ => none
  | .ladd => binL (· + ·) pc ls st M
  | .lmul => binL (· * ·) pc ls st M
  | .ldiv => match st with
    | .inr (.inl y) :: .inr (.inl x) :: r => if y = 0 then none else nx (pc + 1, ls, .inr (.inl (x / y)) :: r, M)
    | _ => none
  | .lrem => match st with
    | .inr (.inl y) :: .inr (.inl x) :: r => if y = 0 then none else nx (pc + 1, ls, .inr (.inl (x - x / y * y)) :: r, M)
    | _ => none
  | .i2l => match st with
    | .inl x :: r => nx (pc + 1, ls, .inr (.inl x.toInt64) :: r, M)
    | _ => none
  | .l2i => match st with
    | .inr (.inl x) :: r => nx (pc + 1, ls, .inl x.toInt32 :: r, M)
    | _ => none
  | .dup => match st with
    | x :: r => bif isL x then none else nx (pc + 1, ls, x :: x :: r, M)
    | _ => none
  | .dup2 => match st with
    | x :: y :: r => bif isL x || isL y then none else nx (pc + 1, ls, x :: y :: x :: y :: r, M)
    | _ => none
  | .if_icmp op _ => match st with
    | .inl y :: .inl x :: r => cmpI op x y (a, ls, r, M) (pc + 3, ls, r, M)
    | _ => none
  | .ifCond op _ => match st with
    | .inl x :: r => cmpI op x 0 (a, ls, r, M) (pc + 3, ls, r, M)
    | _ => none
  | .goto _ => nx (a, ls, st, M)
  | .tableswitch _ _ _ _ => match st with
    | .inl x :: r => nx (swT x ks a, ls, r, M)
    | _ => none
  | .lookupswitch _ _ => match st with
    | .inl x :: r => nx (swT x ks a, ls, r, M)
    | _ => none
  | .getfield _ => match st with
    | .inr (.inr (c', i, 0)) :: r => bif c'.beq a then (match exF M a i b with
      | some x => nx (pc + 3, ls, x :: r, M)
      | none => none) else none
    | _ => none
  | .putfield _ => match st with
    | x :: .inr (.inr (c', i, 0)) :: r => bif c'.beq a then exP (pc + 3) ls r M a i b x else none
    | _ => none
  | .iaload => match st with
    | .inl j :: .inr (.inr (c', i, o)) :: r => bif isIA c' o then (if j < 0 ∨ aLen M.2.2.1 c' o ≤ j.toNatClampNeg then none else nx (pc + 1, ls, .inl (M.2.2.2 c' i o j.toNatClampNeg) :: r, M)) else none
    | _ => none
  | .iastore => match st with
    | .inl x :: .inl j :: .inr (.inr (c', i, o + 1)) :: r => bif isIA c' (o + 1) then (if j < 0 ∨ al c' (o + 1) ≤ j.toNatClampNeg then none else nx (pc + 1, ls, r, (M.1, M.2.1, M.2.2.1, u4 M.2.2.2 c' i (o + 1) j.toNatClampNeg x))) else none
    | _ => none
  | .aaload => match st with
    | .inl j :: .inr (.inr (c', i, o + 1)) :: r => bif isRA c' (o + 1) then (if j < 0 ∨ al c' (o + 1) ≤ j.toNatClampNeg then none else bif M.2.1 c' i (1000 + j.toNatClampNeg) then nx (pc + 1, ls, .inr (.inr (et c' j.toNatClampNeg)) :: r, M) else none) else none
    | _ => none
  | .aastore => match st with
    | .inr (.inr x) :: .inl j :: .inr (.inr (c', i, o + 1)) :: r => bif isRA c' (o + 1) then (if (j < 0 ∨ al c' (o + 1) ≤ j.toNatClampNeg) ∨ ¬ x = et c' j.toNatClampNeg then none else nx (pc + 1, ls, r, (M.1, uf M.2.1 c' i (1000 + j.toNatClampNeg), M.2.2.1, M.2.2.2))) else none
    | _ => none
  | .arraylength => match st with
    | .inr (.inr (13, 0, 0)) :: r => nx (pc + 1, ls, .inl (Int32.ofNat M.2.2.1) :: r, M)
    | _ => none
  | .new _ => match ordL[M.1]? with
    | some (c', i, 0) => bif c'.beq a then nx (pc + 3, ls, .inr (.inr (c', i, 0)) :: st, (M.1 + 1, M.2.1, M.2.2.1, M.2.2.2)) else none
    | _ => none
  | .newarray _ => match st with
    | .inl x :: r => (match ordL[M.1]? with
      | some (c', i, o + 1) => if isIA c' (o + 1) = true ∧ ¬ x < 0 ∧ x.toNatClampNeg = al c' (o + 1) then nx (pc + 2, ls, .inr (.inr (c', i, o + 1)) :: r, (M.1 + 1, M.2.1, M.2.2.1, M.2.2.2)) else none
      | _ => none)
    | _ => none
  | .anewarray _ => match st with
    | .inl x :: r => (match ordL[M.1]? with
      | some (c', i, o + 1) => if isRA c' (o + 1) = true ∧ ¬ x < 0 ∧ x.toNatClampNeg = al c' (o + 1) ∧ ((c' = 3 ∧ a = 6) ∨ (c' = 8 ∧ a = 2)) then nx (pc + 3, ls, .inr (.inr (c', i, o + 1)) :: r, (M.1 + 1, M.2.1, M.2.2.1, M.2.2.2)) else none
      | _ => none)
    | _ => none
  | .invokevirtual _ => match st.drop (b - 1) with
    | .inr (.inr (c', i, 0)) :: r => bif c'.beq c && r.length.ble 4 then some (.inr (.inl (a, .inr (.inr (c', i, 0)) :: (st.take (b - 1)).reverse, (pc + 3, ls, r, M)))) else none
    | _ => none
  | .invokestatic _ => match c with
    | 1 => (match st with
      | .inl n :: .inl dp :: .inr (.inr (c1, i1, o1 + 1)) :: .inl sp :: .inr (.inr (c0, i0, o0 + 1)) :: r =>
        bif isIA c1 (o1 + 1) && isIA c0 (o0 + 1) && r.length.ble 4 then (if sp = 0 ∧ dp = 0 ∧ n.toNatClampNeg = al c1 (o1 + 1) ∧ al c0 (o0 + 1) = al c1 (o1 + 1) ∧ ¬ n < 0 then nx (pc + 3, ls, r, (M.1, M.2.1, M.2.2.1, uc M.2.2.2 c1 i1 (o1 + 1) (M.2.2.2 c0 i0 (o0 + 1)))) else none) else none
      | _ => none)
    | _ => bif (st.drop b).length.ble 4 && b.ble st.length then some (.inr (.inl (a, (st.take b).reverse, (pc + 3, ls, st.drop b, M)))) else none
  | .invokespecial _ => match c with
    | 1 => (match st with
      | .inr (.inr _) :: r => bif r.length.ble 4 then nx (pc + 3, ls, r, M) else none
      | _ => none)
    | _ => match st.drop (b - 1) with
      | .inr (.inr (c', i, 0)) :: r => bif r.length.ble 4 then some (.inr (.inl (a, .inr (.inr (c', i, 0)) :: (st.take (b - 1)).reverse, (pc + 3, ls, r, M)))) else none
      | _ => none
  | .ireturn => match st with
    | .inl x :: [] => (match ret with
      | some .int => some (.inr (.inr (some (.inl x), M)))
      | some .boolean => if x = 0 ∨ x = 1 then some (.inr (.inr (some (.inl x), M))) else none
      | _ => none)
    | _ => none
  | .return_ => match st with
    | [] => (match ret with
      | none => some (.inr (.inr (none, M)))
      | _ => none)
    | _ => none
  | _ => none
def stI (md : MD) (S : St) : Res := match cRow md.2.2.2.2.2.2 S.1 with
  | some r => exI md.2.2.2.2.1 r.1 r.2.1 r.2.2.1 r.2.2.2.1 r.2.2.2.2.1 r.2.2.2.2.2.1 r.2.2.2.2.2.2.1 r.2.2.2.2.2.2.2 S.1 S.2.1 S.2.2.1 S.2.2.2
  | none => none
/-- where a method begins -/
def en (md : MD) (as : List AV) (M : Mem) : St := (0, as.map some ++ List.replicate (md.2.2.2.1 - as.length) none, [], M)
/-- behind a call -/
def af (v : Option AV) (S : St) (M : Mem) : St := (S.1, S.2.1, v.toList ++ S.2.2.1, M)
/-- the small machine runs: fuel, depth -/
def run : Nat → Nat → MD → St → Option (Option AV × Mem)
  | 0, _, _, _ => none
  | n + 1, d, md, S => match stI md S with
    | none => none
    | some (.inl S') => run n d md S'
    | some (.inr (.inr r)) => some r
    | some (.inr (.inl (mi, as, S'))) => match d with
      | 0 => none
      | d' + 1 => bif !(as.all (fun x => !isL x)) then none else match run n d' (mdOf mi) (en (mdOf mi) as S'.2.2.2) with
        | none => none
        | some (v, M1) => run n (d' + 1) md (af v S' M1)
end
section
/-! the tables of methods are those of the bytecode: checked by the kernel -/
def dcOK (b : ByteArray) (pc : Nat) (ins : Instr) (len : Nat) : Bool := match decode b pc with
  | .ok q => decide (q = (ins, len))
  | .error _ => false
theorem dcOK_spec {b : ByteArray} {pc : Nat} {ins : Instr} {len : Nat} (h : dcOK b pc ins len = true) : decode b pc = .ok (ins, len) := by
  unfold dcOK at h
  split at h
  · rename_i q hq
    rw [hq, of_decide_eq_true h]
  · cases h
def tsOK (pc : Nat) : List Int → List (Int32 × Nat) → Nat → Bool
  | [], [], _ => true
  | o :: os, q :: r, i => decide (q.1 = nI i) && decide ((pc : Int) + o = (q.2 : Int)) && tsOK pc os r (i + 1)
  | _, _, _ => false
def lsOK (pc : Nat) : List (Int × Int) → List (Int32 × Nat) → Bool
  | [], [] => true
  | o :: os, q :: r => decide (q.1.toInt = o.1) && decide ((pc : Int) + o.2 = (q.2 : Int)) && lsOK pc os r
  | _, _ => false
def okX (own maxL : Nat) (ini : Bool) (pc : Nat) (ins : Instr) (len a b c : Nat) (v : Int32) (l : Int64) (ks : List (Int32 × Nat)) : Bool := match ins with
  | .iconst n => decide (len = 1) && decide (Int32.ofInt n = v)
  | .bipush n => decide (len = 2) && decide ((Int8.ofInt n).toInt32 = v)
  | .sipush n => decide (len = 3) && decide ((Int16.ofInt n).toInt32 = v)
  | .ldc i => decide (len = 2) && decide ((own, i, v) ∈ KIt)
  | .ldc_w i => decide (len = 3) && decide ((own, i, v) ∈ KIt)
  | .ldc2_w i => decide (len = 3) && decide ((own, i, l) ∈ KLt)
  | .iload_n k => decide (len = 1) && decide ((k : Nat) = a)
  | .iload k => decide (len = 2) && decide (k = a)
  | .lload_n k => decide (len = 1) && decide ((k : Nat) = a)
  | .aload_n k => decide (len = 1) && decide ((k : Nat) = a)
  | .istore_n k => decide (len = 1) && decide ((k : Nat) = a) && decide (a < maxL)
  | .istore k => decide (len = 2) && decide (k = a) && decide (a < maxL)
  | .astore_n k => decide (len = 1) && decide ((k : Nat) = a) && decide (a < maxL)
  | .lstore_n k => decide (len = 1) && decide ((k : Nat) = a) && decide (a + 1 < maxL)
  | .iinc k n => decide (len = 3) && decide (k = a) && decide (Int32.ofInt n = v) && decide (a < maxL)
  | .if_icmp _ off => decide (len = 3) && decide ((pc : Int) + off = (a : Int))
  | .ifCond _ off => decide (len = 3) && decide ((pc : Int) + off = (a : Int))
  | .goto off => decide (len = 3) && decide ((pc : Int) + off = (a : Int))
  | .tableswitch df lo hi offs => decide ((pc : Int) + df = (a : Int)) && decide (lo = 0) && decide (hi + 1 = (ks.length : Int)) && decide (ks.length < 1000) && tsOK pc offs.toList ks 0
  | .lookupswitch df ps => decide ((pc : Int) + df = (a : Int)) && (ps.toList.zip (ps.toList.drop 1)).all (fun (x, y) => x.1 < y.1) && lsOK pc ps.toList ks
  | .getfield i => decide (len = 3) && decide ((own, i, a, b) ∈ FLt)
  | .putfield i => decide (len = 3) && decide ((own, i, a, b) ∈ FLt) && (!(tN a b).2.2.2 || (ini && decide (own = a)))
  | .new i => decide (len = 3) && decide ((own, i, a) ∈ NLt) && decide (a < 10)
  | .newarray t => decide (len = 2) && decide (t = .int)
  | .anewarray i => decide (len = 3) && decide ((own, i, a) ∈ NLt) && decide (a = 6 ∨ a = 2)
  | .invokevirtual i => decide (len = 3) && decide ((own, i, a) ∈ MLt) && decide (skT.getD a 9 = 0) && decide (npT.getD a 0 + 1 = b) && decide ((mdOf a).1 = c) && decide (a < 199)
  | .invokestatic i => decide (len = 3) && (bif c.beq 1 then decide ((own, i) ∈ ACt) else decide ((own, i, a) ∈ MLt) && decide (skT.getD a 9 = 1) && decide (npT.getD a 0 = b) && decide (a < 199))
  | .invokespecial i => decide (len = 3) && (bif c.beq 1 then decide ((own, i) ∈ OIt) else (decide ((own, i, a) ∈ MLt) || MNt.any (fun q => decide (q.1 = own) && decide (q.2.1 = i) && decide (q.2.2.1 = a))) && decide (skT.getD a 9 = 2) && decide (npT.getD a 0 + 1 = b) && decide (a < 199))
  | _ => decide (len = 1)
def okR (md : MD) (r : Row) : Bool := dcOK md.2.2.1 r.1 r.2.1 r.2.2.1 && okX md.1 md.2.2.2.1 md.2.2.2.2.2.1 r.1 r.2.1 r.2.2.1 r.2.2.2.1 r.2.2.2.2.1 r.2.2.2.2.2.1 r.2.2.2.2.2.2.1 r.2.2.2.2.2.2.2.1 r.2.2.2.2.2.2.2.2
def okMD (md : MD) : Bool := md.2.2.2.2.2.2.all (fun ch => ch.all (okR md))
/-- a word that the tables have, and that holds at every later time -/
def gT : List Jvm.Cond := lw_tbl.filter goodWord
theorem gT_in {w : Jvm.Cond} (h : w ∈ lw_tbl) (hg : goodWord w = true) : w ∈ gT := List.mem_filter.mpr ⟨h, hg⟩
/-- words picked out of a list, by how many are passed over -/
def pick : List Nat → List Jvm.Cond → List Jvm.Cond
  | [], _ => []
  | g :: gs, l => match l.drop g with
    | [] => []
    | a :: r => a :: pick gs r
theorem pick_mem : ∀ (gs : List Nat) (l : List Jvm.Cond) (x : Jvm.Cond), x ∈ pick gs l → x ∈ l
  | [], _, x, h => by simp [pick] at h
  | g :: gs, l, x, h => by
    unfold pick at h
    split at h
    · simp at h
    · rename_i a r hd
      have hs : ∀ y, y ∈ a :: r → y ∈ l := fun y hy => List.mem_of_mem_drop (by rw [hd]; exact hy)
      rcases List.mem_cons.mp h with rfl | h
      · exact hs _ List.mem_cons_self
      · exact hs _ (List.mem_cons_of_mem _ (pick_mem gs r x h))
theorem pick_of {α : Type} {f : α → Jvm.Cond} {gs : List Nat} {l : List α} (h : pick gs lw_tbl = l.map f) : ∀ q ∈ l, f q ∈ lw_tbl := fun q hq => pick_mem gs lw_tbl _ (by rw [h]; exact List.mem_map.mpr ⟨q, hq, rfl⟩)
set_option maxRecDepth 100000 in
theorem tb_FL0 : pick FLtg lw_tbl = FLt.map (fun q => Jvm.Cond.fieldLink (rN q.1) q.2.1 (rN q.2.2.1) (tN q.2.2.1 q.2.2.2).2.1 (tN q.2.2.1 q.2.2.2).2.2.1) := rfl
set_option maxRecDepth 100000 in
theorem tb_FL1 : FLt.all (fun q => decide (q.2.2.2 < nF q.2.2.1) && decide (q.2.2.1 < 10)) = true := by decide +kernel
set_option maxRecDepth 100000 in
theorem tb_ML0 : pick MLtg lw_tbl = MLt.map (fun q => Jvm.Cond.methodLink (rN q.1) q.2.1 (mdOf q.2.2).2.1) := rfl
set_option maxRecDepth 100000 in
theorem tb_MN0 : pick MNtg lw_tbl = MNt.map (fun q => Jvm.Cond.methodLinkNest (rN q.1) q.2.1 (mdOf q.2.2.1).2.1 (rN q.2.2.2)) := rfl
set_option maxRecDepth 100000 in
theorem tb_OI0 : pick OItg lw_tbl = OIt.map (fun q => Jvm.Cond.methodLink (rN q.1) q.2 Lib.objectInit) := rfl
set_option maxRecDepth 100000 in
theorem tb_AC0 : pick ACtg lw_tbl = ACt.map (fun q => Jvm.Cond.methodLink (rN q.1) q.2 arraycopyName) := rfl
set_option maxRecDepth 100000 in
theorem tb_KI0 : pick KItg lw_tbl = KIt.map (fun q => Jvm.Cond.constant (rN q.1) q.2.1 q.2.2) := rfl
set_option maxRecDepth 100000 in
theorem tb_KL0 : pick KLtg lw_tbl = KLt.map (fun q => Jvm.Cond.constantLong (rN q.1) q.2.1 q.2.2) := rfl
set_option maxRecDepth 100000 in
theorem tb_NL0 : pick NLtg lw_tbl = NLt.map (fun q => Jvm.Cond.classLink (rN q.1) q.2.1 (rN q.2.2)) := rfl
set_option maxRecDepth 100000 in
theorem tb_CW0 : pick CWtg lw_tbl = CWt.map (fun n => Jvm.Cond.code (mdOf n).2.1 (mdOf n).2.2.1 (mdOf n).2.2.2.1 (mdOf n).2.2.2.2.1) := rfl
set_option maxRecDepth 100000 in
theorem tb_IM0 : pick IMtg lw_tbl = IMt.map (fun n => Jvm.Cond.instanceMethod (mdOf n).2.1) := rfl
set_option maxRecDepth 100000 in
theorem tb_SM0 : pick SMtg lw_tbl = SMt.map (fun n => Jvm.Cond.static (mdOf n).2.1) := rfl
set_option maxRecDepth 100000 in
theorem tb_SE0 : pick SEtg lw_tbl = SEt.map (fun n => Jvm.Cond.selects (rN (mdOf n).1) (mdOf n).2.1 (mdOf n).2.1) := rfl
set_option maxRecDepth 100000 in
theorem tb_IN0 : pick INtg lw_tbl = INt.map (fun n => Jvm.Cond.initialized (rN n)) := rfl
set_option maxRecDepth 100000 in
theorem tb_IB0 : pick IBtg lw_tbl = IBt.map (fun n => Jvm.Cond.instantiable (rN n) (nF n)) := rfl
theorem tb_o1 : Jvm.Cond.instanceMethod Lib.objectInit ∈ lw_tbl := List.mem_of_getElem? (i := 88) rfl
theorem tb_o2 : Jvm.Cond.code Lib.objectInit ⟨#[0xb1]⟩ 1 none ∈ lw_tbl := List.mem_of_getElem? (i := 89) rfl
theorem tb_a1 : Jvm.Cond.native arraycopyName ∈ lw_tbl := List.mem_of_getElem? (i := 433) rfl
theorem tb_a2 : Jvm.Cond.static arraycopyName ∈ lw_tbl := List.mem_of_getElem? (i := 432) rfl
theorem tb_a3 : Jvm.Cond.initialized "java/lang/System" ∈ lw_tbl := List.mem_of_getElem? (i := 79) rfl
theorem tb_ar : Jvm.Cond.arrayClass .int ∈ lw_tbl := List.mem_of_getElem? (i := 115) rfl
theorem tb_as : Jvm.Cond.arrayOver (.object RX6) ∈ lw_tbl := List.mem_of_getElem? (i := 187) rfl
theorem tb_ai : Jvm.Cond.arrayOver (.object RX2) ∈ lw_tbl := List.mem_of_getElem? (i := 201) rfl
set_option maxRecDepth 100000 in
theorem tb_in : ∀ c, c < 10 → ∀ w ∈ u_ws (rN c) (tN c) (nF c), w ∈ lw_tbl := by
  intro c hc
  match c, hc with
  | 0, _ => exact in_X0
  | 1, _ => exact in_X1
  | 2, _ => exact in_X2
  | 3, _ => exact in_X3
  | 4, _ => exact in_X4
  | 5, _ => exact in_X5
  | 6, _ => exact in_X6
  | 7, _ => exact in_X7
  | 8, _ => exact in_X8
  | 9, _ => exact in_X9
  | n + 10, h => omega
theorem tb_lg (C : String) (T : u_T) (N : Nat) : ∀ w ∈ u_ws C T N, goodWord w = true := by
  intro w hw
  obtain ⟨k, -, rfl⟩ := List.mem_map.mp hw
  unfold u_lay
  split <;> rfl
theorem tb_gin {c : Nat} (hc : c < 10) : ∀ w ∈ u_ws (rN c) (tN c) (nF c), w ∈ gT := fun w hw => gT_in (tb_in c hc w hw) (tb_lg _ _ _ w hw)
theorem tb_ty : ∀ c, c < 10 → ∀ k, k < nF c → parseFieldDescriptor (tN c k).2.2.1 = some (tyN c k) := by
  intro c hc
  match c, hc with
  | 0, _ => exact tyX0_ok
  | 1, _ => exact tyX1_ok
  | 2, _ => exact tyX2_ok
  | 3, _ => exact tyX3_ok
  | 4, _ => exact tyX4_ok
  | 5, _ => exact tyX5_ok
  | 6, _ => exact tyX6_ok
  | 7, _ => exact tyX7_ok
  | 8, _ => exact tyX8_ok
  | 9, _ => exact tyX9_ok
  | n + 10, h => omega
theorem tb_nm : ∀ c, c < 10 → ∀ a, a < nF c → ∀ b, b < nF c → a ≠ b → (tN c a).2.1 ≠ (tN c b).2.1 := by
  intro c hc
  match c, hc with
  | 0, _ => exact nmX0
  | 1, _ => exact nmX1
  | 2, _ => exact nmX2
  | 3, _ => exact nmX3
  | 4, _ => exact nmX4
  | 5, _ => exact nmX5
  | 6, _ => exact nmX6
  | 7, _ => exact nmX7
  | 8, _ => exact nmX8
  | 9, _ => exact nmX9
  | n + 10, h => omega
theorem tb_cl : ∀ c, c < 10 → vwCl[c]? = some (rN c, tN c, nF c) := by
  intro c hc
  match c, hc with
  | 0, _ => rfl
  | 1, _ => rfl
  | 2, _ => rfl
  | 3, _ => rfl
  | 4, _ => rfl
  | 5, _ => rfl
  | 6, _ => rfl
  | 7, _ => rfl
  | 8, _ => rfl
  | 9, _ => rfl
  | n + 10, h => omega
theorem tb_CWn : ∀ n, n < 199 → n ∈ CWt := by decide +kernel
theorem tb_IMn : ∀ n, n < 199 → skT.getD n 9 ≠ 1 → n ∈ IMt := by decide +kernel
theorem tb_SMn : ∀ n, n < 199 → skT.getD n 9 = 1 → n ∈ SMt := by decide +kernel
theorem tb_SEn : ∀ n, n < 199 → skT.getD n 9 = 0 → n ∈ SEt := by decide +kernel
theorem tb_INn : ∀ n, n < 13 → n ∈ INt := by decide +kernel
theorem tb_IBn : ∀ n, n < 10 → n ∈ IBt := by decide +kernel
set_option maxRecDepth 100000 in
theorem tb_mc : (List.range 199).map (fun n => (mdOf n).2.1.cls) = (List.range 199).map (fun n => rN (mdOf n).1) := rfl
set_option maxRecDepth 100000 in
theorem tb_md : (List.range 199).map (fun n => (mdOf n).2.1.desc) = (List.range 199).map (fun n => (dsT.getD (dxT.getD n 0) ("", 0)).1) := rfl
theorem tb_mn : ∀ n, n < 199 → (dsT.getD (dxT.getD n 0) ("", 0)).2 = npT.getD n 0 := by decide +kernel
theorem tb_dp : ∀ q ∈ dsT, (parseMethodDescriptor q.1).map (fun d => d.parameters.length) = some q.2 := by decide +kernel
theorem tb_dx : ∀ n, n < 199 → dxT.getD n 0 < dsT.length := by decide +kernel
theorem tb_pl : ∀ c, c < 10 → plainName (rN c) = true := by decide +kernel
theorem tb_nh : ∀ c, c < 13 → rN c ≠ "java/lang/invoke/MethodHandle" ∧ rN c ≠ "java/lang/invoke/VarHandle" := by decide +kernel
theorem tb_pf1 : plainFor (mdOf 195).2.1 = true := by decide +kernel
theorem tb_pf2 : plainFor (mdOf 196).2.1 = true := by decide +kernel
theorem tb_pf3 : plainFor (mdOf 197).2.1 = true := by decide +kernel
theorem tb_pf4 : plainFor (mdOf 198).2.1 = true := by decide +kernel
theorem tb_m0 : ∀ n, n < 195 → (mdOf n).1 < 10 := by decide +kernel
theorem tb_m1 : ∀ n, n < 199 → (mdOf n).1 < 12 ∧ (mdOf n).2.2.2.1 ≤ 11 ∧ npT.getD n 0 + (if skT.getD n 9 = 1 then 0 else 1) ≤ (mdOf n).2.2.2.1 ∧ (skT.getD n 9 = 2 → (mdOf n).2.2.2.2.1 = none ∧ (mdOf n).2.2.2.2.2.1 = true) := by decide +kernel
theorem tb_m2 : ∀ n, n < 199 → ((mdOf n).2.2.2.2.2.1 = true → (mdOf n).2.1.name = "<init>") ∧ (skT.getD n 9 = 2 → (mdOf n).2.1.name = "<init>") := by decide +kernel
theorem map_range_eq {α : Type} {N : Nat} {f g : Nat → α} (h : (List.range N).map f = (List.range N).map g) : ∀ n, n < N → f n = g n := by
  intro n hn
  have h1 := congrArg (fun l => l[n]?) h
  simpa [List.getElem?_map, List.getElem?_range hn] using h1
theorem tb_cls {n : Nat} (hn : n < 199) : (mdOf n).2.1.cls = rN (mdOf n).1 := map_range_eq tb_mc n hn
theorem tb_np {n : Nat} (hn : n < 199) : (parseMethodDescriptor (mdOf n).2.1.desc).map (fun d => d.parameters.length) = some (npT.getD n 0) := by
  rw [map_range_eq tb_md n hn, ← tb_mn n hn]
  have hl := tb_dx n hn
  have hm : dsT.getD (dxT.getD n 0) ("", 0) ∈ dsT := by
    rw [List.getD_eq_getElem?_getD, List.getElem?_eq_getElem hl]
    exact List.getElem_mem hl
  exact tb_dp _ hm
theorem tb_pf {n : Nat} (hn : n < 199) : plainFor (mdOf n).2.1 = true := by
  by_cases h : n < 195
  · exact plainFor_of_name (by rw [tb_cls hn]; exact tb_pl _ (tb_m0 n h))
  · rcases (by omega : n = 195 ∨ n = 196 ∨ n = 197 ∨ n = 198) with rfl | rfl | rfl | rfl
    · exact tb_pf1
    · exact tb_pf2
    · exact tb_pf3
    · exact tb_pf4
end
section
set_option maxRecDepth 100000 in
theorem tb_rows1 : (mdT.take 60).all okMD = true := by decide +kernel
end
section
set_option maxRecDepth 100000 in
theorem tb_rows2 : ((mdT.drop 60).take 60).all okMD = true := by decide +kernel
end
section
set_option maxRecDepth 100000 in
theorem tb_rows3 : ((mdT.drop 120).take 40).all okMD = true := by decide +kernel
end
section
set_option maxRecDepth 100000 in
theorem tb_rows4 : ((mdT.drop 160).take 39).all okMD = true := by decide +kernel
end
section
set_option maxRecDepth 100000 in
theorem tb_rows5 : (rw_L_law.take 20).all (fun ch => ch.all (okR md_L_law)) = true := by decide +kernel
end
section
set_option maxRecDepth 100000 in
theorem tb_rows6 : ((rw_L_law.drop 20).take 20).all (fun ch => ch.all (okR md_L_law)) = true := by decide +kernel
end
section
set_option maxRecDepth 100000 in
theorem tb_rows7 : ((rw_L_law.drop 40).take 18).all (fun ch => ch.all (okR md_L_law)) = true := by decide +kernel
end
section
set_option maxRecDepth 100000 in
theorem tb_rows8 : (rw_L_law.drop 58).all (fun ch => ch.all (okR md_L_law)) = true := by decide +kernel
end
section
set_option maxRecDepth 100000 in
theorem tb_law : okMD md_L_law = true := by
  show rw_L_law.all (fun ch => ch.all (okR md_L_law)) = true
  have e : rw_L_law = rw_L_law.take 20 ++ ((rw_L_law.drop 20).take 20 ++ ((rw_L_law.drop 40).take 18 ++ rw_L_law.drop 58)) := by
    rw [show rw_L_law.drop 58 = (rw_L_law.drop 40).drop 18 by rw [List.drop_drop], List.take_append_drop, show rw_L_law.drop 40 = (rw_L_law.drop 20).drop 20 by rw [List.drop_drop], List.take_append_drop, List.take_append_drop]
  rw [e, List.all_append, List.all_append, List.all_append, tb_rows5, tb_rows6, tb_rows7, tb_rows8]
  rfl
set_option maxRecDepth 100000 in
theorem tb_rows (n : Nat) : okMD (mdOf n) = true := by
  unfold mdOf
  rw [List.getD_eq_getElem?_getD]
  cases h : mdT[n]? with
  | none => exact tb_law
  | some md =>
    show okMD md = true
    have hm := List.mem_of_getElem? h
    have e : mdT = mdT.take 60 ++ ((mdT.drop 60).take 60 ++ ((mdT.drop 120).take 40 ++ ((mdT.drop 160).take 39 ++ [md_L_law]))) := rfl
    rw [e] at hm
    rcases List.mem_append.mp hm with h1 | h1
    · exact List.all_eq_true.mp tb_rows1 md h1
    · rcases List.mem_append.mp h1 with h1 | h1
      · exact List.all_eq_true.mp tb_rows2 md h1
      · rcases List.mem_append.mp h1 with h1 | h1
        · exact List.all_eq_true.mp tb_rows3 md h1
        · rcases List.mem_append.mp h1 with h1 | h1
          · exact List.all_eq_true.mp tb_rows4 md h1
          · rw [List.mem_singleton.mp h1]; exact tb_law
theorem lookup_mem {β : Type} : ∀ (l : List (Nat × β)) (k : Nat) (v : β), l.lookup k = some v → (k, v) ∈ l
  | [], _, _, h => by simp at h
  | (a, b) :: l, k, v, h => by
    rw [List.lookup_cons] at h
    split at h
    · rename_i e
      cases h
      rw [show k = a from by simpa using e]
      exact List.mem_cons_self
    · exact List.mem_cons_of_mem _ (lookup_mem l k v h)
/-- a row that the small machine finds is a checked one -/
theorem row_ok {n pc : Nat} {r : Instr × Nat × Nat × Nat × Nat × Int32 × Int64 × List (Int32 × Nat)} (h : cRow (mdOf n).2.2.2.2.2.2 pc = some r) : okR (mdOf n) (pc, r) = true := by
  have ho := tb_rows n
  unfold okMD at ho
  unfold cRow at h
  split at h
  · rename_i l hl
    exact List.all_eq_true.mp (List.all_eq_true.mp ho l (List.mem_of_getElem? hl)) _ (lookup_mem l pc r h)
  · cases h
end
section
/-! the memory of the small machine, and the machine's heap -/
def ixOf (a : AA) : List AA → Nat
  | [] => 0
  | b :: l => if b = a then 0 else ixOf a l + 1
theorem ixOf_get (a : AA) : ∀ l : List AA, ixOf a l < l.length → l[ixOf a l]? = some a
  | [], h => by simp at h
  | b :: l, h => by
    unfold ixOf at h ⊢
    by_cases e : b = a
    · simp [e]
    · rw [if_neg e] at h ⊢
      rw [List.getElem?_cons_succ]
      exact ixOf_get a l (by simpa using h)
theorem ixOf_le (a : AA) : ∀ l : List AA, ixOf a l ≤ l.length
  | [] => by simp [ixOf]
  | b :: l => by
    unfold ixOf
    by_cases e : b = a
    · simp [e]
    · rw [if_neg e]; simpa using ixOf_le a l
def sq (a : AA) : Nat := ixOf a ordL
def od (k : Nat) : AA := ordL.getD k (0, 0, 0)
theorem ord_len : ordL.length = 279 := by decide +kernel
theorem sq_od : ∀ k, k < 279 → sq (od k) = k := by decide +kernel
theorem od_sq {a : AA} (h : sq a < 279) : od (sq a) = a := by
  have := ixOf_get a ordL (by rw [ord_len]; exact h)
  unfold od
  rw [List.getD_eq_getElem?_getD]
  show (ordL[ixOf a ordL]?).getD _ = a
  rw [this]; rfl
theorem sq_inj {a b : AA} (h : sq a < 279) (e : sq a = sq b) : a = b := by rw [← od_sq h, e, od_sq (e ▸ h)]
theorem ord_get {k : Nat} {a : AA} (h : ordL[k]? = some a) : k < 279 ∧ od k = a ∧ sq a = k := by
  have hk : k < 279 := by rw [← ord_len]; exact (List.getElem?_eq_some_iff.mp h).1
  have e : od k = a := by unfold od; rw [List.getD_eq_getElem?_getD, h]; rfl
  exact ⟨hk, e, by rw [← e]; exact sq_od k hk⟩
/-- base, numbers of slots, the array kinds, the script -/
abbrev XT : Type := Nat × va_G × (ClassId × ClassId × ClassId) × (Nat × Nat × (Nat → Int32))
abbrev xB (X : XT) : Nat := X.1
abbrev xD (X : XT) : va_G := X.2.1
abbrev xI (X : XT) : ClassId := X.2.2.1.1
abbrev xS (X : XT) : ClassId := X.2.2.1.2.1
abbrev xM (X : XT) : ClassId := X.2.2.1.2.2
abbrev xb (X : XT) : Nat := X.2.2.2.1
abbrev xL (X : XT) : Nat := X.2.2.2.2.1
abbrev xs (X : XT) : Nat → Int32 := X.2.2.2.2.2
abbrev xA (X : XT) : Nat → Prop := fun q => xB X ≤ q
abbrev xT (X : XT) : List (ClassId × FieldType) := [(xI X, .int), (xS X, .object RX6), (xM X, .object RX2)]
def aR (X : XT) (a : AA) : Nat := bif a.1.beq 13 then xb X else xB X + sq a
def tv (X : XT) : AV → Value
  | .inl x => .int x
  | .inr (.inl z) => .long z
  | .inr (.inr a) => .ref (aR X a)
def okA (n : Nat) (a : AA) : Prop := a = (13, 0, 0) ∨ (a.1 < 10 ∧ sq a < n)
def okV (n : Nat) : AV → Prop
  | .inr (.inr a) => okA n a
  | _ => True
def fv (X : XT) (M : Mem) (c i k : Nat) : Value := match fk c k with
  | 0 => .int (M.2.2.2 c i 0 k)
  | 1 => .int (M.2.2.2 c i 0 k)
  | _ + 2 => bif M.2.1 c i k then .ref (xB X + sq (tg M.2.2.2 c i k)) else .null
def cR (X : XT) (c : Nat) : ClassId := bif c.beq 3 then xS X else xM X
def ce (X : XT) (M : Mem) (a : AA) : va_E := match a.2.2 with
  | 0 => .inr (a.1, (List.range (nF a.1)).map (fv X M a.1 a.2.1))
  | o + 1 => bif (fk a.1 o).beq 3 then .inl (cR X a.1, al a.1 (o + 1), .inr (.inr (.inr (.inr (fun j => bif M.2.1 a.1 a.2.1 (1000 + j) then some (xB X + sq (et a.1 j)) else none))))) else .inl (xI X, al a.1 (o + 1), .inl (fun j => M.2.2.2 a.1 a.2.1 (o + 1) j))
def wld (X : XT) (M : Mem) : va_W := (List.range M.1).map (fun k => (xB X + k, ce X M (od k)))
/-- what is set points into what is made -/
def okF (M : Mem) (c i o : Nat) : Prop := (o = 0 → ∀ k, k < nF c → 2 ≤ fk c k → M.2.1 c i k = true → (tg M.2.2.2 c i k).1 < 10 ∧ sq (tg M.2.2.2 c i k) < M.1) ∧ (isRA c o = true → ∀ j, j < al c o → M.2.1 c i (1000 + j) = true → (et c j).1 < 10 ∧ sq (et c j) < M.1)
/-- what isn't made yet is blank -/
def zro (M : Mem) (c i o : Nat) : Prop := (∀ j, M.2.2.2 c i o j = 0) ∧ (o = 0 → ∀ k, k < 1000 → M.2.1 c i k = false) ∧ (isRA c o = true → ∀ j, M.2.1 c i (1000 + j) = false)
def Sim (X : XT) (M : Mem) (H : Heap) : Prop := M.1 ≤ 279 ∧ va_P (xD X) vwCl (wld X M) H ∧ (∀ c i o, sq (c, i, o) < M.1 → okF M c i o) ∧ (∀ c i o, M.1 ≤ sq (c, i, o) → sq (c, i, o) < 279 → zro M c i o) ∧ M.2.2.1 = xL X ∧ (∀ j, M.2.2.2 13 0 0 j = xs X j)
theorem wld_get {X : XT} {M : Mem} {q : Nat} (h : q < M.1) : (wld X M)[q]? = some (xB X + q, ce X M (od q)) := by
  unfold wld
  rw [List.getElem?_map, List.getElem?_range h]; rfl
theorem wld_at {X : XT} {M : Mem} {a : AA} (h : sq a < M.1) (hn : M.1 ≤ 279) : (wld X M)[sq a]? = some (xB X + sq a, ce X M a) := by
  rw [wld_get h, od_sq (Nat.lt_of_lt_of_le h hn)]
theorem wld_len (X : XT) (M : Mem) : (wld X M).length = M.1 := by simp [wld]
theorem wld_D (X : XT) (M : Mem) : va_D (xA X) (wld X M) := by
  have key : ∀ (k : Nat) (q : Nat × va_E), (wld X M)[k]? = some q → q.1 = xB X + k := by
    intro k q hk
    have hl : k < M.1 := by rw [← wld_len X M]; exact (List.getElem?_eq_some_iff.mp hk).1
    rw [wld_get hl] at hk
    cases hk; rfl
  refine ⟨fun i j p q hi hj e => ?_, fun k q hk => ?_⟩
  · rw [key i p hi, key j q hj] at e; omega
  · show xB X ≤ q.1
    rw [key k q hk]; omega
theorem wld_set {X : XT} {M M' : Mem} {a : AA} (hn : M'.1 = M.1) (hl : M.1 ≤ 279) (ha : sq a < M.1) (h : ∀ b, sq b < M.1 → b ≠ a → ce X M' b = ce X M b) : (wld X M).set (sq a) (xB X + sq a, ce X M' a) = wld X M' := by
  apply List.ext_getElem?
  intro k
  by_cases hk : k < M.1
  · rw [wld_get (M := M') (by omega)]
    by_cases e : k = sq a
    · subst e
      rw [List.getElem?_set_self (by rw [wld_len]; exact ha), od_sq (by omega)]
    · rw [List.getElem?_set_ne (Ne.symm e), wld_get hk, h (od k) (by rw [sq_od k (by omega)]; exact hk) (fun q => e (by rw [← q, sq_od k (by omega)]))]
  · rw [List.getElem?_eq_none (by rw [List.length_set, wld_len]; omega), List.getElem?_eq_none (by rw [wld_len]; omega)]
/-- the two memories hold the same in this cell -/
def smC (M M' : Mem) (c i o : Nat) : Prop := (∀ j, M'.2.2.2 c i o j = M.2.2.2 c i o j) ∧ (o = 0 → ∀ k, k < 1000 → M'.2.1 c i k = M.2.1 c i k) ∧ (isRA c o = true → ∀ j, M'.2.1 c i (1000 + j) = M.2.1 c i (1000 + j))
theorem nF_lt (c : Nat) : nF c < 1000 := by
  unfold nF
  by_cases h : c < 10
  · exact (by decide : ∀ c, c < 10 → [3, 4, 3, 3, 9, 4, 9, 5, 11, 32].getD c 0 < 1000) c h
  · rw [List.getD_eq_getElem?_getD, List.getElem?_eq_none (by simpa using h)]; decide
theorem tg_eq {w w' : Nat → Nat → Nat → Nat → Int32} {c i : Nat} (h : ∀ j, w' c i 0 j = w c i 0 j) (k : Nat) : tg w' c i k = tg w c i k := by
  unfold tg
  split <;> simp [h]
theorem ce_same {X : XT} {M M' : Mem} {c i o : Nat} (h : smC M M' c i o) : ce X M' (c, i, o) = ce X M (c, i, o) := by
  obtain ⟨h1, h2, h3⟩ := h
  unfold ce
  cases o with
  | zero =>
    show Sum.inr (c, (List.range (nF c)).map (fv X M' c i)) = Sum.inr (c, (List.range (nF c)).map (fv X M c i))
    congr 2
    apply List.map_congr_left
    intro k hk
    have hk2 : k < 1000 := Nat.lt_trans (List.mem_range.mp hk) (nF_lt c)
    unfold fv
    rw [tg_eq h1]
    split <;> simp [h1, h2 rfl k hk2]
  | succ o =>
    show (bif (fk c o).beq 3 then _ else _) = (bif (fk c o).beq 3 then _ else _)
    cases hb : (fk c o).beq 3 with
    | true =>
      simp only [cond_true]
      have : (fun j => bif M'.2.1 c i (1000 + j) then some (xB X + sq (et c j)) else none) = (fun j => bif M.2.1 c i (1000 + j) then some (xB X + sq (et c j)) else none) := by
        funext j; rw [h3 hb j]
      rw [this]
    | false =>
      simp only [cond_false]
      have : (fun j => M'.2.2.2 c i (o + 1) j) = (fun j => M.2.2.2 c i (o + 1) j) := by
        funext j; rw [h1 j]
      rw [this]
theorem okF_same {M M' : Mem} {c i o : Nat} (hn : M.1 ≤ M'.1) (h : smC M M' c i o) (hk : okF M c i o) : okF M' c i o := by
  obtain ⟨h1, h2, h3⟩ := h
  refine ⟨fun e k hk1 hk2 hk3 => ?_, fun e j hj hf => ?_⟩
  · subst e
    rw [tg_eq h1]
    have hb := hk.1 rfl k hk1 hk2 (by rw [← h2 rfl k (Nat.lt_trans hk1 (nF_lt c))]; exact hk3)
    exact ⟨hb.1, Nat.lt_of_lt_of_le hb.2 hn⟩
  · have hb := hk.2 e j hj (by rw [← h3 e j]; exact hf)
    exact ⟨hb.1, Nat.lt_of_lt_of_le hb.2 hn⟩
theorem zro_same {M M' : Mem} {c i o : Nat} (h : smC M M' c i o) (hk : zro M c i o) : zro M' c i o := by
  obtain ⟨h1, h2, h3⟩ := h
  exact ⟨fun j => by rw [h1]; exact hk.1 j, fun e k hk1 => by rw [h2 e k hk1]; exact hk.2.1 e k hk1, fun e j => by rw [h3 e j]; exact hk.2.2 e j⟩
/-- one cell changes -/
theorem sim_set {X : XT} {M M' : Mem} {H H' : Heap} {c i o : Nat} (hS : Sim X M H) (hn : M'.1 = M.1) (hL : M'.2.2.1 = M.2.2.1) (ha : sq (c, i, o) < M.1) (hc : c ≠ 13) (h : ∀ c' i' o', (c', i', o') ≠ (c, i, o) → smC M M' c' i' o') (hf : okF M' c i o)
    (hP : va_P (xD X) vwCl ((wld X M).set (sq (c, i, o)) (xB X + sq (c, i, o), ce X M' (c, i, o))) H') : Sim X M' H' := by
  obtain ⟨s2, s3, s4, s5, s6, s7⟩ := hS
  rw [wld_set hn s2 ha (fun b _ hb => ce_same (h b.1 b.2.1 b.2.2 hb))] at hP
  refine ⟨by omega, hP, fun c' i' o' hq => ?_, fun c' i' o' hq hq2 => ?_, by rw [hL]; exact s6, fun j => ?_⟩
  · by_cases e : (c', i', o') = (c, i, o)
    · cases e; exact hf
    · exact okF_same (by omega) (h c' i' o' e) (s4 c' i' o' (by omega))
  · refine zro_same (h c' i' o' (fun e => ?_)) (s5 c' i' o' (by omega) hq2)
    rw [e] at hq; omega
  · rw [(h 13 0 0 (fun e => hc (by cases e; rfl))).1 j]; exact s7 j
theorem u4_ne {w : Nat → Nat → Nat → Nat → Int32} {c i o k : Nat} {v : Int32} {c' i' o' : Nat} (h : (c', i', o') ≠ (c, i, o)) (j : Nat) : u4 w c i o k v c' i' o' j = w c' i' o' j := by
  unfold u4
  rw [if_neg]
  rintro ⟨rfl, rfl, rfl, -⟩
  exact h rfl
theorem uc_ne {w : Nat → Nat → Nat → Nat → Int32} {c i o : Nat} {f : Nat → Int32} {c' i' o' : Nat} (h : (c', i', o') ≠ (c, i, o)) (j : Nat) : uc w c i o f c' i' o' j = w c' i' o' j := by
  unfold uc
  rw [if_neg]
  rintro ⟨rfl, rfl, rfl⟩
  exact h rfl
theorem uf_eq {fl : Nat → Nat → Nat → Bool} {c i k c' i' k' : Nat} (h : ¬ (c' = c ∧ i' = i ∧ k' = k)) : uf fl c i k c' i' k' = fl c' i' k' := by
  unfold uf
  have : (c'.beq c && i'.beq i && k'.beq k) = false := by
    by_cases h1 : c' = c
    · by_cases h2 : i' = i
      · have h3 : k'.beq k = false := by
          cases hb : k'.beq k with
          | true => exact absurd ⟨h1, h2, Nat.eq_of_beq_eq_true hb⟩ h
          | false => rfl
        rw [h3, Bool.and_false]
      · simp [h2]
    · simp [h1]
  rw [this]; rfl
theorem uf_self (fl : Nat → Nat → Nat → Bool) (c i k : Nat) : uf fl c i k c i k = true := by simp [uf]
theorem fk_out {c : Nat} (h : ¬ c < 10) (k : Nat) : fk c k = 9 := by
  unfold fk
  rw [List.getD_eq_getElem?_getD, List.getD_eq_getElem?_getD, List.getElem?_eq_none (l := fkT) (by simp [fkT]; omega)]
  rfl
theorem fk_big {c k : Nat} (h : ¬ k < 32) : fk c k = 9 := by
  by_cases hc : c < 10
  · unfold fk
    have hl : ∀ c, c < 10 → (fkT.getD c []).length ≤ 32 := by decide
    have := hl c hc
    rw [List.getD_eq_getElem?_getD, List.getElem?_eq_none (by omega)]; rfl
  · exact fk_out hc k
theorem fk3 {c k : Nat} (h : fk c k = 3) : (c = 3 ∧ k = 0) ∨ (c = 8 ∧ k = 5) := by
  by_cases hc : c < 10
  · by_cases hk : k < 32
    · exact (by decide : ∀ c, c < 10 → ∀ k, k < 32 → fk c k = 3 → (c = 3 ∧ k = 0) ∨ (c = 8 ∧ k = 5)) c hc k hk h
    · rw [fk_big hk] at h; omega
  · rw [fk_out hc] at h; omega
theorem fk_lt {c k : Nat} (h : fk c k ≠ 9) : c < 10 := by
  by_cases hc : c < 10
  · exact hc
  · exact absurd (fk_out hc k) h
theorem isRA_one {c o o' : Nat} (h : isRA c o = true) (h' : isRA c o' = true) : o = o' := by
  cases o with
  | zero => cases h
  | succ o =>
    cases o' with
    | zero => cases h'
    | succ o' =>
      have h1 : fk c o = 3 := by simpa [isRA] using h
      have h2 : fk c o' = 3 := by simpa [isRA] using h'
      rcases fk3 h1 with ⟨a, b⟩ | ⟨a, b⟩ <;> rcases fk3 h2 with ⟨a', b'⟩ | ⟨a', b'⟩ <;> omega
end
section
/-! what the small machine does, the machine does -/
def XW (s : State) : Prop := (∀ q ∈ MNt, va_Nw (.methodLinkNest (rN q.1) q.2.1 (mdOf q.2.2.1).2.1 (rN q.2.2.2)) s) ∧ va_AO RX6 s ∧ va_AO RX2 s
/-- what holds of a frame of a method -/
def PR (X : XT) (d : Nat) (md : MD) (p : Program) (R : Room) (s : State) (m : MethodId) (args : Array Value) (meth : Method) (c : Code) : Prop :=
  p.tables.exec = Jvm.exec ∧ c.code = md.2.2.1 ∧ c.maxLocals = md.2.2.2.1 ∧ s.vm.findClass (rN md.1) = some m.cls ∧ (∀ w ∈ gT, w.before args s = true) ∧ va_K (xD X) vwCl (xT X) s ∧ (md.2.2.2.2.2.1 = true → meth.name = "<init>") ∧ xB X ≤ s.heap.size ∧ XW s ∧ (va_X (xb X) (xL X) (xs X) s s.heap ∧ xb X < s.heap.size ∧ xb X < xB X) ∧ d ≤ R.frames ∧ 30 * d ≤ R.locals
def LX (X : XT) (nL n : Nat) (L : List (Option AV)) (ls : Array Slot) : Prop := ls.size = nL ∧ lv_wf ls ∧ ∀ (i : Nat) (v : AV), L[i]? = some (some v) → ls[i]? = some (Slot.val (tv X v)) ∧ okV n v
def sl (n : Nat) : Nat := ((ordL.take n).map slO).sum
def RT (md : MD) (pc : Nat) (v : Option AV) : Prop := (decode md.2.2.1 pc = .ok (.ireturn, 1) ∧ ∃ x ty, v = some (.inl x) ∧ md.2.2.2.2.1 = some ty ∧ narrow ty (.int x) = .int x) ∨ (decode md.2.2.1 pc = .ok (.return_, 1) ∧ v = none ∧ md.2.2.2.2.1 = none)
def KR (l : Launch) (X : XT) (md : MD) (v : Option AV) (M' : Mem) (p : Program) (e : Env) (R : Room) (s : State) (m : MethodId) (args : Array Value) (below : List Frame) (meth : Method) (c : Code) (Q : State → Prop) (k n : Nat) : Prop :=
  ∀ (H' : Heap) (locs' : List Loc) (pc' : Nat) (ls' : Array Slot), Sim X M' H' → va_S (xA X) s.heap H' locs' → RT md pc' v → W p l e R s m args below meth c H' locs' k n Q (F0 m pc' ls' (v.toList.map (tv X)))
def Good (l : Launch) (X : XT) (d : Nat) (md : MD) (S : St) (v : Option AV) (M' : Mem) : Prop := S.2.2.2.1 ≤ M'.1 ∧ (v = none ∨ ∃ z : Int32, v = some (.inl z)) ∧
  ∀ (p : Program) (e : Env) (R : Room) (s : State) (m : MethodId) (args : Array Value) (below : List Frame) (meth : Method) (c : Code) (Q : State → Prop) (H : Heap) (locs : List Loc) (cells slots : Nat) (ls : Array Slot),
    PR X d md p R s m args meth c → s.heap.size + cells = xB X + S.2.2.2.1 → cells + (M'.1 - S.2.2.2.1) ≤ R.cells → slots + (sl M'.1 - sl S.2.2.2.1) ≤ R.slots → Sim X S.2.2.2 H → va_S (xA X) s.heap H locs → LX X md.2.2.2.1 S.2.2.2.1 S.2.1 ls → (∀ x ∈ S.2.2.1, okV S.2.2.2.1 x) →
    KR l X md v M' p e R s m args below meth c Q (cells + (M'.1 - S.2.2.2.1)) (slots + (sl M'.1 - sl S.2.2.2.1)) → W p l e R s m args below meth c H locs cells slots Q (F0 m S.1 ls (S.2.2.1.map (tv X)))
theorem G_of {l : Launch} {X : XT} {d : Nat} {md : MD} {pc pc' : Nat} {L L' : List (Option AV)} {st st' : List AV} {M M1 M' : Mem} {v : Option AV} (hn : M1.1 = M.1) (hG : Good l X d md (pc', L', st', M1) v M')
    (h : ∀ (p : Program) (e : Env) (R : Room) (s : State) (m : MethodId) (args : Array Value) (below : List Frame) (meth : Method) (c : Code) (Q : State → Prop) (H : Heap) (locs : List Loc) (cells slots : Nat) (ls : Array Slot),
      PR X d md p R s m args meth c → Sim X M H → va_S (xA X) s.heap H locs → LX X md.2.2.2.1 M.1 L ls → (∀ x ∈ st, okV M.1 x) →
      (∀ (H' : Heap) (locs' : List Loc) (ls' : Array Slot), Sim X M1 H' → va_S (xA X) s.heap H' locs' → LX X md.2.2.2.1 M.1 L' ls' → (∀ x ∈ st', okV M.1 x) → W p l e R s m args below meth c H' locs' cells slots Q (F0 m pc' ls' (st'.map (tv X)))) →
      W p l e R s m args below meth c H locs cells slots Q (F0 m pc ls (st.map (tv X)))) : Good l X d md (pc, L, st, M) v M' := by
  obtain ⟨g1, gv, g2⟩ := hG
  have g1 : M1.1 ≤ M'.1 := g1
  refine ⟨show M.1 ≤ M'.1 by omega, gv, fun p e R s m args below meth c Q H locs cells slots ls hP hz hc hs hS hV hL hk hR => ?_⟩
  have hz : s.heap.size + cells = xB X + M.1 := hz
  have hc : cells + (M'.1 - M.1) ≤ R.cells := hc
  have hs : slots + (sl M'.1 - sl M.1) ≤ R.slots := hs
  have hR : KR l X md v M' p e R s m args below meth c Q (cells + (M'.1 - M.1)) (slots + (sl M'.1 - sl M.1)) := hR
  rw [← hn] at hz hc hs hR
  refine h p e R s m args below meth c Q H locs cells slots ls hP hS hV hL hk (fun H' locs' ls' a1 a2 a3 a4 => ?_)
  rw [← hn] at a3 a4
  exact g2 p e R s m args below meth c Q H' locs' cells slots ls' hP hz hc hs a1 a2 a3 a4 hR
/-- the set values, as the kit lists them -/
def prs (X : XT) (L : List (Option AV)) : List (Nat × Value) := (List.range L.length).filterMap (fun i => match L[i]? with
  | some (some v) => some (i, tv X v)
  | _ => none)
theorem prs_mem {X : XT} {L : List (Option AV)} {i : Nat} {v : AV} (h : L[i]? = some (some v)) : (i, tv X v) ∈ prs X L := by
  refine List.mem_filterMap.mpr ⟨i, List.mem_range.mpr (List.getElem?_eq_some_iff.mp h).1, ?_⟩
  rw [h]
theorem prs_of {X : XT} {L : List (Option AV)} {q : Nat × Value} (h : q ∈ prs X L) : ∃ v, L[q.1]? = some (some v) ∧ q.2 = tv X v := by
  obtain ⟨i, -, hi⟩ := List.mem_filterMap.mp h
  split at hi
  · rename_i v hv
    cases hi
    exact ⟨v, hv, rfl⟩
  · cases hi
theorem LX.has {X : XT} {nL n : Nat} {L : List (Option AV)} {ls : Array Slot} (h : LX X nL n L ls) : lv_has ls nL (prs X L) :=
  ⟨h.1, h.2.1, fun q hq => by
    obtain ⟨v, h1, h2⟩ := prs_of hq
    rw [h2]; exact (h.2.2 q.1 v h1).1⟩
theorem cat_tv (X : XT) (v : AV) : (tv X v).category = (if isL v then 2 else 1) := by
  rcases v with x | x | x <;> rfl
theorem lS_get {L : List (Option AV)} {i : Nat} {v : AV} {j : Nat} {u : AV} (h : (lS L i v)[j]? = some (some u)) : (j = i ∧ u = v) ∨ (j ≠ i ∧ L[j]? = some (some u) ∧ ¬ (j + 1 = i ∧ isL u = true)) := by
  cases i with
  | zero =>
    unfold lS at h
    by_cases e : j = 0
    · subst e
      by_cases hl : 0 < L.length
      · rw [List.getElem?_set_self hl] at h
        exact Or.inl ⟨rfl, by cases h; rfl⟩
      · rw [List.getElem?_eq_none (by rw [List.length_set]; omega)] at h; cases h
    · rw [List.getElem?_set_ne (Ne.symm e)] at h
      exact Or.inr ⟨e, h, fun q => by omega⟩
  | succ i =>
    unfold lS at h
    simp only at h
    split at h
    · rename_i z hz
      by_cases e : j = i + 1
      · subst e
        by_cases hl : i + 1 < ((L.set i none)).length
        · rw [List.getElem?_set_self hl] at h
          exact Or.inl ⟨rfl, by cases h; rfl⟩
        · rw [List.getElem?_eq_none (by rw [List.length_set]; omega)] at h; cases h
      · rw [List.getElem?_set_ne (Ne.symm e)] at h
        by_cases e2 : j = i
        · subst e2
          rw [List.getElem?_set_self (List.getElem?_eq_some_iff.mp hz).1] at h; cases h
        · rw [List.getElem?_set_ne (Ne.symm e2)] at h
          exact Or.inr ⟨e, h, fun q => by omega⟩
    · rename_i hz
      by_cases e : j = i + 1
      · subst e
        by_cases hl : i + 1 < L.length
        · rw [List.getElem?_set_self hl] at h
          exact Or.inl ⟨rfl, by cases h; rfl⟩
        · rw [List.getElem?_eq_none (by rw [List.length_set]; omega)] at h; cases h
      · rw [List.getElem?_set_ne (Ne.symm e)] at h
        refine Or.inr ⟨e, h, fun q => ?_⟩
        obtain ⟨q1, q2⟩ := q
        have : j = i := by omega
        subst this
        rcases u with x | x | x
        · cases q2
        · exact hz x h
        · cases q2
theorem LX.store {X : XT} {nL n : Nat} {L : List (Option AV)} {ls ls' : Array Slot} {i : Nat} {v : AV} {x : Value} (hx : x = tv X v) (h : LX X nL n L ls) (hv : okV n v) (h' : lv_has ls' nL ((i, x) :: (prs X L).filter (fun q => !(q.1 == i) && !(q.1 + 1 == i && q.2.category == 2)))) : LX X nL n (lS L i v) ls' := by
  subst hx
  refine ⟨h'.1, h'.2.1, fun j u hj => ?_⟩
  rcases lS_get hj with ⟨rfl, rfl⟩ | ⟨e, e2, e3⟩
  · exact ⟨h'.2.2 _ List.mem_cons_self, hv⟩
  · refine ⟨h'.2.2 (j, tv X u) (List.mem_cons_of_mem _ (List.mem_filter.mpr ⟨prs_mem e2, ?_⟩)), (h.2.2 j u e2).2⟩
    have h1 : (j == i) = false := by simpa using e
    show (!(j == i) && !(j + 1 == i && (tv X u).category == 2)) = true
    rw [h1, cat_tv]
    by_cases q : j + 1 = i
    · have : isL u = false := by
        cases hu : isL u with
        | true => exact absurd ⟨q, hu⟩ e3
        | false => rfl
      simp [this]
    · simp [q]
theorem LX.storeL {X : XT} {nL n : Nat} {L : List (Option AV)} {ls ls' : Array Slot} {i : Nat} {v : AV} {x : Value} (hx : x = tv X v) (h : LX X nL n L ls) (hv : okV n v) (h' : lv_has ls' nL ((i, x) :: (prs X L).filter (fun q => !(q.1 == i) && (!(q.1 == i + 1) && !(q.1 + 1 == i && q.2.category == 2))))) : LX X nL n (lSL L i v) ls' := by
  subst hx
  refine ⟨h'.1, h'.2.1, fun j u hj => ?_⟩
  unfold lSL at hj
  have e0 : j ≠ i + 1 := by
    intro e; subst e
    by_cases hl : i + 1 < (lS L i v).length
    · rw [List.getElem?_set_self hl] at hj; cases hj
    · rw [List.getElem?_eq_none (by rw [List.length_set]; omega)] at hj; cases hj
  rw [List.getElem?_set_ne (Ne.symm e0)] at hj
  rcases lS_get hj with ⟨rfl, rfl⟩ | ⟨e, e2, e3⟩
  · exact ⟨h'.2.2 _ List.mem_cons_self, hv⟩
  · refine ⟨h'.2.2 (j, tv X u) (List.mem_cons_of_mem _ (List.mem_filter.mpr ⟨prs_mem e2, ?_⟩)), (h.2.2 j u e2).2⟩
    have h1 : (j == i) = false := by simpa using e
    have h2 : (j == i + 1) = false := by simpa using e0
    show (!(j == i) && (!(j == i + 1) && !(j + 1 == i && (tv X u).category == 2))) = true
    rw [h1, h2, cat_tv]
    by_cases q : j + 1 = i
    · have : isL u = false := by
        cases hu : isL u with
        | true => exact absurd ⟨q, hu⟩ e3
        | false => rfl
      simp [this]
    · simp [q]
theorem LX.mono {X : XT} {nL n n' : Nat} {L : List (Option AV)} {ls : Array Slot} (h : LX X nL n L ls) (hn : n ≤ n') : LX X nL n' L ls :=
  ⟨h.1, h.2.1, fun i v hi => ⟨(h.2.2 i v hi).1, by
    have := (h.2.2 i v hi).2
    rcases v with x | x | x
    · trivial
    · trivial
    · rcases this with e | e
      · exact Or.inl e
      · exact Or.inr ⟨e.1, Nat.lt_of_lt_of_le e.2 hn⟩⟩⟩
end
section
theorem ok1 {n : Nat} {x : AV} {st : List AV} (h : okV n x) (hk : ∀ y ∈ st, okV n y) : ∀ y ∈ x :: st, okV n y := fun y hy => by
  rcases List.mem_cons.mp hy with rfl | h2
  · exact h
  · exact hk y h2
theorem okt {n : Nat} {x : AV} {st : List AV} (hk : ∀ y ∈ x :: st, okV n y) : ∀ y ∈ st, okV n y := fun y hy => hk y (List.mem_cons_of_mem _ hy)
theorem ts_in {pc : Nat} {x : Int32} {a : Nat} : ∀ (os : List Int) (ks : List (Int32 × Nat)) (i j : Nat), tsOK pc os ks i = true → i ≤ j → j < i + ks.length → i + ks.length < 2 ^ 31 → x = nI j → ∃ o, os[j - i]? = some o ∧ (pc : Int) + o = (swT x ks a : Int)
  | [], [], i, j, _, h1, h2, _, _ => by simp at h2; omega
  | [], q :: r, _, _, h, _, _, _, _ => by simp [tsOK] at h
  | o :: os, [], _, _, h, _, _, _, _ => by simp [tsOK] at h
  | o :: os, q :: r, i, j, h, h1, h2, h3, hx => by
    simp only [tsOK, Bool.and_eq_true, decide_eq_true_eq] at h
    obtain ⟨⟨e1, e2⟩, e3⟩ := h
    simp only [List.length_cons] at h2 h3
    unfold swT
    by_cases e : i = j
    · subst e
      rw [if_pos (by rw [hx, e1])]
      exact ⟨o, by simp, e2⟩
    · rw [if_neg (by rw [hx, e1, nI_eq (by omega) (by omega)]; omega)]
      obtain ⟨o', f1, f2⟩ := ts_in (x := x) (a := a) os r (i + 1) j e3 (by omega) (by omega) (by omega) hx
      refine ⟨o', ?_, f2⟩
      rw [show j - i = (j - (i + 1)) + 1 by omega, List.getElem?_cons_succ]
      exact f1
theorem ts_out {pc : Nat} {x : Int32} {a : Nat} : ∀ (os : List Int) (ks : List (Int32 × Nat)) (i : Nat), tsOK pc os ks i = true → (∀ j, i ≤ j → j < i + ks.length → x ≠ nI j) → swT x ks a = a
  | [], [], _, _, _ => rfl
  | [], q :: r, _, h, _ => by simp [tsOK] at h
  | o :: os, [], _, h, _ => by simp [tsOK] at h
  | o :: os, q :: r, i, h, hx => by
    simp only [tsOK, Bool.and_eq_true, decide_eq_true_eq] at h
    obtain ⟨⟨e1, e2⟩, e3⟩ := h
    simp only [List.length_cons] at hx
    unfold swT
    rw [if_neg (by rw [e1]; exact hx i (Nat.le_refl i) (by omega))]
    exact ts_out os r (i + 1) e3 (fun j h1 h2 => hx j (by omega) (by omega))
theorem ls_off {pc : Nat} {x : Int32} {a : Nat} {df : Int} (hd : (pc : Int) + df = (a : Int)) : ∀ (os : List (Int × Int)) (ks : List (Int32 × Nat)), lsOK pc os ks = true → (pc : Int) + Op.lookupswitch.offset os df x.toInt = (swT x ks a : Int)
  | [], [], _ => by simpa [swT, Op.lookupswitch.offset] using hd
  | [], q :: r, h => by simp [lsOK] at h
  | o :: os, [], h => by simp [lsOK] at h
  | o :: os, q :: r, h => by
    simp only [lsOK, Bool.and_eq_true, decide_eq_true_eq] at h
    obtain ⟨⟨e1, e2⟩, e3⟩ := h
    obtain ⟨o1, o2⟩ := o
    unfold swT
    rw [Op.lookupswitch.offset_cons]
    by_cases e : x = q.1
    · rw [if_pos e, if_pos (by rw [e]; exact e1.symm)]
      exact e2
    · rw [if_neg e, if_neg (fun z => e (Int32.toInt_inj.mp (by rw [e1]; exact z.symm)))]
      exact ls_off hd os r e3
theorem gi_iconst {l : Launch} {X : XT} {d : Nat} {md : MD} {pc len a b c' : Nat} {x0 : Int32} {lg : Int64} {ks : List (Int32 × Nat)} {L : List (Option AV)} {st : List AV} {M M' : Mem} {v : Option AV} {S' : St} {n : Int} (hdc : decode md.2.2.1 pc = .ok (.iconst n, len)) (hx : okX md.1 md.2.2.2.1 md.2.2.2.2.2.1 pc (.iconst n) len a b c' x0 lg ks = true) (hs : exI md.2.2.2.2.1 (.iconst n) len a b c' x0 lg ks pc L st M = some (.inl S')) (hd : 1 ≤ d) (hG : Good l X d md S' v M') : Good l X d md (pc, L, st, M) v M' := by
  simp only [okX, Bool.and_eq_true, decide_eq_true_eq] at hx
  obtain ⟨rfl, hv⟩ := hx
  cases hs
  refine G_of rfl hG (fun p e R s m args below meth c Q H locs cells slots ls hP hS hV hL hk K => ?_)
  exact lv_iconst hP.1 hP.2.1 hdc hv (K H locs ls hS hV hL (ok1 trivial hk))
theorem gi_bipush {l : Launch} {X : XT} {d : Nat} {md : MD} {pc len a b c' : Nat} {x0 : Int32} {lg : Int64} {ks : List (Int32 × Nat)} {L : List (Option AV)} {st : List AV} {M M' : Mem} {v : Option AV} {S' : St} {n : Int} (hdc : decode md.2.2.1 pc = .ok (.bipush n, len)) (hx : okX md.1 md.2.2.2.1 md.2.2.2.2.2.1 pc (.bipush n) len a b c' x0 lg ks = true) (hs : exI md.2.2.2.2.1 (.bipush n) len a b c' x0 lg ks pc L st M = some (.inl S')) (hd : 1 ≤ d) (hG : Good l X d md S' v M') : Good l X d md (pc, L, st, M) v M' := by
  simp only [okX, Bool.and_eq_true, decide_eq_true_eq] at hx
  obtain ⟨rfl, hv⟩ := hx
  cases hs
  refine G_of rfl hG (fun p e R s m args below meth c Q H locs cells slots ls hP hS hV hL hk K => ?_)
  exact lv_bipush hP.1 hP.2.1 hdc hv (K H locs ls hS hV hL (ok1 trivial hk))
theorem gi_sipush {l : Launch} {X : XT} {d : Nat} {md : MD} {pc len a b c' : Nat} {x0 : Int32} {lg : Int64} {ks : List (Int32 × Nat)} {L : List (Option AV)} {st : List AV} {M M' : Mem} {v : Option AV} {S' : St} {n : Int} (hdc : decode md.2.2.1 pc = .ok (.sipush n, len)) (hx : okX md.1 md.2.2.2.1 md.2.2.2.2.2.1 pc (.sipush n) len a b c' x0 lg ks = true) (hs : exI md.2.2.2.2.1 (.sipush n) len a b c' x0 lg ks pc L st M = some (.inl S')) (hd : 1 ≤ d) (hG : Good l X d md S' v M') : Good l X d md (pc, L, st, M) v M' := by
  simp only [okX, Bool.and_eq_true, decide_eq_true_eq] at hx
  obtain ⟨rfl, hv⟩ := hx
  cases hs
  refine G_of rfl hG (fun p e R s m args below meth c Q H locs cells slots ls hP hS hV hL hk K => ?_)
  exact lv_sipush hP.1 hP.2.1 hdc hv (K H locs ls hS hV hL (ok1 trivial hk))
theorem gi_ldc {l : Launch} {X : XT} {d : Nat} {md : MD} {pc len a b c' : Nat} {x0 : Int32} {lg : Int64} {ks : List (Int32 × Nat)} {L : List (Option AV)} {st : List AV} {M M' : Mem} {v : Option AV} {S' : St} {n : Nat} (hdc : decode md.2.2.1 pc = .ok (.ldc n, len)) (hx : okX md.1 md.2.2.2.1 md.2.2.2.2.2.1 pc (.ldc n) len a b c' x0 lg ks = true) (hs : exI md.2.2.2.2.1 (.ldc n) len a b c' x0 lg ks pc L st M = some (.inl S')) (hd : 1 ≤ d) (hG : Good l X d md S' v M') : Good l X d md (pc, L, st, M) v M' := by
  simp only [okX, Bool.and_eq_true, decide_eq_true_eq] at hx
  obtain ⟨rfl, hv⟩ := hx
  cases hs
  refine G_of rfl hG (fun p e R s m args below meth c Q H locs cells slots ls hP hS hV hL hk K => ?_)
  exact lv_ldc hP.1 hP.2.1 hP.2.2.2.1 (hP.2.2.2.2.1 _ (gT_in (pick_of tb_KI0 _ hv) rfl)) hdc (K H locs ls hS hV hL (ok1 trivial hk))
theorem gi_ldc_w {l : Launch} {X : XT} {d : Nat} {md : MD} {pc len a b c' : Nat} {x0 : Int32} {lg : Int64} {ks : List (Int32 × Nat)} {L : List (Option AV)} {st : List AV} {M M' : Mem} {v : Option AV} {S' : St} {n : Nat} (hdc : decode md.2.2.1 pc = .ok (.ldc_w n, len)) (hx : okX md.1 md.2.2.2.1 md.2.2.2.2.2.1 pc (.ldc_w n) len a b c' x0 lg ks = true) (hs : exI md.2.2.2.2.1 (.ldc_w n) len a b c' x0 lg ks pc L st M = some (.inl S')) (hd : 1 ≤ d) (hG : Good l X d md S' v M') : Good l X d md (pc, L, st, M) v M' := by
  simp only [okX, Bool.and_eq_true, decide_eq_true_eq] at hx
  obtain ⟨rfl, hv⟩ := hx
  cases hs
  refine G_of rfl hG (fun p e R s m args below meth c Q H locs cells slots ls hP hS hV hL hk K => ?_)
  exact lv_ldcw hP.1 hP.2.1 hP.2.2.2.1 (hP.2.2.2.2.1 _ (gT_in (pick_of tb_KI0 _ hv) rfl)) hdc (K H locs ls hS hV hL (ok1 trivial hk))
theorem gi_ldc2_w {l : Launch} {X : XT} {d : Nat} {md : MD} {pc len a b c' : Nat} {x0 : Int32} {lg : Int64} {ks : List (Int32 × Nat)} {L : List (Option AV)} {st : List AV} {M M' : Mem} {v : Option AV} {S' : St} {n : Nat} (hdc : decode md.2.2.1 pc = .ok (.ldc2_w n, len)) (hx : okX md.1 md.2.2.2.1 md.2.2.2.2.2.1 pc (.ldc2_w n) len a b c' x0 lg ks = true) (hs : exI md.2.2.2.2.1 (.ldc2_w n) len a b c' x0 lg ks pc L st M = some (.inl S')) (hd : 1 ≤ d) (hG : Good l X d md S' v M') : Good l X d md (pc, L, st, M) v M' := by
  simp only [okX, Bool.and_eq_true, decide_eq_true_eq] at hx
  obtain ⟨rfl, hv⟩ := hx
  cases hs
  refine G_of rfl hG (fun p e R s m args below meth c Q H locs cells slots ls hP hS hV hL hk K => ?_)
  exact lv_ldc2 hP.1 hP.2.1 hP.2.2.2.1 (hP.2.2.2.2.1 _ (gT_in (pick_of tb_KL0 _ hv) rfl)) hdc (K H locs ls hS hV hL (ok1 trivial hk))
theorem gi_iload_n {l : Launch} {X : XT} {d : Nat} {md : MD} {pc len a b c' : Nat} {x0 : Int32} {lg : Int64} {ks : List (Int32 × Nat)} {L : List (Option AV)} {st : List AV} {M M' : Mem} {v : Option AV} {S' : St} {n : Fin 4} (hdc : decode md.2.2.1 pc = .ok (.iload_n n, len)) (hx : okX md.1 md.2.2.2.1 md.2.2.2.2.2.1 pc (.iload_n n) len a b c' x0 lg ks = true) (hs : exI md.2.2.2.2.1 (.iload_n n) len a b c' x0 lg ks pc L st M = some (.inl S')) (hd : 1 ≤ d) (hG : Good l X d md S' v M') : Good l X d md (pc, L, st, M) v M' := by
  simp only [okX, Bool.and_eq_true, decide_eq_true_eq] at hx
  obtain ⟨rfl, hka⟩ := hx
  simp only [exI, nx] at hs
  split at hs
  · rename_i z hz
    cases hs
    refine G_of rfl hG (fun p e R s m args below meth c Q H locs cells slots ls hP hS hV hL hk K => ?_)
    exact lv_iload_n hP.1 hP.2.1 hdc hka (hL.2.2 a _ hz).1 (K H locs ls hS hV hL (ok1 (hL.2.2 a _ hz).2 hk))
  · cases hs
theorem gi_aload_n {l : Launch} {X : XT} {d : Nat} {md : MD} {pc len a b c' : Nat} {x0 : Int32} {lg : Int64} {ks : List (Int32 × Nat)} {L : List (Option AV)} {st : List AV} {M M' : Mem} {v : Option AV} {S' : St} {n : Fin 4} (hdc : decode md.2.2.1 pc = .ok (.aload_n n, len)) (hx : okX md.1 md.2.2.2.1 md.2.2.2.2.2.1 pc (.aload_n n) len a b c' x0 lg ks = true) (hs : exI md.2.2.2.2.1 (.aload_n n) len a b c' x0 lg ks pc L st M = some (.inl S')) (hd : 1 ≤ d) (hG : Good l X d md S' v M') : Good l X d md (pc, L, st, M) v M' := by
  simp only [okX, Bool.and_eq_true, decide_eq_true_eq] at hx
  obtain ⟨rfl, hka⟩ := hx
  simp only [exI, nx] at hs
  split at hs
  · rename_i z hz
    cases hs
    refine G_of rfl hG (fun p e R s m args below meth c Q H locs cells slots ls hP hS hV hL hk K => ?_)
    exact lv_aload_n hP.1 hP.2.1 hdc hka (hL.2.2 a _ hz).1 (K H locs ls hS hV hL (ok1 (hL.2.2 a _ hz).2 hk))
  · cases hs
theorem gi_lload_n {l : Launch} {X : XT} {d : Nat} {md : MD} {pc len a b c' : Nat} {x0 : Int32} {lg : Int64} {ks : List (Int32 × Nat)} {L : List (Option AV)} {st : List AV} {M M' : Mem} {v : Option AV} {S' : St} {n : Fin 4} (hdc : decode md.2.2.1 pc = .ok (.lload_n n, len)) (hx : okX md.1 md.2.2.2.1 md.2.2.2.2.2.1 pc (.lload_n n) len a b c' x0 lg ks = true) (hs : exI md.2.2.2.2.1 (.lload_n n) len a b c' x0 lg ks pc L st M = some (.inl S')) (hd : 1 ≤ d) (hG : Good l X d md S' v M') : Good l X d md (pc, L, st, M) v M' := by
  simp only [okX, Bool.and_eq_true, decide_eq_true_eq] at hx
  obtain ⟨rfl, hka⟩ := hx
  simp only [exI, nx] at hs
  split at hs
  · rename_i z hz
    cases hs
    refine G_of rfl hG (fun p e R s m args below meth c Q H locs cells slots ls hP hS hV hL hk K => ?_)
    exact lv_lload_n hP.1 hP.2.1 hdc hka (hL.2.2 a _ hz).1 (K H locs ls hS hV hL (ok1 (hL.2.2 a _ hz).2 hk))
  · cases hs
theorem gi_iload {l : Launch} {X : XT} {d : Nat} {md : MD} {pc len a b c' : Nat} {x0 : Int32} {lg : Int64} {ks : List (Int32 × Nat)} {L : List (Option AV)} {st : List AV} {M M' : Mem} {v : Option AV} {S' : St} {n : Nat} (hdc : decode md.2.2.1 pc = .ok (.iload n, len)) (hx : okX md.1 md.2.2.2.1 md.2.2.2.2.2.1 pc (.iload n) len a b c' x0 lg ks = true) (hs : exI md.2.2.2.2.1 (.iload n) len a b c' x0 lg ks pc L st M = some (.inl S')) (hd : 1 ≤ d) (hG : Good l X d md S' v M') : Good l X d md (pc, L, st, M) v M' := by
  simp only [okX, Bool.and_eq_true, decide_eq_true_eq] at hx
  obtain ⟨rfl, rfl⟩ := hx
  simp only [exI, nx] at hs
  split at hs
  · rename_i z hz
    cases hs
    refine G_of rfl hG (fun p e R s m args below meth c Q H locs cells slots ls hP hS hV hL hk K => ?_)
    exact lv_iload hP.1 hP.2.1 hdc (hL.2.2 _ _ hz).1 (K H locs ls hS hV hL (ok1 (hL.2.2 _ _ hz).2 hk))
  · cases hs
theorem gi_istore_n {l : Launch} {X : XT} {d : Nat} {md : MD} {pc len a b c' : Nat} {x0 : Int32} {lg : Int64} {ks : List (Int32 × Nat)} {L : List (Option AV)} {st : List AV} {M M' : Mem} {v : Option AV} {S' : St} {n : Fin 4} (hdc : decode md.2.2.1 pc = .ok (.istore_n n, len)) (hx : okX md.1 md.2.2.2.1 md.2.2.2.2.2.1 pc (.istore_n n) len a b c' x0 lg ks = true) (hs : exI md.2.2.2.2.1 (.istore_n n) len a b c' x0 lg ks pc L st M = some (.inl S')) (hd : 1 ≤ d) (hG : Good l X d md S' v M') : Good l X d md (pc, L, st, M) v M' := by
  simp only [okX, Bool.and_eq_true, decide_eq_true_eq] at hx
  obtain ⟨⟨rfl, hka⟩, hlt⟩ := hx
  simp only [exI, nx] at hs
  split at hs
  · cases hs
    refine G_of rfl hG (fun p e R s m args below meth c Q H locs cells slots ls hP hS hV hL hk K => ?_)
    exact lv_istore_n (lv := prs X L) hP.1 hP.2.1 hdc hka hL.has hlt rfl (fun ls' h' => K H locs ls' hS hV (hL.store rfl (trivial) h') (okt hk))
  · cases hs
theorem gi_istore {l : Launch} {X : XT} {d : Nat} {md : MD} {pc len a b c' : Nat} {x0 : Int32} {lg : Int64} {ks : List (Int32 × Nat)} {L : List (Option AV)} {st : List AV} {M M' : Mem} {v : Option AV} {S' : St} {n : Nat} (hdc : decode md.2.2.1 pc = .ok (.istore n, len)) (hx : okX md.1 md.2.2.2.1 md.2.2.2.2.2.1 pc (.istore n) len a b c' x0 lg ks = true) (hs : exI md.2.2.2.2.1 (.istore n) len a b c' x0 lg ks pc L st M = some (.inl S')) (hd : 1 ≤ d) (hG : Good l X d md S' v M') : Good l X d md (pc, L, st, M) v M' := by
  simp only [okX, Bool.and_eq_true, decide_eq_true_eq] at hx
  obtain ⟨⟨rfl, hka⟩, hlt⟩ := hx
  subst hka
  simp only [exI, nx] at hs
  split at hs
  · cases hs
    refine G_of rfl hG (fun p e R s m args below meth c Q H locs cells slots ls hP hS hV hL hk K => ?_)
    exact lv_istore (lv := prs X L) hP.1 hP.2.1 hdc hL.has hlt rfl (fun ls' h' => K H locs ls' hS hV (hL.store rfl (trivial) h') (okt hk))
  · cases hs
theorem gi_astore_n {l : Launch} {X : XT} {d : Nat} {md : MD} {pc len a b c' : Nat} {x0 : Int32} {lg : Int64} {ks : List (Int32 × Nat)} {L : List (Option AV)} {st : List AV} {M M' : Mem} {v : Option AV} {S' : St} {n : Fin 4} (hdc : decode md.2.2.1 pc = .ok (.astore_n n, len)) (hx : okX md.1 md.2.2.2.1 md.2.2.2.2.2.1 pc (.astore_n n) len a b c' x0 lg ks = true) (hs : exI md.2.2.2.2.1 (.astore_n n) len a b c' x0 lg ks pc L st M = some (.inl S')) (hd : 1 ≤ d) (hG : Good l X d md S' v M') : Good l X d md (pc, L, st, M) v M' := by
  simp only [okX, Bool.and_eq_true, decide_eq_true_eq] at hx
  obtain ⟨⟨rfl, hka⟩, hlt⟩ := hx
  simp only [exI, nx] at hs
  split at hs
  · cases hs
    refine G_of rfl hG (fun p e R s m args below meth c Q H locs cells slots ls hP hS hV hL hk K => ?_)
    exact lv_astore_n (lv := prs X L) hP.1 hP.2.1 hdc hka hL.has hlt rfl (fun ls' h' => K H locs ls' hS hV (hL.store rfl (hk _ List.mem_cons_self) h') (okt hk))
  · cases hs
theorem gi_lstore_n {l : Launch} {X : XT} {d : Nat} {md : MD} {pc len a b c' : Nat} {x0 : Int32} {lg : Int64} {ks : List (Int32 × Nat)} {L : List (Option AV)} {st : List AV} {M M' : Mem} {v : Option AV} {S' : St} {n : Fin 4} (hdc : decode md.2.2.1 pc = .ok (.lstore_n n, len)) (hx : okX md.1 md.2.2.2.1 md.2.2.2.2.2.1 pc (.lstore_n n) len a b c' x0 lg ks = true) (hs : exI md.2.2.2.2.1 (.lstore_n n) len a b c' x0 lg ks pc L st M = some (.inl S')) (hd : 1 ≤ d) (hG : Good l X d md S' v M') : Good l X d md (pc, L, st, M) v M' := by
  simp only [okX, Bool.and_eq_true, decide_eq_true_eq] at hx
  obtain ⟨⟨rfl, hka⟩, hlt⟩ := hx
  simp only [exI, nx] at hs
  split at hs
  · cases hs
    refine G_of rfl hG (fun p e R s m args below meth c Q H locs cells slots ls hP hS hV hL hk K => ?_)
    exact lv_lstore_n (lv := prs X L) hP.1 hP.2.1 hdc hka hL.has hlt rfl (fun ls' h' => K H locs ls' hS hV (hL.storeL rfl (trivial) h') (okt hk))
  · cases hs
theorem gi_iinc {l : Launch} {X : XT} {d : Nat} {md : MD} {pc len a b c' : Nat} {x0 : Int32} {lg : Int64} {ks : List (Int32 × Nat)} {L : List (Option AV)} {st : List AV} {M M' : Mem} {v : Option AV} {S' : St} {n : Nat} {k : Int} (hdc : decode md.2.2.1 pc = .ok (.iinc n k, len)) (hx : okX md.1 md.2.2.2.1 md.2.2.2.2.2.1 pc (.iinc n k) len a b c' x0 lg ks = true) (hs : exI md.2.2.2.2.1 (.iinc n k) len a b c' x0 lg ks pc L st M = some (.inl S')) (hd : 1 ≤ d) (hG : Good l X d md S' v M') : Good l X d md (pc, L, st, M) v M' := by
  simp only [okX, Bool.and_eq_true, decide_eq_true_eq] at hx
  obtain ⟨⟨⟨rfl, rfl⟩, rfl⟩, hlt⟩ := hx
  simp only [exI, nx] at hs
  split at hs
  · rename_i z hz
    cases hs
    obtain ⟨j, hj⟩ := List.getElem?_of_mem (prs_mem (X := X) hz)
    refine G_of rfl hG (fun p e R s m args below meth c Q H locs cells slots ls hP hS hV hL hk K => ?_)
    exact lv_iinc (lv := prs X L) hP.1 hP.2.1 hdc hL.has hj rfl hlt rfl (fun ls' h' => K H locs ls' hS hV (hL.store rfl trivial h') hk)
  · cases hs
theorem gi_iadd {l : Launch} {X : XT} {d : Nat} {md : MD} {pc len a b c' : Nat} {x0 : Int32} {lg : Int64} {ks : List (Int32 × Nat)} {L : List (Option AV)} {st : List AV} {M M' : Mem} {v : Option AV} {S' : St}  (hdc : decode md.2.2.1 pc = .ok (.iadd, len)) (hx : okX md.1 md.2.2.2.1 md.2.2.2.2.2.1 pc (.iadd) len a b c' x0 lg ks = true) (hs : exI md.2.2.2.2.1 (.iadd) len a b c' x0 lg ks pc L st M = some (.inl S')) (hd : 1 ≤ d) (hG : Good l X d md S' v M') : Good l X d md (pc, L, st, M) v M' := by
  simp only [okX, Bool.and_eq_true, decide_eq_true_eq] at hx
  subst hx
  simp only [exI, bin, nx] at hs
  split at hs
  · cases hs
    refine G_of rfl hG (fun p e R s m args below meth c Q H locs cells slots ls hP hS hV hL hk K => ?_)
    exact lv_iadd hP.1 hP.2.1 hdc (K H locs ls hS hV hL (ok1 trivial (okt (okt hk))))
  · cases hs
theorem gi_isub {l : Launch} {X : XT} {d : Nat} {md : MD} {pc len a b c' : Nat} {x0 : Int32} {lg : Int64} {ks : List (Int32 × Nat)} {L : List (Option AV)} {st : List AV} {M M' : Mem} {v : Option AV} {S' : St}  (hdc : decode md.2.2.1 pc = .ok (.isub, len)) (hx : okX md.1 md.2.2.2.1 md.2.2.2.2.2.1 pc (.isub) len a b c' x0 lg ks = true) (hs : exI md.2.2.2.2.1 (.isub) len a b c' x0 lg ks pc L st M = some (.inl S')) (hd : 1 ≤ d) (hG : Good l X d md S' v M') : Good l X d md (pc, L, st, M) v M' := by
  simp only [okX, Bool.and_eq_true, decide_eq_true_eq] at hx
  subst hx
  simp only [exI, bin, nx] at hs
  split at hs
  · cases hs
    refine G_of rfl hG (fun p e R s m args below meth c Q H locs cells slots ls hP hS hV hL hk K => ?_)
    exact lv_isub hP.1 hP.2.1 hdc (K H locs ls hS hV hL (ok1 trivial (okt (okt hk))))
  · cases hs
theorem gi_imul {l : Launch} {X : XT} {d : Nat} {md : MD} {pc len a b c' : Nat} {x0 : Int32} {lg : Int64} {ks : List (Int32 × Nat)} {L : List (Option AV)} {st : List AV} {M M' : Mem} {v : Option AV} {S' : St}  (hdc : decode md.2.2.1 pc = .ok (.imul, len)) (hx : okX md.1 md.2.2.2.1 md.2.2.2.2.2.1 pc (.imul) len a b c' x0 lg ks = true) (hs : exI md.2.2.2.2.1 (.imul) len a b c' x0 lg ks pc L st M = some (.inl S')) (hd : 1 ≤ d) (hG : Good l X d md S' v M') : Good l X d md (pc, L, st, M) v M' := by
  simp only [okX, Bool.and_eq_true, decide_eq_true_eq] at hx
  subst hx
  simp only [exI, bin, nx] at hs
  split at hs
  · cases hs
    refine G_of rfl hG (fun p e R s m args below meth c Q H locs cells slots ls hP hS hV hL hk K => ?_)
    exact lv_imul hP.1 hP.2.1 hdc (K H locs ls hS hV hL (ok1 trivial (okt (okt hk))))
  · cases hs
theorem gi_iand {l : Launch} {X : XT} {d : Nat} {md : MD} {pc len a b c' : Nat} {x0 : Int32} {lg : Int64} {ks : List (Int32 × Nat)} {L : List (Option AV)} {st : List AV} {M M' : Mem} {v : Option AV} {S' : St}  (hdc : decode md.2.2.1 pc = .ok (.iand, len)) (hx : okX md.1 md.2.2.2.1 md.2.2.2.2.2.1 pc (.iand) len a b c' x0 lg ks = true) (hs : exI md.2.2.2.2.1 (.iand) len a b c' x0 lg ks pc L st M = some (.inl S')) (hd : 1 ≤ d) (hG : Good l X d md S' v M') : Good l X d md (pc, L, st, M) v M' := by
  simp only [okX, Bool.and_eq_true, decide_eq_true_eq] at hx
  subst hx
  simp only [exI, bin, nx] at hs
  split at hs
  · cases hs
    refine G_of rfl hG (fun p e R s m args below meth c Q H locs cells slots ls hP hS hV hL hk K => ?_)
    exact lv_iand hP.1 hP.2.1 hdc (K H locs ls hS hV hL (ok1 trivial (okt (okt hk))))
  · cases hs
theorem gi_ior {l : Launch} {X : XT} {d : Nat} {md : MD} {pc len a b c' : Nat} {x0 : Int32} {lg : Int64} {ks : List (Int32 × Nat)} {L : List (Option AV)} {st : List AV} {M M' : Mem} {v : Option AV} {S' : St}  (hdc : decode md.2.2.1 pc = .ok (.ior, len)) (hx : okX md.1 md.2.2.2.1 md.2.2.2.2.2.1 pc (.ior) len a b c' x0 lg ks = true) (hs : exI md.2.2.2.2.1 (.ior) len a b c' x0 lg ks pc L st M = some (.inl S')) (hd : 1 ≤ d) (hG : Good l X d md S' v M') : Good l X d md (pc, L, st, M) v M' := by
  simp only [okX, Bool.and_eq_true, decide_eq_true_eq] at hx
  subst hx
  simp only [exI, bin, nx] at hs
  split at hs
  · cases hs
    refine G_of rfl hG (fun p e R s m args below meth c Q H locs cells slots ls hP hS hV hL hk K => ?_)
    exact lv_ior hP.1 hP.2.1 hdc (K H locs ls hS hV hL (ok1 trivial (okt (okt hk))))
  · cases hs
theorem gi_ixor {l : Launch} {X : XT} {d : Nat} {md : MD} {pc len a b c' : Nat} {x0 : Int32} {lg : Int64} {ks : List (Int32 × Nat)} {L : List (Option AV)} {st : List AV} {M M' : Mem} {v : Option AV} {S' : St}  (hdc : decode md.2.2.1 pc = .ok (.ixor, len)) (hx : okX md.1 md.2.2.2.1 md.2.2.2.2.2.1 pc (.ixor) len a b c' x0 lg ks = true) (hs : exI md.2.2.2.2.1 (.ixor) len a b c' x0 lg ks pc L st M = some (.inl S')) (hd : 1 ≤ d) (hG : Good l X d md S' v M') : Good l X d md (pc, L, st, M) v M' := by
  simp only [okX, Bool.and_eq_true, decide_eq_true_eq] at hx
  subst hx
  simp only [exI, bin, nx] at hs
  split at hs
  · cases hs
    refine G_of rfl hG (fun p e R s m args below meth c Q H locs cells slots ls hP hS hV hL hk K => ?_)
    exact lv_ixor hP.1 hP.2.1 hdc (K H locs ls hS hV hL (ok1 trivial (okt (okt hk))))
  · cases hs
theorem gi_ishl {l : Launch} {X : XT} {d : Nat} {md : MD} {pc len a b c' : Nat} {x0 : Int32} {lg : Int64} {ks : List (Int32 × Nat)} {L : List (Option AV)} {st : List AV} {M M' : Mem} {v : Option AV} {S' : St}  (hdc : decode md.2.2.1 pc = .ok (.ishl, len)) (hx : okX md.1 md.2.2.2.1 md.2.2.2.2.2.1 pc (.ishl) len a b c' x0 lg ks = true) (hs : exI md.2.2.2.2.1 (.ishl) len a b c' x0 lg ks pc L st M = some (.inl S')) (hd : 1 ≤ d) (hG : Good l X d md S' v M') : Good l X d md (pc, L, st, M) v M' := by
  simp only [okX, Bool.and_eq_true, decide_eq_true_eq] at hx
  subst hx
  simp only [exI, bin, nx] at hs
  split at hs
  · cases hs
    refine G_of rfl hG (fun p e R s m args below meth c Q H locs cells slots ls hP hS hV hL hk K => ?_)
    exact lv_ishl hP.1 hP.2.1 hdc (K H locs ls hS hV hL (ok1 trivial (okt (okt hk))))
  · cases hs
theorem gi_ishr {l : Launch} {X : XT} {d : Nat} {md : MD} {pc len a b c' : Nat} {x0 : Int32} {lg : Int64} {ks : List (Int32 × Nat)} {L : List (Option AV)} {st : List AV} {M M' : Mem} {v : Option AV} {S' : St}  (hdc : decode md.2.2.1 pc = .ok (.ishr, len)) (hx : okX md.1 md.2.2.2.1 md.2.2.2.2.2.1 pc (.ishr) len a b c' x0 lg ks = true) (hs : exI md.2.2.2.2.1 (.ishr) len a b c' x0 lg ks pc L st M = some (.inl S')) (hd : 1 ≤ d) (hG : Good l X d md S' v M') : Good l X d md (pc, L, st, M) v M' := by
  simp only [okX, Bool.and_eq_true, decide_eq_true_eq] at hx
  subst hx
  simp only [exI, bin, nx] at hs
  split at hs
  · cases hs
    refine G_of rfl hG (fun p e R s m args below meth c Q H locs cells slots ls hP hS hV hL hk K => ?_)
    exact lv_ishr hP.1 hP.2.1 hdc (K H locs ls hS hV hL (ok1 trivial (okt (okt hk))))
  · cases hs
theorem gi_iushr {l : Launch} {X : XT} {d : Nat} {md : MD} {pc len a b c' : Nat} {x0 : Int32} {lg : Int64} {ks : List (Int32 × Nat)} {L : List (Option AV)} {st : List AV} {M M' : Mem} {v : Option AV} {S' : St}  (hdc : decode md.2.2.1 pc = .ok (.iushr, len)) (hx : okX md.1 md.2.2.2.1 md.2.2.2.2.2.1 pc (.iushr) len a b c' x0 lg ks = true) (hs : exI md.2.2.2.2.1 (.iushr) len a b c' x0 lg ks pc L st M = some (.inl S')) (hd : 1 ≤ d) (hG : Good l X d md S' v M') : Good l X d md (pc, L, st, M) v M' := by
  simp only [okX, Bool.and_eq_true, decide_eq_true_eq] at hx
  subst hx
  simp only [exI, bin, nx] at hs
  split at hs
  · cases hs
    refine G_of rfl hG (fun p e R s m args below meth c Q H locs cells slots ls hP hS hV hL hk K => ?_)
    exact lv_iushr hP.1 hP.2.1 hdc rfl (K H locs ls hS hV hL (ok1 trivial (okt (okt hk))))
  · cases hs
theorem gi_ladd {l : Launch} {X : XT} {d : Nat} {md : MD} {pc len a b c' : Nat} {x0 : Int32} {lg : Int64} {ks : List (Int32 × Nat)} {L : List (Option AV)} {st : List AV} {M M' : Mem} {v : Option AV} {S' : St}  (hdc : decode md.2.2.1 pc = .ok (.ladd, len)) (hx : okX md.1 md.2.2.2.1 md.2.2.2.2.2.1 pc (.ladd) len a b c' x0 lg ks = true) (hs : exI md.2.2.2.2.1 (.ladd) len a b c' x0 lg ks pc L st M = some (.inl S')) (hd : 1 ≤ d) (hG : Good l X d md S' v M') : Good l X d md (pc, L, st, M) v M' := by
  simp only [okX, Bool.and_eq_true, decide_eq_true_eq] at hx
  subst hx
  simp only [exI, binL, nx] at hs
  split at hs
  · cases hs
    refine G_of rfl hG (fun p e R s m args below meth c Q H locs cells slots ls hP hS hV hL hk K => ?_)
    exact lv_ladd hP.1 hP.2.1 hdc (K H locs ls hS hV hL (ok1 trivial (okt (okt hk))))
  · cases hs
theorem gi_lmul {l : Launch} {X : XT} {d : Nat} {md : MD} {pc len a b c' : Nat} {x0 : Int32} {lg : Int64} {ks : List (Int32 × Nat)} {L : List (Option AV)} {st : List AV} {M M' : Mem} {v : Option AV} {S' : St}  (hdc : decode md.2.2.1 pc = .ok (.lmul, len)) (hx : okX md.1 md.2.2.2.1 md.2.2.2.2.2.1 pc (.lmul) len a b c' x0 lg ks = true) (hs : exI md.2.2.2.2.1 (.lmul) len a b c' x0 lg ks pc L st M = some (.inl S')) (hd : 1 ≤ d) (hG : Good l X d md S' v M') : Good l X d md (pc, L, st, M) v M' := by
  simp only [okX, Bool.and_eq_true, decide_eq_true_eq] at hx
  subst hx
  simp only [exI, binL, nx] at hs
  split at hs
  · cases hs
    refine G_of rfl hG (fun p e R s m args below meth c Q H locs cells slots ls hP hS hV hL hk K => ?_)
    exact lv_lmul hP.1 hP.2.1 hdc (K H locs ls hS hV hL (ok1 trivial (okt (okt hk))))
  · cases hs
theorem gi_idiv {l : Launch} {X : XT} {d : Nat} {md : MD} {pc len a b c' : Nat} {x0 : Int32} {lg : Int64} {ks : List (Int32 × Nat)} {L : List (Option AV)} {st : List AV} {M M' : Mem} {v : Option AV} {S' : St}  (hdc : decode md.2.2.1 pc = .ok (.idiv, len)) (hx : okX md.1 md.2.2.2.1 md.2.2.2.2.2.1 pc (.idiv) len a b c' x0 lg ks = true) (hs : exI md.2.2.2.2.1 (.idiv) len a b c' x0 lg ks pc L st M = some (.inl S')) (hd : 1 ≤ d) (hG : Good l X d md S' v M') : Good l X d md (pc, L, st, M) v M' := by
  simp only [okX, Bool.and_eq_true, decide_eq_true_eq] at hx
  subst hx
  simp only [exI, nx] at hs
  split at hs
  · split at hs
    · cases hs
    · rename_i hz
      cases hs
      refine G_of rfl hG (fun p e R s m args below meth c Q H locs cells slots ls hP hS hV hL hk K => ?_)
      exact lv_idiv hP.1 hP.2.1 hdc hz (K H locs ls hS hV hL (ok1 trivial (okt (okt hk))))
  · cases hs
theorem gi_irem {l : Launch} {X : XT} {d : Nat} {md : MD} {pc len a b c' : Nat} {x0 : Int32} {lg : Int64} {ks : List (Int32 × Nat)} {L : List (Option AV)} {st : List AV} {M M' : Mem} {v : Option AV} {S' : St}  (hdc : decode md.2.2.1 pc = .ok (.irem, len)) (hx : okX md.1 md.2.2.2.1 md.2.2.2.2.2.1 pc (.irem) len a b c' x0 lg ks = true) (hs : exI md.2.2.2.2.1 (.irem) len a b c' x0 lg ks pc L st M = some (.inl S')) (hd : 1 ≤ d) (hG : Good l X d md S' v M') : Good l X d md (pc, L, st, M) v M' := by
  simp only [okX, Bool.and_eq_true, decide_eq_true_eq] at hx
  subst hx
  simp only [exI, nx] at hs
  split at hs
  · split at hs
    · cases hs
    · rename_i hz
      cases hs
      refine G_of rfl hG (fun p e R s m args below meth c Q H locs cells slots ls hP hS hV hL hk K => ?_)
      exact lv_irem hP.1 hP.2.1 hdc hz (K H locs ls hS hV hL (ok1 trivial (okt (okt hk))))
  · cases hs
theorem gi_ldiv {l : Launch} {X : XT} {d : Nat} {md : MD} {pc len a b c' : Nat} {x0 : Int32} {lg : Int64} {ks : List (Int32 × Nat)} {L : List (Option AV)} {st : List AV} {M M' : Mem} {v : Option AV} {S' : St}  (hdc : decode md.2.2.1 pc = .ok (.ldiv, len)) (hx : okX md.1 md.2.2.2.1 md.2.2.2.2.2.1 pc (.ldiv) len a b c' x0 lg ks = true) (hs : exI md.2.2.2.2.1 (.ldiv) len a b c' x0 lg ks pc L st M = some (.inl S')) (hd : 1 ≤ d) (hG : Good l X d md S' v M') : Good l X d md (pc, L, st, M) v M' := by
  simp only [okX, Bool.and_eq_true, decide_eq_true_eq] at hx
  subst hx
  simp only [exI, nx] at hs
  split at hs
  · split at hs
    · cases hs
    · rename_i hz
      cases hs
      refine G_of rfl hG (fun p e R s m args below meth c Q H locs cells slots ls hP hS hV hL hk K => ?_)
      exact lv_ldiv hP.1 hP.2.1 hdc hz (K H locs ls hS hV hL (ok1 trivial (okt (okt hk))))
  · cases hs
theorem gi_lrem {l : Launch} {X : XT} {d : Nat} {md : MD} {pc len a b c' : Nat} {x0 : Int32} {lg : Int64} {ks : List (Int32 × Nat)} {L : List (Option AV)} {st : List AV} {M M' : Mem} {v : Option AV} {S' : St}  (hdc : decode md.2.2.1 pc = .ok (.lrem, len)) (hx : okX md.1 md.2.2.2.1 md.2.2.2.2.2.1 pc (.lrem) len a b c' x0 lg ks = true) (hs : exI md.2.2.2.2.1 (.lrem) len a b c' x0 lg ks pc L st M = some (.inl S')) (hd : 1 ≤ d) (hG : Good l X d md S' v M') : Good l X d md (pc, L, st, M) v M' := by
  simp only [okX, Bool.and_eq_true, decide_eq_true_eq] at hx
  subst hx
  simp only [exI, nx] at hs
  split at hs
  · split at hs
    · cases hs
    · rename_i hz
      cases hs
      refine G_of rfl hG (fun p e R s m args below meth c Q H locs cells slots ls hP hS hV hL hk K => ?_)
      exact lv_lrem hP.1 hP.2.1 hdc hz (K H locs ls hS hV hL (ok1 trivial (okt (okt hk))))
  · cases hs
theorem gi_i2l {l : Launch} {X : XT} {d : Nat} {md : MD} {pc len a b c' : Nat} {x0 : Int32} {lg : Int64} {ks : List (Int32 × Nat)} {L : List (Option AV)} {st : List AV} {M M' : Mem} {v : Option AV} {S' : St}  (hdc : decode md.2.2.1 pc = .ok (.i2l, len)) (hx : okX md.1 md.2.2.2.1 md.2.2.2.2.2.1 pc (.i2l) len a b c' x0 lg ks = true) (hs : exI md.2.2.2.2.1 (.i2l) len a b c' x0 lg ks pc L st M = some (.inl S')) (hd : 1 ≤ d) (hG : Good l X d md S' v M') : Good l X d md (pc, L, st, M) v M' := by
  simp only [okX, Bool.and_eq_true, decide_eq_true_eq] at hx
  subst hx
  simp only [exI, nx] at hs
  split at hs
  · cases hs
    refine G_of rfl hG (fun p e R s m args below meth c Q H locs cells slots ls hP hS hV hL hk K => ?_)
    exact lv_i2l hP.1 hP.2.1 hdc rfl (K H locs ls hS hV hL (ok1 trivial (okt hk)))
  · cases hs
theorem gi_l2i {l : Launch} {X : XT} {d : Nat} {md : MD} {pc len a b c' : Nat} {x0 : Int32} {lg : Int64} {ks : List (Int32 × Nat)} {L : List (Option AV)} {st : List AV} {M M' : Mem} {v : Option AV} {S' : St}  (hdc : decode md.2.2.1 pc = .ok (.l2i, len)) (hx : okX md.1 md.2.2.2.1 md.2.2.2.2.2.1 pc (.l2i) len a b c' x0 lg ks = true) (hs : exI md.2.2.2.2.1 (.l2i) len a b c' x0 lg ks pc L st M = some (.inl S')) (hd : 1 ≤ d) (hG : Good l X d md S' v M') : Good l X d md (pc, L, st, M) v M' := by
  simp only [okX, Bool.and_eq_true, decide_eq_true_eq] at hx
  subst hx
  simp only [exI, nx] at hs
  split at hs
  · cases hs
    refine G_of rfl hG (fun p e R s m args below meth c Q H locs cells slots ls hP hS hV hL hk K => ?_)
    exact lv_l2i hP.1 hP.2.1 hdc rfl (K H locs ls hS hV hL (ok1 trivial (okt hk)))
  · cases hs
theorem gi_dup {l : Launch} {X : XT} {d : Nat} {md : MD} {pc len a b c' : Nat} {x0 : Int32} {lg : Int64} {ks : List (Int32 × Nat)} {L : List (Option AV)} {st : List AV} {M M' : Mem} {v : Option AV} {S' : St}  (hdc : decode md.2.2.1 pc = .ok (.dup, len)) (hx : okX md.1 md.2.2.2.1 md.2.2.2.2.2.1 pc (.dup) len a b c' x0 lg ks = true) (hs : exI md.2.2.2.2.1 (.dup) len a b c' x0 lg ks pc L st M = some (.inl S')) (hd : 1 ≤ d) (hG : Good l X d md S' v M') : Good l X d md (pc, L, st, M) v M' := by
  simp only [okX, Bool.and_eq_true, decide_eq_true_eq] at hx
  subst hx
  simp only [exI, nx] at hs
  split at hs
  · rename_i z r
    cases hz : isL z with
    | true => rw [hz] at hs; cases hs
    | false =>
      rw [hz] at hs
      cases hs
      refine G_of rfl hG (fun p e R s m args below meth c Q H locs cells slots ls hP hS hV hL hk K => ?_)
      exact lv_dup hP.1 hP.2.1 hdc (by rw [cat_tv, hz]; rfl) (K H locs ls hS hV hL (ok1 (hk _ List.mem_cons_self) hk))
  · cases hs
theorem gi_dup2 {l : Launch} {X : XT} {d : Nat} {md : MD} {pc len a b c' : Nat} {x0 : Int32} {lg : Int64} {ks : List (Int32 × Nat)} {L : List (Option AV)} {st : List AV} {M M' : Mem} {v : Option AV} {S' : St}  (hdc : decode md.2.2.1 pc = .ok (.dup2, len)) (hx : okX md.1 md.2.2.2.1 md.2.2.2.2.2.1 pc (.dup2) len a b c' x0 lg ks = true) (hs : exI md.2.2.2.2.1 (.dup2) len a b c' x0 lg ks pc L st M = some (.inl S')) (hd : 1 ≤ d) (hG : Good l X d md S' v M') : Good l X d md (pc, L, st, M) v M' := by
  simp only [okX, Bool.and_eq_true, decide_eq_true_eq] at hx
  subst hx
  simp only [exI, nx] at hs
  split at hs
  · rename_i z y r
    cases hz : isL z with
    | true => rw [hz] at hs; cases hs
    | false =>
      cases hy : isL y with
      | true => rw [hz, hy] at hs; cases hs
      | false =>
        rw [hz, hy] at hs
        cases hs
        refine G_of rfl hG (fun p e R s m args below meth c Q H locs cells slots ls hP hS hV hL hk K => ?_)
        exact lv_dup2_11 hP.1 hP.2.1 hdc (by rw [cat_tv, hz]; rfl) (by rw [cat_tv, hy]; rfl) (K H locs ls hS hV hL (ok1 (hk _ List.mem_cons_self) (ok1 (hk _ (List.mem_cons_of_mem _ List.mem_cons_self)) hk)))
  · cases hs
theorem gi_icmp_eq {l : Launch} {X : XT} {d : Nat} {md : MD} {pc len a b c' : Nat} {x0 : Int32} {lg : Int64} {ks : List (Int32 × Nat)} {L : List (Option AV)} {st : List AV} {M M' : Mem} {v : Option AV} {S' : St} {off : Int} (hdc : decode md.2.2.1 pc = .ok (.if_icmp .eq off, len)) (hx : okX md.1 md.2.2.2.1 md.2.2.2.2.2.1 pc (.if_icmp .eq off) len a b c' x0 lg ks = true) (hs : exI md.2.2.2.2.1 (.if_icmp .eq off) len a b c' x0 lg ks pc L st M = some (.inl S')) (hd : 1 ≤ d) (hG : Good l X d md S' v M') : Good l X d md (pc, L, st, M) v M' := by
  simp only [okX, Bool.and_eq_true, decide_eq_true_eq] at hx
  obtain ⟨rfl, ht⟩ := hx
  simp only [exI, cmpI, nx] at hs
  split at hs
  · rename_i y x r
    by_cases hc : x = y
    · rw [if_pos hc] at hs
      cases hs
      refine G_of rfl hG (fun p e R s m args below meth c Q H locs cells slots ls hP hS hV hL hk K => ?_)
      exact lv_icmp_eq hP.1 hP.2.1 hdc ht (fun _ => (K H locs ls hS hV hL (okt (okt hk)))) (fun q => absurd hc q)
    · rw [if_neg hc] at hs
      cases hs
      refine G_of rfl hG (fun p e R s m args below meth c Q H locs cells slots ls hP hS hV hL hk K => ?_)
      exact lv_icmp_eq hP.1 hP.2.1 hdc ht (fun q => absurd q hc) (fun _ => (K H locs ls hS hV hL (okt (okt hk))))
  · cases hs
theorem gi_icmp_ne {l : Launch} {X : XT} {d : Nat} {md : MD} {pc len a b c' : Nat} {x0 : Int32} {lg : Int64} {ks : List (Int32 × Nat)} {L : List (Option AV)} {st : List AV} {M M' : Mem} {v : Option AV} {S' : St} {off : Int} (hdc : decode md.2.2.1 pc = .ok (.if_icmp .ne off, len)) (hx : okX md.1 md.2.2.2.1 md.2.2.2.2.2.1 pc (.if_icmp .ne off) len a b c' x0 lg ks = true) (hs : exI md.2.2.2.2.1 (.if_icmp .ne off) len a b c' x0 lg ks pc L st M = some (.inl S')) (hd : 1 ≤ d) (hG : Good l X d md S' v M') : Good l X d md (pc, L, st, M) v M' := by
  simp only [okX, Bool.and_eq_true, decide_eq_true_eq] at hx
  obtain ⟨rfl, ht⟩ := hx
  simp only [exI, cmpI, nx] at hs
  split at hs
  · rename_i y x r
    by_cases hc : x = y
    · rw [if_pos hc] at hs
      cases hs
      refine G_of rfl hG (fun p e R s m args below meth c Q H locs cells slots ls hP hS hV hL hk K => ?_)
      exact lv_icmp_ne hP.1 hP.2.1 hdc ht (fun q => absurd hc q) (fun _ => (K H locs ls hS hV hL (okt (okt hk))))
    · rw [if_neg hc] at hs
      cases hs
      refine G_of rfl hG (fun p e R s m args below meth c Q H locs cells slots ls hP hS hV hL hk K => ?_)
      exact lv_icmp_ne hP.1 hP.2.1 hdc ht (fun _ => (K H locs ls hS hV hL (okt (okt hk)))) (fun q => absurd q hc)
  · cases hs
theorem gi_icmp_lt {l : Launch} {X : XT} {d : Nat} {md : MD} {pc len a b c' : Nat} {x0 : Int32} {lg : Int64} {ks : List (Int32 × Nat)} {L : List (Option AV)} {st : List AV} {M M' : Mem} {v : Option AV} {S' : St} {off : Int} (hdc : decode md.2.2.1 pc = .ok (.if_icmp .lt off, len)) (hx : okX md.1 md.2.2.2.1 md.2.2.2.2.2.1 pc (.if_icmp .lt off) len a b c' x0 lg ks = true) (hs : exI md.2.2.2.2.1 (.if_icmp .lt off) len a b c' x0 lg ks pc L st M = some (.inl S')) (hd : 1 ≤ d) (hG : Good l X d md S' v M') : Good l X d md (pc, L, st, M) v M' := by
  simp only [okX, Bool.and_eq_true, decide_eq_true_eq] at hx
  obtain ⟨rfl, ht⟩ := hx
  simp only [exI, cmpI, nx] at hs
  split at hs
  · rename_i y x r
    by_cases hc : x < y
    · rw [if_pos hc] at hs
      cases hs
      refine G_of rfl hG (fun p e R s m args below meth c Q H locs cells slots ls hP hS hV hL hk K => ?_)
      exact lv_icmp_lt hP.1 hP.2.1 hdc ht (fun _ => (K H locs ls hS hV hL (okt (okt hk)))) (fun q => absurd hc q)
    · rw [if_neg hc] at hs
      cases hs
      refine G_of rfl hG (fun p e R s m args below meth c Q H locs cells slots ls hP hS hV hL hk K => ?_)
      exact lv_icmp_lt hP.1 hP.2.1 hdc ht (fun q => absurd q hc) (fun _ => (K H locs ls hS hV hL (okt (okt hk))))
  · cases hs
theorem gi_icmp_ge {l : Launch} {X : XT} {d : Nat} {md : MD} {pc len a b c' : Nat} {x0 : Int32} {lg : Int64} {ks : List (Int32 × Nat)} {L : List (Option AV)} {st : List AV} {M M' : Mem} {v : Option AV} {S' : St} {off : Int} (hdc : decode md.2.2.1 pc = .ok (.if_icmp .ge off, len)) (hx : okX md.1 md.2.2.2.1 md.2.2.2.2.2.1 pc (.if_icmp .ge off) len a b c' x0 lg ks = true) (hs : exI md.2.2.2.2.1 (.if_icmp .ge off) len a b c' x0 lg ks pc L st M = some (.inl S')) (hd : 1 ≤ d) (hG : Good l X d md S' v M') : Good l X d md (pc, L, st, M) v M' := by
  simp only [okX, Bool.and_eq_true, decide_eq_true_eq] at hx
  obtain ⟨rfl, ht⟩ := hx
  simp only [exI, cmpI, nx] at hs
  split at hs
  · rename_i y x r
    by_cases hc : y ≤ x
    · rw [if_pos hc] at hs
      cases hs
      refine G_of rfl hG (fun p e R s m args below meth c Q H locs cells slots ls hP hS hV hL hk K => ?_)
      exact lv_icmp_ge hP.1 hP.2.1 hdc ht (fun _ => (K H locs ls hS hV hL (okt (okt hk)))) (fun q => absurd hc q)
    · rw [if_neg hc] at hs
      cases hs
      refine G_of rfl hG (fun p e R s m args below meth c Q H locs cells slots ls hP hS hV hL hk K => ?_)
      exact lv_icmp_ge hP.1 hP.2.1 hdc ht (fun q => absurd q hc) (fun _ => (K H locs ls hS hV hL (okt (okt hk))))
  · cases hs
theorem gi_icmp_gt {l : Launch} {X : XT} {d : Nat} {md : MD} {pc len a b c' : Nat} {x0 : Int32} {lg : Int64} {ks : List (Int32 × Nat)} {L : List (Option AV)} {st : List AV} {M M' : Mem} {v : Option AV} {S' : St} {off : Int} (hdc : decode md.2.2.1 pc = .ok (.if_icmp .gt off, len)) (hx : okX md.1 md.2.2.2.1 md.2.2.2.2.2.1 pc (.if_icmp .gt off) len a b c' x0 lg ks = true) (hs : exI md.2.2.2.2.1 (.if_icmp .gt off) len a b c' x0 lg ks pc L st M = some (.inl S')) (hd : 1 ≤ d) (hG : Good l X d md S' v M') : Good l X d md (pc, L, st, M) v M' := by
  simp only [okX, Bool.and_eq_true, decide_eq_true_eq] at hx
  obtain ⟨rfl, ht⟩ := hx
  simp only [exI, cmpI, nx] at hs
  split at hs
  · rename_i y x r
    by_cases hc : y < x
    · rw [if_pos hc] at hs
      cases hs
      refine G_of rfl hG (fun p e R s m args below meth c Q H locs cells slots ls hP hS hV hL hk K => ?_)
      exact lv_icmp_gt hP.1 hP.2.1 hdc ht (fun _ => (K H locs ls hS hV hL (okt (okt hk)))) (fun q => absurd hc q)
    · rw [if_neg hc] at hs
      cases hs
      refine G_of rfl hG (fun p e R s m args below meth c Q H locs cells slots ls hP hS hV hL hk K => ?_)
      exact lv_icmp_gt hP.1 hP.2.1 hdc ht (fun q => absurd q hc) (fun _ => (K H locs ls hS hV hL (okt (okt hk))))
  · cases hs
theorem gi_icmp_le {l : Launch} {X : XT} {d : Nat} {md : MD} {pc len a b c' : Nat} {x0 : Int32} {lg : Int64} {ks : List (Int32 × Nat)} {L : List (Option AV)} {st : List AV} {M M' : Mem} {v : Option AV} {S' : St} {off : Int} (hdc : decode md.2.2.1 pc = .ok (.if_icmp .le off, len)) (hx : okX md.1 md.2.2.2.1 md.2.2.2.2.2.1 pc (.if_icmp .le off) len a b c' x0 lg ks = true) (hs : exI md.2.2.2.2.1 (.if_icmp .le off) len a b c' x0 lg ks pc L st M = some (.inl S')) (hd : 1 ≤ d) (hG : Good l X d md S' v M') : Good l X d md (pc, L, st, M) v M' := by
  simp only [okX, Bool.and_eq_true, decide_eq_true_eq] at hx
  obtain ⟨rfl, ht⟩ := hx
  simp only [exI, cmpI, nx] at hs
  split at hs
  · rename_i y x r
    by_cases hc : x ≤ y
    · rw [if_pos hc] at hs
      cases hs
      refine G_of rfl hG (fun p e R s m args below meth c Q H locs cells slots ls hP hS hV hL hk K => ?_)
      exact lv_icmp_le hP.1 hP.2.1 hdc ht (fun _ => (K H locs ls hS hV hL (okt (okt hk)))) (fun q => absurd hc q)
    · rw [if_neg hc] at hs
      cases hs
      refine G_of rfl hG (fun p e R s m args below meth c Q H locs cells slots ls hP hS hV hL hk K => ?_)
      exact lv_icmp_le hP.1 hP.2.1 hdc ht (fun q => absurd q hc) (fun _ => (K H locs ls hS hV hL (okt (okt hk))))
  · cases hs
theorem gi_if_eq {l : Launch} {X : XT} {d : Nat} {md : MD} {pc len a b c' : Nat} {x0 : Int32} {lg : Int64} {ks : List (Int32 × Nat)} {L : List (Option AV)} {st : List AV} {M M' : Mem} {v : Option AV} {S' : St} {off : Int} (hdc : decode md.2.2.1 pc = .ok (.ifCond .eq off, len)) (hx : okX md.1 md.2.2.2.1 md.2.2.2.2.2.1 pc (.ifCond .eq off) len a b c' x0 lg ks = true) (hs : exI md.2.2.2.2.1 (.ifCond .eq off) len a b c' x0 lg ks pc L st M = some (.inl S')) (hd : 1 ≤ d) (hG : Good l X d md S' v M') : Good l X d md (pc, L, st, M) v M' := by
  simp only [okX, Bool.and_eq_true, decide_eq_true_eq] at hx
  obtain ⟨rfl, ht⟩ := hx
  simp only [exI, cmpI, nx] at hs
  split at hs
  · rename_i x r
    by_cases hc : x = 0
    · rw [if_pos hc] at hs
      cases hs
      refine G_of rfl hG (fun p e R s m args below meth c Q H locs cells slots ls hP hS hV hL hk K => ?_)
      exact lv_if_eq hP.1 hP.2.1 hdc ht (fun _ => (K H locs ls hS hV hL (okt hk))) (fun q => absurd hc q)
    · rw [if_neg hc] at hs
      cases hs
      refine G_of rfl hG (fun p e R s m args below meth c Q H locs cells slots ls hP hS hV hL hk K => ?_)
      exact lv_if_eq hP.1 hP.2.1 hdc ht (fun q => absurd q hc) (fun _ => (K H locs ls hS hV hL (okt hk)))
  · cases hs
theorem gi_if_ne {l : Launch} {X : XT} {d : Nat} {md : MD} {pc len a b c' : Nat} {x0 : Int32} {lg : Int64} {ks : List (Int32 × Nat)} {L : List (Option AV)} {st : List AV} {M M' : Mem} {v : Option AV} {S' : St} {off : Int} (hdc : decode md.2.2.1 pc = .ok (.ifCond .ne off, len)) (hx : okX md.1 md.2.2.2.1 md.2.2.2.2.2.1 pc (.ifCond .ne off) len a b c' x0 lg ks = true) (hs : exI md.2.2.2.2.1 (.ifCond .ne off) len a b c' x0 lg ks pc L st M = some (.inl S')) (hd : 1 ≤ d) (hG : Good l X d md S' v M') : Good l X d md (pc, L, st, M) v M' := by
  simp only [okX, Bool.and_eq_true, decide_eq_true_eq] at hx
  obtain ⟨rfl, ht⟩ := hx
  simp only [exI, cmpI, nx] at hs
  split at hs
  · rename_i x r
    by_cases hc : x = 0
    · rw [if_pos hc] at hs
      cases hs
      refine G_of rfl hG (fun p e R s m args below meth c Q H locs cells slots ls hP hS hV hL hk K => ?_)
      exact lv_if_ne hP.1 hP.2.1 hdc ht (fun q => absurd hc q) (fun _ => (K H locs ls hS hV hL (okt hk)))
    · rw [if_neg hc] at hs
      cases hs
      refine G_of rfl hG (fun p e R s m args below meth c Q H locs cells slots ls hP hS hV hL hk K => ?_)
      exact lv_if_ne hP.1 hP.2.1 hdc ht (fun _ => (K H locs ls hS hV hL (okt hk))) (fun q => absurd q hc)
  · cases hs
theorem gi_if_lt {l : Launch} {X : XT} {d : Nat} {md : MD} {pc len a b c' : Nat} {x0 : Int32} {lg : Int64} {ks : List (Int32 × Nat)} {L : List (Option AV)} {st : List AV} {M M' : Mem} {v : Option AV} {S' : St} {off : Int} (hdc : decode md.2.2.1 pc = .ok (.ifCond .lt off, len)) (hx : okX md.1 md.2.2.2.1 md.2.2.2.2.2.1 pc (.ifCond .lt off) len a b c' x0 lg ks = true) (hs : exI md.2.2.2.2.1 (.ifCond .lt off) len a b c' x0 lg ks pc L st M = some (.inl S')) (hd : 1 ≤ d) (hG : Good l X d md S' v M') : Good l X d md (pc, L, st, M) v M' := by
  simp only [okX, Bool.and_eq_true, decide_eq_true_eq] at hx
  obtain ⟨rfl, ht⟩ := hx
  simp only [exI, cmpI, nx] at hs
  split at hs
  · rename_i x r
    by_cases hc : x < 0
    · rw [if_pos hc] at hs
      cases hs
      refine G_of rfl hG (fun p e R s m args below meth c Q H locs cells slots ls hP hS hV hL hk K => ?_)
      exact lv_if_lt hP.1 hP.2.1 hdc ht (fun _ => (K H locs ls hS hV hL (okt hk))) (fun q => absurd hc q)
    · rw [if_neg hc] at hs
      cases hs
      refine G_of rfl hG (fun p e R s m args below meth c Q H locs cells slots ls hP hS hV hL hk K => ?_)
      exact lv_if_lt hP.1 hP.2.1 hdc ht (fun q => absurd q hc) (fun _ => (K H locs ls hS hV hL (okt hk)))
  · cases hs
theorem gi_if_ge {l : Launch} {X : XT} {d : Nat} {md : MD} {pc len a b c' : Nat} {x0 : Int32} {lg : Int64} {ks : List (Int32 × Nat)} {L : List (Option AV)} {st : List AV} {M M' : Mem} {v : Option AV} {S' : St} {off : Int} (hdc : decode md.2.2.1 pc = .ok (.ifCond .ge off, len)) (hx : okX md.1 md.2.2.2.1 md.2.2.2.2.2.1 pc (.ifCond .ge off) len a b c' x0 lg ks = true) (hs : exI md.2.2.2.2.1 (.ifCond .ge off) len a b c' x0 lg ks pc L st M = some (.inl S')) (hd : 1 ≤ d) (hG : Good l X d md S' v M') : Good l X d md (pc, L, st, M) v M' := by
  simp only [okX, Bool.and_eq_true, decide_eq_true_eq] at hx
  obtain ⟨rfl, ht⟩ := hx
  simp only [exI, cmpI, nx] at hs
  split at hs
  · rename_i x r
    by_cases hc : 0 ≤ x
    · rw [if_pos hc] at hs
      cases hs
      refine G_of rfl hG (fun p e R s m args below meth c Q H locs cells slots ls hP hS hV hL hk K => ?_)
      exact lv_if_ge hP.1 hP.2.1 hdc ht (fun _ => (K H locs ls hS hV hL (okt hk))) (fun q => absurd hc q)
    · rw [if_neg hc] at hs
      cases hs
      refine G_of rfl hG (fun p e R s m args below meth c Q H locs cells slots ls hP hS hV hL hk K => ?_)
      exact lv_if_ge hP.1 hP.2.1 hdc ht (fun q => absurd q hc) (fun _ => (K H locs ls hS hV hL (okt hk)))
  · cases hs
theorem gi_if_gt {l : Launch} {X : XT} {d : Nat} {md : MD} {pc len a b c' : Nat} {x0 : Int32} {lg : Int64} {ks : List (Int32 × Nat)} {L : List (Option AV)} {st : List AV} {M M' : Mem} {v : Option AV} {S' : St} {off : Int} (hdc : decode md.2.2.1 pc = .ok (.ifCond .gt off, len)) (hx : okX md.1 md.2.2.2.1 md.2.2.2.2.2.1 pc (.ifCond .gt off) len a b c' x0 lg ks = true) (hs : exI md.2.2.2.2.1 (.ifCond .gt off) len a b c' x0 lg ks pc L st M = some (.inl S')) (hd : 1 ≤ d) (hG : Good l X d md S' v M') : Good l X d md (pc, L, st, M) v M' := by
  simp only [okX, Bool.and_eq_true, decide_eq_true_eq] at hx
  obtain ⟨rfl, ht⟩ := hx
  simp only [exI, cmpI, nx] at hs
  split at hs
  · rename_i x r
    by_cases hc : 0 < x
    · rw [if_pos hc] at hs
      cases hs
      refine G_of rfl hG (fun p e R s m args below meth c Q H locs cells slots ls hP hS hV hL hk K => ?_)
      exact lv_if_gt hP.1 hP.2.1 hdc ht (fun _ => (K H locs ls hS hV hL (okt hk))) (fun q => absurd hc q)
    · rw [if_neg hc] at hs
      cases hs
      refine G_of rfl hG (fun p e R s m args below meth c Q H locs cells slots ls hP hS hV hL hk K => ?_)
      exact lv_if_gt hP.1 hP.2.1 hdc ht (fun q => absurd q hc) (fun _ => (K H locs ls hS hV hL (okt hk)))
  · cases hs
theorem gi_if_le {l : Launch} {X : XT} {d : Nat} {md : MD} {pc len a b c' : Nat} {x0 : Int32} {lg : Int64} {ks : List (Int32 × Nat)} {L : List (Option AV)} {st : List AV} {M M' : Mem} {v : Option AV} {S' : St} {off : Int} (hdc : decode md.2.2.1 pc = .ok (.ifCond .le off, len)) (hx : okX md.1 md.2.2.2.1 md.2.2.2.2.2.1 pc (.ifCond .le off) len a b c' x0 lg ks = true) (hs : exI md.2.2.2.2.1 (.ifCond .le off) len a b c' x0 lg ks pc L st M = some (.inl S')) (hd : 1 ≤ d) (hG : Good l X d md S' v M') : Good l X d md (pc, L, st, M) v M' := by
  simp only [okX, Bool.and_eq_true, decide_eq_true_eq] at hx
  obtain ⟨rfl, ht⟩ := hx
  simp only [exI, cmpI, nx] at hs
  split at hs
  · rename_i x r
    by_cases hc : x ≤ 0
    · rw [if_pos hc] at hs
      cases hs
      refine G_of rfl hG (fun p e R s m args below meth c Q H locs cells slots ls hP hS hV hL hk K => ?_)
      exact lv_if_le hP.1 hP.2.1 hdc ht (fun _ => (K H locs ls hS hV hL (okt hk))) (fun q => absurd hc q)
    · rw [if_neg hc] at hs
      cases hs
      refine G_of rfl hG (fun p e R s m args below meth c Q H locs cells slots ls hP hS hV hL hk K => ?_)
      exact lv_if_le hP.1 hP.2.1 hdc ht (fun q => absurd q hc) (fun _ => (K H locs ls hS hV hL (okt hk)))
  · cases hs
theorem gi_goto {l : Launch} {X : XT} {d : Nat} {md : MD} {pc len a b c' : Nat} {x0 : Int32} {lg : Int64} {ks : List (Int32 × Nat)} {L : List (Option AV)} {st : List AV} {M M' : Mem} {v : Option AV} {S' : St} {off : Int} (hdc : decode md.2.2.1 pc = .ok (.goto off, len)) (hx : okX md.1 md.2.2.2.1 md.2.2.2.2.2.1 pc (.goto off) len a b c' x0 lg ks = true) (hs : exI md.2.2.2.2.1 (.goto off) len a b c' x0 lg ks pc L st M = some (.inl S')) (hd : 1 ≤ d) (hG : Good l X d md S' v M') : Good l X d md (pc, L, st, M) v M' := by
  simp only [okX, Bool.and_eq_true, decide_eq_true_eq] at hx
  obtain ⟨rfl, ht⟩ := hx
  cases hs
  refine G_of rfl hG (fun p e R s m args below meth c Q H locs cells slots ls hP hS hV hL hk K => ?_)
  exact lv_goto hP.1 hP.2.1 hdc ht (K H locs ls hS hV hL hk)
theorem gi_lookupswitch {l : Launch} {X : XT} {d : Nat} {md : MD} {pc len a b c' : Nat} {x0 : Int32} {lg : Int64} {ks : List (Int32 × Nat)} {L : List (Option AV)} {st : List AV} {M M' : Mem} {v : Option AV} {S' : St} {df : Int} {ps : Array (Int × Int)} (hdc : decode md.2.2.1 pc = .ok (.lookupswitch df ps, len)) (hx : okX md.1 md.2.2.2.1 md.2.2.2.2.2.1 pc (.lookupswitch df ps) len a b c' x0 lg ks = true) (hs : exI md.2.2.2.2.1 (.lookupswitch df ps) len a b c' x0 lg ks pc L st M = some (.inl S')) (hd : 1 ≤ d) (hG : Good l X d md S' v M') : Good l X d md (pc, L, st, M) v M' := by
  simp only [okX, Bool.and_eq_true, decide_eq_true_eq] at hx
  obtain ⟨⟨hdf, hsort⟩, hls⟩ := hx
  simp only [exI, nx] at hs
  split at hs
  · cases hs
    refine G_of rfl hG (fun p e R s m args below meth c Q H locs cells slots ls hP hS hV hL hk K => ?_)
    exact lv_lookup hP.1 hP.2.1 hdc hsort rfl (ls_off hdf _ _ hls) (K H locs ls hS hV hL (okt hk))
  · cases hs
theorem gi_tableswitch {l : Launch} {X : XT} {d : Nat} {md : MD} {pc len a b c' : Nat} {x0 : Int32} {lg : Int64} {ks : List (Int32 × Nat)} {L : List (Option AV)} {st : List AV} {M M' : Mem} {v : Option AV} {S' : St} {df lo hi : Int} {offs : Array Int} (hdc : decode md.2.2.1 pc = .ok (.tableswitch df lo hi offs, len)) (hx : okX md.1 md.2.2.2.1 md.2.2.2.2.2.1 pc (.tableswitch df lo hi offs) len a b c' x0 lg ks = true) (hs : exI md.2.2.2.2.1 (.tableswitch df lo hi offs) len a b c' x0 lg ks pc L st M = some (.inl S')) (hd : 1 ≤ d) (hG : Good l X d md S' v M') : Good l X d md (pc, L, st, M) v M' := by
  simp only [okX, Bool.and_eq_true, decide_eq_true_eq] at hx
  obtain ⟨⟨⟨⟨hdf, hlo⟩, hhi⟩, hsm⟩, hts⟩ := hx
  subst hlo
  simp only [exI, nx] at hs
  split at hs
  · rename_i x r
    cases hs
    by_cases h1 : x.toInt < 0 ∨ hi < x.toInt
    · have e : swT x ks a = a := ts_out _ _ 0 hts (fun j _ hj e => by
        rw [e, nI_toInt (by omega)] at h1
        omega)
      rw [e] at hG
      refine G_of rfl hG (fun p e R s m args below meth c Q H locs cells slots ls hP hS hV hL hk K => ?_)
      exact lv_tableOut hP.1 hP.2.1 hdc h1 hdf (K H locs ls hS hV hL (okt hk))
    · obtain ⟨j, hj, ee⟩ : ∃ j : Nat, j < ks.length ∧ x = nI j := by
        obtain ⟨j, h2, h3⟩ := nI_of (x := x) (fun z => h1 (Or.inl (by simpa using Int32.lt_iff_toInt_lt.mp z)))
        refine ⟨j, ?_, h3⟩
        rw [h3, nI_toInt h2] at h1
        omega
      obtain ⟨o, f1, f2⟩ := ts_in (x := x) (a := a) _ _ 0 j hts (Nat.zero_le _) (by omega) (by omega) ee
      refine G_of rfl hG (fun p e R s m args below meth c Q H locs cells slots ls hP hS hV hL hk K => ?_)
      refine lv_tableIn hP.1 hP.2.1 hdc (fun z => h1 (Or.inl z)) (fun z => h1 (Or.inr z)) ?_ f2 (K H locs ls hS hV hL (okt hk))
      rw [← Array.getElem?_toList, ← f1]
      congr 1
      rw [ee, nI_toInt (by omega)]
      omega
  · cases hs
end
section
/-! instructions that read and write memory -/
def isRefTy : FieldType → Bool
  | .object _ => true
  | .array _ => true
  | _ => false
theorem ref_nar {ty : FieldType} (h : isRefTy ty = true) (q : Nat) : narrow ty (.ref q) = .ref q ∧ fits ty (.ref q) = true := by
  cases ty <;> first | exact ⟨rfl, rfl⟩ | cases h
theorem bool_nar {x : Int32} (h : x = 0 ∨ x = 1) : narrow .boolean (.int x) = .int x ∧ fits .boolean (.int x) = true := by
  rcases h with rfl | rfl
  · exact ⟨by decide, by decide⟩
  · exact ⟨by decide, by decide⟩
theorem int_nar (x : Int32) : narrow .int (.int x) = .int x ∧ fits .int (.int x) = true := ⟨rfl, rfl⟩
theorem fk_ty0 : ∀ c, c < 10 → ∀ k, k < 32 → k < nF c → fk c k = 0 → tyN c k = .int := by decide +kernel
theorem fk_ty1 : ∀ c, c < 10 → ∀ k, k < 32 → k < nF c → fk c k = 1 → tyN c k = .boolean := by decide +kernel
theorem fk_ty2 : ∀ c, c < 10 → ∀ k, k < 32 → k < nF c → 2 ≤ fk c k → isRefTy (tyN c k) = true := by decide +kernel
theorem nF_32 : ∀ c, c < 10 → nF c ≤ 32 := by decide +kernel
theorem tb_dec : ∀ c, c < 10 → ∀ k, k < nF c → (tN c k).1 = rN c := by
  intro c hc
  match c, hc with
  | 0, _ => exact fun k _ => by show (TX0 k).1 = RX0; unfold TX0; split <;> rfl
  | 1, _ => exact fun k _ => by show (TX1 k).1 = RX1; unfold TX1; split <;> rfl
  | 2, _ => exact fun k _ => by show (TX2 k).1 = RX2; unfold TX2; split <;> rfl
  | 3, _ => exact fun k _ => by show (TX3 k).1 = RX3; unfold TX3; split <;> rfl
  | 4, _ => exact fun k _ => by show (TX4 k).1 = RX4; unfold TX4; split <;> rfl
  | 5, _ => exact fun k _ => by show (TX5 k).1 = RX5; unfold TX5; split <;> rfl
  | 6, _ => exact fun k _ => by show (TX6 k).1 = RX6; unfold TX6; split <;> rfl
  | 7, _ => exact fun k _ => by show (TX7 k).1 = RX7; unfold TX7; split <;> rfl
  | 8, _ => exact fun k _ => by show (TX8 k).1 = RX8; unfold TX8; split <;> rfl
  | 9, _ => exact fun k _ => by show (TX9 k).1 = RX9; unfold TX9; split <;> rfl
  | n + 10, h => omega
theorem tb_FLk {q : Nat × Nat × Nat × Nat} (h : q ∈ FLt) : q.2.2.2 < nF q.2.2.1 ∧ q.2.2.1 < 10 := by
  have := List.all_eq_true.mp tb_FL1 q h
  simpa using this
theorem aR_eq {X : XT} {a : AA} (h : a.1 < 10) : aR X a = xB X + sq a := by
  unfold aR
  have : a.1.beq 13 = false := by
    cases hb : a.1.beq 13 with
    | true => have := Nat.eq_of_beq_eq_true hb; omega
    | false => rfl
  rw [this]; rfl
theorem okA_lt {n : Nat} {a : AA} (h : okA n a) (hc : a.1 ≠ 13) : a.1 < 10 ∧ sq a < n := by
  rcases h with e | e
  · rw [e] at hc; exact absurd rfl hc
  · exact e
theorem beq_eq {a b : Nat} (h : a.beq b = true) : a = b := Nat.eq_of_beq_eq_true h
theorem fv_at {X : XT} {M : Mem} {c i k : Nat} (hk : k < nF c) : ((List.range (nF c)).map (fv X M c i))[k]? = some (fv X M c i k) := by
  rw [List.getElem?_map, List.getElem?_range hk]; rfl
theorem fv_ex {X : XT} {M : Mem} {c i k : Nat} {x : AV} (hk : k < nF c) (ho : okF M c i 0) (h : exF M c i k = some x) : fv X M c i k = tv X x ∧ okV M.1 x := by
  unfold exF at h
  unfold fv
  split at h
  · rename_i e; rw [e]; cases h; exact ⟨rfl, trivial⟩
  · rename_i e; rw [e]; cases h; exact ⟨rfl, trivial⟩
  · rename_i z e
    rw [e]
    cases hf : M.2.1 c i k with
    | false => rw [hf] at h; cases h
    | true =>
      rw [hf] at h
      cases h
      have hb := ho.1 rfl k hk (by rw [e]; omega) hf
      refine ⟨?_, Or.inr hb⟩
      show Value.ref _ = Value.ref _
      rw [aR_eq hb.1]
theorem gi_getfield {l : Launch} {X : XT} {d : Nat} {md : MD} {pc len a b c' : Nat} {x0 : Int32} {lg : Int64} {ks : List (Int32 × Nat)} {L : List (Option AV)} {st : List AV} {M M' : Mem} {v : Option AV} {S' : St} {n : Nat} (hdc : decode md.2.2.1 pc = .ok (.getfield n, len)) (hx : okX md.1 md.2.2.2.1 md.2.2.2.2.2.1 pc (.getfield n) len a b c' x0 lg ks = true) (hs : exI md.2.2.2.2.1 (.getfield n) len a b c' x0 lg ks pc L st M = some (.inl S')) (hd : 1 ≤ d) (hG : Good l X d md S' v M') : Good l X d md (pc, L, st, M) v M' := by
  simp only [okX, Bool.and_eq_true, decide_eq_true_eq] at hx
  obtain ⟨rfl, hm⟩ := hx
  obtain ⟨hbn, ha10⟩ := tb_FLk hm
  have hbn : b < nF a := hbn
  have ha10 : a < 10 := ha10
  simp only [exI, nx] at hs
  split at hs
  · rename_i ci i r
    cases hb : ci.beq a with
    | false => rw [hb] at hs; cases hs
    | true =>
      rw [hb] at hs
      have e := beq_eq hb
      subst e
      cases hf : exF M ci i b with
      | none => rw [hf] at hs; cases hs
      | some x =>
        rw [hf] at hs
        cases hs
        refine G_of rfl hG (fun p e R s m args below meth c Q H locs cells slots ls hP hS hV hL hk K => ?_)
        have ho := okA_lt (hk _ List.mem_cons_self) (show ci ≠ 13 by omega)
        obtain ⟨e1, e2⟩ := fv_ex (X := X) hbn (hS.2.2.1 ci i 0 ho.2) hf
        show W p l e R s m args below meth c H locs cells slots Q (F0 m pc ls (.ref (aR X (ci, i, 0)) :: r.map (tv X)))
        rw [aR_eq ho.1]
        refine va_get (D := xD X) (ws := wld X M) (ref := rN ci) (C := rN ci) (T := tN ci) (N := nF ci) (ci := ci) hP.1 hP.2.1 hP.2.2.2.2.1 (tb_gin ha10) hP.2.2.2.1 hP.2.2.2.2.2.1 hS.2.1 (sq (ci, i, 0)) (wld_at ho.2 hS.1) (tb_cl ci ha10) b hbn (hP.2.2.2.2.1 _ (gT_in (pick_of tb_FL0 _ hm) rfl)) (fun x h => by rw [tb_dec ci ha10 b hbn] at h; exact h) (fv_at hbn) hdc ?_
        rw [e1]
        exact K H locs ls hS hV hL (ok1 e2 (okt hk))
  · cases hs
theorem put_gen {l : Launch} {X : XT} {d : Nat} {md : MD} {pc a b i n : Nat} {M M1 : Mem} {y : Value} {rest : List Value} {p : Program} {e : Env} {R : Room} {s : State} {m : MethodId} {args : Array Value} {below : List Frame} {meth : Method} {c : Code} {Q : State → Prop} {H : Heap} {locs : List Loc} {cells slots : Nat} {ls : Array Slot} (hP : PR X d md p R s m args meth c) (hS : Sim X M H) (hV : va_S (xA X) s.heap H locs) (ha10 : a < 10) (hbn : b < nF a) (ha : sq (a, i, 0) < M.1) (hm : (md.1, n, a, b) ∈ FLt) (hfin : (!(tN a b).2.2.2 || (md.2.2.2.2.2.1 && decide (md.1 = a))) = true) (hn : M1.1 = M.1) (hL : M1.2.2.1 = M.2.2.1)
    (hsm : ∀ c' i' o', (c', i', o') ≠ (a, i, 0) → smC M M1 c' i' o') (hok : okF M1 a i 0) (h1 : fv X M1 a i b = y) (h2 : ∀ k, k < nF a → k ≠ b → fv X M1 a i k = fv X M a i k) (hty : narrow (tyN a b) y = y ∧ fits (tyN a b) y = true) (hdc : decode md.2.2.1 pc = .ok (.putfield n, 3))
    (K : ∀ (H' : Heap) (locs' : List Loc), Sim X M1 H' → va_S (xA X) s.heap H' locs' → W p l e R s m args below meth c H' locs' cells slots Q (F0 m (pc + 3) ls rest)) : W p l e R s m args below meth c H locs cells slots Q (F0 m pc ls (y :: .ref (xB X + sq (a, i, 0)) :: rest)) := by
  have hset : ((List.range (nF a)).map (fv X M a i)).set b y = (List.range (nF a)).map (fv X M1 a i) := by
    apply List.ext_getElem?
    intro k
    by_cases hk : k < nF a
    · rw [fv_at hk]
      by_cases e : k = b
      · subst e
        rw [List.getElem?_set_self (by simpa using hk), h1]
      · rw [List.getElem?_set_ne (Ne.symm e), fv_at hk, h2 k hk e]
    · rw [List.getElem?_eq_none (by simpa using Nat.le_of_not_lt hk), List.getElem?_eq_none (by simpa using Nat.le_of_not_lt hk)]
  have hdone : ∀ (H1 : Heap), va_P (xD X) vwCl ((wld X M).set (sq (a, i, 0)) (xB X + sq (a, i, 0), .inr (a, ((List.range (nF a)).map (fv X M a i)).set b y))) H1 → Sim X M1 H1 := by
    intro H1 hp
    rw [hset] at hp
    exact sim_set hS hn hL ha (by omega) hsm hok hp
  have hl : b < ((List.range (nF a)).map (fv X M a i)).length := by simpa using hbn
  cases hf : (tN a b).2.2.2 with
  | false =>
    exact va_put (D := xD X) (ws := wld X M) (ref := rN a) (C := rN a) (T := tN a) (N := nF a) (ci := a) hP.1 hP.2.1 hP.2.2.2.2.1 (tb_gin ha10) (tyN a) (tb_ty a ha10) (tb_nm a ha10) hP.2.2.2.1 hP.2.2.2.2.2.1 hS.2.1 (wld_D X M) hV (sq (a, i, 0)) (wld_at ha hS.1) (tb_cl a ha10) b hbn (hP.2.2.2.2.1 _ (gT_in (pick_of tb_FL0 _ hm) rfl)) (fun x h => by rw [tb_dec a ha10 b hbn] at h; exact h) hf (tb_ty a ha10 b hbn) hty.1 hty.2 hl hdc (fun H1 locs1 p1 _ v1 => K H1 locs1 (hdone H1 p1) v1)
  | true =>
    rw [hf] at hfin
    simp only [Bool.not_true, Bool.false_or, Bool.and_eq_true, decide_eq_true_eq] at hfin
    exact va_putF (D := xD X) (ws := wld X M) (ref := rN a) (C := rN a) (T := tN a) (N := nF a) (ci := a) hP.1 hP.2.1 hP.2.2.2.2.1 (tb_gin ha10) (tyN a) (tb_ty a ha10) (tb_nm a ha10) hP.2.2.2.1 hP.2.2.2.2.2.1 hS.2.1 (wld_D X M) hV (sq (a, i, 0)) (wld_at ha hS.1) (tb_cl a ha10) b hbn (hP.2.2.2.2.1 _ (gT_in (pick_of tb_FL0 _ hm) rfl)) (fun x h => by rw [tb_dec a ha10 b hbn] at h; exact h) hf (hP.2.2.2.2.2.2.1 hfin.1) (by rw [tb_dec a ha10 b hbn, hfin.2]) (tb_ty a ha10 b hbn) hty.1 hty.2 hl hdc (fun H1 locs1 p1 _ v1 => K H1 locs1 (hdone H1 p1) v1)
theorem tg_u4 {w : Nat → Nat → Nat → Nat → Int32} {c i b : Nat} {x : Int32} (h : fk c b ≠ 5) (k : Nat) : tg (u4 w c i 0 b x) c i k = tg w c i k := by
  unfold tg
  split
  · rfl
  · rename_i e
    have : k ≠ b := fun z => h (by rw [← z]; exact e)
    simp [u4, this]
  · rfl
theorem u4_self (w : Nat → Nat → Nat → Nat → Int32) (c i o k : Nat) (x : Int32) : u4 w c i o k x c i o k = x := by simp [u4]
theorem u4_k {w : Nat → Nat → Nat → Nat → Int32} {c i o k k' : Nat} {x : Int32} (h : k' ≠ k) : u4 w c i o k x c i o k' = w c i o k' := by simp [u4, h]
theorem sm_u4 {n : Nat} {fl : Nat → Nat → Nat → Bool} {Lz : Nat} {w : Nat → Nat → Nat → Nat → Int32} {c i o k : Nat} {x : Int32} : ∀ c' i' o', (c', i', o') ≠ (c, i, o) → smC (n, fl, Lz, w) (n, fl, Lz, u4 w c i o k x) c' i' o' := fun _ _ _ h => ⟨fun j => u4_ne h j, fun _ _ _ => rfl, fun _ _ => rfl⟩
theorem gi_putfield {l : Launch} {X : XT} {d : Nat} {md : MD} {pc len a b c' : Nat} {x0 : Int32} {lg : Int64} {ks : List (Int32 × Nat)} {L : List (Option AV)} {st : List AV} {M M' : Mem} {v : Option AV} {S' : St} {n : Nat} (hdc : decode md.2.2.1 pc = .ok (.putfield n, len)) (hx : okX md.1 md.2.2.2.1 md.2.2.2.2.2.1 pc (.putfield n) len a b c' x0 lg ks = true) (hs : exI md.2.2.2.2.1 (.putfield n) len a b c' x0 lg ks pc L st M = some (.inl S')) (hd : 1 ≤ d) (hG : Good l X d md S' v M') : Good l X d md (pc, L, st, M) v M' := by
  simp only [okX, Bool.and_eq_true, decide_eq_true_eq] at hx
  obtain ⟨⟨rfl, hm⟩, hfin⟩ := hx
  obtain ⟨hbn, ha10⟩ := tb_FLk hm
  have hbn : b < nF a := hbn
  have ha10 : a < 10 := ha10
  have hb32 : b < 32 := Nat.lt_of_lt_of_le hbn (nF_32 a ha10)
  obtain ⟨mn, mf, ml, mw⟩ := M
  simp only [exI, nx] at hs
  split at hs
  · rename_i x ci i r
    cases hb : ci.beq a with
    | false => rw [hb] at hs; cases hs
    | true =>
      rw [hb] at hs
      have e := beq_eq hb
      subst e
      simp only [cond_true, exP, nx] at hs
      split at hs
      · rename_i h0
        split at hs
        · rename_i z
          cases hs
          refine G_of (M1 := (mn, mf, ml, u4 mw ci i 0 b z)) rfl hG (fun p e R s m args below meth c Q H locs cells slots ls hP hS hV hL hk K => ?_)
          have ho := okA_lt (hk _ (List.mem_cons_of_mem _ List.mem_cons_self)) (show ci ≠ 13 by omega)
          show W p l e R s m args below meth c H locs cells slots Q (F0 m pc ls (.int z :: .ref (aR X (ci, i, 0)) :: r.map (tv X)))
          rw [aR_eq ho.1]
          refine put_gen (M1 := (mn, mf, ml, u4 mw ci i 0 b z)) hP hS hV ha10 hbn ho.2 hm hfin rfl rfl sm_u4 ?_ ?_ ?_ ?_ hdc (fun H' locs' s1 v1 => K H' locs' ls s1 v1 hL (okt (okt hk)))
          · have hb := hS.2.2.1 ci i 0 ho.2
            refine ⟨fun _ k k1 k2 k3 => ?_, fun q => (by cases q)⟩
            show (tg (u4 mw ci i 0 b z) ci i k).1 < 10 ∧ _
            rw [show tg (mn, mf, ml, u4 mw ci i 0 b z).2.2.2 ci i k = tg mw ci i k from tg_u4 (by omega) k]
            exact hb.1 rfl k k1 k2 k3
          · show fv X (mn, mf, ml, u4 mw ci i 0 b z) ci i b = _
            unfold fv
            rw [h0]
            show Value.int (u4 mw ci i 0 b z ci i 0 b) = _
            rw [u4_self]
          · intro k _ hkb
            unfold fv
            show (match fk ci k with | 0 => Value.int (u4 mw ci i 0 b z ci i 0 k) | 1 => Value.int (u4 mw ci i 0 b z ci i 0 k) | _ + 2 => bif mf ci i k then .ref (xB X + sq (tg (u4 mw ci i 0 b z) ci i k)) else .null) = _
            rw [u4_k hkb, tg_u4 (by omega)]
            rfl
          · rw [fk_ty0 ci ha10 b hb32 hbn h0]; exact int_nar z
        · cases hs
      · rename_i h0
        split at hs
        · rename_i z
          split at hs
          · rename_i hz
            cases hs
            refine G_of (M1 := (mn, mf, ml, u4 mw ci i 0 b z)) rfl hG (fun p e R s m args below meth c Q H locs cells slots ls hP hS hV hL hk K => ?_)
            have ho := okA_lt (hk _ (List.mem_cons_of_mem _ List.mem_cons_self)) (show ci ≠ 13 by omega)
            show W p l e R s m args below meth c H locs cells slots Q (F0 m pc ls (.int z :: .ref (aR X (ci, i, 0)) :: r.map (tv X)))
            rw [aR_eq ho.1]
            refine put_gen (M1 := (mn, mf, ml, u4 mw ci i 0 b z)) hP hS hV ha10 hbn ho.2 hm hfin rfl rfl sm_u4 ?_ ?_ ?_ ?_ hdc (fun H' locs' s1 v1 => K H' locs' ls s1 v1 hL (okt (okt hk)))
            · have hb := hS.2.2.1 ci i 0 ho.2
              refine ⟨fun _ k k1 k2 k3 => ?_, fun q => (by cases q)⟩
              show (tg (u4 mw ci i 0 b z) ci i k).1 < 10 ∧ _
              rw [show tg (mn, mf, ml, u4 mw ci i 0 b z).2.2.2 ci i k = tg mw ci i k from tg_u4 (by omega) k]
              exact hb.1 rfl k k1 k2 k3
            · show fv X (mn, mf, ml, u4 mw ci i 0 b z) ci i b = _
              unfold fv
              rw [h0]
              show Value.int (u4 mw ci i 0 b z ci i 0 b) = _
              rw [u4_self]
            · intro k _ hkb
              unfold fv
              show (match fk ci k with | 0 => Value.int (u4 mw ci i 0 b z ci i 0 k) | 1 => Value.int (u4 mw ci i 0 b z ci i 0 k) | _ + 2 => bif mf ci i k then .ref (xB X + sq (tg (u4 mw ci i 0 b z) ci i k)) else .null) = _
              rw [u4_k hkb, tg_u4 (by omega)]
              rfl
            · rw [fk_ty1 ci ha10 b hb32 hbn h0]; exact bool_nar hz
          · cases hs
        · cases hs
      · rename_i h0
        split at hs
        · rename_i j
          split at hs
          · rename_i hz
            cases hs
            refine G_of (M1 := (mn, uf mf ci i b, ml, u4 mw ci i 0 b (Int32.ofNat j))) rfl hG (fun p e R s m args below meth c Q H locs cells slots ls hP hS hV hL hk K => ?_)
            have ho := okA_lt (hk _ (List.mem_cons_of_mem _ List.mem_cons_self)) (show ci ≠ 13 by omega)
            have hj := okA_lt (hk _ List.mem_cons_self) (show (4 : Nat) ≠ 13 by decide)
            have htg : tg (u4 mw ci i 0 b (Int32.ofNat j)) ci i b = (4, j, 0) := by
              unfold tg
              rw [h0]
              show ((4, (u4 mw ci i 0 b (Int32.ofNat j) ci i 0 b).toNatClampNeg, 0) : AA) = _
              rw [u4_self, show (Int32.ofNat j).toNatClampNeg = j from nI_clamp (by omega)]
            have htk : ∀ k, k ≠ b → tg (u4 mw ci i 0 b (Int32.ofNat j)) ci i k = tg mw ci i k := by
              intro k hkb
              unfold tg
              split
              · rfl
              · rw [u4_k hkb]
              · rfl
            show W p l e R s m args below meth c H locs cells slots Q (F0 m pc ls (.ref (aR X (4, j, 0)) :: .ref (aR X (ci, i, 0)) :: r.map (tv X)))
            rw [aR_eq ho.1, aR_eq hj.1]
            refine put_gen (M1 := (mn, uf mf ci i b, ml, u4 mw ci i 0 b (Int32.ofNat j))) hP hS hV ha10 hbn ho.2 hm hfin rfl rfl ?_ ?_ ?_ ?_ ?_ hdc (fun H' locs' s1 v1 => K H' locs' ls s1 v1 hL (okt (okt hk)))
            · intro c1 i1 o1 hne
              refine ⟨fun k => u4_ne hne k, fun e k k1 => ?_, fun e k => ?_⟩
              · subst e
                exact uf_eq (fun q => hne (by rw [q.1, q.2.1]))
              · exact uf_eq (fun q => by omega)
            · have hb := hS.2.2.1 ci i 0 ho.2
              refine ⟨fun _ k k1 k2 k3 => ?_, fun q => (by cases q)⟩
              by_cases e : k = b
              · subst e
                show (tg (u4 mw ci i 0 k (Int32.ofNat j)) ci i k).1 < 10 ∧ _
                rw [show tg (mn, uf mf ci i k, ml, u4 mw ci i 0 k (Int32.ofNat j)).2.2.2 ci i k = (4, j, 0) from htg]
                exact hj
              · rw [show tg (mn, uf mf ci i b, ml, u4 mw ci i 0 b (Int32.ofNat j)).2.2.2 ci i k = tg mw ci i k from htk k e]
                exact hb.1 rfl k k1 k2 (by rw [← k3]; exact (uf_eq (fun q => e q.2.2)).symm)
            · show fv X (mn, uf mf ci i b, ml, u4 mw ci i 0 b (Int32.ofNat j)) ci i b = _
              unfold fv
              rw [h0]
              show (bif uf mf ci i b ci i b then Value.ref (xB X + sq (tg (u4 mw ci i 0 b (Int32.ofNat j)) ci i b)) else .null) = _
              rw [uf_self, htg]; rfl
            · intro k _ hkb
              unfold fv
              show (match fk ci k with | 0 => Value.int (u4 mw ci i 0 b (Int32.ofNat j) ci i 0 k) | 1 => Value.int (u4 mw ci i 0 b (Int32.ofNat j) ci i 0 k) | _ + 2 => bif uf mf ci i b ci i k then .ref (xB X + sq (tg (u4 mw ci i 0 b (Int32.ofNat j)) ci i k)) else .null) = _
              rw [u4_k hkb, htk k hkb, uf_eq (fun q => hkb q.2.2)]
              rfl
            · exact ref_nar (fk_ty2 ci ha10 b hb32 hbn (by omega)) _
          · cases hs
        · cases hs
      · rename_i h0 h1 h5
        split at hs
        · rename_i a1
          split at hs
          · rename_i hz
            cases hs
            have h2 : 2 ≤ fk ci b := by
              rcases Nat.lt_or_ge (fk ci b) 2 with q | q
              · rcases (by omega : fk ci b = 0 ∨ fk ci b = 1) with z | z
                · exact absurd z h0
                · exact absurd z h1
              · exact q
            refine G_of (M1 := (mn, uf mf ci i b, ml, mw)) rfl hG (fun p e R s m args below meth c Q H locs cells slots ls hP hS hV hL hk K => ?_)
            have ho := okA_lt (hk _ (List.mem_cons_of_mem _ List.mem_cons_self)) (show ci ≠ 13 by omega)
            have h13 : a1.1 ≠ 13 := by
              rw [hz]
              show (tg mw ci i b).1 ≠ 13
              unfold tg
              split
              · unfold og
                cases hq : ci.beq 2 with
                | true => exact (by decide : (6 : Nat) ≠ 13)
                | false => exact (by decide : ∀ k, k < 32 → (ogT.getD k (99, 0, 0)).1 ≠ 13) b hb32
              · exact (by decide : (4 : Nat) ≠ 13)
              · show ci ≠ 13
                omega
            have hj := okA_lt (hk _ List.mem_cons_self) h13
            show W p l e R s m args below meth c H locs cells slots Q (F0 m pc ls (.ref (aR X a1) :: .ref (aR X (ci, i, 0)) :: r.map (tv X)))
            rw [aR_eq ho.1, aR_eq hj.1]
            refine put_gen (M1 := (mn, uf mf ci i b, ml, mw)) hP hS hV ha10 hbn ho.2 hm hfin rfl rfl ?_ ?_ ?_ ?_ ?_ hdc (fun H' locs' s1 v1 => K H' locs' ls s1 v1 hL (okt (okt hk)))
            · intro c1 i1 o1 hne
              refine ⟨fun k => rfl, fun e k k1 => ?_, fun e k => ?_⟩
              · subst e
                exact uf_eq (fun q => hne (by rw [q.1, q.2.1]))
              · exact uf_eq (fun q => by omega)
            · have hb := hS.2.2.1 ci i 0 ho.2
              refine ⟨fun _ k k1 k2 k3 => ?_, fun q => (by cases q)⟩
              by_cases e : k = b
              · subst e
                show (tg mw ci i k).1 < 10 ∧ sq (tg mw ci i k) < mn
                rw [← show a1 = tg mw ci i k from hz]
                exact hj
              · exact hb.1 rfl k k1 k2 (by rw [← k3]; exact (uf_eq (fun q => e q.2.2)).symm)
            · show fv X (mn, uf mf ci i b, ml, mw) ci i b = _
              obtain ⟨z, hz2⟩ : ∃ z, fk ci b = z + 2 := ⟨fk ci b - 2, by omega⟩
              unfold fv
              rw [hz2]
              show (bif uf mf ci i b ci i b then Value.ref (xB X + sq (tg mw ci i b)) else .null) = _
              rw [uf_self, ← show a1 = tg mw ci i b from hz]; rfl
            · intro k _ hkb
              unfold fv
              show (match fk ci k with | 0 => Value.int (mw ci i 0 k) | 1 => Value.int (mw ci i 0 k) | _ + 2 => bif uf mf ci i b ci i k then .ref (xB X + sq (tg mw ci i k)) else .null) = _
              rw [uf_eq (fun q => hkb q.2.2)]
              rfl
            · exact ref_nar (fk_ty2 ci ha10 b hb32 hbn h2) _
          · cases hs
        · cases hs
  · cases hs
end
section
/-! arrays -/
theorem ce_ia {X : XT} {M : Mem} {c i o : Nat} (h : isIA c (o + 1) = true) : ce X M (c, i, o + 1) = .inl (xI X, al c (o + 1), .inl (fun j => M.2.2.2 c i (o + 1) j)) := by
  have h2 : fk c o = 2 := beq_eq h
  unfold ce
  show (bif (fk c o).beq 3 then _ else _) = _
  rw [h2]; rfl
theorem ce_ra {X : XT} {M : Mem} {c i o : Nat} (h : isRA c (o + 1) = true) : ce X M (c, i, o + 1) = .inl (cR X c, al c (o + 1), .inr (.inr (.inr (.inr (fun j => bif M.2.1 c i (1000 + j) then some (xB X + sq (et c j)) else none))))) := by
  have h2 : fk c o = 3 := beq_eq h
  unfold ce
  show (bif (fk c o).beq 3 then _ else _) = _
  rw [h2]; rfl
theorem isIA_lt {c o : Nat} (h : isIA c (o + 1) = true) : c < 10 := fk_lt (k := o) (by rw [show fk c o = 2 from beq_eq h]; decide)
theorem isRA_lt {c o : Nat} (h : isRA c (o + 1) = true) : c < 10 := fk_lt (k := o) (by rw [show fk c o = 3 from beq_eq h]; decide)
theorem isIA_not {c o : Nat} (h : isIA c (o + 1) = true) : isRA c (o + 1) = false := by
  show (fk c o).beq 3 = false
  rw [show fk c o = 2 from beq_eq h]; rfl
theorem fits_int (x : Int32) : fits .int (.int x) = true := rfl
/-- two arrays that agree up to their length are one cell -/
theorem va_P_arr {X : XT} {ws : va_W} {H : Heap} {q A N : Nat} {f g : Nat → Int32} {E : va_E} (hE : E = .inl (xI X, N, .inl g)) (h : ∀ j, j < N → g j = f j) (hp : va_P (xD X) vwCl (ws.set q (A, .inl (xI X, N, .inl f))) H) : va_P (xD X) vwCl (ws.set q (A, E)) H := by
  subst hE
  intro k z hk
  by_cases e : k = q
  · subst e
    by_cases hl : k < ws.length
    · rw [List.getElem?_set_self hl] at hk
      cases hk
      have h1 := hp k (A, .inl (xI X, N, .inl f)) (List.getElem?_set_self hl)
      show H[A]? = some (vp_cell (xI X) (N, .inl g))
      have h1 : H[A]? = some (vp_cell (xI X) (N, .inl f)) := h1
      rw [h1, vp_cell_i, vp_cell_i]
      congr 1
      show arrV _ _ _ = arrV _ _ _
      unfold arrV
      congr 1
      apply Array.ext
      · simp
      · intro j h1 h2
        simp only [Array.getElem_ofFn]
        rw [h j (by simpa using h2)]
    · rw [List.getElem?_eq_none (by rw [List.length_set]; omega)] at hk; cases hk
  · rw [List.getElem?_set_ne (Ne.symm e)] at hk
    exact hp k z (by rw [List.getElem?_set_ne (Ne.symm e)]; exact hk)
theorem gi_iaload {l : Launch} {X : XT} {d : Nat} {md : MD} {pc len a b c' : Nat} {x0 : Int32} {lg : Int64} {ks : List (Int32 × Nat)} {L : List (Option AV)} {st : List AV} {M M' : Mem} {v : Option AV} {S' : St}  (hdc : decode md.2.2.1 pc = .ok (.iaload, len)) (hx : okX md.1 md.2.2.2.1 md.2.2.2.2.2.1 pc (.iaload) len a b c' x0 lg ks = true) (hs : exI md.2.2.2.2.1 (.iaload) len a b c' x0 lg ks pc L st M = some (.inl S')) (hd : 1 ≤ d) (hG : Good l X d md S' v M') : Good l X d md (pc, L, st, M) v M' := by
  simp only [okX, decide_eq_true_eq] at hx
  subst hx
  simp only [exI, nx] at hs
  split at hs
  · rename_i j ci i o r
    cases hb : isIA ci o with
    | false => rw [hb] at hs; cases hs
    | true =>
      rw [hb] at hs
      simp only [cond_true] at hs
      split at hs
      · cases hs
      · rename_i hin
        cases hs
        refine G_of rfl hG (fun p e R s m args below meth c Q H locs cells slots ls hP hS hV hL hk K => ?_)
        cases o with
        | zero =>
          have e13 : ci = 13 := beq_eq hb
          subst e13
          have ha : okA M.1 (13, i, 0) := hk _ (List.mem_cons_of_mem _ List.mem_cons_self)
          have hi : i = 0 := by
            rcases ha with q | q
            · cases q; rfl
            · exact absurd q.1 (show ¬ (13 : Nat) < 10 by decide)
          subst hi
          obtain ⟨hX, hbl, hbA⟩ := hP.2.2.2.2.2.2.2.2.2.1
          show W p l e R s m args below meth c H locs cells slots Q (F0 m pc ls (.int j :: .ref (xb X) :: r.map (tv X)))
          refine va_sld hP.1 hP.2.1 hX hbl (A := xA X) (Nat.not_le.mpr hbA) hV (i := j) (by
            show ¬ (j < 0 ∨ xL X ≤ j.toNatClampNeg)
            rw [← hS.2.2.2.2.1]; exact hin) hdc ?_
          have e := hS.2.2.2.2.2 j.toNatClampNeg
          rw [← e]
          exact K H locs ls hS hV hL (ok1 trivial (okt (okt hk)))
        | succ o =>
          have hc := isIA_lt hb
          have ho := okA_lt (hk _ (List.mem_cons_of_mem _ List.mem_cons_self)) (show ci ≠ 13 by omega)
          show W p l e R s m args below meth c H locs cells slots Q (F0 m pc ls (.int j :: .ref (aR X (ci, i, o + 1)) :: r.map (tv X)))
          rw [aR_eq ho.1]
          have hb13 : ci.beq 13 = false := by
            cases hq : ci.beq 13 with
            | true => have := beq_eq hq; omega
            | false => rfl
          exact va_iald (D := xD X) (ws := wld X M) hP.1 hP.2.1 hP.2.2.2.2.2.1 hS.2.1 (sq (ci, i, o + 1)) 0 (by rw [wld_at ho.2 hS.1, ce_ia hb]) rfl (i := j) (by
            show ¬ (j < 0 ∨ al ci (o + 1) ≤ j.toNatClampNeg)
            unfold aLen at hin
            rw [hb13] at hin; exact hin) hdc (K H locs ls hS hV hL (ok1 trivial (okt (okt hk))))
  · cases hs
theorem gi_iastore {l : Launch} {X : XT} {d : Nat} {md : MD} {pc len a b c' : Nat} {x0 : Int32} {lg : Int64} {ks : List (Int32 × Nat)} {L : List (Option AV)} {st : List AV} {M M' : Mem} {v : Option AV} {S' : St}  (hdc : decode md.2.2.1 pc = .ok (.iastore, len)) (hx : okX md.1 md.2.2.2.1 md.2.2.2.2.2.1 pc (.iastore) len a b c' x0 lg ks = true) (hs : exI md.2.2.2.2.1 (.iastore) len a b c' x0 lg ks pc L st M = some (.inl S')) (hd : 1 ≤ d) (hG : Good l X d md S' v M') : Good l X d md (pc, L, st, M) v M' := by
  simp only [okX, decide_eq_true_eq] at hx
  subst hx
  obtain ⟨mn, mf, ml, mw⟩ := M
  simp only [exI, nx] at hs
  split at hs
  · rename_i x j ci i o r
    cases hb : isIA ci (o + 1) with
    | false => rw [hb] at hs; cases hs
    | true =>
      rw [hb] at hs
      simp only [cond_true] at hs
      split at hs
      · cases hs
      · rename_i hin
        cases hs
        refine G_of (M1 := (mn, mf, ml, u4 mw ci i (o + 1) j.toNatClampNeg x)) rfl hG (fun p e R s m args below meth c Q H locs cells slots ls hP hS hV hL hk K => ?_)
        have hc := isIA_lt hb
        have ho := okA_lt (hk _ (List.mem_cons_of_mem _ (List.mem_cons_of_mem _ List.mem_cons_self))) (show ci ≠ 13 by omega)
        show W p l e R s m args below meth c H locs cells slots Q (F0 m pc ls (.int x :: .int j :: .ref (aR X (ci, i, o + 1)) :: r.map (tv X)))
        rw [aR_eq ho.1]
        refine va_iast (D := xD X) (ws := wld X (mn, mf, ml, mw)) hP.1 hP.2.1 hP.2.2.2.2.2.1 hS.2.1 (wld_D X _) hV (sq (ci, i, o + 1)) 0 (by rw [wld_at ho.2 hS.1, ce_ia hb]) rfl (i := j) hin hdc (fun H1 locs1 p1 _ v1 => ?_)
        refine K H1 locs1 ls (sim_set (M' := (mn, mf, ml, u4 mw ci i (o + 1) j.toNatClampNeg x)) hS rfl rfl ho.2 (by omega) sm_u4 ?_ ?_) v1 hL (okt (okt (okt hk)))
        · exact ⟨fun q => by omega, fun q => by rw [isIA_not hb] at q; cases q⟩
        · rw [ce_ia hb]
          have : upd (fun j => mw ci i (o + 1) j) j.toNatClampNeg x = (fun k => u4 mw ci i (o + 1) j.toNatClampNeg x ci i (o + 1) k) := by
            funext k
            by_cases hq : k = j.toNatClampNeg
            · subst hq; simp [upd, u4]
            · simp [upd, u4, hq]
          rw [← this]
          exact p1
  · cases hs
theorem tys_at {X : XT} {c o : Nat} (h : isRA c (o + 1) = true) : ∃ (t : Nat) (C : String), (xT X)[t]? = some (cR X c, FieldType.object C) ∧ (c = 3 → C = RX6) ∧ (c = 8 → C = RX2) := by
  rcases fk3 (show fk c o = 3 from beq_eq h) with ⟨rfl, rfl⟩ | ⟨rfl, rfl⟩
  · exact ⟨1, RX6, rfl, fun _ => rfl, fun q => by omega⟩
  · exact ⟨2, RX2, rfl, fun q => by omega, fun _ => rfl⟩
theorem gi_aaload {l : Launch} {X : XT} {d : Nat} {md : MD} {pc len a b c' : Nat} {x0 : Int32} {lg : Int64} {ks : List (Int32 × Nat)} {L : List (Option AV)} {st : List AV} {M M' : Mem} {v : Option AV} {S' : St}  (hdc : decode md.2.2.1 pc = .ok (.aaload, len)) (hx : okX md.1 md.2.2.2.1 md.2.2.2.2.2.1 pc (.aaload) len a b c' x0 lg ks = true) (hs : exI md.2.2.2.2.1 (.aaload) len a b c' x0 lg ks pc L st M = some (.inl S')) (hd : 1 ≤ d) (hG : Good l X d md S' v M') : Good l X d md (pc, L, st, M) v M' := by
  simp only [okX, decide_eq_true_eq] at hx
  subst hx
  simp only [exI, nx] at hs
  split at hs
  · rename_i j ci i o r
    cases hb : isRA ci (o + 1) with
    | false => rw [hb] at hs; cases hs
    | true =>
      rw [hb] at hs
      simp only [cond_true] at hs
      split at hs
      · cases hs
      · rename_i hin
        cases hf : M.2.1 ci i (1000 + j.toNatClampNeg) with
        | false => rw [hf] at hs; cases hs
        | true =>
          rw [hf] at hs
          cases hs
          refine G_of rfl hG (fun p e R s m args below meth c Q H locs cells slots ls hP hS hV hL hk K => ?_)
          have hc := isRA_lt hb
          have ho := okA_lt (hk _ (List.mem_cons_of_mem _ List.mem_cons_self)) (show ci ≠ 13 by omega)
          obtain ⟨t, C, ht, -, -⟩ := tys_at (X := X) hb
          have he := (hS.2.2.1 ci i (o + 1) ho.2).2 hb j.toNatClampNeg (Nat.not_le.mp fun q => hin (Or.inr q)) hf
          show W p l e R s m args below meth c H locs cells slots Q (F0 m pc ls (.int j :: .ref (aR X (ci, i, o + 1)) :: r.map (tv X)))
          rw [aR_eq ho.1]
          refine va_aldq (D := xD X) (ws := wld X M) hP.1 hP.2.1 hP.2.2.2.2.2.1 hS.2.1 (sq (ci, i, o + 1)) t (by rw [wld_at ho.2 hS.1, ce_ra hb]) ht (i := j) hin hdc ?_
          rw [hf]
          have hK := K H locs ls hS hV hL (ok1 (Or.inr he) (okt (okt hk)))
          have e2 : tv X (.inr (.inr (et ci j.toNatClampNeg))) = .ref (xB X + sq (et ci j.toNatClampNeg)) := by
            show Value.ref _ = _
            rw [aR_eq he.1]
          rw [List.map_cons, e2] at hK
          exact hK
  · cases hs
theorem gi_aastore {l : Launch} {X : XT} {d : Nat} {md : MD} {pc len a b c' : Nat} {x0 : Int32} {lg : Int64} {ks : List (Int32 × Nat)} {L : List (Option AV)} {st : List AV} {M M' : Mem} {v : Option AV} {S' : St}  (hdc : decode md.2.2.1 pc = .ok (.aastore, len)) (hx : okX md.1 md.2.2.2.1 md.2.2.2.2.2.1 pc (.aastore) len a b c' x0 lg ks = true) (hs : exI md.2.2.2.2.1 (.aastore) len a b c' x0 lg ks pc L st M = some (.inl S')) (hd : 1 ≤ d) (hG : Good l X d md S' v M') : Good l X d md (pc, L, st, M) v M' := by
  simp only [okX, decide_eq_true_eq] at hx
  subst hx
  obtain ⟨mn, mf, ml, mw⟩ := M
  simp only [exI, nx] at hs
  split at hs
  · rename_i x j ci i o r
    cases hb : isRA ci (o + 1) with
    | false => rw [hb] at hs; cases hs
    | true =>
      rw [hb] at hs
      simp only [cond_true] at hs
      split at hs
      · cases hs
      · rename_i hin0
        have hin : ¬ (j < 0 ∨ al ci (o + 1) ≤ j.toNatClampNeg) := fun q => hin0 (Or.inl q)
        have hxe : x = et ci j.toNatClampNeg := Classical.not_not.mp fun q => hin0 (Or.inr q)
        cases hs
        refine G_of (M1 := (mn, uf mf ci i (1000 + j.toNatClampNeg), ml, mw)) rfl hG (fun p e R s m args below meth c Q H locs cells slots ls hP hS hV hL hk K => ?_)
        have hc := isRA_lt hb
        have hr := fk3 (show fk ci o = 3 from beq_eq hb)
        have ho := okA_lt (hk _ (List.mem_cons_of_mem _ (List.mem_cons_of_mem _ List.mem_cons_self))) (show ci ≠ 13 by omega)
        have hx0 : x.2.2 = 0 ∧ ((ci = 3 → x.1 = 6) ∧ (ci = 8 → x.1 = 2)) := by
          rw [hxe]
          unfold et
          rcases hr with ⟨rfl, -⟩ | ⟨rfl, -⟩
          · exact ⟨rfl, fun _ => rfl, fun q => by omega⟩
          · exact ⟨rfl, fun q => by omega, fun _ => rfl⟩
        have hx13 : x.1 ≠ 13 := by
          rcases hr with ⟨e, -⟩ | ⟨e, -⟩
          · rw [hx0.2.1 e]; decide
          · rw [hx0.2.2 e]; decide
        have hj := okA_lt (hk _ List.mem_cons_self) hx13
        obtain ⟨t, C, ht, hC3, hC8⟩ := tys_at (X := X) hb
        have hC : C = rN x.1 := by
          rcases hr with ⟨e, -⟩ | ⟨e, -⟩
          · rw [hC3 e, hx0.2.1 e]; rfl
          · rw [hC8 e, hx0.2.2 e]; rfl
        subst hC
        show W p l e R s m args below meth c H locs cells slots Q (F0 m pc ls (.ref (aR X x) :: .int j :: .ref (aR X (ci, i, o + 1)) :: r.map (tv X)))
        rw [aR_eq ho.1, aR_eq hj.1]
        have hxc : ce X (mn, mf, ml, mw) x = .inr (x.1, (List.range (nF x.1)).map (fv X (mn, mf, ml, mw) x.1 x.2.1)) := by
          unfold ce
          rw [hx0.1]
        refine va_astq (D := xD X) (ws := wld X (mn, mf, ml, mw)) (r := (rN x.1, tN x.1, nF x.1)) hP.1 hP.2.1 hP.2.2.2.2.2.1 hS.2.1 (wld_D X _) hV (sq (ci, i, o + 1)) t (sq x) x.1 (by rw [wld_at ho.2 hS.1, ce_ra hb]) ht (by rw [wld_at hj.2 hS.1, hxc]) (tb_cl x.1 hj.1) (i := j) hin hdc (fun H1 locs1 p1 _ v1 => ?_)
        refine K H1 locs1 ls (sim_set (M' := (mn, uf mf ci i (1000 + j.toNatClampNeg), ml, mw)) hS rfl rfl ho.2 (by omega) ?_ ?_ ?_) v1 hL (okt (okt (okt hk)))
        · intro c1 i1 o1 hne
          refine ⟨fun k => rfl, fun e k k1 => uf_eq (fun q => by omega), fun e k => uf_eq (fun q => ?_)⟩
          obtain ⟨q1, q2, q3⟩ := q
          subst q1; subst q2
          exact hne (by rw [isRA_one e hb])
        · refine ⟨fun q => by omega, fun _ k k1 k2 => ?_⟩
          by_cases e : k = j.toNatClampNeg
          · rw [e, ← hxe]; exact hj
          · exact (hS.2.2.1 ci i (o + 1) ho.2).2 hb k k1 (by rw [← k2]; exact (uf_eq (fun q => e (by omega))).symm)
        · rw [ce_ra hb]
          have : (va_up (fun k => bif mf ci i (1000 + k) then some (xB X + sq (et ci k)) else none) j.toNatClampNeg (some (xB X + sq x))) = (fun k => bif uf mf ci i (1000 + j.toNatClampNeg) ci i (1000 + k) then some (xB X + sq (et ci k)) else none) := by
            funext k
            by_cases hq : k = j.toNatClampNeg
            · subst hq; rw [uf_self, hxe]; simp [va_up]
            · rw [uf_eq (fun q => hq (by omega))]; simp [va_up, hq]
          rw [← this]
          exact p1
  · cases hs
theorem gi_arraylength {l : Launch} {X : XT} {d : Nat} {md : MD} {pc len a b c' : Nat} {x0 : Int32} {lg : Int64} {ks : List (Int32 × Nat)} {L : List (Option AV)} {st : List AV} {M M' : Mem} {v : Option AV} {S' : St}  (hdc : decode md.2.2.1 pc = .ok (.arraylength, len)) (hx : okX md.1 md.2.2.2.1 md.2.2.2.2.2.1 pc (.arraylength) len a b c' x0 lg ks = true) (hs : exI md.2.2.2.2.1 (.arraylength) len a b c' x0 lg ks pc L st M = some (.inl S')) (hd : 1 ≤ d) (hG : Good l X d md S' v M') : Good l X d md (pc, L, st, M) v M' := by
  simp only [okX, decide_eq_true_eq] at hx
  subst hx
  simp only [exI, nx] at hs
  split at hs
  · rename_i r
    cases hs
    refine G_of rfl hG (fun p e R s m args below meth c Q H locs cells slots ls hP hS hV hL hk K => ?_)
    obtain ⟨hX, hbl, hbA⟩ := hP.2.2.2.2.2.2.2.2.2.1
    show W p l e R s m args below meth c H locs cells slots Q (F0 m pc ls (.ref (xb X) :: r.map (tv X)))
    refine va_slen hP.1 hP.2.1 hX hbl (A := xA X) (Nat.not_le.mpr hbA) hV hdc ?_
    rw [← hS.2.2.2.2.1]
    exact K H locs ls hS hV hL (ok1 trivial (okt hk))
  · cases hs
theorem cat_le (X : XT) (st : List AV) : ((st.map (tv X)).map fun v => v.category).sum ≤ 2 * st.length := by
  induction st with
  | nil => simp
  | cons x r ih =>
    simp only [List.map_cons, List.sum_cons, List.length_cons]
    have : (tv X x).category ≤ 2 := by rw [cat_tv]; split <;> omega
    omega
theorem ble_le {a b : Nat} (h : a.ble b = true) : a ≤ b := Nat.le_of_ble_eq_true h
theorem gi_invokespecial {l : Launch} {X : XT} {d : Nat} {md : MD} {pc len a b c' : Nat} {x0 : Int32} {lg : Int64} {ks : List (Int32 × Nat)} {L : List (Option AV)} {st : List AV} {M M' : Mem} {v : Option AV} {S' : St} {n : Nat} (hdc : decode md.2.2.1 pc = .ok (.invokespecial n, len)) (hx : okX md.1 md.2.2.2.1 md.2.2.2.2.2.1 pc (.invokespecial n) len a b c' x0 lg ks = true) (hs : exI md.2.2.2.2.1 (.invokespecial n) len a b c' x0 lg ks pc L st M = some (.inl S')) (hd : 1 ≤ d) (hG : Good l X d md S' v M') : Good l X d md (pc, L, st, M) v M' := by
  simp only [okX, Bool.and_eq_true, decide_eq_true_eq] at hx
  obtain ⟨rfl, hx⟩ := hx
  simp only [exI, nx] at hs
  split at hs
  · split at hs
    · rename_i y r
      cases hb : r.length.ble 4 with
      | false => rw [hb] at hs; cases hs
      | true =>
        rw [hb] at hs
        cases hs
        have hm : (md.1, n) ∈ OIt := by simpa using hx
        refine G_of rfl hG (fun p e R s m args below meth c Q H locs cells slots ls hP hS hV hL hk K => ?_)
        have hc := cat_le X r
        have hl := ble_le hb
        show W p l e R s m args below meth c H locs cells slots Q (F0 m pc ls (.ref (aR X y) :: r.map (tv X)))
        refine W.objInit hP.1 hP.2.1 hP.2.2.2.1 (hP.2.2.2.2.1 _ (gT_in (pick_of tb_OI0 _ hm) rfl)) (hP.2.2.2.2.1 _ (gT_in tb_o1 rfl)) (hP.2.2.2.2.1 _ (gT_in tb_o2 rfl)) rfl (by rw [hP.2.2.1]; exact hL.1) rfl hdc (Nat.le_trans hd hP.2.2.2.2.2.2.2.2.2.2.1) (by
          have h30 := hP.2.2.2.2.2.2.2.2.2.2.2
          show 2 * 0 + _ + 12 ≤ R.locals
          omega) ?_
        exact K H locs ls hS hV hL (okt hk)
    · cases hs
  · split at hs
    · rename_i i r hdr
      cases hb : r.length.ble 4 with
      | false => rw [hb] at hs; cases hs
      | true => rw [hb] at hs; cases hs
    · cases hs
theorem gi_invokestatic {l : Launch} {X : XT} {d : Nat} {md : MD} {pc len a b c' : Nat} {x0 : Int32} {lg : Int64} {ks : List (Int32 × Nat)} {L : List (Option AV)} {st : List AV} {M M' : Mem} {v : Option AV} {S' : St} {n : Nat} (hdc : decode md.2.2.1 pc = .ok (.invokestatic n, len)) (hx : okX md.1 md.2.2.2.1 md.2.2.2.2.2.1 pc (.invokestatic n) len a b c' x0 lg ks = true) (hs : exI md.2.2.2.2.1 (.invokestatic n) len a b c' x0 lg ks pc L st M = some (.inl S')) (hd : 1 ≤ d) (hG : Good l X d md S' v M') : Good l X d md (pc, L, st, M) v M' := by
  simp only [okX, Bool.and_eq_true, decide_eq_true_eq] at hx
  obtain ⟨rfl, hx⟩ := hx
  obtain ⟨mn, mf, ml, mw⟩ := M
  simp only [exI, nx] at hs
  split at hs
  · split at hs
    · rename_i k dp c1 i1 o1 sp c0 i0 o0 r
      cases hb1 : isIA c1 (o1 + 1) with
      | false => rw [hb1] at hs; cases hs
      | true =>
        cases hb0 : isIA c0 (o0 + 1) with
        | false => rw [hb1, hb0] at hs; cases hs
        | true =>
          cases hbl : r.length.ble 4 with
          | false => rw [hb1, hb0, hbl] at hs; cases hs
          | true =>
            rw [hb1, hb0, hbl] at hs
            simp only [Bool.and_self, cond_true] at hs
            split at hs
            · rename_i hz
              obtain ⟨rfl, rfl, hk1, hal, hk0⟩ := hz
              cases hs
              have hm : (md.1, n) ∈ ACt := by simpa using hx
              refine G_of (M1 := (mn, mf, ml, uc mw c1 i1 (o1 + 1) (mw c0 i0 (o0 + 1)))) rfl hG (fun p e R s m args below meth c Q H locs cells slots ls hP hS hV hL hk K => ?_)
              have hc1 := isIA_lt hb1
              have hc0 := isIA_lt hb0
              have ho1 := okA_lt (hk _ (List.mem_cons_of_mem _ (List.mem_cons_of_mem _ List.mem_cons_self))) (show c1 ≠ 13 by omega)
              have ho0 := okA_lt (hk _ (List.mem_cons_of_mem _ (List.mem_cons_of_mem _ (List.mem_cons_of_mem _ (List.mem_cons_of_mem _ List.mem_cons_self))))) (show c0 ≠ 13 by omega)
              have hc := cat_le X r
              have hl := ble_le hbl
              show W p l e R s m args below meth c H locs cells slots Q (F0 m pc ls (.int k :: .int 0 :: .ref (aR X (c1, i1, o1 + 1)) :: .int 0 :: .ref (aR X (c0, i0, o0 + 1)) :: r.map (tv X)))
              rw [aR_eq ho1.1, aR_eq ho0.1]
              have e00 : (0 : Int32).toNatClampNeg = 0 := by decide
              refine va_copyi (D := xD X) (ws := wld X (mn, mf, ml, mw)) (ty := .int) hP.1 hP.2.1 (by rw [hP.2.2.1]; exact hL.1.symm) hP.2.2.2.1 (hP.2.2.2.2.1 _ (gT_in (pick_of tb_AC0 _ hm) rfl)) (hP.2.2.2.2.1 _ (gT_in tb_a1 rfl)) (hP.2.2.2.2.1 _ (gT_in tb_a2 rfl)) (hP.2.2.2.2.1 _ (gT_in tb_a3 rfl)) hP.2.2.2.2.2.1 hS.2.1 (wld_D X _) hV (sq (c0, i0, o0 + 1)) (sq (c1, i1, o1 + 1)) 0 0 (by rw [wld_at ho0.2 hS.1, ce_ia hb0]) (by rw [wld_at ho1.2 hS.1, ce_ia hb1]) rfl rfl rfl (by decide) (by decide) hk0 (by rw [e00, hk1, hal]; omega) (by rw [e00, hk1]; omega) (fun _ _ => rfl) (Nat.le_trans hd hP.2.2.2.2.2.2.2.2.2.2.1) (by
                have h30 := hP.2.2.2.2.2.2.2.2.2.2.2
                have hw : nativeFrameWords "java/lang/System" "arraycopy" 5 = 7 := by decide
                rw [hw]; omega) hdc (fun H1 locs1 p1 _ v1 => ?_)
              refine K H1 locs1 ls (sim_set (M' := (mn, mf, ml, uc mw c1 i1 (o1 + 1) (mw c0 i0 (o0 + 1)))) hS rfl rfl ho1.2 (by omega) (fun c2 i2 o2 hne => ⟨fun q => uc_ne hne q, fun _ _ _ => rfl, fun _ _ => rfl⟩) ?_ ?_) v1 hL (okt (okt (okt (okt (okt hk)))))
              · exact ⟨fun q => by omega, fun q => by rw [isIA_not hb1] at q; cases q⟩
              · have e5 : va_E := ce X (mn, mf, ml, uc mw c1 i1 (o1 + 1) (mw c0 i0 (o0 + 1))) (c1, i1, o1 + 1)
                refine va_P_arr (f := va_cpy (fun j => mw c0 i0 (o0 + 1) j) (fun j => mw c1 i1 (o1 + 1) j) (0 : Int32).toNatClampNeg (0 : Int32).toNatClampNeg k.toNatClampNeg) (N := al c1 (o1 + 1)) (ce_ia hb1) ?_ p1
                intro j hj
                show (if c1 = c1 ∧ i1 = i1 ∧ o1 + 1 = o1 + 1 then mw c0 i0 (o0 + 1) j else mw c1 i1 (o1 + 1) j) = _
                rw [if_pos ⟨rfl, rfl, rfl⟩, e00, hk1, pk_cpy_in (Nat.zero_le j) (by omega)]
                simp
            · cases hs
    · cases hs
  · cases hb : ((st.drop b).length.ble 4 && b.ble st.length) with
    | false => rw [hb] at hs; cases hs
    | true => rw [hb] at hs; cases hs
end
section
/-! making cells -/
theorem W_size {p : Program} {l : Launch} {e : Env} {R : Room} {s : State} {m : MethodId} {args : Array Value} {below : List Frame} {meth : Method} {c : Code} {H : Heap} {locs : List Loc} {cells slots : Nat} {Q : State → Prop} {g : JFrame} (h : H.size ≤ s.heap.size + cells → W p l e R s m args below meth c H locs cells slots Q g) : W p l e R s m args below meth c H locs cells slots Q g := fun T hT X => h (by rw [← hT]; exact X.heapSize) T hT X
theorem sim_size {X : XT} {M : Mem} {H : Heap} {s : State} {locs : List Loc} {cells : Nat} (hS : Sim X M H) (hV : va_S (xA X) s.heap H locs) (hz : s.heap.size + cells = xB X + M.1) (hB : xB X ≤ s.heap.size) (hle : H.size ≤ s.heap.size + cells) : H.size = xB X + M.1 := by
  have h1 := hV.1
  by_cases h0 : M.1 = 0
  · omega
  · have h2 := (hS.2.1 (M.1 - 1) _ (wld_get (by omega))).lt
    have h2 : xB X + (M.1 - 1) < H.size := h2
    omega
theorem sl_succ {n : Nat} (h : n < 279) : sl (n + 1) = sl n + slO (od n) := by
  unfold sl od
  have hl : n < ordL.length := by rw [ord_len]; exact h
  rw [List.take_succ, List.map_append, List.sum_append, List.getElem?_eq_getElem hl, List.getD_eq_getElem?_getD, List.getElem?_eq_getElem hl]
  show _ + (slO ordL[n] + 0) = _ + slO ordL[n]
  omega
theorem sl_le1 (n : Nat) : sl n ≤ sl (n + 1) := by
  by_cases h : n < 279
  · rw [sl_succ h]; omega
  · unfold sl
    rw [List.take_of_length_le (by rw [ord_len]; omega), List.take_of_length_le (by rw [ord_len]; omega)]
    exact Nat.le_refl _
theorem sl_mono {n k : Nat} (h : n ≤ k) : sl n ≤ sl k := by
  induction k with
  | zero => rw [show n = 0 by omega]; exact Nat.le_refl _
  | succ k ih =>
    by_cases e : n = k + 1
    · rw [e]; exact Nat.le_refl _
    · exact Nat.le_trans (ih (by omega)) (sl_le1 k)
theorem smC_n (n n' : Nat) (fl : Nat → Nat → Nat → Bool) (Lz : Nat) (w : Nat → Nat → Nat → Nat → Int32) (c i o : Nat) : smC (n, fl, Lz, w) (n', fl, Lz, w) c i o := ⟨fun _ => rfl, fun _ _ _ => rfl, fun _ _ => rfl⟩
theorem sim_new {X : XT} {n : Nat} {fl : Nat → Nat → Nat → Bool} {Lz : Nat} {w : Nat → Nat → Nat → Nat → Int32} {H H' : Heap} {a : AA} (hS : Sim X (n, fl, Lz, w) H) (ha : ordL[n]? = some a) (hH : ∀ q, q < H.size → H'[q]? = H[q]?) (hc : va_at (xD X) vwCl (xB X + n, ce X (n, fl, Lz, w) a) H') : Sim X (n + 1, fl, Lz, w) H' := by
  obtain ⟨s1, s2, s3, s4, s5, s6⟩ := hS
  obtain ⟨hn, e1, e2⟩ := ord_get ha
  have hce : ∀ b, ce X (n + 1, fl, Lz, w) b = ce X (n, fl, Lz, w) b := fun b => ce_same (smC_n n (n + 1) fl Lz w b.1 b.2.1 b.2.2)
  refine ⟨hn, fun k q hk => ?_, fun c i o hq => ?_, fun c i o hq hq2 => ?_, s5, s6⟩
  · have hk1 : k < n + 1 := by
      have := (List.getElem?_eq_some_iff.mp hk).1
      rw [wld_len] at this; exact this
    rw [wld_get (M := (n + 1, fl, Lz, w)) hk1] at hk
    cases hk
    rw [hce]
    by_cases e : k = n
    · subst e; rw [e1]; exact hc
    · have h1 := s2 k _ (wld_get (M := (n, fl, Lz, w)) (show k < n by omega))
      exact h1.kept (hH _ h1.lt)
  · by_cases e : sq (c, i, o) = n
    · have hz := s4 c i o (show n ≤ sq (c, i, o) by omega) (by omega)
      refine ⟨fun e0 k k1 k2 k3 => ?_, fun e0 j j1 j2 => ?_⟩
      · rw [show (n + 1, fl, Lz, w).2.1 c i k = false from hz.2.1 e0 k (Nat.lt_trans k1 (nF_lt c))] at k3; cases k3
      · rw [show (n + 1, fl, Lz, w).2.1 c i (1000 + j) = false from hz.2.2 e0 j] at j2; cases j2
    · have hq : sq (c, i, o) < n + 1 := hq
      exact okF_same (show n ≤ n + 1 by omega) (smC_n n (n + 1) fl Lz w c i o) (s3 c i o (show sq (c, i, o) < n by omega))
  · have hq : n + 1 ≤ sq (c, i, o) := hq
    exact zro_same (smC_n n (n + 1) fl Lz w c i o) (s4 c i o (show n ≤ sq (c, i, o) by omega) hq2)
theorem okV_mono {n n' : Nat} (h : n ≤ n') {x : AV} (hx : okV n x) : okV n' x := by
  rcases x with x | x | x
  · trivial
  · trivial
  · rcases hx with e | e
    · exact Or.inl e
    · exact Or.inr ⟨e.1, Nat.lt_of_lt_of_le e.2 h⟩
theorem G_alloc {l : Launch} {X : XT} {d : Nat} {md : MD} {pc pc' : Nat} {L : List (Option AV)} {st st' : List AV} {M M' : Mem} {v : Option AV} {a : AA} (ha : ordL[M.1]? = some a) (ha10 : a.1 < 10) (hst : ∀ x ∈ st', x ∈ st) (hG : Good l X d md (pc', L, .inr (.inr a) :: st', (M.1 + 1, M.2.1, M.2.2.1, M.2.2.2)) v M')
    (h : ∀ (p : Program) (e : Env) (R : Room) (s : State) (m : MethodId) (args : Array Value) (below : List Frame) (meth : Method) (c : Code) (Q : State → Prop) (H : Heap) (locs : List Loc) (cells slots : Nat) (ls : Array Slot),
      PR X d md p R s m args meth c → Sim X M H → H.size = xB X + M.1 → cells + 1 ≤ R.cells → slots + slO a ≤ R.slots →
      (∀ (H' : Heap), (∀ q, q < H.size → H'[q]? = H[q]?) → H.size ≤ H'.size → va_at (xD X) vwCl (xB X + M.1, ce X M a) H' → W p l e R s m args below meth c H' locs (cells + 1) (slots + slO a) Q (F0 m pc' ls (.ref (xB X + M.1) :: st'.map (tv X)))) →
      W p l e R s m args below meth c H locs cells slots Q (F0 m pc ls (st.map (tv X)))) : Good l X d md (pc, L, st, M) v M' := by
  obtain ⟨g1, gv, g2⟩ := hG
  obtain ⟨mn, mf, ml, mw⟩ := M
  have ha : ordL[mn]? = some a := ha
  obtain ⟨hn, e1, e2⟩ := ord_get ha
  have g1 : mn + 1 ≤ M'.1 := g1
  refine ⟨show mn ≤ M'.1 by omega, gv, fun p e R s m args below meth c Q H locs cells slots ls hP hz hc hs hS hV hL hk hR => ?_⟩
  have hz : s.heap.size + cells = xB X + mn := hz
  have hc : cells + (M'.1 - mn) ≤ R.cells := hc
  have hs : slots + (sl M'.1 - sl mn) ≤ R.slots := hs
  have hR : KR l X md v M' p e R s m args below meth c Q (cells + (M'.1 - mn)) (slots + (sl M'.1 - sl mn)) := hR
  have hsl : sl (mn + 1) = sl mn + slO a := by rw [sl_succ hn, e1]
  have hmo : sl (mn + 1) ≤ sl M'.1 := sl_mono g1
  refine W_size (fun hle => ?_)
  have hsz := sim_size hS hV hz hP.2.2.2.2.2.2.2.1 hle
  refine h p e R s m args below meth c Q H locs cells slots ls hP hS hsz (by omega) (by omega) (fun H' o1 o2 o3 => ?_)
  have hS' : Sim X (mn + 1, mf, ml, mw) H' := sim_new hS ha o1 o3
  have hV' : va_S (xA X) s.heap H' locs := ⟨Nat.le_trans hV.1 o2, fun q q1 q2 => by rw [o1 q (Nat.lt_of_lt_of_le q1 hV.1)]; exact hV.2.1 q q1 q2, hV.2.2⟩
  have hK := g2 p e R s m args below meth c Q H' locs (cells + 1) (slots + slO a) ls hP (show s.heap.size + (cells + 1) = xB X + (mn + 1) by omega) (show (cells + 1) + (M'.1 - (mn + 1)) ≤ R.cells by omega) (show (slots + slO a) + (sl M'.1 - sl (mn + 1)) ≤ R.slots by omega) hS' hV' (hL.mono (show mn ≤ mn + 1 by omega)) (ok1 (Or.inr ⟨ha10, by show sq a < mn + 1; omega⟩) (fun y hy => okV_mono (show mn ≤ mn + 1 by omega) (hk y (hst y hy)))) (by
    show KR l X md v M' p e R s m args below meth c Q ((cells + 1) + (M'.1 - (mn + 1))) ((slots + slO a) + (sl M'.1 - sl (mn + 1)))
    rw [show (cells + 1) + (M'.1 - (mn + 1)) = cells + (M'.1 - mn) by omega, show (slots + slO a) + (sl M'.1 - sl (mn + 1)) = slots + (sl M'.1 - sl mn) by omega]
    exact hR)
  have e3 : tv X (.inr (.inr a)) = .ref (xB X + mn) := by
    show Value.ref (aR X a) = _
    rw [aR_eq ha10, e2]
  show W p l e R s m args below meth c H' locs (cells + 1) (slots + slO a) Q (F0 m pc' ls (.ref (xB X + mn) :: st'.map (tv X)))
  rw [← e3]
  exact hK
theorem df_ty {c k : Nat} (hc : c < 10) (hk : k < nF c) : defaultValue (tyN c k) = (if 2 ≤ fk c k then .null else .int 0) := by
  have h32 : k < 32 := Nat.lt_of_lt_of_le hk (nF_32 c hc)
  by_cases h : 2 ≤ fk c k
  · rw [if_pos h]
    have := fk_ty2 c hc k h32 hk h
    cases ht : tyN c k <;> rw [ht] at this <;> first | rfl | cases this
  · rw [if_neg h]
    rcases (by omega : fk c k = 0 ∨ fk c k = 1) with e | e
    · rw [fk_ty0 c hc k h32 hk e]; rfl
    · rw [fk_ty1 c hc k h32 hk e]; rfl
theorem gi_new {l : Launch} {X : XT} {d : Nat} {md : MD} {pc len a b c' : Nat} {x0 : Int32} {lg : Int64} {ks : List (Int32 × Nat)} {L : List (Option AV)} {st : List AV} {M M' : Mem} {v : Option AV} {S' : St} {n : Nat} (hdc : decode md.2.2.1 pc = .ok (.new n, len)) (hx : okX md.1 md.2.2.2.1 md.2.2.2.2.2.1 pc (.new n) len a b c' x0 lg ks = true) (hs : exI md.2.2.2.2.1 (.new n) len a b c' x0 lg ks pc L st M = some (.inl S')) (hd : 1 ≤ d) (hG : Good l X d md S' v M') : Good l X d md (pc, L, st, M) v M' := by
  simp only [okX, Bool.and_eq_true, decide_eq_true_eq] at hx
  obtain ⟨⟨rfl, hm⟩, ha10⟩ := hx
  simp only [exI, nx] at hs
  split at hs
  · rename_i ci i ho
    cases hb : ci.beq a with
    | false => rw [hb] at hs; cases hs
    | true =>
      rw [hb] at hs
      have e := beq_eq hb
      subst e
      cases hs
      refine G_alloc ho ha10 (fun _ h => h) hG (fun p e R s m args below meth c Q H locs cells slots ls hP hS hsz hcl hsl K => ?_)
      obtain ⟨hn, e1, e2⟩ := ord_get ho
      have hz := hS.2.2.2.1 ci i 0 (by rw [e2]; exact Nat.le_refl _) (by rw [e2]; exact hn)
      have hKn := hP.2.2.2.2.2.1.1 ci _ (tb_cl ci ha10)
      refine W.newcK hP.1 hP.2.1 hP.2.2.2.1 (hP.2.2.2.2.1 _ (gT_in (pick_of tb_NL0 _ hm) rfl)) (hP.2.2.2.2.1 _ (gT_in (pick_of tb_IB0 _ (tb_IBn ci ha10)) rfl)) (hP.2.2.2.2.1 _ (gT_in (pick_of tb_IN0 _ (tb_INn ci (by omega))) rfl)) rfl hdc hcl hsl hKn.2.1 hsz fun H1 kC hkC h1 z1 o1 => ?_
      refine K H1 (by rw [hsz]; exact o1) (by omega) ?_
      refine ⟨_, tb_cl ci ha10, (u_born (tyN ci) hP.2.2.2.2.1 (tb_gin ha10) hKn hkC h1 (tb_ty ci ha10)).to (fun j hj => ?_)⟩
      show _ = (((List.range (nF ci)).map (fv X M ci i)).getD j .null)
      rw [List.getD_eq_getElem?_getD, fv_at hj, df_ty ha10 hj]
      show _ = fv X M ci i j
      unfold fv
      by_cases h2 : 2 ≤ fk ci j
      · rw [if_pos h2]
        obtain ⟨z, hz2⟩ : ∃ z, fk ci j = z + 2 := ⟨fk ci j - 2, by omega⟩
        rw [hz2]
        show _ = (bif M.2.1 ci i j then _ else _)
        rw [hz.2.1 rfl j (Nat.lt_trans hj (nF_lt ci))]; rfl
      · rw [if_neg h2]
        rcases (by omega : fk ci j = 0 ∨ fk ci j = 1) with e | e
        · rw [e]; show _ = Value.int _; rw [hz.1 j]
        · rw [e]; show _ = Value.int _; rw [hz.1 j]
  · cases hs
theorem al_lt {c o : Nat} : al c o ≤ 5000 := by
  unfold al
  by_cases hc : c < 10
  · by_cases ho : o < 33
    · exact (by decide +kernel : ∀ c, c < 10 → ∀ o, o < 33 → (alT.getD c []).getD o 0 ≤ 5000) c hc o ho
    · rw [List.getD_eq_getElem?_getD, List.getElem?_eq_none (by
        have : ∀ c, c < 10 → (alT.getD c []).length ≤ 33 := by decide +kernel
        have := this c hc
        omega)]
      decide
  · rw [List.getD_eq_getElem?_getD, List.getD_eq_getElem?_getD, List.getElem?_eq_none (l := alT) (by simp [alT]; omega)]
    show (([] : List Nat)[o]?).getD 0 ≤ 5000
    simp
theorem gi_newarray {l : Launch} {X : XT} {d : Nat} {md : MD} {pc len a b c' : Nat} {x0 : Int32} {lg : Int64} {ks : List (Int32 × Nat)} {L : List (Option AV)} {st : List AV} {M M' : Mem} {v : Option AV} {S' : St} {n : ArrayType} (hdc : decode md.2.2.1 pc = .ok (.newarray n, len)) (hx : okX md.1 md.2.2.2.1 md.2.2.2.2.2.1 pc (.newarray n) len a b c' x0 lg ks = true) (hs : exI md.2.2.2.2.1 (.newarray n) len a b c' x0 lg ks pc L st M = some (.inl S')) (hd : 1 ≤ d) (hG : Good l X d md S' v M') : Good l X d md (pc, L, st, M) v M' := by
  simp only [okX, Bool.and_eq_true, decide_eq_true_eq] at hx
  obtain ⟨rfl, rfl⟩ := hx
  simp only [exI, nx] at hs
  split at hs
  · rename_i x r
    split at hs
    · rename_i ci i o ho
      split at hs
      · rename_i hq
        obtain ⟨hb, hx0, hxl⟩ := hq
        cases hs
        have ha10 := isIA_lt hb
        refine G_alloc ho ha10 (fun _ h => List.mem_cons_of_mem _ h) hG (fun p e R s m args below meth c Q H locs cells slots ls hP hS hsz hcl hsl K => ?_)
        obtain ⟨hn, e1, e2⟩ := ord_get ho
        have hz := hS.2.2.2.1 ci i (o + 1) (by rw [e2]; exact Nat.le_refl _) (by rw [e2]; exact hn)
        have hal := al_lt (c := ci) (o := o + 1)
        refine va_newaK hP.1 hP.2.1 (atype := .int) (hP.2.2.2.2.1 _ (gT_in tb_ar rfl)) rfl hdc (n := x) (rest := r.map (tv X)) rfl hx0 hxl (by
          show al ci (o + 1) * 4 ≤ _
          omega) hcl hsl hsz fun H1 cA h1 z1 o1 hA hF => ?_
        refine K H1 (by rw [hsz]; exact o1) (by omega) ?_
        have hcA : cA = xI X := by
          have h2 : s.vm.findClass ("[" ++ FieldType.int.toString) = some (xI X) := (hP.2.2.2.2.2.1.2 0 _ rfl).2
          exact Option.some.inj (hF.symm.trans h2)
        subst hcA
        rw [ce_ia hb]
        show H1[xB X + M.1]? = some (vp_cell (xI X) (al ci (o + 1), .inl (fun j => M.2.2.2 ci i (o + 1) j)))
        rw [h1, vp_cell_i]
        have : (fun j => Value.int (M.2.2.2 ci i (o + 1) j)) = (fun _ => Value.int 0) := by funext j; rw [hz.1 j]
        rw [this]
        rfl
      · cases hs
    · cases hs
  · cases hs
theorem gi_anewarray {l : Launch} {X : XT} {d : Nat} {md : MD} {pc len a b c' : Nat} {x0 : Int32} {lg : Int64} {ks : List (Int32 × Nat)} {L : List (Option AV)} {st : List AV} {M M' : Mem} {v : Option AV} {S' : St} {n : Nat} (hdc : decode md.2.2.1 pc = .ok (.anewarray n, len)) (hx : okX md.1 md.2.2.2.1 md.2.2.2.2.2.1 pc (.anewarray n) len a b c' x0 lg ks = true) (hs : exI md.2.2.2.2.1 (.anewarray n) len a b c' x0 lg ks pc L st M = some (.inl S')) (hd : 1 ≤ d) (hG : Good l X d md S' v M') : Good l X d md (pc, L, st, M) v M' := by
  simp only [okX, Bool.and_eq_true, decide_eq_true_eq] at hx
  obtain ⟨⟨rfl, hm⟩, hor⟩ := hx
  simp only [exI, nx] at hs
  split at hs
  · rename_i x r
    split at hs
    · rename_i ci i o ho
      split at hs
      · rename_i hq
        obtain ⟨hb, hx0, hxl, hca⟩ := hq
        cases hs
        have ha10 := isRA_lt hb
        refine G_alloc ho ha10 (fun _ h => List.mem_cons_of_mem _ h) hG (fun p e R s m args below meth c Q H locs cells slots ls hP hS hsz hcl hsl K => ?_)
        obtain ⟨hn, e1, e2⟩ := ord_get ho
        have hz := hS.2.2.2.1 ci i (o + 1) (by rw [e2]; exact Nat.le_refl _) (by rw [e2]; exact hn)
        have hal := al_lt (c := ci) (o := o + 1)
        have hAO : va_AO (rN a) s := by
          rcases hca with ⟨-, e⟩ | ⟨-, e⟩
          · rw [e]; exact hP.2.2.2.2.2.2.2.2.1.2.1
          · rw [e]; exact hP.2.2.2.2.2.2.2.2.1.2.2
        have hFc : s.vm.findClass ("[" ++ (FieldType.object (rN a)).toString) = some (cR X ci) := by
          rcases hca with ⟨e0, e⟩ | ⟨e0, e⟩
          · obtain ⟨kA, comp, -, -, -, h4⟩ := (hP.2.2.2.2.2.1.2 1 _ rfl).2
            rw [e, e0]; exact h4
          · obtain ⟨kA, comp, -, -, -, h4⟩ := (hP.2.2.2.2.2.1.2 2 _ rfl).2
            rw [e, e0]; exact h4
        have hsl2 : slots + x.toNatClampNeg ≤ R.slots := by rw [hxl]; exact hsl
        refine W.anew hP.1 hP.2.1 hP.2.2.2.1 (hP.2.2.2.2.1 _ (gT_in (pick_of tb_NL0 _ hm) rfl)) (va_AO.use hAO) rfl hdc (n := x) (rest := r.map (tv X)) rfl hx0 (by rw [hxl]; omega) hcl hsl2 fun cA kA comp f1 f2 f3 f4 => ?_
        have hcA : cA = cR X ci := Option.some.inj (f1.symm.trans hFc)
        subst hcA
        have hK := K (H.push { cls := cR X ci, slots := Array.replicate x.toNatClampNeg .null, vm := .none }) (fun q hq => by rw [Array.getElem?_push, if_neg (Nat.ne_of_lt hq)]) (by simp) (by
          rw [ce_ra hb]
          show (H.push _)[xB X + M.1]? = some (vp_cell (cR X ci) (al ci (o + 1), .inr (.inr (.inr (.inr (fun j => bif M.2.1 ci i (1000 + j) then some (xB X + sq (et ci j)) else none))))))
          rw [← hsz, Array.getElem?_push_size, arrV_new, vp_cell_q, hxl]
          have : (fun j => va_rf (bif M.2.1 ci i (1000 + j) then some (xB X + sq (et ci j)) else none)) = (fun _ => Value.null) := by
            funext j; rw [hz.2.2 hb j]; rfl
          rw [this])
        rw [hsz]
        rw [hxl] at hK ⊢
        exact hK
      · cases hs
    · cases hs
  · cases hs
end
section
/-! the step as a whole; returns; calls -/
theorem G_ins {l : Launch} {X : XT} {d : Nat} {md : MD} {pc len a b c' : Nat} {x0 : Int32} {lg : Int64} {ks : List (Int32 × Nat)} {L : List (Option AV)} {st : List AV} {M M' : Mem} {v : Option AV} {S' : St} {ins : Instr} (hdc : decode md.2.2.1 pc = .ok (ins, len)) (hx : okX md.1 md.2.2.2.1 md.2.2.2.2.2.1 pc ins len a b c' x0 lg ks = true) (hs : exI md.2.2.2.2.1 ins len a b c' x0 lg ks pc L st M = some (.inl S')) (hd : 1 ≤ d) (hG : Good l X d md S' v M') : Good l X d md (pc, L, st, M) v M' := by
  cases ins with
  | iconst n => exact gi_iconst hdc hx hs hd hG
  | bipush n => exact gi_bipush hdc hx hs hd hG
  | sipush n => exact gi_sipush hdc hx hs hd hG
  | ldc n => exact gi_ldc hdc hx hs hd hG
  | ldc_w n => exact gi_ldc_w hdc hx hs hd hG
  | ldc2_w n => exact gi_ldc2_w hdc hx hs hd hG
  | iload_n n => exact gi_iload_n hdc hx hs hd hG
  | aload_n n => exact gi_aload_n hdc hx hs hd hG
  | lload_n n => exact gi_lload_n hdc hx hs hd hG
  | iload n => exact gi_iload hdc hx hs hd hG
  | istore_n n => exact gi_istore_n hdc hx hs hd hG
  | istore n => exact gi_istore hdc hx hs hd hG
  | astore_n n => exact gi_astore_n hdc hx hs hd hG
  | lstore_n n => exact gi_lstore_n hdc hx hs hd hG
  | iinc n k => exact gi_iinc hdc hx hs hd hG
  | iadd => exact gi_iadd hdc hx hs hd hG
  | isub => exact gi_isub hdc hx hs hd hG
  | imul => exact gi_imul hdc hx hs hd hG
  | iand => exact gi_iand hdc hx hs hd hG
  | ior => exact gi_ior hdc hx hs hd hG
  | ixor => exact gi_ixor hdc hx hs hd hG
  | ishl => exact gi_ishl hdc hx hs hd hG
  | ishr => exact gi_ishr hdc hx hs hd hG
  | iushr => exact gi_iushr hdc hx hs hd hG
  | ladd => exact gi_ladd hdc hx hs hd hG
  | lmul => exact gi_lmul hdc hx hs hd hG
  | idiv => exact gi_idiv hdc hx hs hd hG
  | irem => exact gi_irem hdc hx hs hd hG
  | ldiv => exact gi_ldiv hdc hx hs hd hG
  | lrem => exact gi_lrem hdc hx hs hd hG
  | i2l => exact gi_i2l hdc hx hs hd hG
  | l2i => exact gi_l2i hdc hx hs hd hG
  | dup => exact gi_dup hdc hx hs hd hG
  | dup2 => exact gi_dup2 hdc hx hs hd hG
  | goto n => exact gi_goto hdc hx hs hd hG
  | lookupswitch n k => exact gi_lookupswitch hdc hx hs hd hG
  | tableswitch n k j q => exact gi_tableswitch hdc hx hs hd hG
  | getfield n => exact gi_getfield hdc hx hs hd hG
  | putfield n => exact gi_putfield hdc hx hs hd hG
  | iaload => exact gi_iaload hdc hx hs hd hG
  | iastore => exact gi_iastore hdc hx hs hd hG
  | aaload => exact gi_aaload hdc hx hs hd hG
  | aastore => exact gi_aastore hdc hx hs hd hG
  | arraylength => exact gi_arraylength hdc hx hs hd hG
  | invokespecial n => exact gi_invokespecial hdc hx hs hd hG
  | invokestatic n => exact gi_invokestatic hdc hx hs hd hG
  | new n => exact gi_new hdc hx hs hd hG
  | newarray n => exact gi_newarray hdc hx hs hd hG
  | anewarray n => exact gi_anewarray hdc hx hs hd hG
  | if_icmp op off =>
    cases op with
    | eq => exact gi_icmp_eq hdc hx hs hd hG
    | ne => exact gi_icmp_ne hdc hx hs hd hG
    | lt => exact gi_icmp_lt hdc hx hs hd hG
    | ge => exact gi_icmp_ge hdc hx hs hd hG
    | gt => exact gi_icmp_gt hdc hx hs hd hG
    | le => exact gi_icmp_le hdc hx hs hd hG
  | ifCond op off =>
    cases op with
    | eq => exact gi_if_eq hdc hx hs hd hG
    | ne => exact gi_if_ne hdc hx hs hd hG
    | lt => exact gi_if_lt hdc hx hs hd hG
    | ge => exact gi_if_ge hdc hx hs hd hG
    | gt => exact gi_if_gt hdc hx hs hd hG
    | le => exact gi_if_le hdc hx hs hd hG
  | invokevirtual n =>
    simp only [exI] at hs
    split at hs
    · rename_i ci i r hq
      cases hb : (ci.beq c' && r.length.ble 4) with
      | true => rw [hb] at hs; cases hs
      | false => rw [hb] at hs; cases hs
    · cases hs
  | ireturn =>
    simp only [exI] at hs
    split at hs
    · split at hs
      · cases hs
      · split at hs <;> cases hs
      · cases hs
    · cases hs
  | return_ =>
    simp only [exI] at hs
    split at hs
    · split at hs <;> cases hs
    · cases hs
  | _ => first | cases hs | (simp only [exI] at hs; cases hs)
theorem st_row {mi : Nat} {pc : Nat} {L : List (Option AV)} {st : List AV} {M : Mem} {r : St ⊕ ((Nat × List AV × St) ⊕ (Option AV × Mem))} (hs : stI (mdOf mi) (pc, L, st, M) = some r) : ∃ (ins : Instr) (len a b c : Nat) (x : Int32) (z : Int64) (ks : List (Int32 × Nat)), decode (mdOf mi).2.2.1 pc = .ok (ins, len) ∧ okX (mdOf mi).1 (mdOf mi).2.2.2.1 (mdOf mi).2.2.2.2.2.1 pc ins len a b c x z ks = true ∧ exI (mdOf mi).2.2.2.2.1 ins len a b c x z ks pc L st M = some r := by
  unfold stI at hs
  cases hr : cRow (mdOf mi).2.2.2.2.2.2 pc with
  | none =>
    have hr : cRow (mdOf mi).2.2.2.2.2.2 (pc, L, st, M).1 = none := hr
    rw [hr] at hs; cases hs
  | some q =>
    have hok := row_ok hr
    have hr : cRow (mdOf mi).2.2.2.2.2.2 (pc, L, st, M).1 = some q := hr
    rw [hr] at hs
    obtain ⟨ins, len, a, b, c, x, z, ks⟩ := q
    simp only [okR, Bool.and_eq_true] at hok
    exact ⟨ins, len, a, b, c, x, z, ks, dcOK_spec hok.1, hok.2, hs⟩
theorem G_next {l : Launch} {X : XT} {d mi : Nat} {S S' : St} {v : Option AV} {M' : Mem} (hd : 1 ≤ d) (hs : stI (mdOf mi) S = some (.inl S')) (hG : Good l X d (mdOf mi) S' v M') : Good l X d (mdOf mi) S v M' := by
  obtain ⟨pc, L, st, M⟩ := S
  obtain ⟨ins, len, a, b, c, x, z, ks, hdc, hx, hs⟩ := st_row hs
  exact G_ins hdc hx hs hd hG
def isRet : Instr → Bool
  | .ireturn => true
  | .return_ => true
  | _ => false
theorem not_ret {ret : Option FieldType} {ins : Instr} {len a b c : Nat} {x : Int32} {z : Int64} {ks : List (Int32 × Nat)} {pc : Nat} {L : List (Option AV)} {st : List AV} {M : Mem} {q : Option AV × Mem} (h : isRet ins = false) : ¬ exI ret ins len a b c x z ks pc L st M = some (.inr (.inr q)) := by
  intro hs
  cases ins with
  | ireturn => cases h
  | return_ => cases h
  | if_icmp op off =>
    simp only [exI, cmpI, nx] at hs
    split at hs
    · cases op <;> (simp only at hs; split at hs <;> cases hs)
    · cases hs
  | ifCond op off =>
    simp only [exI, cmpI, nx] at hs
    split at hs
    · cases op <;> (simp only at hs; split at hs <;> cases hs)
    · cases hs
  | getfield n =>
    simp only [exI, nx] at hs
    split at hs
    · rename_i ci i r
      cases hb : ci.beq a with
      | true =>
        rw [hb] at hs
        simp only [cond_true] at hs
        split at hs <;> cases hs
      | false => rw [hb] at hs; cases hs
    · cases hs
  | putfield n =>
    simp only [exI, nx] at hs
    split at hs
    · rename_i y ci i r
      cases hb : ci.beq a with
      | true =>
        rw [hb] at hs
        simp only [cond_true, exP, nx] at hs
        (repeat' split at hs) <;> cases hs
      | false => rw [hb] at hs; cases hs
    · cases hs
  | iaload =>
    simp only [exI, nx] at hs
    split at hs
    · rename_i j ci i o r
      cases hb : isIA ci o with
      | true => rw [hb] at hs; simp only [cond_true] at hs; split at hs <;> cases hs
      | false => rw [hb] at hs; cases hs
    · cases hs
  | iastore =>
    simp only [exI, nx] at hs
    split at hs
    · rename_i y j ci i o r
      cases hb : isIA ci (o + 1) with
      | true => rw [hb] at hs; simp only [cond_true] at hs; split at hs <;> cases hs
      | false => rw [hb] at hs; cases hs
    · cases hs
  | aaload =>
    simp only [exI, nx] at hs
    split at hs
    · rename_i j ci i o r
      cases hb : isRA ci (o + 1) with
      | true =>
        rw [hb] at hs
        simp only [cond_true] at hs
        split at hs
        · cases hs
        · cases hf : M.2.1 ci i (1000 + j.toNatClampNeg) <;> rw [hf] at hs <;> cases hs
      | false => rw [hb] at hs; cases hs
    · cases hs
  | aastore =>
    simp only [exI, nx] at hs
    split at hs
    · rename_i y j ci i o r
      cases hb : isRA ci (o + 1) with
      | true => rw [hb] at hs; simp only [cond_true] at hs; split at hs <;> cases hs
      | false => rw [hb] at hs; cases hs
    · cases hs
  | dup =>
    simp only [exI, nx] at hs
    split at hs
    · rename_i y r
      cases hb : isL y <;> rw [hb] at hs <;> cases hs
    · cases hs
  | dup2 =>
    simp only [exI, nx] at hs
    split at hs
    · rename_i y y2 r
      cases hb : (isL y || isL y2) <;> rw [hb] at hs <;> cases hs
    · cases hs
  | new n =>
    simp only [exI, nx] at hs
    split at hs
    · rename_i ci i ho
      cases hb : ci.beq a <;> rw [hb] at hs <;> cases hs
    · cases hs
  | invokevirtual n =>
    simp only [exI] at hs
    split at hs
    · rename_i ci i r hq
      cases hb : (ci.beq c && r.length.ble 4) <;> rw [hb] at hs <;> cases hs
    · cases hs
  | invokespecial n =>
    simp only [exI, nx] at hs
    split at hs
    · split at hs
      · rename_i y r
        cases hb : r.length.ble 4 <;> rw [hb] at hs <;> cases hs
      · cases hs
    · split at hs
      · rename_i i r hq
        cases hb : r.length.ble 4 <;> rw [hb] at hs <;> cases hs
      · cases hs
  | invokestatic n =>
    simp only [exI, nx] at hs
    split at hs
    · split at hs
      · rename_i k dp c1 i1 o1 sp c0 i0 o0 r
        cases hb : (isIA c1 (o1 + 1) && isIA c0 (o0 + 1) && r.length.ble 4) with
        | true => rw [hb] at hs; simp only [cond_true] at hs; split at hs <;> cases hs
        | false => rw [hb] at hs; cases hs
      · cases hs
    · cases hb : ((st.drop b).length.ble 4 && b.ble st.length) <;> rw [hb] at hs <;> cases hs
  | _ => first | cases hs | (simp only [exI, bin, binL, nx] at hs; (repeat' split at hs) <;> cases hs)
theorem G_ret {l : Launch} {X : XT} {d mi : Nat} {S : St} {v : Option AV} {M' : Mem} (hs : stI (mdOf mi) S = some (.inr (.inr (v, M')))) : Good l X d (mdOf mi) S v M' := by
  obtain ⟨pc, L, st, M⟩ := S
  obtain ⟨ins, len, a, b, c, x, z, ks, hdc, hx, hs⟩ := st_row hs
  have key : M' = M ∧ (v = none ∨ ∃ z : Int32, v = some (.inl z)) ∧ st = v.toList ∧ RT (mdOf mi) pc v := by
    cases ins with
    | ireturn =>
      simp only [okX, decide_eq_true_eq] at hx
      subst hx
      simp only [exI] at hs
      split at hs
      · split at hs
        · rename_i e
          cases hs
          exact ⟨rfl, Or.inr ⟨_, rfl⟩, rfl, Or.inl ⟨hdc, _, _, rfl, e, rfl⟩⟩
        · rename_i e
          split at hs
          · rename_i hz
            cases hs
            exact ⟨rfl, Or.inr ⟨_, rfl⟩, rfl, Or.inl ⟨hdc, _, _, rfl, e, (bool_nar hz).1⟩⟩
          · cases hs
        · cases hs
      · cases hs
    | return_ =>
      simp only [okX, decide_eq_true_eq] at hx
      subst hx
      simp only [exI] at hs
      split at hs
      · split at hs
        · rename_i e
          cases hs
          exact ⟨rfl, Or.inl rfl, rfl, Or.inr ⟨hdc, rfl, e⟩⟩
        · cases hs
      · cases hs
    | _ => exact absurd hs (not_ret (by rfl))
  obtain ⟨rfl, gv, hst, hrt⟩ := key
  refine ⟨Nat.le_refl _, gv, fun p e R s m args below meth c Q H locs cells slots ls hP hz hc hs hS hV hL hk hR => ?_⟩
  have hR : KR l X (mdOf mi) v M' p e R s m args below meth c Q (cells + (M'.1 - M'.1)) (slots + (sl M'.1 - sl M'.1)) := hR
  rw [Nat.sub_self, Nat.sub_self] at hR
  have := hR H locs pc ls hS hV hrt
  show W p l e R s m args below meth c H locs cells slots Q (F0 m pc ls (st.map (tv X)))
  rw [hst]
  exact this
end
section
/-! a method's contract out of the small machine's run of it -/
theorem Met.ofWF {l : Launch} {y : MethodName} {ws ws' : List Cond} {rm : Room} {Pc : Array Value → State → Prop} {Qc : Array Value → State → Outcome → State → Prop} {mc ms : Nat} {free : Addr → Prop} {cc : ByteArray} {maxL : Nat} {ret : Option FieldType}
    (hy : plainFor y = true) (hw : ws = Cond.code y cc maxL ret :: ws')
    (body : ∀ p e s m args below meth c s₁, BodyLoose p l y (headSpec ws rm) cc maxL ret e s m args below meth c s₁ → c.maxLocals = maxL → Pc args s →
      W p l e (headSpec ws rm).room s m args below meth c s.heap [] 0 0 (MQ below Qc args s mc ms free) (entryFrame m args maxL)) : Met l y ws rm Pc Qc mc ms free := by
  refine MetFree.of_bodySF (code := cc) (maxLocals := maxL) (ret := ret) hy ?_ ?_
  · intro args s m h hn
    obtain ⟨meth, c, h1, h2, h3, h4, h5, h6, -, -⟩ := Cond.code_spec hn (atoms_spec (ws := ws) h _ (by rw [hw]; exact List.mem_cons_self))
    exact ⟨meth, c, h1, h2, h3, h4, h5, h6⟩
  · intro p e s m args below meth c s₁ B hml hP _
    have hh0 : s₁.heap = s.heap := by rw [B.state]; rfl
    obtain ⟨t, a1, o, b1, b2, b3⟩ := body p e s m args below meth c s₁ B hml hP s₁ hh0 (Stand.of_body B)
    exact ⟨t, o, a1, b1, b2, ⟨b3.1, b3.2⟩⟩
def wsOf (mi : Nat) : List Cond := Cond.code (mdOf mi).2.1 (mdOf mi).2.2.1 (mdOf mi).2.2.2.1 (mdOf mi).2.2.2.2.1 :: gT
def rmOf (d n n' : Nat) : Room := { frames := d, cells := n' - n, slots := sl n' - sl n, locals := 30 * d }
def bO (X : XT) (M : Mem) (U : State) : Prop := Sim X M U.heap ∧ U.heap.size = xB X + M.1 ∧ va_K (xD X) vwCl (xT X) U ∧ XW U ∧ (va_X (xb X) (xL X) (xs X) U U.heap ∧ xb X < U.heap.size ∧ xb X < xB X)
def qO (X : XT) (v : Option AV) (M1 : Mem) : Array Value → State → Outcome → State → Prop := fun _ st o t => o = .returned (v.map (tv X)) ∧ Sim X M1 t.heap ∧ va_F (xA X) st t
theorem sl_one {vs : List Value} (h : ∀ v ∈ vs, ¬ v.category = 2) : lg_sl vs = vs.map Slot.val := by
  unfold lg_sl
  induction vs with
  | nil => rfl
  | cons v r ih =>
    rw [List.flatMap_cons, if_neg (h v List.mem_cons_self), ih (fun w hw => h w (List.mem_cons_of_mem _ hw))]
    rfl
theorem lx_entry {X : XT} {n nL : Nat} {as : List AV} (hl : as.length ≤ nL) (h1 : ∀ x ∈ as, isL x = false) (hk : ∀ x ∈ as, okV n x) : LX X nL n (as.map some ++ List.replicate (nL - as.length) none) ((lg_sl (as.map (tv X)) ++ List.replicate (nL - (lg_sl (as.map (tv X))).length) Slot.unset).toArray) := by
  have e := sl_one (vs := as.map (tv X)) (fun v hv => by
    obtain ⟨x, hx, rfl⟩ := List.mem_map.mp hv
    rw [cat_tv, h1 x hx]; decide)
  have hL := lv_entry (as.map (tv X)) (n := nL) (by rw [e]; simpa using hl)
  refine ⟨hL.1, hL.2.1, fun i v hi => ?_⟩
  have hi2 : i < as.length := by
    rcases Nat.lt_or_ge i as.length with q | q
    · exact q
    · rw [List.getElem?_append_right (by simpa using q)] at hi
      have := List.eq_of_mem_replicate (List.mem_of_getElem? hi)
      cases this
  rw [List.getElem?_append_left (by simpa using hi2), List.getElem?_map] at hi
  have hv : as[i]? = some v := by
    cases hq : as[i]? with
    | none => rw [hq] at hi; cases hi
    | some u => rw [hq] at hi; cases hi; rfl
  refine ⟨?_, hk v (List.mem_of_getElem? hv)⟩
  rw [e, List.getElem?_toArray, List.getElem?_append_left (by simpa using hi2), List.getElem?_map, List.getElem?_map, hv]
  rfl
theorem met_of {l : Launch} {X : XT} {d mi : Nat} {as : List AV} {M M1 : Mem} {v : Option AV} (hmi : mi < 199) (hG : Good l X d (mdOf mi) (en (mdOf mi) as M) v M1) (hl : as.length ≤ (mdOf mi).2.2.2.1) (h1 : ∀ x ∈ as, isL x = false) (hk : ∀ x ∈ as, okV M.1 x) :
    Met l (mdOf mi).2.1 (wsOf mi) (rmOf d M.1 M1.1) (va_Pc (as.map (tv X)) (bO X M)) (qO X v M1) (M1.1 - M.1) (sl M1.1 - sl M.1) (xA X) := by
  obtain ⟨g1, gv, g2⟩ := hG
  refine Met.ofWF (cc := (mdOf mi).2.2.1) (maxL := (mdOf mi).2.2.2.1) (ret := (mdOf mi).2.2.2.2.1) (tb_pf hmi) rfl ?_
  intro p e s m args below meth c s₁ B hml hv
  obtain ⟨rfl, hS, hz, hK, hXW, hX⟩ := hv
  have hts := atoms_spec (ws := wsOf mi) B.pre
  have hlocks := B.notSynchronized
  have hnm := (name_of_methodNamed B.named B.method).1
  have hPR : PR X d (mdOf mi) p (headSpec (wsOf mi) (rmOf d M.1 M1.1)).room s m (as.map (tv X)).toArray meth c := by
    refine ⟨B.exec, B.bytes, hml, ?_, fun w hw => hts w (List.mem_cons_of_mem _ hw), hK, fun h => ?_, by omega, hXW, hX, Nat.le_refl _, Nat.le_refl _⟩
    · rw [← tb_cls hmi]; exact findClass_of_methodNamed B.named
    · rw [hnm]; exact (tb_m2 mi hmi).1 h
  rw [lg_entry_eq]
  refine g2 p e (headSpec (wsOf mi) (rmOf d M.1 M1.1)).room s m (as.map (tv X)).toArray below meth c (MQ below (qO X v M1) (as.map (tv X)).toArray s (M1.1 - M.1) (sl M1.1 - sl M.1) (xA X)) s.heap [] 0 0 _ hPR (by show s.heap.size + 0 = xB X + M.1; omega) (by show 0 + (M1.1 - M.1) ≤ M1.1 - M.1; omega) (by show 0 + (sl M1.1 - sl M.1) ≤ sl M1.1 - sl M.1; omega) hS va_S.rf (lx_entry hl h1 hk) (fun x hx => by cases hx) ?_
  show KR l X (mdOf mi) v M1 p e (headSpec (wsOf mi) (rmOf d M.1 M1.1)).room s m (as.map (tv X)).toArray below meth c _ (0 + (M1.1 - M.1)) (0 + (sl M1.1 - sl M.1))
  rw [Nat.zero_add, Nat.zero_add]
  intro H' locs' pc' ls' hS' hV' hrt
  rcases hrt with ⟨hd, x, ty, rfl, hr, hn⟩ | ⟨hd, rfl, hr⟩
  · exact W.zret (v := x) B.exec B.bytes (B.returns.trans hr) hn (fun t ht hW => ⟨rfl, by rw [ht]; exact hS', hV'.F ht⟩) hV'.2.2 hd
  · exact W.vret B.exec B.bytes (B.returns.trans hr) (fun t ht hW => ⟨rfl, by rw [ht]; exact hS', hV'.F ht⟩) hV'.2.2 hd
theorem gd_ws {l : List Cond} (h : ∀ w ∈ l, w ∈ gT) : GoodIn gT l := fun w hw => ⟨h w hw, good_of_word (List.mem_filter.mp (h w hw)).2⟩
theorem ws_in {mi : Nat} (hmi : mi < 199) : ∀ w ∈ wsOf mi, w ∈ gT := by
  intro w hw
  rcases List.mem_cons.mp hw with rfl | h
  · exact gT_in (pick_of tb_CW0 mi (tb_CWn mi hmi)) rfl
  · exact h
theorem bO_blind {X : XT} {M : Mem} {as : List Value} : FrameBlind (va_Pc as (bO X M)) := by
  intro a U g mk h
  obtain ⟨h0, h1, h2, h3, h4, h5⟩ := h
  have hvm : U.vm.Alike (U.calling g mk a).vm := Vm.Alike.refl U.vm
  exact ⟨h0, h1, h2, va_K.moved (u := U) (U := U.calling g mk a) hvm h3, ⟨fun q hq => va_Nw.same rfl (rfl : U.vm = (U.calling g mk a).vm) (h4.1 q hq), va_AO.moved (u := U) (U := U.calling g mk a) hvm h4.2.1, va_AO.moved (u := U) (U := U.calling g mk a) hvm h4.2.2⟩, va_X.moved (u := U) (U := U.calling g mk a) hvm h5.1, h5.2⟩
theorem bO_at {X : XT} {d : Nat} {md : MD} {M : Mem} {p : Program} {R : Room} {s U : State} {m : MethodId} {args : Array Value} {meth : Method} {c : Code} {H : Heap} {locs : List Loc} (hP : PR X d md p R s m args meth c) (hS : Sim X M H) (hV : va_S (xA X) s.heap H locs) (hsz : H.size = xB X + M.1) (hU : U.heap = H) (hW : s.WarmedH U.vm) : bO X M U := by
  obtain ⟨hX, hb1, hb2⟩ := hP.2.2.2.2.2.2.2.2.2.1
  refine ⟨by rw [hU]; exact hS, by rw [hU]; exact hsz, va_K.moved hW.alike hP.2.2.2.2.2.1, ⟨fun q hq => va_Nw.warmM hW (hP.2.2.2.2.2.2.2.2.1.1 q hq), va_AO.moved hW.alike hP.2.2.2.2.2.2.2.2.1.2.1, va_AO.moved hW.alike hP.2.2.2.2.2.2.2.2.1.2.2⟩, ?_, ?_, hb2⟩
  · rw [hU]
    exact (hX.kept (hV.2.1 _ hb1 (Nat.not_le.mpr hb2))).moved hW.alike
  · rw [hU]
    exact Nat.lt_of_lt_of_le hb1 hV.1
/-- behind a call -/
theorem G_back {l : Launch} {X : XT} {d : Nat} {md : MD} {pc : Nat} {L : List (Option AV)} {st r : List AV} {M M1 M' : Mem} {v1 v : Option AV} (g1 : M.1 ≤ M1.1) (gv1 : v1 = none ∨ ∃ z : Int32, v1 = some (.inl z)) (hr : ∀ x ∈ r, x ∈ st) (hG : Good l X d md (af v1 (pc + 3, L, r, M) M1) v M')
    (h : ∀ (p : Program) (e : Env) (R : Room) (s : State) (m : MethodId) (args : Array Value) (below : List Frame) (meth : Method) (c : Code) (H : Heap) (locs : List Loc) (cells slots : Nat) (ls : Array Slot),
      PR X d md p R s m args meth c → Sim X M H → va_S (xA X) s.heap H locs → H.size = xB X + M.1 → LX X md.2.2.2.1 M.1 L ls → (∀ x ∈ st, okV M.1 x) → cells + (M1.1 - M.1) ≤ R.cells → slots + (sl M1.1 - sl M.1) ≤ R.slots →
      ∃ (a : Array Value), va_Run p l e R s m args below meth c H locs cells slots (M1.1 - M.1) (sl M1.1 - sl M.1) (F0 m pc ls (st.map (tv X))) (r.map (tv X)) (qO X v1 M1 a) (xA X)) : Good l X d md (pc, L, st, M) v M' := by
  obtain ⟨g2, gv, g3⟩ := hG
  have g2 : M1.1 ≤ M'.1 := g2
  have hm1 : sl M.1 ≤ sl M1.1 := sl_mono g1
  have hm2 : sl M1.1 ≤ sl M'.1 := sl_mono g2
  refine ⟨show M.1 ≤ M'.1 by omega, gv, fun p e R s m args below meth c Q H locs cells slots ls hP hz hc hs hS hV hL hk hR => ?_⟩
  have hz : s.heap.size + cells = xB X + M.1 := hz
  have hc : cells + (M'.1 - M.1) ≤ R.cells := hc
  have hs : slots + (sl M'.1 - sl M.1) ≤ R.slots := hs
  have hR : KR l X md v M' p e R s m args below meth c Q (cells + (M'.1 - M.1)) (slots + (sl M'.1 - sl M.1)) := hR
  refine W_size (fun hle => ?_)
  have hsz := sim_size hS hV hz hP.2.2.2.2.2.2.2.1 hle
  obtain ⟨a, hrun⟩ := h p e R s m args below meth c H locs cells slots ls hP hS hV hsz hL hk (by omega) (by omega)
  intro T hT Xt
  obtain ⟨v', st₀, t, T', L', h0, X', hL', e1, e2, ⟨hq1, hq2, hz1, hk1⟩, go⟩ := hrun T hT Xt
  have ev : v' = v1.map (tv X) := by cases hq1; rfl
  subst ev
  rw [h0] at hz1 hk1
  have hV' : va_S (xA X) s.heap T'.heap (locs ++ L') := by
    refine ⟨Nat.le_trans hV.1 (by rw [e1]; exact hz1), fun q q1 q2 => ?_, fun q hq => ?_⟩
    · rw [e1, hk1 q (Nat.lt_of_lt_of_le q1 hV.1) q2]; exact hV.2.1 q q1 q2
    · rcases List.mem_append.mp hq with h | h
      · exact hV.2.2 q h
      · exact hL' q h
  have hok : ∀ x ∈ v1.toList ++ r, okV M1.1 x := by
    intro x hx
    rcases List.mem_append.mp hx with h | h
    · rcases gv1 with rfl | ⟨z, rfl⟩
      · cases h
      · rw [show x = .inl z by simpa using h]; trivial
    · exact okV_mono g1 (hk x (hr x h))
  obtain ⟨t2, a1, b1⟩ := g3 p e R s m args below meth c Q T'.heap (locs ++ L') (cells + (M1.1 - M.1)) (slots + (sl M1.1 - sl M.1)) ls hP (show s.heap.size + (cells + (M1.1 - M.1)) = xB X + M1.1 by omega) (show (cells + (M1.1 - M.1)) + (M'.1 - M1.1) ≤ R.cells by omega) (show (slots + (sl M1.1 - sl M.1)) + (sl M'.1 - sl M1.1) ≤ R.slots by omega) (show Sim X M1 T'.heap by rw [e1]; exact hq2) hV' (hL.mono g1) hok (by
    show KR l X md v M' p e R s m args below meth c Q ((cells + (M1.1 - M.1)) + (M'.1 - M1.1)) ((slots + (sl M1.1 - sl M.1)) + (sl M'.1 - sl M1.1))
    rw [show (cells + (M1.1 - M.1)) + (M'.1 - M1.1) = cells + (M'.1 - M.1) by omega, show (slots + (sl M1.1 - sl M.1)) + (sl M'.1 - sl M1.1) = slots + (sl M'.1 - sl M.1) by omega]
    exact hR) T' rfl X'
  refine ⟨t2, go t2 ?_, b1⟩
  have e5 : (v1.map (tv X)).toList ++ r.map (tv X) = (v1.toList ++ r).map (tv X) := by
    cases v1 <;> simp
  show Steps p.tables e below (T'.setTop (F0 m (pc + 3) ls ((v1.map (tv X)).toList ++ r.map (tv X)))) t2
  rw [e5]
  exact a1
end
section
theorem all_isL {as : List AV} (h : as.all (fun x => !isL x) = true) : ∀ x ∈ as, isL x = false := by
  intro x hx
  have := List.all_eq_true.mp h x hx
  simpa using this
theorem tb_ini {mi : Nat} (hmi : mi < 199) : Cond.initialized (mdOf mi).2.1.cls ∈ gT := by
  rw [tb_cls hmi]
  exact gT_in (pick_of tb_IN0 _ (tb_INn _ (by have := (tb_m1 mi hmi).1; omega))) rfl
theorem tb_no {mi : Nat} (hmi : mi < 199) : (mdOf mi).2.1.cls ≠ "java/lang/invoke/MethodHandle" ∧ (mdOf mi).2.1.cls ≠ "java/lang/invoke/VarHandle" ∧ (parseMethodDescriptor (mdOf mi).2.1.desc).map (fun d => d.parameters.length) = some (npT.getD mi 0) := by
  have h := tb_nh (mdOf mi).1 (by have := (tb_m1 mi hmi).1; omega)
  rw [tb_cls hmi]
  exact ⟨h.1, h.2, tb_np hmi⟩
theorem lo_room {X : XT} {d mi : Nat} {md : MD} {p : Program} {R : Room} {s : State} {m : MethodId} {args : Array Value} {meth : Method} {c : Code} {n n' : Nat} (hmi : mi < 199) (hP : PR X (d + 1) md p R s m args meth c) : (rmOf d n n').frames + 1 ≤ R.frames ∧ 8 + ((mdOf mi).2.2.2.1 + 11) + (rmOf d n n').locals ≤ R.locals := by
  have h1 := hP.2.2.2.2.2.2.2.2.2.2.1
  have h2 := hP.2.2.2.2.2.2.2.2.2.2.2
  have h3 := (tb_m1 mi hmi).2.1
  exact ⟨h1, by show 8 + ((mdOf mi).2.2.2.1 + 11) + 30 * d ≤ R.locals; omega⟩
theorem rest_room {X : XT} {m : MethodId} {pc : Nat} {ls : Array Slot} {q : List Value} {r : List AV} (h : r.length ≤ 4) : 2 * (F0 m pc ls q).monitorRoom + ((r.map (tv X)).map fun v => v.category).sum ≤ 8 := by
  have := cat_le X r
  show 2 * 0 + _ ≤ 8
  omega
def isInv : Instr → Bool
  | .invokevirtual _ => true
  | .invokespecial _ => true
  | .invokestatic _ => true
  | _ => false
theorem not_call {ret : Option FieldType} {ins : Instr} {len a b c : Nat} {x : Int32} {z : Int64} {ks : List (Int32 × Nat)} {pc : Nat} {L : List (Option AV)} {st : List AV} {M : Mem} {q : Nat × List AV × St} (h : isInv ins = false) : ¬ exI ret ins len a b c x z ks pc L st M = some (.inr (.inl q)) := by
  intro hs
  cases ins with
  | invokevirtual n => cases h
  | invokespecial n => cases h
  | invokestatic n => cases h
  | ireturn =>
    simp only [exI] at hs
    split at hs
    · split at hs
      · cases hs
      · split at hs <;> cases hs
      · cases hs
    · cases hs
  | return_ =>
    simp only [exI] at hs
    split at hs
    · split at hs <;> cases hs
    · cases hs
  | if_icmp op off =>
    simp only [exI, cmpI, nx] at hs
    split at hs
    · cases op <;> (simp only at hs; split at hs <;> cases hs)
    · cases hs
  | ifCond op off =>
    simp only [exI, cmpI, nx] at hs
    split at hs
    · cases op <;> (simp only at hs; split at hs <;> cases hs)
    · cases hs
  | getfield n =>
    simp only [exI, nx] at hs
    split at hs
    · rename_i ci i r
      cases hb : ci.beq a with
      | true =>
        rw [hb] at hs
        simp only [cond_true] at hs
        split at hs <;> cases hs
      | false => rw [hb] at hs; cases hs
    · cases hs
  | putfield n =>
    simp only [exI, nx] at hs
    split at hs
    · rename_i y ci i r
      cases hb : ci.beq a with
      | true =>
        rw [hb] at hs
        simp only [cond_true, exP, nx] at hs
        (repeat' split at hs) <;> cases hs
      | false => rw [hb] at hs; cases hs
    · cases hs
  | iaload =>
    simp only [exI, nx] at hs
    split at hs
    · rename_i j ci i o r
      cases hb : isIA ci o with
      | true => rw [hb] at hs; simp only [cond_true] at hs; split at hs <;> cases hs
      | false => rw [hb] at hs; cases hs
    · cases hs
  | iastore =>
    simp only [exI, nx] at hs
    split at hs
    · rename_i y j ci i o r
      cases hb : isIA ci (o + 1) with
      | true => rw [hb] at hs; simp only [cond_true] at hs; split at hs <;> cases hs
      | false => rw [hb] at hs; cases hs
    · cases hs
  | aaload =>
    simp only [exI, nx] at hs
    split at hs
    · rename_i j ci i o r
      cases hb : isRA ci (o + 1) with
      | true =>
        rw [hb] at hs
        simp only [cond_true] at hs
        split at hs
        · cases hs
        · cases hf : M.2.1 ci i (1000 + j.toNatClampNeg) <;> rw [hf] at hs <;> cases hs
      | false => rw [hb] at hs; cases hs
    · cases hs
  | aastore =>
    simp only [exI, nx] at hs
    split at hs
    · rename_i y j ci i o r
      cases hb : isRA ci (o + 1) with
      | true => rw [hb] at hs; simp only [cond_true] at hs; split at hs <;> cases hs
      | false => rw [hb] at hs; cases hs
    · cases hs
  | dup =>
    simp only [exI, nx] at hs
    split at hs
    · rename_i y r
      cases hb : isL y <;> rw [hb] at hs <;> cases hs
    · cases hs
  | dup2 =>
    simp only [exI, nx] at hs
    split at hs
    · rename_i y y2 r
      cases hb : (isL y || isL y2) <;> rw [hb] at hs <;> cases hs
    · cases hs
  | new n =>
    simp only [exI, nx] at hs
    split at hs
    · rename_i ci i ho
      cases hb : ci.beq a <;> rw [hb] at hs <;> cases hs
    · cases hs
  | _ => first | cases hs | (simp only [exI, bin, binL, nx] at hs; (repeat' split at hs) <;> cases hs)
set_option maxHeartbeats 4000000 in
theorem G_callV {l : Launch} {X : XT} {d mi cm pc : Nat} {L : List (Option AV)} {st : List AV} {M : Mem} {S1 : St} {as : List AV} {v1 v : Option AV} {M1 M' : Mem} {len a b c' : Nat} {x : Int32} {z : Int64} {ks : List (Int32 × Nat)} {n : Nat} (hdc : decode (mdOf mi).2.2.1 pc = .ok (.invokevirtual n, len)) (hx : okX (mdOf mi).1 (mdOf mi).2.2.2.1 (mdOf mi).2.2.2.2.2.1 pc (.invokevirtual n) len a b c' x z ks = true) (hs : exI (mdOf mi).2.2.2.2.1 (.invokevirtual n) len a b c' x z ks pc L st M = some (.inr (.inl (cm, as, S1)))) (hl1 : as.all (fun x => !isL x) = true) (hC : Good l X d (mdOf cm) (en (mdOf cm) as S1.2.2.2) v1 M1) (hG : Good l X (d + 1) (mdOf mi) (af v1 S1 M1) v M') : Good l X (d + 1) (mdOf mi) (pc, L, st, M) v M' := by
  simp only [okX, Bool.and_eq_true, decide_eq_true_eq] at hx
  obtain ⟨⟨⟨⟨⟨rfl, hm⟩, hsk⟩, hnp⟩, hcl⟩, ha⟩ := hx
  simp only [exI] at hs
  split at hs
  · rename_i ci i r hdr
    cases hb : (ci.beq c' && r.length.ble 4) with
    | false => rw [hb] at hs; cases hs
    | true =>
      rw [hb] at hs
      cases hs
      simp only [Bool.and_eq_true] at hb
      have hci : ci = c' := beq_eq hb.1
      have hrl := ble_le hb.2
      subst hci
      have hst : st = st.take (b - 1) ++ (.inr (.inr (ci, i, 0)) :: r) := by rw [← hdr, List.take_append_drop]
      have htl : (st.take (b - 1)).length = npT.getD cm 0 := by
        have : (st.drop (b - 1)).length = r.length + 1 := by rw [hdr]; rfl
        rw [List.length_drop] at this
        rw [List.length_take]; omega
      have hmx := (tb_m1 cm ha).2.2.1
      rw [if_neg (by omega)] at hmx
      refine G_back hC.1 hC.2.1 (fun y hy => by rw [hst]; exact List.mem_append_right _ (List.mem_cons_of_mem _ hy)) hG (fun p e R s m args below meth c H locs cells slots ls hP hS hV hsz hL hk hcc hss => ?_)
      have hok : ∀ y ∈ Sum.inr (Sum.inr (ci, i, 0)) :: (st.take (b - 1)).reverse, okV M.1 y := by
        intro y hy
        rcases List.mem_cons.mp hy with rfl | h
        · exact hk _ (by rw [hst]; exact List.mem_append_right _ List.mem_cons_self)
        · exact hk y (List.mem_of_mem_take (List.mem_reverse.mp h))
      have hm10 := (tb_m1 cm ha).1
      have ho := okA_lt (hok _ List.mem_cons_self) (show ci ≠ 13 by omega)
      have hM := met_of (X := X) ha hC (by simp only [List.length_cons, List.length_reverse]; omega) (all_isL hl1) hok
      refine ⟨_, va_runV (own := rN (mdOf mi).1) (C := rN (mdOf cm).1) (As := ((st.take (b - 1)).reverse).map (tv X)) (b := aR X (ci, i, 0)) (n := npT.getD cm 0) (g := F0 m pc ls (st.map (tv X))) ⟨hP.1, hP.2.1, hP.2.2.1, hP.2.2.2.1, hP.2.2.2.2.1⟩ hM (cwV (npT.getD cm 0) hP.2.2.2.2.1 (gd_ws ?_) rfl rfl rfl ⟨tb_cls ha, tb_no ha⟩ (lo_room ha hP)) ⟨bO_blind, ?_, fun U hU hW => ⟨rfl, bO_at hP hS hV hsz hU hW⟩⟩ rfl (by rw [List.length_map, List.length_reverse]; exact htl) hL.1 ?_ (rest_room hrl) hdc ⟨hcc, hss⟩⟩
      · intro w hw
        unfold wsV at hw
        rcases List.mem_append.mp hw with h | h
        · simp only [List.mem_cons, List.not_mem_nil, or_false] at h
          rcases h with rfl | rfl | rfl | rfl
          · exact gT_in (pick_of tb_ML0 _ hm) rfl
          · exact gT_in (pick_of tb_IM0 _ (tb_IMn cm ha (by omega))) rfl
          · exact gT_in (pick_of tb_SE0 _ (tb_SEn cm ha hsk)) rfl
          · have := tb_ini ha
            rw [tb_cls ha] at this; exact this
        · exact ws_in ha w h
      · have h := va_recv (s := s) (D := xD X) hP.2.2.2.2.2.1 hS.2.1 (tb_cl ci ho.1) (wld_at ho.2 hS.1)
        rw [aR_eq ho.1, show (mdOf cm).1 = ci from hcl]
        exact h
      · show st.map (tv X) = (((st.take (b - 1)).reverse).map (tv X)).reverse ++ .ref (aR X (ci, i, 0)) :: r.map (tv X)
        rw [← List.map_reverse, List.reverse_reverse]
        conv => lhs; rw [hst, List.map_append]
        rfl
  · cases hs
set_option maxHeartbeats 4000000 in
theorem G_callS {l : Launch} {X : XT} {d mi cm pc : Nat} {L : List (Option AV)} {st : List AV} {M : Mem} {S1 : St} {as : List AV} {v1 v : Option AV} {M1 M' : Mem} {len a b c' : Nat} {x : Int32} {z : Int64} {ks : List (Int32 × Nat)} {n : Nat} (hdc : decode (mdOf mi).2.2.1 pc = .ok (.invokestatic n, len)) (hx : okX (mdOf mi).1 (mdOf mi).2.2.2.1 (mdOf mi).2.2.2.2.2.1 pc (.invokestatic n) len a b c' x z ks = true) (hs : exI (mdOf mi).2.2.2.2.1 (.invokestatic n) len a b c' x z ks pc L st M = some (.inr (.inl (cm, as, S1)))) (hl1 : as.all (fun x => !isL x) = true) (hC : Good l X d (mdOf cm) (en (mdOf cm) as S1.2.2.2) v1 M1) (hG : Good l X (d + 1) (mdOf mi) (af v1 S1 M1) v M') : Good l X (d + 1) (mdOf mi) (pc, L, st, M) v M' := by
  simp only [okX, Bool.and_eq_true, decide_eq_true_eq] at hx
  obtain ⟨rfl, hx⟩ := hx
  simp only [exI, nx] at hs
  split at hs
  · split at hs
    · rename_i k dp c1 i1 o1 sp c0 i0 o0 r
      cases hb : (isIA c1 (o1 + 1) && isIA c0 (o0 + 1) && r.length.ble 4) with
      | true => rw [hb] at hs; simp only [cond_true] at hs; split at hs <;> cases hs
      | false => rw [hb] at hs; cases hs
    · cases hs
  · rename_i hc1
    have hb1 : c'.beq 1 = false := by
      cases hq : c'.beq 1 with
      | true => exact absurd (beq_eq hq) hc1
      | false => rfl
    rw [hb1] at hx
    simp only [cond_false, Bool.and_eq_true, decide_eq_true_eq] at hx
    obtain ⟨⟨⟨hm, hsk⟩, hnp⟩, ha⟩ := hx
    cases hbb : ((st.drop b).length.ble 4 && b.ble st.length) with
    | false => rw [hbb] at hs; cases hs
    | true =>
      rw [hbb] at hs
      cases hs
      simp only [Bool.and_eq_true] at hbb
      have hrl := ble_le hbb.1
      have hb2 := ble_le hbb.2
      have hmx := (tb_m1 cm ha).2.2.1
      rw [if_pos hsk] at hmx
      by_cases hlen : b ≤ st.length
      · have htl : (st.take b).length = npT.getD cm 0 := by rw [List.length_take]; omega
        refine G_back hC.1 hC.2.1 (fun y hy => List.mem_of_mem_drop hy) hG (fun p e R s m args below meth c H locs cells slots ls hP hS hV hsz hL hk hcc hss => ?_)
        have hok : ∀ y ∈ (st.take b).reverse, okV M.1 y := fun y hy => hk y (List.mem_of_mem_take (List.mem_reverse.mp hy))
        have hM := met_of (X := X) ha hC (by rw [List.length_reverse]; omega) (all_isL hl1) hok
        refine ⟨_, va_runS (own := rN (mdOf mi).1) (As := ((st.take b).reverse).map (tv X)) (n := npT.getD cm 0) (g := F0 m pc ls (st.map (tv X))) ⟨hP.1, hP.2.1, hP.2.2.1, hP.2.2.2.1, hP.2.2.2.2.1⟩ hM ⟨callB_of (npT.getD cm 0) hP.2.2.2.2.1 (gd_ws (ws_in ha)) rfl rfl rfl (hP.2.2.2.2.1 _ (tb_ini ha)) (hP.2.2.2.2.1 _ (gT_in (pick_of tb_ML0 _ hm) rfl)) (tb_no ha) (lo_room ha hP), hP.2.2.2.2.1 _ (gT_in (pick_of tb_SM0 _ (tb_SMn cm ha hsk)) rfl)⟩ ⟨bO_blind, fun U hU hW => ⟨rfl, bO_at hP hS hV hsz hU hW⟩⟩ rfl (by rw [List.length_map, List.length_reverse]; exact htl) hL.1 ?_ (rest_room hrl) hdc ⟨hcc, hss⟩⟩
        show st.map (tv X) = (((st.take b).reverse).map (tv X)).reverse ++ (st.drop b).map (tv X)
        rw [← List.map_reverse, List.reverse_reverse, ← List.map_append, List.take_append_drop]
      · exact absurd hb2 hlen
set_option maxHeartbeats 4000000 in
theorem G_callI {l : Launch} {X : XT} {d mi cm pc : Nat} {L : List (Option AV)} {st : List AV} {M : Mem} {S1 : St} {as : List AV} {v1 v : Option AV} {M1 M' : Mem} {len a b c' : Nat} {x : Int32} {z : Int64} {ks : List (Int32 × Nat)} {n : Nat} (hdc : decode (mdOf mi).2.2.1 pc = .ok (.invokespecial n, len)) (hx : okX (mdOf mi).1 (mdOf mi).2.2.2.1 (mdOf mi).2.2.2.2.2.1 pc (.invokespecial n) len a b c' x z ks = true) (hs : exI (mdOf mi).2.2.2.2.1 (.invokespecial n) len a b c' x z ks pc L st M = some (.inr (.inl (cm, as, S1)))) (hl1 : as.all (fun x => !isL x) = true) (hC : Good l X d (mdOf cm) (en (mdOf cm) as S1.2.2.2) v1 M1) (hG : Good l X (d + 1) (mdOf mi) (af v1 S1 M1) v M') : Good l X (d + 1) (mdOf mi) (pc, L, st, M) v M' := by
  simp only [okX, Bool.and_eq_true, decide_eq_true_eq] at hx
  obtain ⟨rfl, hx⟩ := hx
  simp only [exI, nx] at hs
  split at hs
  · split at hs
    · rename_i y r
      cases hb : r.length.ble 4 <;> rw [hb] at hs <;> cases hs
    · cases hs
  · rename_i hc1
    have hb1 : c'.beq 1 = false := by
      cases hq : c'.beq 1 with
      | true => exact absurd (beq_eq hq) hc1
      | false => rfl
    rw [hb1] at hx
    simp only [cond_false, Bool.and_eq_true, Bool.or_eq_true, decide_eq_true_eq] at hx
    obtain ⟨⟨⟨hm, hsk⟩, hnp⟩, ha⟩ := hx
    split at hs
    · rename_i ci i r hdr
      cases hb : r.length.ble 4 with
      | false => rw [hb] at hs; cases hs
      | true =>
        rw [hb] at hs
        cases hs
        have hrl := ble_le hb
        have hst : st = st.take (b - 1) ++ (.inr (.inr (ci, i, 0)) :: r) := by rw [← hdr, List.take_append_drop]
        have htl : (st.take (b - 1)).length = npT.getD cm 0 := by
          have : (st.drop (b - 1)).length = r.length + 1 := by rw [hdr]; rfl
          rw [List.length_drop] at this
          rw [List.length_take]; omega
        have hmx := (tb_m1 cm ha).2.2.1
        rw [if_neg (by omega)] at hmx
        have hret := ((tb_m1 cm ha).2.2.2 hsk).1
        refine G_back hC.1 hC.2.1 (fun y hy => by rw [hst]; exact List.mem_append_right _ (List.mem_cons_of_mem _ hy)) hG (fun p e R s m args below meth c H locs cells slots ls hP hS hV hsz hL hk hcc hss => ?_)
        have hok : ∀ y ∈ Sum.inr (Sum.inr (ci, i, 0)) :: (st.take (b - 1)).reverse, okV M.1 y := by
          intro y hy
          rcases List.mem_cons.mp hy with rfl | h
          · exact hk _ (by rw [hst]; exact List.mem_append_right _ List.mem_cons_self)
          · exact hk y (List.mem_of_mem_take (List.mem_reverse.mp h))
        have hM := met_of (X := X) ha hC (by simp only [List.length_cons, List.length_reverse]; omega) (all_isL hl1) hok
        have hw : wsOf cm = Cond.code (mdOf cm).2.1 (mdOf cm).2.2.1 (mdOf cm).2.2.2.1 none :: gT := by unfold wsOf; rw [hret]
        have hstk : st.map (tv X) = (((st.take (b - 1)).reverse).map (tv X)).reverse ++ .ref (aR X (ci, i, 0)) :: r.map (tv X) := by
          rw [← List.map_reverse, List.reverse_reverse]
          conv => lhs; rw [hst, List.map_append]
          rfl
        rcases hm with hm | hm
        · exact ⟨_, va_runI (own := rN (mdOf mi).1) (As := ((st.take (b - 1)).reverse).map (tv X)) (b := aR X (ci, i, 0)) (n := npT.getD cm 0) (g := F0 m pc ls (st.map (tv X))) ⟨hP.1, hP.2.1, hP.2.2.1, hP.2.2.2.1, hP.2.2.2.2.1⟩ hM (cwI (npT.getD cm 0) hP.2.2.2.2.1 (gd_ws (ws_in ha)) hw rfl rfl (hP.2.2.2.2.1 _ (tb_ini ha)) (hP.2.2.2.2.1 _ (gT_in (pick_of tb_ML0 _ hm) rfl)) (hP.2.2.2.2.1 _ (gT_in (pick_of tb_IM0 _ (tb_IMn cm ha (by omega))) rfl)) ((tb_m2 cm ha).2 hsk) (tb_no ha) (lo_room ha hP)) ⟨bO_blind, fun U hU hW => ⟨rfl, bO_at hP hS hV hsz hU hW⟩⟩ rfl (by rw [List.length_map, List.length_reverse]; exact htl) hL.1 hstk (rest_room hrl) hdc ⟨hcc, hss⟩⟩
        · obtain ⟨q, hq, hq2⟩ := List.any_eq_true.mp hm
          obtain ⟨q1, q2, q3, q4⟩ := q
          simp only [Bool.and_eq_true, decide_eq_true_eq] at hq2
          obtain ⟨⟨rfl, rfl⟩, rfl⟩ := hq2
          exact ⟨_, va_runIN (own := rN (mdOf mi).1) (host := rN q4) (As := ((st.take (b - 1)).reverse).map (tv X)) (b := aR X (ci, i, 0)) (n := npT.getD q3 0) (g := F0 m pc ls (st.map (tv X))) ⟨hP.1, hP.2.1, hP.2.2.1, hP.2.2.2.1, hP.2.2.2.2.1⟩ hM ⟨va_cnB (npT.getD q3 0) hP.2.2.2.2.1 (gd_ws (ws_in ha)) hw rfl rfl (hP.2.2.2.2.2.2.2.2.1.1 _ hq) (hP.2.2.2.2.1 _ (tb_ini ha)) (tb_no ha) (lo_room ha hP), (tb_m2 q3 ha).2 hsk, hP.2.2.2.2.1 _ (gT_in (pick_of tb_IM0 _ (tb_IMn q3 ha (by omega))) rfl)⟩ ⟨bO_blind, fun U hU hW => ⟨rfl, bO_at hP hS hV hsz hU hW⟩⟩ rfl (by rw [List.length_map, List.length_reverse]; exact htl) hL.1 hstk (rest_room hrl) hdc ⟨hcc, hss⟩⟩
    · cases hs
theorem G_call {l : Launch} {X : XT} {d mi cm : Nat} {S S1 : St} {as : List AV} {v1 v : Option AV} {M1 M' : Mem} (hs : stI (mdOf mi) S = some (.inr (.inl (cm, as, S1)))) (hl1 : as.all (fun x => !isL x) = true) (hC : Good l X d (mdOf cm) (en (mdOf cm) as S1.2.2.2) v1 M1) (hG : Good l X (d + 1) (mdOf mi) (af v1 S1 M1) v M') : Good l X (d + 1) (mdOf mi) S v M' := by
  obtain ⟨pc, L, st, M⟩ := S
  have hs0 := st_row hs
  clear hs
  obtain ⟨ins, len, a, b, c', x, z, ks, hdc, hx, hs⟩ := hs0
  cases hi : isInv ins with
  | false => exact absurd hs (not_call hi)
  | true =>
    cases ins <;> first
      | exact G_callV hdc hx hs hl1 hC hG
      | exact G_callS hdc hx hs hl1 hC hG
      | exact G_callI hdc hx hs hl1 hC hG
      | cases hi
end
section
/-! what the small machine comes to, as a predicate -/
def WP (l : Launch) (X : XT) (d : Nat) (md : MD) (S : St) (Q : Option AV → Mem → Prop) : Prop := ∀ mi, md = mdOf mi → ∃ v M', Q v M' ∧ Good l X d md S v M'
theorem wp_next {l : Launch} {X : XT} {d : Nat} {md : MD} {S S' : St} {Q : Option AV → Mem → Prop} (h : stI md S = some (.inl S')) (K : WP l X (d + 1) md S' Q) : WP l X (d + 1) md S Q := fun mi e => by
  subst e
  obtain ⟨v, M', hq, hg⟩ := K mi rfl
  exact ⟨v, M', hq, G_next (by omega) h hg⟩
theorem wp_ret {l : Launch} {X : XT} {d : Nat} {md : MD} {S : St} {Q : Option AV → Mem → Prop} {v : Option AV} {M : Mem} (h : stI md S = some (.inr (.inr (v, M)))) (hq : Q v M) : WP l X d md S Q := fun mi e => by
  subst e
  exact ⟨v, M, hq, G_ret h⟩
theorem wp_call {l : Launch} {X : XT} {d cm : Nat} {md : MD} {S S1 : St} {as : List AV} {Q Q1 : Option AV → Mem → Prop} (h : stI md S = some (.inr (.inl (cm, as, S1)))) (hl : as.all (fun x => !isL x) = true) (C : WP l X d (mdOf cm) (en (mdOf cm) as S1.2.2.2) Q1) (K : ∀ v M, Q1 v M → WP l X (d + 1) md (af v S1 M) Q) : WP l X (d + 1) md S Q := fun mi e => by
  subst e
  obtain ⟨v1, M1, hq1, hg1⟩ := C cm rfl
  obtain ⟨v, M', hq, hg⟩ := K v1 M1 hq1 mi rfl
  exact ⟨v, M', hq, G_call h hl hg1 hg⟩
theorem wp_cons {l : Launch} {X : XT} {d : Nat} {md : MD} {S : St} {Q Q' : Option AV → Mem → Prop} (h : WP l X d md S Q) (hq : ∀ v M, Q v M → Q' v M) : WP l X d md S Q' := fun mi e => by
  obtain ⟨v, M', h1, h2⟩ := h mi e
  exact ⟨v, M', hq v M' h1, h2⟩
theorem good_mono {l : Launch} {X : XT} {d d' : Nat} {md : MD} {S : St} {v : Option AV} {M : Mem} (hd : d ≤ d') (h : Good l X d md S v M) : Good l X d' md S v M :=
  ⟨h.1, h.2.1, fun p e R s m args below meth c Q H locs cells slots ls hP => h.2.2 p e R s m args below meth c Q H locs cells slots ls (by
    obtain ⟨h1, h2, h3, h4, h5, h6, h7, h8, h9, h10, h11, h12⟩ := hP
    exact ⟨h1, h2, h3, h4, h5, h6, h7, h8, h9, h10, Nat.le_trans hd h11, Nat.le_trans (Nat.mul_le_mul_left 30 hd) h12⟩)⟩
theorem wp_mono {l : Launch} {X : XT} {d d' : Nat} {md : MD} {S : St} {Q : Option AV → Mem → Prop} (hd : d ≤ d') (h : WP l X d md S Q) : WP l X d' md S Q := fun mi e => by
  obtain ⟨v, M', h1, h2⟩ := h mi e
  exact ⟨v, M', h1, good_mono hd h2⟩
/-- what a run of the small machine comes to -/
theorem run_good {l : Launch} {X : XT} : ∀ (n d mi : Nat) (S : St) (v : Option AV) (M : Mem), run n d (mdOf mi) S = some (v, M) → Good l X (d + 1) (mdOf mi) S v M
  | 0, _, _, _, _, _, h => by simp [run] at h
  | n + 1, d, mi, S, v, M, h => by
    unfold run at h
    split at h
    · cases h
    · rename_i S' hs
      exact G_next (by omega) hs (run_good n d mi S' v M h)
    · rename_i r hs
      cases h
      exact G_ret hs
    · rename_i cm as S1 hs
      split at h
      · cases h
      · rename_i d'
        cases hb : (!(as.all (fun x => !isL x))) with
        | true => rw [hb] at h; cases h
        | false =>
          rw [hb] at h
          simp only [cond_false] at h
          have hl : as.all (fun x => !isL x) = true := by simpa using hb
          split at h
          · cases h
          · rename_i v1 M1 h1
            exact G_call hs hl (run_good n d' cm _ v1 M1 h1) (run_good n (d' + 1) mi _ v M h)
/-- a contract: arguments and memory, answer and memory -/
def CT (l : Launch) (X : XT) (d : Nat) (md : MD) (as : List AV) (M : Mem) (r : Option AV) (M1 : Mem) : Prop := WP l X d md (en md as M) (fun v M' => v = r ∧ M' = M1)
theorem CT.mono {l : Launch} {X : XT} {d d' : Nat} {md : MD} {as : List AV} {M M1 : Mem} {r : Option AV} (hd : d ≤ d') (h : CT l X d md as M r M1) : CT l X d' md as M r M1 := wp_mono hd h
end
section
theorem st_of {md : MD} {pc : Nat} {L : List (Option AV)} {st : List AV} {M : Mem} {ins : Instr} {len a b c : Nat} {v : Int32} {lg : Int64} {ks : List (Int32 × Nat)} (hr : cRow md.2.2.2.2.2.2 pc = some (ins, len, a, b, c, v, lg, ks)) : stI md (pc, L, st, M) = exI md.2.2.2.2.1 ins len a b c v lg ks pc L st M := by
  unfold stI
  have hr : cRow md.2.2.2.2.2.2 (pc, L, st, M).1 = some (ins, len, a, b, c, v, lg, ks) := hr
  rw [hr]
def isLo : Option AV → Bool
  | some (.inr (.inl _)) => true
  | _ => false
theorem lS_n {L : List (Option AV)} {k : Nat} {x : AV} (h : ∀ z, L[k]? = some z → isLo z = false) : lS L (k + 1) x = L.set (k + 1) (some x) := by
  show (match L[k]? with
    | some (some (.inr (.inl _))) => (L.set k none).set (k + 1) (some x)
    | _ => L.set (k + 1) (some x)) = _
  split
  · rename_i z hz
    have h9 := h _ hz
    cases h9
  · rfl
/-- the memory when all is made: the script's length, and all ints -/
abbrev mk (Lz : Nat) (w : Nat → Nat → Nat → Nat → Int32) : Mem := (279, fun _ _ _ => true, Lz, w)
theorem x_iconst {l : Launch} {X : XT} {d pc pc' : Nat} {md : MD} {len a b c : Nat} {v : Int32} {lg : Int64} {ks : List (Int32 × Nat)} {L : List (Option AV)} {st : List AV} {M : Mem} {Q : Option AV → Mem → Prop} {n : Int}  (hr : cRow md.2.2.2.2.2.2 pc = some (.iconst n, len, a, b, c, v, lg, ks)) (hp : pc + 1 = pc')  (K : WP l X (d + 1) md (pc', L, .inl v :: st, M) Q) : WP l X (d + 1) md (pc, L, st, M) Q := wp_next (by rw [st_of hr, ← hp]; rfl) K
theorem x_bipush {l : Launch} {X : XT} {d pc pc' : Nat} {md : MD} {len a b c : Nat} {v : Int32} {lg : Int64} {ks : List (Int32 × Nat)} {L : List (Option AV)} {st : List AV} {M : Mem} {Q : Option AV → Mem → Prop} {n : Int}  (hr : cRow md.2.2.2.2.2.2 pc = some (.bipush n, len, a, b, c, v, lg, ks)) (hp : pc + 2 = pc')  (K : WP l X (d + 1) md (pc', L, .inl v :: st, M) Q) : WP l X (d + 1) md (pc, L, st, M) Q := wp_next (by rw [st_of hr, ← hp]; rfl) K
theorem x_sipush {l : Launch} {X : XT} {d pc pc' : Nat} {md : MD} {len a b c : Nat} {v : Int32} {lg : Int64} {ks : List (Int32 × Nat)} {L : List (Option AV)} {st : List AV} {M : Mem} {Q : Option AV → Mem → Prop} {n : Int}  (hr : cRow md.2.2.2.2.2.2 pc = some (.sipush n, len, a, b, c, v, lg, ks)) (hp : pc + 3 = pc')  (K : WP l X (d + 1) md (pc', L, .inl v :: st, M) Q) : WP l X (d + 1) md (pc, L, st, M) Q := wp_next (by rw [st_of hr, ← hp]; rfl) K
theorem x_ldc {l : Launch} {X : XT} {d pc pc' : Nat} {md : MD} {len a b c : Nat} {v : Int32} {lg : Int64} {ks : List (Int32 × Nat)} {L : List (Option AV)} {st : List AV} {M : Mem} {Q : Option AV → Mem → Prop} {n : Nat}  (hr : cRow md.2.2.2.2.2.2 pc = some (.ldc n, len, a, b, c, v, lg, ks)) (hp : pc + 2 = pc')  (K : WP l X (d + 1) md (pc', L, .inl v :: st, M) Q) : WP l X (d + 1) md (pc, L, st, M) Q := wp_next (by rw [st_of hr, ← hp]; rfl) K
theorem x_ldc_w {l : Launch} {X : XT} {d pc pc' : Nat} {md : MD} {len a b c : Nat} {v : Int32} {lg : Int64} {ks : List (Int32 × Nat)} {L : List (Option AV)} {st : List AV} {M : Mem} {Q : Option AV → Mem → Prop} {n : Nat}  (hr : cRow md.2.2.2.2.2.2 pc = some (.ldc_w n, len, a, b, c, v, lg, ks)) (hp : pc + 3 = pc')  (K : WP l X (d + 1) md (pc', L, .inl v :: st, M) Q) : WP l X (d + 1) md (pc, L, st, M) Q := wp_next (by rw [st_of hr, ← hp]; rfl) K
theorem x_ldc2_w {l : Launch} {X : XT} {d pc pc' : Nat} {md : MD} {len a b c : Nat} {v : Int32} {lg : Int64} {ks : List (Int32 × Nat)} {L : List (Option AV)} {st : List AV} {M : Mem} {Q : Option AV → Mem → Prop} {n : Nat}  (hr : cRow md.2.2.2.2.2.2 pc = some (.ldc2_w n, len, a, b, c, v, lg, ks)) (hp : pc + 3 = pc')  (K : WP l X (d + 1) md (pc', L, .inr (.inl lg) :: st, M) Q) : WP l X (d + 1) md (pc, L, st, M) Q := wp_next (by rw [st_of hr, ← hp]; rfl) K
theorem x_iload_n {l : Launch} {X : XT} {d pc pc' : Nat} {md : MD} {len a b c : Nat} {v : Int32} {lg : Int64} {ks : List (Int32 × Nat)} {L : List (Option AV)} {st : List AV} {M : Mem} {Q : Option AV → Mem → Prop} {n : Fin 4} {x : Int32}  (hr : cRow md.2.2.2.2.2.2 pc = some (.iload_n n, len, a, b, c, v, lg, ks)) (hp : pc + 1 = pc') (hl : L[a]? = some (some (.inl x))) (K : WP l X (d + 1) md (pc', L, .inl x :: st, M) Q) : WP l X (d + 1) md (pc, L, st, M) Q := wp_next (by rw [st_of hr, ← hp]; simp only [exI, hl]; rfl) K
theorem x_iload {l : Launch} {X : XT} {d pc pc' : Nat} {md : MD} {len a b c : Nat} {v : Int32} {lg : Int64} {ks : List (Int32 × Nat)} {L : List (Option AV)} {st : List AV} {M : Mem} {Q : Option AV → Mem → Prop} {n : Nat} {x : Int32}  (hr : cRow md.2.2.2.2.2.2 pc = some (.iload n, len, a, b, c, v, lg, ks)) (hp : pc + 2 = pc') (hl : L[a]? = some (some (.inl x))) (K : WP l X (d + 1) md (pc', L, .inl x :: st, M) Q) : WP l X (d + 1) md (pc, L, st, M) Q := wp_next (by rw [st_of hr, ← hp]; simp only [exI, hl]; rfl) K
theorem x_lload_n {l : Launch} {X : XT} {d pc pc' : Nat} {md : MD} {len a b c : Nat} {v : Int32} {lg : Int64} {ks : List (Int32 × Nat)} {L : List (Option AV)} {st : List AV} {M : Mem} {Q : Option AV → Mem → Prop} {n : Fin 4} {x : Int64}  (hr : cRow md.2.2.2.2.2.2 pc = some (.lload_n n, len, a, b, c, v, lg, ks)) (hp : pc + 1 = pc') (hl : L[a]? = some (some (.inr (.inl x)))) (K : WP l X (d + 1) md (pc', L, .inr (.inl x) :: st, M) Q) : WP l X (d + 1) md (pc, L, st, M) Q := wp_next (by rw [st_of hr, ← hp]; simp only [exI, hl]; rfl) K
theorem x_aload_n {l : Launch} {X : XT} {d pc pc' : Nat} {md : MD} {len a b c : Nat} {v : Int32} {lg : Int64} {ks : List (Int32 × Nat)} {L : List (Option AV)} {st : List AV} {M : Mem} {Q : Option AV → Mem → Prop} {n : Fin 4} {x : AA}  (hr : cRow md.2.2.2.2.2.2 pc = some (.aload_n n, len, a, b, c, v, lg, ks)) (hp : pc + 1 = pc') (hl : L[a]? = some (some (.inr (.inr x)))) (K : WP l X (d + 1) md (pc', L, .inr (.inr x) :: st, M) Q) : WP l X (d + 1) md (pc, L, st, M) Q := wp_next (by rw [st_of hr, ← hp]; simp only [exI, hl]; rfl) K
theorem x_istore_n0 {l : Launch} {X : XT} {d pc pc' : Nat} {md : MD} {len b c : Nat} {v : Int32} {lg : Int64} {ks : List (Int32 × Nat)} {st : List AV} {M : Mem} {Q : Option AV → Mem → Prop} {n : Fin 4} {x : Int32} {p0 : Option AV} {r : List (Option AV)}  (hr : cRow md.2.2.2.2.2.2 pc = some (.istore_n n, len, 0, b, c, v, lg, ks)) (hp : pc + 1 = pc')  (K : WP l X (d + 1) md (pc', some (.inl x) :: r, st, M) Q) : WP l X (d + 1) md (pc, p0 :: r, .inl x :: st, M) Q := wp_next (by rw [st_of hr, ← hp]; show nx (pc + 1, lS (p0 :: r) 0 (.inl x), st, M) = _; rfl) K
theorem x_astore_n0 {l : Launch} {X : XT} {d pc pc' : Nat} {md : MD} {len b c : Nat} {v : Int32} {lg : Int64} {ks : List (Int32 × Nat)} {st : List AV} {M : Mem} {Q : Option AV → Mem → Prop} {n : Fin 4} {x : AA} {p0 : Option AV} {r : List (Option AV)}  (hr : cRow md.2.2.2.2.2.2 pc = some (.astore_n n, len, 0, b, c, v, lg, ks)) (hp : pc + 1 = pc')  (K : WP l X (d + 1) md (pc', some (.inr (.inr x)) :: r, st, M) Q) : WP l X (d + 1) md (pc, p0 :: r, .inr (.inr x) :: st, M) Q := wp_next (by rw [st_of hr, ← hp]; show nx (pc + 1, lS (p0 :: r) 0 (.inr (.inr x)), st, M) = _; rfl) K
theorem x_istore0 {l : Launch} {X : XT} {d pc pc' : Nat} {md : MD} {len b c : Nat} {v : Int32} {lg : Int64} {ks : List (Int32 × Nat)} {st : List AV} {M : Mem} {Q : Option AV → Mem → Prop} {n : Nat} {x : Int32} {p0 : Option AV} {r : List (Option AV)}  (hr : cRow md.2.2.2.2.2.2 pc = some (.istore n, len, 0, b, c, v, lg, ks)) (hp : pc + 2 = pc')  (K : WP l X (d + 1) md (pc', some (.inl x) :: r, st, M) Q) : WP l X (d + 1) md (pc, p0 :: r, .inl x :: st, M) Q := wp_next (by rw [st_of hr, ← hp]; show nx (pc + 2, lS (p0 :: r) 0 (.inl x), st, M) = _; rfl) K
theorem x_iinc0 {l : Launch} {X : XT} {d pc pc' : Nat} {md : MD} {len b c : Nat} {v : Int32} {lg : Int64} {ks : List (Int32 × Nat)} {st : List AV} {M : Mem} {Q : Option AV → Mem → Prop} {n : Nat} {k : Int} {x y : Int32}   {r : List (Option AV)} (hr : cRow md.2.2.2.2.2.2 pc = some (.iinc n k, len, 0, b, c, v, lg, ks)) (hp : pc + 3 = pc')  (hy : x + v = y) (K : WP l X (d + 1) md (pc', some (.inl y) :: r, st, M) Q) : WP l X (d + 1) md (pc, some (.inl x) :: r, st, M) Q := wp_next (by subst hy; rw [st_of hr, ← hp]; show nx (pc + 3, lS (some (.inl x) :: r) 0 (.inl (x + v)), st, M) = _; rfl) K
theorem x_istore_n1 {l : Launch} {X : XT} {d pc pc' : Nat} {md : MD} {len b c : Nat} {v : Int32} {lg : Int64} {ks : List (Int32 × Nat)} {st : List AV} {M : Mem} {Q : Option AV → Mem → Prop} {n : Fin 4} {x : Int32} {p0 p1 : Option AV} {r : List (Option AV)}  (hr : cRow md.2.2.2.2.2.2 pc = some (.istore_n n, len, 1, b, c, v, lg, ks)) (hp : pc + 1 = pc') (hb : isLo p0 = false) (K : WP l X (d + 1) md (pc', p0 :: some (.inl x) :: r, st, M) Q) : WP l X (d + 1) md (pc, p0 :: p1 :: r, .inl x :: st, M) Q := wp_next (by rw [st_of hr, ← hp]; show nx (pc + 1, lS (p0 :: p1 :: r) 1 (.inl x), st, M) = _; rw [lS_n (fun z hz => by cases hz; exact hb)]; rfl) K
theorem x_astore_n1 {l : Launch} {X : XT} {d pc pc' : Nat} {md : MD} {len b c : Nat} {v : Int32} {lg : Int64} {ks : List (Int32 × Nat)} {st : List AV} {M : Mem} {Q : Option AV → Mem → Prop} {n : Fin 4} {x : AA} {p0 p1 : Option AV} {r : List (Option AV)}  (hr : cRow md.2.2.2.2.2.2 pc = some (.astore_n n, len, 1, b, c, v, lg, ks)) (hp : pc + 1 = pc') (hb : isLo p0 = false) (K : WP l X (d + 1) md (pc', p0 :: some (.inr (.inr x)) :: r, st, M) Q) : WP l X (d + 1) md (pc, p0 :: p1 :: r, .inr (.inr x) :: st, M) Q := wp_next (by rw [st_of hr, ← hp]; show nx (pc + 1, lS (p0 :: p1 :: r) 1 (.inr (.inr x)), st, M) = _; rw [lS_n (fun z hz => by cases hz; exact hb)]; rfl) K
theorem x_istore1 {l : Launch} {X : XT} {d pc pc' : Nat} {md : MD} {len b c : Nat} {v : Int32} {lg : Int64} {ks : List (Int32 × Nat)} {st : List AV} {M : Mem} {Q : Option AV → Mem → Prop} {n : Nat} {x : Int32} {p0 p1 : Option AV} {r : List (Option AV)}  (hr : cRow md.2.2.2.2.2.2 pc = some (.istore n, len, 1, b, c, v, lg, ks)) (hp : pc + 2 = pc') (hb : isLo p0 = false) (K : WP l X (d + 1) md (pc', p0 :: some (.inl x) :: r, st, M) Q) : WP l X (d + 1) md (pc, p0 :: p1 :: r, .inl x :: st, M) Q := wp_next (by rw [st_of hr, ← hp]; show nx (pc + 2, lS (p0 :: p1 :: r) 1 (.inl x), st, M) = _; rw [lS_n (fun z hz => by cases hz; exact hb)]; rfl) K
theorem x_iinc1 {l : Launch} {X : XT} {d pc pc' : Nat} {md : MD} {len b c : Nat} {v : Int32} {lg : Int64} {ks : List (Int32 × Nat)} {st : List AV} {M : Mem} {Q : Option AV → Mem → Prop} {n : Nat} {k : Int} {x y : Int32} {p0 : Option AV} {r : List (Option AV)}  (hr : cRow md.2.2.2.2.2.2 pc = some (.iinc n k, len, 1, b, c, v, lg, ks)) (hp : pc + 3 = pc') (hb : isLo p0 = false) (hy : x + v = y) (K : WP l X (d + 1) md (pc', p0 :: some (.inl y) :: r, st, M) Q) : WP l X (d + 1) md (pc, p0 :: some (.inl x) :: r, st, M) Q := wp_next (by subst hy; rw [st_of hr, ← hp]; show nx (pc + 3, lS (p0 :: some (.inl x) :: r) 1 (.inl (x + v)), st, M) = _; rw [lS_n (fun z hz => by cases hz; exact hb)]; rfl) K
theorem x_istore_n2 {l : Launch} {X : XT} {d pc pc' : Nat} {md : MD} {len b c : Nat} {v : Int32} {lg : Int64} {ks : List (Int32 × Nat)} {st : List AV} {M : Mem} {Q : Option AV → Mem → Prop} {n : Fin 4} {x : Int32} {p0 p1 p2 : Option AV} {r : List (Option AV)}  (hr : cRow md.2.2.2.2.2.2 pc = some (.istore_n n, len, 2, b, c, v, lg, ks)) (hp : pc + 1 = pc') (hb : isLo p1 = false) (K : WP l X (d + 1) md (pc', p0 :: p1 :: some (.inl x) :: r, st, M) Q) : WP l X (d + 1) md (pc, p0 :: p1 :: p2 :: r, .inl x :: st, M) Q := wp_next (by rw [st_of hr, ← hp]; show nx (pc + 1, lS (p0 :: p1 :: p2 :: r) 2 (.inl x), st, M) = _; rw [lS_n (fun z hz => by cases hz; exact hb)]; rfl) K
theorem x_astore_n2 {l : Launch} {X : XT} {d pc pc' : Nat} {md : MD} {len b c : Nat} {v : Int32} {lg : Int64} {ks : List (Int32 × Nat)} {st : List AV} {M : Mem} {Q : Option AV → Mem → Prop} {n : Fin 4} {x : AA} {p0 p1 p2 : Option AV} {r : List (Option AV)}  (hr : cRow md.2.2.2.2.2.2 pc = some (.astore_n n, len, 2, b, c, v, lg, ks)) (hp : pc + 1 = pc') (hb : isLo p1 = false) (K : WP l X (d + 1) md (pc', p0 :: p1 :: some (.inr (.inr x)) :: r, st, M) Q) : WP l X (d + 1) md (pc, p0 :: p1 :: p2 :: r, .inr (.inr x) :: st, M) Q := wp_next (by rw [st_of hr, ← hp]; show nx (pc + 1, lS (p0 :: p1 :: p2 :: r) 2 (.inr (.inr x)), st, M) = _; rw [lS_n (fun z hz => by cases hz; exact hb)]; rfl) K
theorem x_istore2 {l : Launch} {X : XT} {d pc pc' : Nat} {md : MD} {len b c : Nat} {v : Int32} {lg : Int64} {ks : List (Int32 × Nat)} {st : List AV} {M : Mem} {Q : Option AV → Mem → Prop} {n : Nat} {x : Int32} {p0 p1 p2 : Option AV} {r : List (Option AV)}  (hr : cRow md.2.2.2.2.2.2 pc = some (.istore n, len, 2, b, c, v, lg, ks)) (hp : pc + 2 = pc') (hb : isLo p1 = false) (K : WP l X (d + 1) md (pc', p0 :: p1 :: some (.inl x) :: r, st, M) Q) : WP l X (d + 1) md (pc, p0 :: p1 :: p2 :: r, .inl x :: st, M) Q := wp_next (by rw [st_of hr, ← hp]; show nx (pc + 2, lS (p0 :: p1 :: p2 :: r) 2 (.inl x), st, M) = _; rw [lS_n (fun z hz => by cases hz; exact hb)]; rfl) K
theorem x_iinc2 {l : Launch} {X : XT} {d pc pc' : Nat} {md : MD} {len b c : Nat} {v : Int32} {lg : Int64} {ks : List (Int32 × Nat)} {st : List AV} {M : Mem} {Q : Option AV → Mem → Prop} {n : Nat} {k : Int} {x y : Int32} {p0 p1 : Option AV} {r : List (Option AV)}  (hr : cRow md.2.2.2.2.2.2 pc = some (.iinc n k, len, 2, b, c, v, lg, ks)) (hp : pc + 3 = pc') (hb : isLo p1 = false) (hy : x + v = y) (K : WP l X (d + 1) md (pc', p0 :: p1 :: some (.inl y) :: r, st, M) Q) : WP l X (d + 1) md (pc, p0 :: p1 :: some (.inl x) :: r, st, M) Q := wp_next (by subst hy; rw [st_of hr, ← hp]; show nx (pc + 3, lS (p0 :: p1 :: some (.inl x) :: r) 2 (.inl (x + v)), st, M) = _; rw [lS_n (fun z hz => by cases hz; exact hb)]; rfl) K
theorem x_istore_n3 {l : Launch} {X : XT} {d pc pc' : Nat} {md : MD} {len b c : Nat} {v : Int32} {lg : Int64} {ks : List (Int32 × Nat)} {st : List AV} {M : Mem} {Q : Option AV → Mem → Prop} {n : Fin 4} {x : Int32} {p0 p1 p2 p3 : Option AV} {r : List (Option AV)}  (hr : cRow md.2.2.2.2.2.2 pc = some (.istore_n n, len, 3, b, c, v, lg, ks)) (hp : pc + 1 = pc') (hb : isLo p2 = false) (K : WP l X (d + 1) md (pc', p0 :: p1 :: p2 :: some (.inl x) :: r, st, M) Q) : WP l X (d + 1) md (pc, p0 :: p1 :: p2 :: p3 :: r, .inl x :: st, M) Q := wp_next (by rw [st_of hr, ← hp]; show nx (pc + 1, lS (p0 :: p1 :: p2 :: p3 :: r) 3 (.inl x), st, M) = _; rw [lS_n (fun z hz => by cases hz; exact hb)]; rfl) K
theorem x_astore_n3 {l : Launch} {X : XT} {d pc pc' : Nat} {md : MD} {len b c : Nat} {v : Int32} {lg : Int64} {ks : List (Int32 × Nat)} {st : List AV} {M : Mem} {Q : Option AV → Mem → Prop} {n : Fin 4} {x : AA} {p0 p1 p2 p3 : Option AV} {r : List (Option AV)}  (hr : cRow md.2.2.2.2.2.2 pc = some (.astore_n n, len, 3, b, c, v, lg, ks)) (hp : pc + 1 = pc') (hb : isLo p2 = false) (K : WP l X (d + 1) md (pc', p0 :: p1 :: p2 :: some (.inr (.inr x)) :: r, st, M) Q) : WP l X (d + 1) md (pc, p0 :: p1 :: p2 :: p3 :: r, .inr (.inr x) :: st, M) Q := wp_next (by rw [st_of hr, ← hp]; show nx (pc + 1, lS (p0 :: p1 :: p2 :: p3 :: r) 3 (.inr (.inr x)), st, M) = _; rw [lS_n (fun z hz => by cases hz; exact hb)]; rfl) K
theorem x_istore3 {l : Launch} {X : XT} {d pc pc' : Nat} {md : MD} {len b c : Nat} {v : Int32} {lg : Int64} {ks : List (Int32 × Nat)} {st : List AV} {M : Mem} {Q : Option AV → Mem → Prop} {n : Nat} {x : Int32} {p0 p1 p2 p3 : Option AV} {r : List (Option AV)}  (hr : cRow md.2.2.2.2.2.2 pc = some (.istore n, len, 3, b, c, v, lg, ks)) (hp : pc + 2 = pc') (hb : isLo p2 = false) (K : WP l X (d + 1) md (pc', p0 :: p1 :: p2 :: some (.inl x) :: r, st, M) Q) : WP l X (d + 1) md (pc, p0 :: p1 :: p2 :: p3 :: r, .inl x :: st, M) Q := wp_next (by rw [st_of hr, ← hp]; show nx (pc + 2, lS (p0 :: p1 :: p2 :: p3 :: r) 3 (.inl x), st, M) = _; rw [lS_n (fun z hz => by cases hz; exact hb)]; rfl) K
theorem x_iinc3 {l : Launch} {X : XT} {d pc pc' : Nat} {md : MD} {len b c : Nat} {v : Int32} {lg : Int64} {ks : List (Int32 × Nat)} {st : List AV} {M : Mem} {Q : Option AV → Mem → Prop} {n : Nat} {k : Int} {x y : Int32} {p0 p1 p2 : Option AV} {r : List (Option AV)}  (hr : cRow md.2.2.2.2.2.2 pc = some (.iinc n k, len, 3, b, c, v, lg, ks)) (hp : pc + 3 = pc') (hb : isLo p2 = false) (hy : x + v = y) (K : WP l X (d + 1) md (pc', p0 :: p1 :: p2 :: some (.inl y) :: r, st, M) Q) : WP l X (d + 1) md (pc, p0 :: p1 :: p2 :: some (.inl x) :: r, st, M) Q := wp_next (by subst hy; rw [st_of hr, ← hp]; show nx (pc + 3, lS (p0 :: p1 :: p2 :: some (.inl x) :: r) 3 (.inl (x + v)), st, M) = _; rw [lS_n (fun z hz => by cases hz; exact hb)]; rfl) K
theorem x_istore4 {l : Launch} {X : XT} {d pc pc' : Nat} {md : MD} {len b c : Nat} {v : Int32} {lg : Int64} {ks : List (Int32 × Nat)} {st : List AV} {M : Mem} {Q : Option AV → Mem → Prop} {n : Nat} {x : Int32} {p0 p1 p2 p3 p4 : Option AV} {r : List (Option AV)}  (hr : cRow md.2.2.2.2.2.2 pc = some (.istore n, len, 4, b, c, v, lg, ks)) (hp : pc + 2 = pc') (hb : isLo p3 = false) (K : WP l X (d + 1) md (pc', p0 :: p1 :: p2 :: p3 :: some (.inl x) :: r, st, M) Q) : WP l X (d + 1) md (pc, p0 :: p1 :: p2 :: p3 :: p4 :: r, .inl x :: st, M) Q := wp_next (by rw [st_of hr, ← hp]; show nx (pc + 2, lS (p0 :: p1 :: p2 :: p3 :: p4 :: r) 4 (.inl x), st, M) = _; rw [lS_n (fun z hz => by cases hz; exact hb)]; rfl) K
theorem x_iinc4 {l : Launch} {X : XT} {d pc pc' : Nat} {md : MD} {len b c : Nat} {v : Int32} {lg : Int64} {ks : List (Int32 × Nat)} {st : List AV} {M : Mem} {Q : Option AV → Mem → Prop} {n : Nat} {k : Int} {x y : Int32} {p0 p1 p2 p3 : Option AV} {r : List (Option AV)}  (hr : cRow md.2.2.2.2.2.2 pc = some (.iinc n k, len, 4, b, c, v, lg, ks)) (hp : pc + 3 = pc') (hb : isLo p3 = false) (hy : x + v = y) (K : WP l X (d + 1) md (pc', p0 :: p1 :: p2 :: p3 :: some (.inl y) :: r, st, M) Q) : WP l X (d + 1) md (pc, p0 :: p1 :: p2 :: p3 :: some (.inl x) :: r, st, M) Q := wp_next (by subst hy; rw [st_of hr, ← hp]; show nx (pc + 3, lS (p0 :: p1 :: p2 :: p3 :: some (.inl x) :: r) 4 (.inl (x + v)), st, M) = _; rw [lS_n (fun z hz => by cases hz; exact hb)]; rfl) K
theorem x_istore5 {l : Launch} {X : XT} {d pc pc' : Nat} {md : MD} {len b c : Nat} {v : Int32} {lg : Int64} {ks : List (Int32 × Nat)} {st : List AV} {M : Mem} {Q : Option AV → Mem → Prop} {n : Nat} {x : Int32} {p0 p1 p2 p3 p4 p5 : Option AV} {r : List (Option AV)}  (hr : cRow md.2.2.2.2.2.2 pc = some (.istore n, len, 5, b, c, v, lg, ks)) (hp : pc + 2 = pc') (hb : isLo p4 = false) (K : WP l X (d + 1) md (pc', p0 :: p1 :: p2 :: p3 :: p4 :: some (.inl x) :: r, st, M) Q) : WP l X (d + 1) md (pc, p0 :: p1 :: p2 :: p3 :: p4 :: p5 :: r, .inl x :: st, M) Q := wp_next (by rw [st_of hr, ← hp]; show nx (pc + 2, lS (p0 :: p1 :: p2 :: p3 :: p4 :: p5 :: r) 5 (.inl x), st, M) = _; rw [lS_n (fun z hz => by cases hz; exact hb)]; rfl) K
theorem x_iinc5 {l : Launch} {X : XT} {d pc pc' : Nat} {md : MD} {len b c : Nat} {v : Int32} {lg : Int64} {ks : List (Int32 × Nat)} {st : List AV} {M : Mem} {Q : Option AV → Mem → Prop} {n : Nat} {k : Int} {x y : Int32} {p0 p1 p2 p3 p4 : Option AV} {r : List (Option AV)}  (hr : cRow md.2.2.2.2.2.2 pc = some (.iinc n k, len, 5, b, c, v, lg, ks)) (hp : pc + 3 = pc') (hb : isLo p4 = false) (hy : x + v = y) (K : WP l X (d + 1) md (pc', p0 :: p1 :: p2 :: p3 :: p4 :: some (.inl y) :: r, st, M) Q) : WP l X (d + 1) md (pc, p0 :: p1 :: p2 :: p3 :: p4 :: some (.inl x) :: r, st, M) Q := wp_next (by subst hy; rw [st_of hr, ← hp]; show nx (pc + 3, lS (p0 :: p1 :: p2 :: p3 :: p4 :: some (.inl x) :: r) 5 (.inl (x + v)), st, M) = _; rw [lS_n (fun z hz => by cases hz; exact hb)]; rfl) K
theorem x_istore6 {l : Launch} {X : XT} {d pc pc' : Nat} {md : MD} {len b c : Nat} {v : Int32} {lg : Int64} {ks : List (Int32 × Nat)} {st : List AV} {M : Mem} {Q : Option AV → Mem → Prop} {n : Nat} {x : Int32} {p0 p1 p2 p3 p4 p5 p6 : Option AV} {r : List (Option AV)}  (hr : cRow md.2.2.2.2.2.2 pc = some (.istore n, len, 6, b, c, v, lg, ks)) (hp : pc + 2 = pc') (hb : isLo p5 = false) (K : WP l X (d + 1) md (pc', p0 :: p1 :: p2 :: p3 :: p4 :: p5 :: some (.inl x) :: r, st, M) Q) : WP l X (d + 1) md (pc, p0 :: p1 :: p2 :: p3 :: p4 :: p5 :: p6 :: r, .inl x :: st, M) Q := wp_next (by rw [st_of hr, ← hp]; show nx (pc + 2, lS (p0 :: p1 :: p2 :: p3 :: p4 :: p5 :: p6 :: r) 6 (.inl x), st, M) = _; rw [lS_n (fun z hz => by cases hz; exact hb)]; rfl) K
theorem x_iinc6 {l : Launch} {X : XT} {d pc pc' : Nat} {md : MD} {len b c : Nat} {v : Int32} {lg : Int64} {ks : List (Int32 × Nat)} {st : List AV} {M : Mem} {Q : Option AV → Mem → Prop} {n : Nat} {k : Int} {x y : Int32} {p0 p1 p2 p3 p4 p5 : Option AV} {r : List (Option AV)}  (hr : cRow md.2.2.2.2.2.2 pc = some (.iinc n k, len, 6, b, c, v, lg, ks)) (hp : pc + 3 = pc') (hb : isLo p5 = false) (hy : x + v = y) (K : WP l X (d + 1) md (pc', p0 :: p1 :: p2 :: p3 :: p4 :: p5 :: some (.inl y) :: r, st, M) Q) : WP l X (d + 1) md (pc, p0 :: p1 :: p2 :: p3 :: p4 :: p5 :: some (.inl x) :: r, st, M) Q := wp_next (by subst hy; rw [st_of hr, ← hp]; show nx (pc + 3, lS (p0 :: p1 :: p2 :: p3 :: p4 :: p5 :: some (.inl x) :: r) 6 (.inl (x + v)), st, M) = _; rw [lS_n (fun z hz => by cases hz; exact hb)]; rfl) K
theorem x_istore7 {l : Launch} {X : XT} {d pc pc' : Nat} {md : MD} {len b c : Nat} {v : Int32} {lg : Int64} {ks : List (Int32 × Nat)} {st : List AV} {M : Mem} {Q : Option AV → Mem → Prop} {n : Nat} {x : Int32} {p0 p1 p2 p3 p4 p5 p6 p7 : Option AV} {r : List (Option AV)}  (hr : cRow md.2.2.2.2.2.2 pc = some (.istore n, len, 7, b, c, v, lg, ks)) (hp : pc + 2 = pc') (hb : isLo p6 = false) (K : WP l X (d + 1) md (pc', p0 :: p1 :: p2 :: p3 :: p4 :: p5 :: p6 :: some (.inl x) :: r, st, M) Q) : WP l X (d + 1) md (pc, p0 :: p1 :: p2 :: p3 :: p4 :: p5 :: p6 :: p7 :: r, .inl x :: st, M) Q := wp_next (by rw [st_of hr, ← hp]; show nx (pc + 2, lS (p0 :: p1 :: p2 :: p3 :: p4 :: p5 :: p6 :: p7 :: r) 7 (.inl x), st, M) = _; rw [lS_n (fun z hz => by cases hz; exact hb)]; rfl) K
theorem x_iinc7 {l : Launch} {X : XT} {d pc pc' : Nat} {md : MD} {len b c : Nat} {v : Int32} {lg : Int64} {ks : List (Int32 × Nat)} {st : List AV} {M : Mem} {Q : Option AV → Mem → Prop} {n : Nat} {k : Int} {x y : Int32} {p0 p1 p2 p3 p4 p5 p6 : Option AV} {r : List (Option AV)}  (hr : cRow md.2.2.2.2.2.2 pc = some (.iinc n k, len, 7, b, c, v, lg, ks)) (hp : pc + 3 = pc') (hb : isLo p6 = false) (hy : x + v = y) (K : WP l X (d + 1) md (pc', p0 :: p1 :: p2 :: p3 :: p4 :: p5 :: p6 :: some (.inl y) :: r, st, M) Q) : WP l X (d + 1) md (pc, p0 :: p1 :: p2 :: p3 :: p4 :: p5 :: p6 :: some (.inl x) :: r, st, M) Q := wp_next (by subst hy; rw [st_of hr, ← hp]; show nx (pc + 3, lS (p0 :: p1 :: p2 :: p3 :: p4 :: p5 :: p6 :: some (.inl x) :: r) 7 (.inl (x + v)), st, M) = _; rw [lS_n (fun z hz => by cases hz; exact hb)]; rfl) K
theorem x_istore8 {l : Launch} {X : XT} {d pc pc' : Nat} {md : MD} {len b c : Nat} {v : Int32} {lg : Int64} {ks : List (Int32 × Nat)} {st : List AV} {M : Mem} {Q : Option AV → Mem → Prop} {n : Nat} {x : Int32} {p0 p1 p2 p3 p4 p5 p6 p7 p8 : Option AV} {r : List (Option AV)}  (hr : cRow md.2.2.2.2.2.2 pc = some (.istore n, len, 8, b, c, v, lg, ks)) (hp : pc + 2 = pc') (hb : isLo p7 = false) (K : WP l X (d + 1) md (pc', p0 :: p1 :: p2 :: p3 :: p4 :: p5 :: p6 :: p7 :: some (.inl x) :: r, st, M) Q) : WP l X (d + 1) md (pc, p0 :: p1 :: p2 :: p3 :: p4 :: p5 :: p6 :: p7 :: p8 :: r, .inl x :: st, M) Q := wp_next (by rw [st_of hr, ← hp]; show nx (pc + 2, lS (p0 :: p1 :: p2 :: p3 :: p4 :: p5 :: p6 :: p7 :: p8 :: r) 8 (.inl x), st, M) = _; rw [lS_n (fun z hz => by cases hz; exact hb)]; rfl) K
theorem x_iinc8 {l : Launch} {X : XT} {d pc pc' : Nat} {md : MD} {len b c : Nat} {v : Int32} {lg : Int64} {ks : List (Int32 × Nat)} {st : List AV} {M : Mem} {Q : Option AV → Mem → Prop} {n : Nat} {k : Int} {x y : Int32} {p0 p1 p2 p3 p4 p5 p6 p7 : Option AV} {r : List (Option AV)}  (hr : cRow md.2.2.2.2.2.2 pc = some (.iinc n k, len, 8, b, c, v, lg, ks)) (hp : pc + 3 = pc') (hb : isLo p7 = false) (hy : x + v = y) (K : WP l X (d + 1) md (pc', p0 :: p1 :: p2 :: p3 :: p4 :: p5 :: p6 :: p7 :: some (.inl y) :: r, st, M) Q) : WP l X (d + 1) md (pc, p0 :: p1 :: p2 :: p3 :: p4 :: p5 :: p6 :: p7 :: some (.inl x) :: r, st, M) Q := wp_next (by subst hy; rw [st_of hr, ← hp]; show nx (pc + 3, lS (p0 :: p1 :: p2 :: p3 :: p4 :: p5 :: p6 :: p7 :: some (.inl x) :: r) 8 (.inl (x + v)), st, M) = _; rw [lS_n (fun z hz => by cases hz; exact hb)]; rfl) K
theorem x_lstore_n3 {l : Launch} {X : XT} {d pc pc' : Nat} {md : MD} {len b c : Nat} {v : Int32} {lg : Int64} {ks : List (Int32 × Nat)} {st : List AV} {M : Mem} {Q : Option AV → Mem → Prop} {n : Fin 4} {x : Int64} {p0 p1 p2 p3 p4 : Option AV} {r : List (Option AV)}  (hr : cRow md.2.2.2.2.2.2 pc = some (.lstore_n n, len, 3, b, c, v, lg, ks)) (hp : pc + 1 = pc') (hb : isLo p2 = false) (K : WP l X (d + 1) md (pc', p0 :: p1 :: p2 :: some (.inr (.inl x)) :: none :: r, st, M) Q) : WP l X (d + 1) md (pc, p0 :: p1 :: p2 :: p3 :: p4 :: r, .inr (.inl x) :: st, M) Q := wp_next (by rw [st_of hr, ← hp]; show nx (pc + 1, (lS (p0 :: p1 :: p2 :: p3 :: p4 :: r) 3 (.inr (.inl x))).set 4 none, st, M) = _; rw [lS_n (fun z hz => by cases hz; exact hb)]; rfl) K
theorem x_iadd {l : Launch} {X : XT} {d pc pc' : Nat} {md : MD} {len a b c : Nat} {v : Int32} {lg : Int64} {ks : List (Int32 × Nat)} {L : List (Option AV)} {st : List AV} {M : Mem} {Q : Option AV → Mem → Prop} {x y : Int32}  (hr : cRow md.2.2.2.2.2.2 pc = some (.iadd, len, a, b, c, v, lg, ks)) (hp : pc + 1 = pc')  (K : WP l X (d + 1) md (pc', L, .inl (x + y) :: st, M) Q) : WP l X (d + 1) md (pc, L, .inl y :: .inl x :: st, M) Q := wp_next (by rw [st_of hr, ← hp]; rfl) K
theorem x_iaddE {l : Launch} {X : XT} {d pc pc' : Nat} {md : MD} {len a b c : Nat} {v : Int32} {lg : Int64} {ks : List (Int32 × Nat)} {L : List (Option AV)} {st : List AV} {M : Mem} {Q : Option AV → Mem → Prop} {x y z : Int32}  (hr : cRow md.2.2.2.2.2.2 pc = some (.iadd, len, a, b, c, v, lg, ks)) (hp : pc + 1 = pc') (hz : x + y = z) (K : WP l X (d + 1) md (pc', L, .inl z :: st, M) Q) : WP l X (d + 1) md (pc, L, .inl y :: .inl x :: st, M) Q := x_iadd hr hp (by rw [hz]; exact K)
theorem x_isub {l : Launch} {X : XT} {d pc pc' : Nat} {md : MD} {len a b c : Nat} {v : Int32} {lg : Int64} {ks : List (Int32 × Nat)} {L : List (Option AV)} {st : List AV} {M : Mem} {Q : Option AV → Mem → Prop} {x y : Int32}  (hr : cRow md.2.2.2.2.2.2 pc = some (.isub, len, a, b, c, v, lg, ks)) (hp : pc + 1 = pc')  (K : WP l X (d + 1) md (pc', L, .inl (x - y) :: st, M) Q) : WP l X (d + 1) md (pc, L, .inl y :: .inl x :: st, M) Q := wp_next (by rw [st_of hr, ← hp]; rfl) K
theorem x_isubE {l : Launch} {X : XT} {d pc pc' : Nat} {md : MD} {len a b c : Nat} {v : Int32} {lg : Int64} {ks : List (Int32 × Nat)} {L : List (Option AV)} {st : List AV} {M : Mem} {Q : Option AV → Mem → Prop} {x y z : Int32}  (hr : cRow md.2.2.2.2.2.2 pc = some (.isub, len, a, b, c, v, lg, ks)) (hp : pc + 1 = pc') (hz : x - y = z) (K : WP l X (d + 1) md (pc', L, .inl z :: st, M) Q) : WP l X (d + 1) md (pc, L, .inl y :: .inl x :: st, M) Q := x_isub hr hp (by rw [hz]; exact K)
theorem x_imul {l : Launch} {X : XT} {d pc pc' : Nat} {md : MD} {len a b c : Nat} {v : Int32} {lg : Int64} {ks : List (Int32 × Nat)} {L : List (Option AV)} {st : List AV} {M : Mem} {Q : Option AV → Mem → Prop} {x y : Int32}  (hr : cRow md.2.2.2.2.2.2 pc = some (.imul, len, a, b, c, v, lg, ks)) (hp : pc + 1 = pc')  (K : WP l X (d + 1) md (pc', L, .inl (x * y) :: st, M) Q) : WP l X (d + 1) md (pc, L, .inl y :: .inl x :: st, M) Q := wp_next (by rw [st_of hr, ← hp]; rfl) K
theorem x_imulE {l : Launch} {X : XT} {d pc pc' : Nat} {md : MD} {len a b c : Nat} {v : Int32} {lg : Int64} {ks : List (Int32 × Nat)} {L : List (Option AV)} {st : List AV} {M : Mem} {Q : Option AV → Mem → Prop} {x y z : Int32}  (hr : cRow md.2.2.2.2.2.2 pc = some (.imul, len, a, b, c, v, lg, ks)) (hp : pc + 1 = pc') (hz : x * y = z) (K : WP l X (d + 1) md (pc', L, .inl z :: st, M) Q) : WP l X (d + 1) md (pc, L, .inl y :: .inl x :: st, M) Q := x_imul hr hp (by rw [hz]; exact K)
theorem x_iand {l : Launch} {X : XT} {d pc pc' : Nat} {md : MD} {len a b c : Nat} {v : Int32} {lg : Int64} {ks : List (Int32 × Nat)} {L : List (Option AV)} {st : List AV} {M : Mem} {Q : Option AV → Mem → Prop} {x y : Int32}  (hr : cRow md.2.2.2.2.2.2 pc = some (.iand, len, a, b, c, v, lg, ks)) (hp : pc + 1 = pc')  (K : WP l X (d + 1) md (pc', L, .inl (x &&& y) :: st, M) Q) : WP l X (d + 1) md (pc, L, .inl y :: .inl x :: st, M) Q := wp_next (by rw [st_of hr, ← hp]; rfl) K
theorem x_iandE {l : Launch} {X : XT} {d pc pc' : Nat} {md : MD} {len a b c : Nat} {v : Int32} {lg : Int64} {ks : List (Int32 × Nat)} {L : List (Option AV)} {st : List AV} {M : Mem} {Q : Option AV → Mem → Prop} {x y z : Int32}  (hr : cRow md.2.2.2.2.2.2 pc = some (.iand, len, a, b, c, v, lg, ks)) (hp : pc + 1 = pc') (hz : x &&& y = z) (K : WP l X (d + 1) md (pc', L, .inl z :: st, M) Q) : WP l X (d + 1) md (pc, L, .inl y :: .inl x :: st, M) Q := x_iand hr hp (by rw [hz]; exact K)
theorem x_ior {l : Launch} {X : XT} {d pc pc' : Nat} {md : MD} {len a b c : Nat} {v : Int32} {lg : Int64} {ks : List (Int32 × Nat)} {L : List (Option AV)} {st : List AV} {M : Mem} {Q : Option AV → Mem → Prop} {x y : Int32}  (hr : cRow md.2.2.2.2.2.2 pc = some (.ior, len, a, b, c, v, lg, ks)) (hp : pc + 1 = pc')  (K : WP l X (d + 1) md (pc', L, .inl (x ||| y) :: st, M) Q) : WP l X (d + 1) md (pc, L, .inl y :: .inl x :: st, M) Q := wp_next (by rw [st_of hr, ← hp]; rfl) K
theorem x_iorE {l : Launch} {X : XT} {d pc pc' : Nat} {md : MD} {len a b c : Nat} {v : Int32} {lg : Int64} {ks : List (Int32 × Nat)} {L : List (Option AV)} {st : List AV} {M : Mem} {Q : Option AV → Mem → Prop} {x y z : Int32}  (hr : cRow md.2.2.2.2.2.2 pc = some (.ior, len, a, b, c, v, lg, ks)) (hp : pc + 1 = pc') (hz : x ||| y = z) (K : WP l X (d + 1) md (pc', L, .inl z :: st, M) Q) : WP l X (d + 1) md (pc, L, .inl y :: .inl x :: st, M) Q := x_ior hr hp (by rw [hz]; exact K)
theorem x_ixor {l : Launch} {X : XT} {d pc pc' : Nat} {md : MD} {len a b c : Nat} {v : Int32} {lg : Int64} {ks : List (Int32 × Nat)} {L : List (Option AV)} {st : List AV} {M : Mem} {Q : Option AV → Mem → Prop} {x y : Int32}  (hr : cRow md.2.2.2.2.2.2 pc = some (.ixor, len, a, b, c, v, lg, ks)) (hp : pc + 1 = pc')  (K : WP l X (d + 1) md (pc', L, .inl (x ^^^ y) :: st, M) Q) : WP l X (d + 1) md (pc, L, .inl y :: .inl x :: st, M) Q := wp_next (by rw [st_of hr, ← hp]; rfl) K
theorem x_ixorE {l : Launch} {X : XT} {d pc pc' : Nat} {md : MD} {len a b c : Nat} {v : Int32} {lg : Int64} {ks : List (Int32 × Nat)} {L : List (Option AV)} {st : List AV} {M : Mem} {Q : Option AV → Mem → Prop} {x y z : Int32}  (hr : cRow md.2.2.2.2.2.2 pc = some (.ixor, len, a, b, c, v, lg, ks)) (hp : pc + 1 = pc') (hz : x ^^^ y = z) (K : WP l X (d + 1) md (pc', L, .inl z :: st, M) Q) : WP l X (d + 1) md (pc, L, .inl y :: .inl x :: st, M) Q := x_ixor hr hp (by rw [hz]; exact K)
theorem x_ishl {l : Launch} {X : XT} {d pc pc' : Nat} {md : MD} {len a b c : Nat} {v : Int32} {lg : Int64} {ks : List (Int32 × Nat)} {L : List (Option AV)} {st : List AV} {M : Mem} {Q : Option AV → Mem → Prop} {x y : Int32}  (hr : cRow md.2.2.2.2.2.2 pc = some (.ishl, len, a, b, c, v, lg, ks)) (hp : pc + 1 = pc')  (K : WP l X (d + 1) md (pc', L, .inl (x <<< (y &&& 31)) :: st, M) Q) : WP l X (d + 1) md (pc, L, .inl y :: .inl x :: st, M) Q := wp_next (by rw [st_of hr, ← hp]; rfl) K
theorem x_ishlE {l : Launch} {X : XT} {d pc pc' : Nat} {md : MD} {len a b c : Nat} {v : Int32} {lg : Int64} {ks : List (Int32 × Nat)} {L : List (Option AV)} {st : List AV} {M : Mem} {Q : Option AV → Mem → Prop} {x y z : Int32}  (hr : cRow md.2.2.2.2.2.2 pc = some (.ishl, len, a, b, c, v, lg, ks)) (hp : pc + 1 = pc') (hz : x <<< (y &&& 31) = z) (K : WP l X (d + 1) md (pc', L, .inl z :: st, M) Q) : WP l X (d + 1) md (pc, L, .inl y :: .inl x :: st, M) Q := x_ishl hr hp (by rw [hz]; exact K)
theorem x_ishr {l : Launch} {X : XT} {d pc pc' : Nat} {md : MD} {len a b c : Nat} {v : Int32} {lg : Int64} {ks : List (Int32 × Nat)} {L : List (Option AV)} {st : List AV} {M : Mem} {Q : Option AV → Mem → Prop} {x y : Int32}  (hr : cRow md.2.2.2.2.2.2 pc = some (.ishr, len, a, b, c, v, lg, ks)) (hp : pc + 1 = pc')  (K : WP l X (d + 1) md (pc', L, .inl (x >>> (y &&& 31)) :: st, M) Q) : WP l X (d + 1) md (pc, L, .inl y :: .inl x :: st, M) Q := wp_next (by rw [st_of hr, ← hp]; rfl) K
theorem x_ishrE {l : Launch} {X : XT} {d pc pc' : Nat} {md : MD} {len a b c : Nat} {v : Int32} {lg : Int64} {ks : List (Int32 × Nat)} {L : List (Option AV)} {st : List AV} {M : Mem} {Q : Option AV → Mem → Prop} {x y z : Int32}  (hr : cRow md.2.2.2.2.2.2 pc = some (.ishr, len, a, b, c, v, lg, ks)) (hp : pc + 1 = pc') (hz : x >>> (y &&& 31) = z) (K : WP l X (d + 1) md (pc', L, .inl z :: st, M) Q) : WP l X (d + 1) md (pc, L, .inl y :: .inl x :: st, M) Q := x_ishr hr hp (by rw [hz]; exact K)
theorem x_iushr {l : Launch} {X : XT} {d pc pc' : Nat} {md : MD} {len a b c : Nat} {v : Int32} {lg : Int64} {ks : List (Int32 × Nat)} {L : List (Option AV)} {st : List AV} {M : Mem} {Q : Option AV → Mem → Prop} {x y : Int32}  (hr : cRow md.2.2.2.2.2.2 pc = some (.iushr, len, a, b, c, v, lg, ks)) (hp : pc + 1 = pc')  (K : WP l X (d + 1) md (pc', L, .inl ((x.toUInt32 >>> (y.toUInt32 &&& Int32.toUInt32 31)).toInt32) :: st, M) Q) : WP l X (d + 1) md (pc, L, .inl y :: .inl x :: st, M) Q := wp_next (by rw [st_of hr, ← hp]; rfl) K
theorem x_iushrE {l : Launch} {X : XT} {d pc pc' : Nat} {md : MD} {len a b c : Nat} {v : Int32} {lg : Int64} {ks : List (Int32 × Nat)} {L : List (Option AV)} {st : List AV} {M : Mem} {Q : Option AV → Mem → Prop} {x y z : Int32}  (hr : cRow md.2.2.2.2.2.2 pc = some (.iushr, len, a, b, c, v, lg, ks)) (hp : pc + 1 = pc') (hz : (x.toUInt32 >>> (y.toUInt32 &&& Int32.toUInt32 31)).toInt32 = z) (K : WP l X (d + 1) md (pc', L, .inl z :: st, M) Q) : WP l X (d + 1) md (pc, L, .inl y :: .inl x :: st, M) Q := x_iushr hr hp (by rw [hz]; exact K)
theorem x_iaddN {l : Launch} {X : XT} {d pc pc' : Nat} {md : MD} {len a b c : Nat} {v : Int32} {lg : Int64} {ks : List (Int32 × Nat)} {L : List (Option AV)} {st : List AV} {M : Mem} {Q : Option AV → Mem → Prop} {i j : Nat}  (hr : cRow md.2.2.2.2.2.2 pc = some (.iadd, len, a, b, c, v, lg, ks)) (hp : pc + 1 = pc') (K : WP l X (d + 1) md (pc', L, .inl (nI (i + j)) :: st, M) Q) : WP l X (d + 1) md (pc, L, .inl (nI j) :: .inl (nI i) :: st, M) Q := x_iaddE hr hp (nI_add i j) K
theorem x_imulN {l : Launch} {X : XT} {d pc pc' : Nat} {md : MD} {len a b c : Nat} {v : Int32} {lg : Int64} {ks : List (Int32 × Nat)} {L : List (Option AV)} {st : List AV} {M : Mem} {Q : Option AV → Mem → Prop} {i j : Nat}  (hr : cRow md.2.2.2.2.2.2 pc = some (.imul, len, a, b, c, v, lg, ks)) (hp : pc + 1 = pc') (K : WP l X (d + 1) md (pc', L, .inl (nI (i * j)) :: st, M) Q) : WP l X (d + 1) md (pc, L, .inl (nI j) :: .inl (nI i) :: st, M) Q := x_imulE hr hp (pk_mul i j) K
theorem x_isubN {l : Launch} {X : XT} {d pc pc' : Nat} {md : MD} {len a b c : Nat} {v : Int32} {lg : Int64} {ks : List (Int32 × Nat)} {L : List (Option AV)} {st : List AV} {M : Mem} {Q : Option AV → Mem → Prop} {i j : Nat}  (hr : cRow md.2.2.2.2.2.2 pc = some (.isub, len, a, b, c, v, lg, ks)) (hp : pc + 1 = pc') (hj : j ≤ i) (K : WP l X (d + 1) md (pc', L, .inl (nI (i - j)) :: st, M) Q) : WP l X (d + 1) md (pc, L, .inl (nI j) :: .inl (nI i) :: st, M) Q := x_isubE hr hp (pk_sub hj) K
theorem x_idiv {l : Launch} {X : XT} {d pc pc' : Nat} {md : MD} {len a b c : Nat} {v : Int32} {lg : Int64} {ks : List (Int32 × Nat)} {L : List (Option AV)} {st : List AV} {M : Mem} {Q : Option AV → Mem → Prop} {x y : Int32}  (hr : cRow md.2.2.2.2.2.2 pc = some (.idiv, len, a, b, c, v, lg, ks)) (hp : pc + 1 = pc') (hy : ¬ y = 0) (K : WP l X (d + 1) md (pc', L, .inl (x / y) :: st, M) Q) : WP l X (d + 1) md (pc, L, .inl y :: .inl x :: st, M) Q := wp_next (by rw [st_of hr, ← hp]; simp only [exI, if_neg hy]; rfl) K
theorem x_idivE {l : Launch} {X : XT} {d pc pc' : Nat} {md : MD} {len a b c : Nat} {v : Int32} {lg : Int64} {ks : List (Int32 × Nat)} {L : List (Option AV)} {st : List AV} {M : Mem} {Q : Option AV → Mem → Prop} {x y z : Int32}  (hr : cRow md.2.2.2.2.2.2 pc = some (.idiv, len, a, b, c, v, lg, ks)) (hp : pc + 1 = pc') (hy : ¬ y = 0) (hz : x / y = z) (K : WP l X (d + 1) md (pc', L, .inl z :: st, M) Q) : WP l X (d + 1) md (pc, L, .inl y :: .inl x :: st, M) Q := x_idiv hr hp hy (by rw [hz]; exact K)
theorem x_irem {l : Launch} {X : XT} {d pc pc' : Nat} {md : MD} {len a b c : Nat} {v : Int32} {lg : Int64} {ks : List (Int32 × Nat)} {L : List (Option AV)} {st : List AV} {M : Mem} {Q : Option AV → Mem → Prop} {x y : Int32}  (hr : cRow md.2.2.2.2.2.2 pc = some (.irem, len, a, b, c, v, lg, ks)) (hp : pc + 1 = pc') (hy : ¬ y = 0) (K : WP l X (d + 1) md (pc', L, .inl (x - x / y * y) :: st, M) Q) : WP l X (d + 1) md (pc, L, .inl y :: .inl x :: st, M) Q := wp_next (by rw [st_of hr, ← hp]; simp only [exI, if_neg hy]; rfl) K
theorem x_iremE {l : Launch} {X : XT} {d pc pc' : Nat} {md : MD} {len a b c : Nat} {v : Int32} {lg : Int64} {ks : List (Int32 × Nat)} {L : List (Option AV)} {st : List AV} {M : Mem} {Q : Option AV → Mem → Prop} {x y z : Int32}  (hr : cRow md.2.2.2.2.2.2 pc = some (.irem, len, a, b, c, v, lg, ks)) (hp : pc + 1 = pc') (hy : ¬ y = 0) (hz : x - x / y * y = z) (K : WP l X (d + 1) md (pc', L, .inl z :: st, M) Q) : WP l X (d + 1) md (pc, L, .inl y :: .inl x :: st, M) Q := x_irem hr hp hy (by rw [hz]; exact K)
theorem x_idivN {l : Launch} {X : XT} {d pc pc' : Nat} {md : MD} {len a b c : Nat} {v : Int32} {lg : Int64} {ks : List (Int32 × Nat)} {L : List (Option AV)} {st : List AV} {M : Mem} {Q : Option AV → Mem → Prop} {i j : Nat}  (hr : cRow md.2.2.2.2.2.2 pc = some (.idiv, len, a, b, c, v, lg, ks)) (hp : pc + 1 = pc') (h0 : 0 < j) (hi : i < 2 ^ 31) (hj : j < 2 ^ 31) (K : WP l X (d + 1) md (pc', L, .inl (nI (i / j)) :: st, M) Q) : WP l X (d + 1) md (pc, L, .inl (nI j) :: .inl (nI i) :: st, M) Q := x_idivE hr hp (nI_ne0 h0 hj) (pk_div hi h0 hj) K
theorem x_iremN {l : Launch} {X : XT} {d pc pc' : Nat} {md : MD} {len a b c : Nat} {v : Int32} {lg : Int64} {ks : List (Int32 × Nat)} {L : List (Option AV)} {st : List AV} {M : Mem} {Q : Option AV → Mem → Prop} {i j : Nat}  (hr : cRow md.2.2.2.2.2.2 pc = some (.irem, len, a, b, c, v, lg, ks)) (hp : pc + 1 = pc') (h0 : 0 < j) (hi : i < 2 ^ 31) (hj : j < 2 ^ 31) (K : WP l X (d + 1) md (pc', L, .inl (nI (i % j)) :: st, M) Q) : WP l X (d + 1) md (pc, L, .inl (nI j) :: .inl (nI i) :: st, M) Q := x_iremE hr hp (nI_ne0 h0 hj) (pk_rem hi h0 hj) K
theorem x_ladd {l : Launch} {X : XT} {d pc pc' : Nat} {md : MD} {len a b c : Nat} {v : Int32} {lg : Int64} {ks : List (Int32 × Nat)} {L : List (Option AV)} {st : List AV} {M : Mem} {Q : Option AV → Mem → Prop} {x y : Int64}  (hr : cRow md.2.2.2.2.2.2 pc = some (.ladd, len, a, b, c, v, lg, ks)) (hp : pc + 1 = pc')  (K : WP l X (d + 1) md (pc', L, .inr (.inl (x + y)) :: st, M) Q) : WP l X (d + 1) md (pc, L, .inr (.inl y) :: .inr (.inl x) :: st, M) Q := wp_next (by rw [st_of hr, ← hp]; rfl) K
theorem x_lmul {l : Launch} {X : XT} {d pc pc' : Nat} {md : MD} {len a b c : Nat} {v : Int32} {lg : Int64} {ks : List (Int32 × Nat)} {L : List (Option AV)} {st : List AV} {M : Mem} {Q : Option AV → Mem → Prop} {x y : Int64}  (hr : cRow md.2.2.2.2.2.2 pc = some (.lmul, len, a, b, c, v, lg, ks)) (hp : pc + 1 = pc')  (K : WP l X (d + 1) md (pc', L, .inr (.inl (x * y)) :: st, M) Q) : WP l X (d + 1) md (pc, L, .inr (.inl y) :: .inr (.inl x) :: st, M) Q := wp_next (by rw [st_of hr, ← hp]; rfl) K
theorem x_ldiv {l : Launch} {X : XT} {d pc pc' : Nat} {md : MD} {len a b c : Nat} {v : Int32} {lg : Int64} {ks : List (Int32 × Nat)} {L : List (Option AV)} {st : List AV} {M : Mem} {Q : Option AV → Mem → Prop} {x y : Int64}  (hr : cRow md.2.2.2.2.2.2 pc = some (.ldiv, len, a, b, c, v, lg, ks)) (hp : pc + 1 = pc') (hy : ¬ y = 0) (K : WP l X (d + 1) md (pc', L, .inr (.inl (x / y)) :: st, M) Q) : WP l X (d + 1) md (pc, L, .inr (.inl y) :: .inr (.inl x) :: st, M) Q := wp_next (by rw [st_of hr, ← hp]; simp only [exI, if_neg hy]; rfl) K
theorem x_lrem {l : Launch} {X : XT} {d pc pc' : Nat} {md : MD} {len a b c : Nat} {v : Int32} {lg : Int64} {ks : List (Int32 × Nat)} {L : List (Option AV)} {st : List AV} {M : Mem} {Q : Option AV → Mem → Prop} {x y : Int64}  (hr : cRow md.2.2.2.2.2.2 pc = some (.lrem, len, a, b, c, v, lg, ks)) (hp : pc + 1 = pc') (hy : ¬ y = 0) (K : WP l X (d + 1) md (pc', L, .inr (.inl (x - x / y * y)) :: st, M) Q) : WP l X (d + 1) md (pc, L, .inr (.inl y) :: .inr (.inl x) :: st, M) Q := wp_next (by rw [st_of hr, ← hp]; simp only [exI, if_neg hy]; rfl) K
theorem x_i2l {l : Launch} {X : XT} {d pc pc' : Nat} {md : MD} {len a b c : Nat} {v : Int32} {lg : Int64} {ks : List (Int32 × Nat)} {L : List (Option AV)} {st : List AV} {M : Mem} {Q : Option AV → Mem → Prop} {x : Int32}  (hr : cRow md.2.2.2.2.2.2 pc = some (.i2l, len, a, b, c, v, lg, ks)) (hp : pc + 1 = pc')  (K : WP l X (d + 1) md (pc', L, .inr (.inl x.toInt64) :: st, M) Q) : WP l X (d + 1) md (pc, L, .inl x :: st, M) Q := wp_next (by rw [st_of hr, ← hp]; rfl) K
theorem x_l2i {l : Launch} {X : XT} {d pc pc' : Nat} {md : MD} {len a b c : Nat} {v : Int32} {lg : Int64} {ks : List (Int32 × Nat)} {L : List (Option AV)} {st : List AV} {M : Mem} {Q : Option AV → Mem → Prop} {x : Int64}  (hr : cRow md.2.2.2.2.2.2 pc = some (.l2i, len, a, b, c, v, lg, ks)) (hp : pc + 1 = pc')  (K : WP l X (d + 1) md (pc', L, .inl x.toInt32 :: st, M) Q) : WP l X (d + 1) md (pc, L, .inr (.inl x) :: st, M) Q := wp_next (by rw [st_of hr, ← hp]; rfl) K
theorem x_dup {l : Launch} {X : XT} {d pc pc' : Nat} {md : MD} {len a b c : Nat} {v : Int32} {lg : Int64} {ks : List (Int32 × Nat)} {L : List (Option AV)} {st : List AV} {M : Mem} {Q : Option AV → Mem → Prop} {x : AV}  (hr : cRow md.2.2.2.2.2.2 pc = some (.dup, len, a, b, c, v, lg, ks)) (hp : pc + 1 = pc') (hx : isL x = false) (K : WP l X (d + 1) md (pc', L, x :: x :: st, M) Q) : WP l X (d + 1) md (pc, L, x :: st, M) Q := wp_next (by rw [st_of hr, ← hp]; show (bif isL x then none else nx _) = _; rw [hx]; rfl) K
theorem x_dup2 {l : Launch} {X : XT} {d pc pc' : Nat} {md : MD} {len a b c : Nat} {v : Int32} {lg : Int64} {ks : List (Int32 × Nat)} {L : List (Option AV)} {st : List AV} {M : Mem} {Q : Option AV → Mem → Prop} {x y : AV}  (hr : cRow md.2.2.2.2.2.2 pc = some (.dup2, len, a, b, c, v, lg, ks)) (hp : pc + 1 = pc') (hx : (isL x || isL y) = false) (K : WP l X (d + 1) md (pc', L, x :: y :: x :: y :: st, M) Q) : WP l X (d + 1) md (pc, L, x :: y :: st, M) Q := wp_next (by rw [st_of hr, ← hp]; show (bif isL x || isL y then none else nx _) = _; rw [hx]; rfl) K
theorem x_goto {l : Launch} {X : XT} {d pc : Nat} {md : MD} {len a b c : Nat} {v : Int32} {lg : Int64} {ks : List (Int32 × Nat)} {L : List (Option AV)} {st : List AV} {M : Mem} {Q : Option AV → Mem → Prop} {n : Int}  (hr : cRow md.2.2.2.2.2.2 pc = some (.goto n, len, a, b, c, v, lg, ks)) (K : WP l X (d + 1) md (a, L, st, M) Q) : WP l X (d + 1) md (pc, L, st, M) Q := wp_next (by rw [st_of hr]; rfl) K
theorem x_icmp_eq {l : Launch} {X : XT} {d pc pc' : Nat} {md : MD} {len a b c : Nat} {v : Int32} {lg : Int64} {ks : List (Int32 × Nat)} {L : List (Option AV)} {st : List AV} {M : Mem} {Q : Option AV → Mem → Prop} {x y : Int32} {n : Int}  (hr : cRow md.2.2.2.2.2.2 pc = some (.if_icmp .eq n, len, a, b, c, v, lg, ks)) (hp : pc + 3 = pc') (K1 : x = y → WP l X (d + 1) md (a, L, st, M) Q) (K2 : ¬ x = y → WP l X (d + 1) md (pc', L, st, M) Q) : WP l X (d + 1) md (pc, L, .inl y :: .inl x :: st, M) Q := by
  subst hp
  by_cases h : x = y
  · exact wp_next (by rw [st_of hr]; show cmpI .eq x y _ _ = _; simp only [cmpI, if_pos h]; rfl) (K1 h)
  · exact wp_next (by rw [st_of hr]; show cmpI .eq x y _ _ = _; simp only [cmpI, if_neg h]; rfl) (K2 h)
theorem x_if_eq {l : Launch} {X : XT} {d pc pc' : Nat} {md : MD} {len a b c : Nat} {v : Int32} {lg : Int64} {ks : List (Int32 × Nat)} {L : List (Option AV)} {st : List AV} {M : Mem} {Q : Option AV → Mem → Prop} {x : Int32} {n : Int}  (hr : cRow md.2.2.2.2.2.2 pc = some (.ifCond .eq n, len, a, b, c, v, lg, ks)) (hp : pc + 3 = pc') (K1 : x = 0 → WP l X (d + 1) md (a, L, st, M) Q) (K2 : ¬ x = 0 → WP l X (d + 1) md (pc', L, st, M) Q) : WP l X (d + 1) md (pc, L, .inl x :: st, M) Q := by
  subst hp
  by_cases h : x = 0
  · exact wp_next (by rw [st_of hr]; show cmpI .eq x 0 _ _ = _; simp only [cmpI, if_pos h]; rfl) (K1 h)
  · exact wp_next (by rw [st_of hr]; show cmpI .eq x 0 _ _ = _; simp only [cmpI, if_neg h]; rfl) (K2 h)
theorem x_icmp_ne {l : Launch} {X : XT} {d pc pc' : Nat} {md : MD} {len a b c : Nat} {v : Int32} {lg : Int64} {ks : List (Int32 × Nat)} {L : List (Option AV)} {st : List AV} {M : Mem} {Q : Option AV → Mem → Prop} {x y : Int32} {n : Int}  (hr : cRow md.2.2.2.2.2.2 pc = some (.if_icmp .ne n, len, a, b, c, v, lg, ks)) (hp : pc + 3 = pc') (K1 : x = y → WP l X (d + 1) md (pc', L, st, M) Q) (K2 : ¬ x = y → WP l X (d + 1) md (a, L, st, M) Q) : WP l X (d + 1) md (pc, L, .inl y :: .inl x :: st, M) Q := by
  subst hp
  by_cases h : x = y
  · exact wp_next (by rw [st_of hr]; show cmpI .ne x y _ _ = _; simp only [cmpI, if_pos h]; rfl) (K1 h)
  · exact wp_next (by rw [st_of hr]; show cmpI .ne x y _ _ = _; simp only [cmpI, if_neg h]; rfl) (K2 h)
theorem x_if_ne {l : Launch} {X : XT} {d pc pc' : Nat} {md : MD} {len a b c : Nat} {v : Int32} {lg : Int64} {ks : List (Int32 × Nat)} {L : List (Option AV)} {st : List AV} {M : Mem} {Q : Option AV → Mem → Prop} {x : Int32} {n : Int}  (hr : cRow md.2.2.2.2.2.2 pc = some (.ifCond .ne n, len, a, b, c, v, lg, ks)) (hp : pc + 3 = pc') (K1 : x = 0 → WP l X (d + 1) md (pc', L, st, M) Q) (K2 : ¬ x = 0 → WP l X (d + 1) md (a, L, st, M) Q) : WP l X (d + 1) md (pc, L, .inl x :: st, M) Q := by
  subst hp
  by_cases h : x = 0
  · exact wp_next (by rw [st_of hr]; show cmpI .ne x 0 _ _ = _; simp only [cmpI, if_pos h]; rfl) (K1 h)
  · exact wp_next (by rw [st_of hr]; show cmpI .ne x 0 _ _ = _; simp only [cmpI, if_neg h]; rfl) (K2 h)
theorem x_icmp_lt {l : Launch} {X : XT} {d pc pc' : Nat} {md : MD} {len a b c : Nat} {v : Int32} {lg : Int64} {ks : List (Int32 × Nat)} {L : List (Option AV)} {st : List AV} {M : Mem} {Q : Option AV → Mem → Prop} {x y : Int32} {n : Int}  (hr : cRow md.2.2.2.2.2.2 pc = some (.if_icmp .lt n, len, a, b, c, v, lg, ks)) (hp : pc + 3 = pc') (K1 : x < y → WP l X (d + 1) md (a, L, st, M) Q) (K2 : ¬ x < y → WP l X (d + 1) md (pc', L, st, M) Q) : WP l X (d + 1) md (pc, L, .inl y :: .inl x :: st, M) Q := by
  subst hp
  by_cases h : x < y
  · exact wp_next (by rw [st_of hr]; show cmpI .lt x y _ _ = _; simp only [cmpI, if_pos h]; rfl) (K1 h)
  · exact wp_next (by rw [st_of hr]; show cmpI .lt x y _ _ = _; simp only [cmpI, if_neg h]; rfl) (K2 h)
theorem x_if_lt {l : Launch} {X : XT} {d pc pc' : Nat} {md : MD} {len a b c : Nat} {v : Int32} {lg : Int64} {ks : List (Int32 × Nat)} {L : List (Option AV)} {st : List AV} {M : Mem} {Q : Option AV → Mem → Prop} {x : Int32} {n : Int}  (hr : cRow md.2.2.2.2.2.2 pc = some (.ifCond .lt n, len, a, b, c, v, lg, ks)) (hp : pc + 3 = pc') (K1 : x < 0 → WP l X (d + 1) md (a, L, st, M) Q) (K2 : ¬ x < 0 → WP l X (d + 1) md (pc', L, st, M) Q) : WP l X (d + 1) md (pc, L, .inl x :: st, M) Q := by
  subst hp
  by_cases h : x < 0
  · exact wp_next (by rw [st_of hr]; show cmpI .lt x 0 _ _ = _; simp only [cmpI, if_pos h]; rfl) (K1 h)
  · exact wp_next (by rw [st_of hr]; show cmpI .lt x 0 _ _ = _; simp only [cmpI, if_neg h]; rfl) (K2 h)
theorem x_icmp_ge {l : Launch} {X : XT} {d pc pc' : Nat} {md : MD} {len a b c : Nat} {v : Int32} {lg : Int64} {ks : List (Int32 × Nat)} {L : List (Option AV)} {st : List AV} {M : Mem} {Q : Option AV → Mem → Prop} {x y : Int32} {n : Int}  (hr : cRow md.2.2.2.2.2.2 pc = some (.if_icmp .ge n, len, a, b, c, v, lg, ks)) (hp : pc + 3 = pc') (K1 : y ≤ x → WP l X (d + 1) md (a, L, st, M) Q) (K2 : ¬ y ≤ x → WP l X (d + 1) md (pc', L, st, M) Q) : WP l X (d + 1) md (pc, L, .inl y :: .inl x :: st, M) Q := by
  subst hp
  by_cases h : y ≤ x
  · exact wp_next (by rw [st_of hr]; show cmpI .ge x y _ _ = _; simp only [cmpI, if_pos h]; rfl) (K1 h)
  · exact wp_next (by rw [st_of hr]; show cmpI .ge x y _ _ = _; simp only [cmpI, if_neg h]; rfl) (K2 h)
theorem x_if_ge {l : Launch} {X : XT} {d pc pc' : Nat} {md : MD} {len a b c : Nat} {v : Int32} {lg : Int64} {ks : List (Int32 × Nat)} {L : List (Option AV)} {st : List AV} {M : Mem} {Q : Option AV → Mem → Prop} {x : Int32} {n : Int}  (hr : cRow md.2.2.2.2.2.2 pc = some (.ifCond .ge n, len, a, b, c, v, lg, ks)) (hp : pc + 3 = pc') (K1 : 0 ≤ x → WP l X (d + 1) md (a, L, st, M) Q) (K2 : ¬ 0 ≤ x → WP l X (d + 1) md (pc', L, st, M) Q) : WP l X (d + 1) md (pc, L, .inl x :: st, M) Q := by
  subst hp
  by_cases h : 0 ≤ x
  · exact wp_next (by rw [st_of hr]; show cmpI .ge x 0 _ _ = _; simp only [cmpI, if_pos h]; rfl) (K1 h)
  · exact wp_next (by rw [st_of hr]; show cmpI .ge x 0 _ _ = _; simp only [cmpI, if_neg h]; rfl) (K2 h)
theorem x_icmp_gt {l : Launch} {X : XT} {d pc pc' : Nat} {md : MD} {len a b c : Nat} {v : Int32} {lg : Int64} {ks : List (Int32 × Nat)} {L : List (Option AV)} {st : List AV} {M : Mem} {Q : Option AV → Mem → Prop} {x y : Int32} {n : Int}  (hr : cRow md.2.2.2.2.2.2 pc = some (.if_icmp .gt n, len, a, b, c, v, lg, ks)) (hp : pc + 3 = pc') (K1 : y < x → WP l X (d + 1) md (a, L, st, M) Q) (K2 : ¬ y < x → WP l X (d + 1) md (pc', L, st, M) Q) : WP l X (d + 1) md (pc, L, .inl y :: .inl x :: st, M) Q := by
  subst hp
  by_cases h : y < x
  · exact wp_next (by rw [st_of hr]; show cmpI .gt x y _ _ = _; simp only [cmpI, if_pos h]; rfl) (K1 h)
  · exact wp_next (by rw [st_of hr]; show cmpI .gt x y _ _ = _; simp only [cmpI, if_neg h]; rfl) (K2 h)
theorem x_if_gt {l : Launch} {X : XT} {d pc pc' : Nat} {md : MD} {len a b c : Nat} {v : Int32} {lg : Int64} {ks : List (Int32 × Nat)} {L : List (Option AV)} {st : List AV} {M : Mem} {Q : Option AV → Mem → Prop} {x : Int32} {n : Int}  (hr : cRow md.2.2.2.2.2.2 pc = some (.ifCond .gt n, len, a, b, c, v, lg, ks)) (hp : pc + 3 = pc') (K1 : 0 < x → WP l X (d + 1) md (a, L, st, M) Q) (K2 : ¬ 0 < x → WP l X (d + 1) md (pc', L, st, M) Q) : WP l X (d + 1) md (pc, L, .inl x :: st, M) Q := by
  subst hp
  by_cases h : 0 < x
  · exact wp_next (by rw [st_of hr]; show cmpI .gt x 0 _ _ = _; simp only [cmpI, if_pos h]; rfl) (K1 h)
  · exact wp_next (by rw [st_of hr]; show cmpI .gt x 0 _ _ = _; simp only [cmpI, if_neg h]; rfl) (K2 h)
theorem x_icmp_le {l : Launch} {X : XT} {d pc pc' : Nat} {md : MD} {len a b c : Nat} {v : Int32} {lg : Int64} {ks : List (Int32 × Nat)} {L : List (Option AV)} {st : List AV} {M : Mem} {Q : Option AV → Mem → Prop} {x y : Int32} {n : Int}  (hr : cRow md.2.2.2.2.2.2 pc = some (.if_icmp .le n, len, a, b, c, v, lg, ks)) (hp : pc + 3 = pc') (K1 : x ≤ y → WP l X (d + 1) md (a, L, st, M) Q) (K2 : ¬ x ≤ y → WP l X (d + 1) md (pc', L, st, M) Q) : WP l X (d + 1) md (pc, L, .inl y :: .inl x :: st, M) Q := by
  subst hp
  by_cases h : x ≤ y
  · exact wp_next (by rw [st_of hr]; show cmpI .le x y _ _ = _; simp only [cmpI, if_pos h]; rfl) (K1 h)
  · exact wp_next (by rw [st_of hr]; show cmpI .le x y _ _ = _; simp only [cmpI, if_neg h]; rfl) (K2 h)
theorem x_if_le {l : Launch} {X : XT} {d pc pc' : Nat} {md : MD} {len a b c : Nat} {v : Int32} {lg : Int64} {ks : List (Int32 × Nat)} {L : List (Option AV)} {st : List AV} {M : Mem} {Q : Option AV → Mem → Prop} {x : Int32} {n : Int}  (hr : cRow md.2.2.2.2.2.2 pc = some (.ifCond .le n, len, a, b, c, v, lg, ks)) (hp : pc + 3 = pc') (K1 : x ≤ 0 → WP l X (d + 1) md (a, L, st, M) Q) (K2 : ¬ x ≤ 0 → WP l X (d + 1) md (pc', L, st, M) Q) : WP l X (d + 1) md (pc, L, .inl x :: st, M) Q := by
  subst hp
  by_cases h : x ≤ 0
  · exact wp_next (by rw [st_of hr]; show cmpI .le x 0 _ _ = _; simp only [cmpI, if_pos h]; rfl) (K1 h)
  · exact wp_next (by rw [st_of hr]; show cmpI .le x 0 _ _ = _; simp only [cmpI, if_neg h]; rfl) (K2 h)
theorem x_icmp_eqN {l : Launch} {X : XT} {d pc pc' : Nat} {md : MD} {len a b c : Nat} {v : Int32} {lg : Int64} {ks : List (Int32 × Nat)} {L : List (Option AV)} {st : List AV} {M : Mem} {Q : Option AV → Mem → Prop} {i j : Nat} {n : Int}  (hr : cRow md.2.2.2.2.2.2 pc = some (.if_icmp .eq n, len, a, b, c, v, lg, ks)) (hp : pc + 3 = pc') (hi : i < 2 ^ 31) (hj : j < 2 ^ 31) (K1 : i = j → WP l X (d + 1) md (a, L, st, M) Q) (K2 : ¬ i = j → WP l X (d + 1) md (pc', L, st, M) Q) : WP l X (d + 1) md (pc, L, .inl (nI j) :: .inl (nI i) :: st, M) Q := x_icmp_eq hr hp (fun h => K1 ((nI_eq hi hj).mp h)) (fun h => K2 (fun z => h ((nI_eq hi hj).mpr z)))
theorem x_icmp_neN {l : Launch} {X : XT} {d pc pc' : Nat} {md : MD} {len a b c : Nat} {v : Int32} {lg : Int64} {ks : List (Int32 × Nat)} {L : List (Option AV)} {st : List AV} {M : Mem} {Q : Option AV → Mem → Prop} {i j : Nat} {n : Int}  (hr : cRow md.2.2.2.2.2.2 pc = some (.if_icmp .ne n, len, a, b, c, v, lg, ks)) (hp : pc + 3 = pc') (hi : i < 2 ^ 31) (hj : j < 2 ^ 31) (K1 : i = j → WP l X (d + 1) md (pc', L, st, M) Q) (K2 : ¬ i = j → WP l X (d + 1) md (a, L, st, M) Q) : WP l X (d + 1) md (pc, L, .inl (nI j) :: .inl (nI i) :: st, M) Q := x_icmp_ne hr hp (fun h => K1 ((nI_eq hi hj).mp h)) (fun h => K2 (fun z => h ((nI_eq hi hj).mpr z)))
theorem x_icmp_ltN {l : Launch} {X : XT} {d pc pc' : Nat} {md : MD} {len a b c : Nat} {v : Int32} {lg : Int64} {ks : List (Int32 × Nat)} {L : List (Option AV)} {st : List AV} {M : Mem} {Q : Option AV → Mem → Prop} {i j : Nat} {n : Int}  (hr : cRow md.2.2.2.2.2.2 pc = some (.if_icmp .lt n, len, a, b, c, v, lg, ks)) (hp : pc + 3 = pc') (hi : i < 2 ^ 31) (hj : j < 2 ^ 31) (K1 : i < j → WP l X (d + 1) md (a, L, st, M) Q) (K2 : j ≤ i → WP l X (d + 1) md (pc', L, st, M) Q) : WP l X (d + 1) md (pc, L, .inl (nI j) :: .inl (nI i) :: st, M) Q := x_icmp_lt hr hp (fun h => K1 ((nI_ltI hi hj).mp h)) (fun h => K2 (Nat.not_lt.mp (fun z => h ((nI_ltI hi hj).mpr z))))
theorem x_icmp_geN {l : Launch} {X : XT} {d pc pc' : Nat} {md : MD} {len a b c : Nat} {v : Int32} {lg : Int64} {ks : List (Int32 × Nat)} {L : List (Option AV)} {st : List AV} {M : Mem} {Q : Option AV → Mem → Prop} {i j : Nat} {n : Int}  (hr : cRow md.2.2.2.2.2.2 pc = some (.if_icmp .ge n, len, a, b, c, v, lg, ks)) (hp : pc + 3 = pc') (hi : i < 2 ^ 31) (hj : j < 2 ^ 31) (K1 : j ≤ i → WP l X (d + 1) md (a, L, st, M) Q) (K2 : i < j → WP l X (d + 1) md (pc', L, st, M) Q) : WP l X (d + 1) md (pc, L, .inl (nI j) :: .inl (nI i) :: st, M) Q := x_icmp_ge hr hp (fun h => K1 ((nI_leI hj hi).mp h)) (fun h => K2 (Nat.not_le.mp (fun z => h ((nI_leI hj hi).mpr z))))
theorem x_icmp_gtN {l : Launch} {X : XT} {d pc pc' : Nat} {md : MD} {len a b c : Nat} {v : Int32} {lg : Int64} {ks : List (Int32 × Nat)} {L : List (Option AV)} {st : List AV} {M : Mem} {Q : Option AV → Mem → Prop} {i j : Nat} {n : Int}  (hr : cRow md.2.2.2.2.2.2 pc = some (.if_icmp .gt n, len, a, b, c, v, lg, ks)) (hp : pc + 3 = pc') (hi : i < 2 ^ 31) (hj : j < 2 ^ 31) (K1 : j < i → WP l X (d + 1) md (a, L, st, M) Q) (K2 : i ≤ j → WP l X (d + 1) md (pc', L, st, M) Q) : WP l X (d + 1) md (pc, L, .inl (nI j) :: .inl (nI i) :: st, M) Q := x_icmp_gt hr hp (fun h => K1 ((nI_ltI hj hi).mp h)) (fun h => K2 (Nat.not_lt.mp (fun z => h ((nI_ltI hj hi).mpr z))))
theorem x_icmp_leN {l : Launch} {X : XT} {d pc pc' : Nat} {md : MD} {len a b c : Nat} {v : Int32} {lg : Int64} {ks : List (Int32 × Nat)} {L : List (Option AV)} {st : List AV} {M : Mem} {Q : Option AV → Mem → Prop} {i j : Nat} {n : Int}  (hr : cRow md.2.2.2.2.2.2 pc = some (.if_icmp .le n, len, a, b, c, v, lg, ks)) (hp : pc + 3 = pc') (hi : i < 2 ^ 31) (hj : j < 2 ^ 31) (K1 : i ≤ j → WP l X (d + 1) md (a, L, st, M) Q) (K2 : j < i → WP l X (d + 1) md (pc', L, st, M) Q) : WP l X (d + 1) md (pc, L, .inl (nI j) :: .inl (nI i) :: st, M) Q := x_icmp_le hr hp (fun h => K1 ((nI_leI hi hj).mp h)) (fun h => K2 (Nat.not_le.mp (fun z => h ((nI_leI hi hj).mpr z))))
theorem x_tsw {l : Launch} {X : XT} {d pc pc' : Nat} {md : MD} {len a b c : Nat} {v : Int32} {lg : Int64} {ks : List (Int32 × Nat)} {L : List (Option AV)} {st : List AV} {M : Mem} {Q : Option AV → Mem → Prop} {x : Int32} {df lo hi : Int} {offs : Array Int}  (hr : cRow md.2.2.2.2.2.2 pc = some (.tableswitch df lo hi offs, len, a, b, c, v, lg, ks)) (hp : swT x ks a = pc') (K : WP l X (d + 1) md (pc', L, st, M) Q) : WP l X (d + 1) md (pc, L, .inl x :: st, M) Q := wp_next (by rw [st_of hr, ← hp]; rfl) K
theorem x_lsw {l : Launch} {X : XT} {d pc pc' : Nat} {md : MD} {len a b c : Nat} {v : Int32} {lg : Int64} {ks : List (Int32 × Nat)} {L : List (Option AV)} {st : List AV} {M : Mem} {Q : Option AV → Mem → Prop} {x : Int32} {df : Int} {ps : Array (Int × Int)}  (hr : cRow md.2.2.2.2.2.2 pc = some (.lookupswitch df ps, len, a, b, c, v, lg, ks)) (hp : swT x ks a = pc') (K : WP l X (d + 1) md (pc', L, st, M) Q) : WP l X (d + 1) md (pc, L, .inl x :: st, M) Q := wp_next (by rw [st_of hr, ← hp]; rfl) K
theorem x_getI {l : Launch} {X : XT} {d pc pc' : Nat} {md : MD} {len a b c : Nat} {v : Int32} {lg : Int64} {ks : List (Int32 × Nat)} {L : List (Option AV)} {st : List AV} {Q : Option AV → Mem → Prop} {mn ml : Nat} {mf : Nat → Nat → Nat → Bool} {mw : Nat → Nat → Nat → Nat → Int32} {i n : Nat}  (hr : cRow md.2.2.2.2.2.2 pc = some (.getfield n, len, a, b, c, v, lg, ks)) (hp : pc + 3 = pc') (hk : (fk a b).ble 1 = true) (K : WP l X (d + 1) md (pc', L, .inl (mw a i 0 b) :: st, (mn, mf, ml, mw)) Q) : WP l X (d + 1) md (pc, L, .inr (.inr (a, i, 0)) :: st, (mn, mf, ml, mw)) Q := wp_next (by
  rw [st_of hr, ← hp]
  simp only [exI, Nat.beq_refl, cond_true]
  have h1 : exF (mn, mf, ml, mw) a i b = some (.inl (mw a i 0 b)) := by
    unfold exF
    have := ble_le hk
    rcases (by omega : fk a b = 0 ∨ fk a b = 1) with h | h <;> rw [h]
  rw [h1]; rfl) K
theorem x_getR {l : Launch} {X : XT} {d pc pc' : Nat} {md : MD} {len a b c : Nat} {v : Int32} {lg : Int64} {ks : List (Int32 × Nat)} {L : List (Option AV)} {st : List AV} {Q : Option AV → Mem → Prop} {mn ml : Nat} {mf : Nat → Nat → Nat → Bool} {mw : Nat → Nat → Nat → Nat → Int32} {i n : Nat} {t : AA}  (hr : cRow md.2.2.2.2.2.2 pc = some (.getfield n, len, a, b, c, v, lg, ks)) (hp : pc + 3 = pc') (hk : exF (mn, mf, ml, mw) a i b = some (.inr (.inr t))) (K : WP l X (d + 1) md (pc', L, .inr (.inr t) :: st, (mn, mf, ml, mw)) Q) : WP l X (d + 1) md (pc, L, .inr (.inr (a, i, 0)) :: st, (mn, mf, ml, mw)) Q := wp_next (by
  rw [st_of hr, ← hp]
  simp only [exI, Nat.beq_refl, cond_true]
  rw [hk]; rfl) K
theorem x_putI {l : Launch} {X : XT} {d pc pc' : Nat} {md : MD} {len a b c : Nat} {v : Int32} {lg : Int64} {ks : List (Int32 × Nat)} {L : List (Option AV)} {st : List AV} {Q : Option AV → Mem → Prop} {mn ml : Nat} {mf : Nat → Nat → Nat → Bool} {mw : Nat → Nat → Nat → Nat → Int32} {i n : Nat} {x : Int32}  (hr : cRow md.2.2.2.2.2.2 pc = some (.putfield n, len, a, b, c, v, lg, ks)) (hp : pc + 3 = pc') (hk : fk a b = 0) (K : WP l X (d + 1) md (pc', L, st, (mn, mf, ml, u4 mw a i 0 b x)) Q) : WP l X (d + 1) md (pc, L, .inl x :: .inr (.inr (a, i, 0)) :: st, (mn, mf, ml, mw)) Q := wp_next (by
  rw [st_of hr, ← hp]
  simp only [exI, Nat.beq_refl, cond_true]
  unfold exP
  rw [hk]; rfl) K
theorem x_putZ {l : Launch} {X : XT} {d pc pc' : Nat} {md : MD} {len a b c : Nat} {v : Int32} {lg : Int64} {ks : List (Int32 × Nat)} {L : List (Option AV)} {st : List AV} {Q : Option AV → Mem → Prop} {mn ml : Nat} {mf : Nat → Nat → Nat → Bool} {mw : Nat → Nat → Nat → Nat → Int32} {i n : Nat} {x : Int32}  (hr : cRow md.2.2.2.2.2.2 pc = some (.putfield n, len, a, b, c, v, lg, ks)) (hp : pc + 3 = pc') (hk : fk a b = 1) (hx : x = 0 ∨ x = 1) (K : WP l X (d + 1) md (pc', L, st, (mn, mf, ml, u4 mw a i 0 b x)) Q) : WP l X (d + 1) md (pc, L, .inl x :: .inr (.inr (a, i, 0)) :: st, (mn, mf, ml, mw)) Q := wp_next (by
  rw [st_of hr, ← hp]
  simp only [exI, Nat.beq_refl, cond_true]
  unfold exP
  rw [hk]
  simp only [if_pos hx]; rfl) K
theorem uf_all (c i k : Nat) : uf (fun _ _ _ => true) c i k = (fun _ _ _ => true) := by
  funext x y z; simp [uf]
theorem x_put5 {l : Launch} {X : XT} {d pc pc' : Nat} {md : MD} {len a b c : Nat} {v : Int32} {lg : Int64} {ks : List (Int32 × Nat)} {L : List (Option AV)} {st : List AV} {Q : Option AV → Mem → Prop} {ml : Nat} {mw : Nat → Nat → Nat → Nat → Int32} {i j n : Nat}  (hr : cRow md.2.2.2.2.2.2 pc = some (.putfield n, len, a, b, c, v, lg, ks)) (hp : pc + 3 = pc') (hk : fk a b = 5) (hj : j < 2) (K : WP l X (d + 1) md (pc', L, st, mk ml (u4 mw a i 0 b (nI j))) Q) : WP l X (d + 1) md (pc, L, .inr (.inr (4, j, 0)) :: .inr (.inr (a, i, 0)) :: st, mk ml mw) Q := wp_next (by
  rw [st_of hr, ← hp]
  simp only [exI, Nat.beq_refl, cond_true]
  unfold exP
  rw [hk]
  simp only [if_pos hj, uf_all]; rfl) K
theorem x_iald {l : Launch} {X : XT} {d pc pc' : Nat} {md : MD} {len a b c : Nat} {v : Int32} {lg : Int64} {ks : List (Int32 × Nat)} {L : List (Option AV)} {st : List AV} {Q : Option AV → Mem → Prop} {mn ml : Nat} {mf : Nat → Nat → Nat → Bool} {mw : Nat → Nat → Nat → Nat → Int32} {i o k N : Nat}  (hr : cRow md.2.2.2.2.2.2 pc = some (.iaload, len, a, b, c, v, lg, ks)) (hp : pc + 1 = pc') {c1 : Nat} (hi : isIA c1 o = true) (hN : aLen ml c1 o = N) (hk : k < N) (hl : N < 2 ^ 31) (K : WP l X (d + 1) md (pc', L, .inl (mw c1 i o k) :: st, (mn, mf, ml, mw)) Q) : WP l X (d + 1) md (pc, L, .inl (nI k) :: .inr (.inr (c1, i, o)) :: st, (mn, mf, ml, mw)) Q := wp_next (by
  rw [st_of hr, ← hp]
  simp only [exI, hi, cond_true, hN]
  rw [if_neg (by rw [nI_clamp (by omega)]; intro z; rcases z with z | z; exact nI_pos (by omega) z; omega), nI_clamp (by omega)]; rfl) K
theorem x_iast {l : Launch} {X : XT} {d pc pc' : Nat} {md : MD} {len a b c : Nat} {v : Int32} {lg : Int64} {ks : List (Int32 × Nat)} {L : List (Option AV)} {st : List AV} {Q : Option AV → Mem → Prop} {mn ml : Nat} {mf : Nat → Nat → Nat → Bool} {mw : Nat → Nat → Nat → Nat → Int32} {i o k N : Nat} {x : Int32}  (hr : cRow md.2.2.2.2.2.2 pc = some (.iastore, len, a, b, c, v, lg, ks)) (hp : pc + 1 = pc') {c1 : Nat} (hi : isIA c1 o = true) (h0 : 0 < o) (hN : al c1 o = N) (hk : k < N) (hl : N < 2 ^ 31) (K : WP l X (d + 1) md (pc', L, st, (mn, mf, ml, u4 mw c1 i o k x)) Q) : WP l X (d + 1) md (pc, L, .inl x :: .inl (nI k) :: .inr (.inr (c1, i, o)) :: st, (mn, mf, ml, mw)) Q := wp_next (by
  obtain ⟨o, rfl⟩ : ∃ q, o = q + 1 := ⟨o - 1, by omega⟩
  rw [st_of hr, ← hp]
  simp only [exI, hi, cond_true, hN]
  rw [if_neg (by rw [nI_clamp (by omega)]; intro z; rcases z with z | z; exact nI_pos (by omega) z; omega), nI_clamp (by omega)]; rfl) K
theorem x_aald {l : Launch} {X : XT} {d pc pc' : Nat} {md : MD} {len a b c : Nat} {v : Int32} {lg : Int64} {ks : List (Int32 × Nat)} {L : List (Option AV)} {st : List AV} {Q : Option AV → Mem → Prop} {ml : Nat} {mw : Nat → Nat → Nat → Nat → Int32} {i o k N : Nat} {t : AA}  (hr : cRow md.2.2.2.2.2.2 pc = some (.aaload, len, a, b, c, v, lg, ks)) (hp : pc + 1 = pc') {c1 : Nat} (hi : isRA c1 o = true) (h0 : 0 < o) (hN : al c1 o = N) (ht : et c1 k = t) (hk : k < N) (hl : N < 2 ^ 31) (K : WP l X (d + 1) md (pc', L, .inr (.inr t) :: st, mk ml mw) Q) : WP l X (d + 1) md (pc, L, .inl (nI k) :: .inr (.inr (c1, i, o)) :: st, mk ml mw) Q := wp_next (by
  obtain ⟨o, rfl⟩ : ∃ q, o = q + 1 := ⟨o - 1, by omega⟩
  rw [st_of hr, ← hp]
  simp only [exI, hi, cond_true, hN]
  rw [if_neg (by rw [nI_clamp (by omega)]; intro z; rcases z with z | z; exact nI_pos (by omega) z; omega), nI_clamp (by omega), ht]; rfl) K
theorem x_alen {l : Launch} {X : XT} {d pc pc' : Nat} {md : MD} {len a b c : Nat} {v : Int32} {lg : Int64} {ks : List (Int32 × Nat)} {L : List (Option AV)} {st : List AV} {Q : Option AV → Mem → Prop} {mn ml : Nat} {mf : Nat → Nat → Nat → Bool} {mw : Nat → Nat → Nat → Nat → Int32}  (hr : cRow md.2.2.2.2.2.2 pc = some (.arraylength, len, a, b, c, v, lg, ks)) (hp : pc + 1 = pc') (K : WP l X (d + 1) md (pc', L, .inl (nI ml) :: st, (mn, mf, ml, mw)) Q) : WP l X (d + 1) md (pc, L, .inr (.inr (13, 0, 0)) :: st, (mn, mf, ml, mw)) Q := wp_next (by rw [st_of hr, ← hp]; rfl) K
theorem x_acopy {l : Launch} {X : XT} {d pc pc' : Nat} {md : MD} {len a b : Nat} {v : Int32} {lg : Int64} {ks : List (Int32 × Nat)} {L : List (Option AV)} {st : List AV} {Q : Option AV → Mem → Prop} {mn ml : Nat} {mf : Nat → Nat → Nat → Bool} {mw : Nat → Nat → Nat → Nat → Int32} {n c1 i1 o1 c0 i0 o0 N : Nat}  (hr : cRow md.2.2.2.2.2.2 pc = some (.invokestatic n, len, a, b, 1, v, lg, ks)) (hp : pc + 3 = pc') (h1 : isIA c1 (o1 + 1) = true) (h0 : isIA c0 (o0 + 1) = true) (hs : st.length.ble 4 = true) (hN : al c1 (o1 + 1) = N) (hN0 : al c0 (o0 + 1) = N) (hl : N < 2 ^ 31) (K : WP l X (d + 1) md (pc', L, st, (mn, mf, ml, uc mw c1 i1 (o1 + 1) (mw c0 i0 (o0 + 1)))) Q) : WP l X (d + 1) md (pc, L, .inl (nI N) :: .inl (nI 0) :: .inr (.inr (c1, i1, o1 + 1)) :: .inl (nI 0) :: .inr (.inr (c0, i0, o0 + 1)) :: st, (mn, mf, ml, mw)) Q := wp_next (by
  rw [st_of hr, ← hp]
  simp only [exI, h1, h0, hs, Bool.and_self, cond_true]
  rw [if_pos ⟨rfl, rfl, by rw [nI_clamp hl, hN], by rw [hN, hN0], nI_pos hl⟩]; rfl) K
theorem x_invI1 {l : Launch} {X : XT} {d pc pc' : Nat} {md : MD} {len a c : Nat} {v : Int32} {lg : Int64} {ks : List (Int32 × Nat)} {L : List (Option AV)} {st : List AV} {M : Mem} {Q : Option AV → Mem → Prop} {i n : Nat} {M1 : Mem}   {rv : Int32} (hr : cRow md.2.2.2.2.2.2 pc = some (.invokevirtual n, len, a, 1, c, v, lg, ks)) (hp : pc + 3 = pc') (hs : st.length.ble 4 = true)  (C : CT l X d (mdOf a) [.inr (.inr (c, i, 0))] M (some (.inl rv)) M1) (K : WP l X (d + 1) md (pc', L, .inl rv :: st, M1) Q) : WP l X (d + 1) md (pc, L, .inr (.inr (c, i, 0)) :: st, M) Q := wp_call (S1 := (pc + 3, L, st, M)) (as := [.inr (.inr (c, i, 0))]) (by
  rw [st_of hr]
  simp only [exI, List.drop, List.take, Nat.add_one_sub_one, Nat.beq_refl, hs, Bool.and_self, cond_true]; rfl) (by simp only [List.all_cons, List.all_nil]; rfl) C (fun v' M' h => by
  obtain ⟨rfl, rfl⟩ := h
  show WP l X (d + 1) md (pc + 3, L, _, M') Q
  rw [hp]; exact K)
theorem x_invV1 {l : Launch} {X : XT} {d pc pc' : Nat} {md : MD} {len a c : Nat} {v : Int32} {lg : Int64} {ks : List (Int32 × Nat)} {L : List (Option AV)} {st : List AV} {M : Mem} {Q : Option AV → Mem → Prop} {i n : Nat} {M1 : Mem}    (hr : cRow md.2.2.2.2.2.2 pc = some (.invokevirtual n, len, a, 1, c, v, lg, ks)) (hp : pc + 3 = pc') (hs : st.length.ble 4 = true)  (C : CT l X d (mdOf a) [.inr (.inr (c, i, 0))] M none M1) (K : WP l X (d + 1) md (pc', L, st, M1) Q) : WP l X (d + 1) md (pc, L, .inr (.inr (c, i, 0)) :: st, M) Q := wp_call (S1 := (pc + 3, L, st, M)) (as := [.inr (.inr (c, i, 0))]) (by
  rw [st_of hr]
  simp only [exI, List.drop, List.take, Nat.add_one_sub_one, Nat.beq_refl, hs, Bool.and_self, cond_true]; rfl) (by simp only [List.all_cons, List.all_nil]; rfl) C (fun v' M' h => by
  obtain ⟨rfl, rfl⟩ := h
  show WP l X (d + 1) md (pc + 3, L, _, M') Q
  rw [hp]; exact K)
theorem x_invI2 {l : Launch} {X : XT} {d pc pc' : Nat} {md : MD} {len a c : Nat} {v : Int32} {lg : Int64} {ks : List (Int32 × Nat)} {L : List (Option AV)} {st : List AV} {M : Mem} {Q : Option AV → Mem → Prop} {i n : Nat} {M1 : Mem} {y1 : AV} {rv : Int32}  (hr : cRow md.2.2.2.2.2.2 pc = some (.invokevirtual n, len, a, 2, c, v, lg, ks)) (hp : pc + 3 = pc') (hs : st.length.ble 4 = true) (h1 : isL y1 = false) (C : CT l X d (mdOf a) [.inr (.inr (c, i, 0)), y1] M (some (.inl rv)) M1) (K : WP l X (d + 1) md (pc', L, .inl rv :: st, M1) Q) : WP l X (d + 1) md (pc, L, y1 :: .inr (.inr (c, i, 0)) :: st, M) Q := wp_call (S1 := (pc + 3, L, st, M)) (as := [.inr (.inr (c, i, 0)), y1]) (by
  rw [st_of hr]
  simp only [exI, List.drop, List.take, Nat.add_one_sub_one, Nat.beq_refl, hs, Bool.and_self, cond_true]; rfl) (by simp only [List.all_cons, List.all_nil, h1]; rfl) C (fun v' M' h => by
  obtain ⟨rfl, rfl⟩ := h
  show WP l X (d + 1) md (pc + 3, L, _, M') Q
  rw [hp]; exact K)
theorem x_invV2 {l : Launch} {X : XT} {d pc pc' : Nat} {md : MD} {len a c : Nat} {v : Int32} {lg : Int64} {ks : List (Int32 × Nat)} {L : List (Option AV)} {st : List AV} {M : Mem} {Q : Option AV → Mem → Prop} {i n : Nat} {M1 : Mem} {y1 : AV}   (hr : cRow md.2.2.2.2.2.2 pc = some (.invokevirtual n, len, a, 2, c, v, lg, ks)) (hp : pc + 3 = pc') (hs : st.length.ble 4 = true) (h1 : isL y1 = false) (C : CT l X d (mdOf a) [.inr (.inr (c, i, 0)), y1] M none M1) (K : WP l X (d + 1) md (pc', L, st, M1) Q) : WP l X (d + 1) md (pc, L, y1 :: .inr (.inr (c, i, 0)) :: st, M) Q := wp_call (S1 := (pc + 3, L, st, M)) (as := [.inr (.inr (c, i, 0)), y1]) (by
  rw [st_of hr]
  simp only [exI, List.drop, List.take, Nat.add_one_sub_one, Nat.beq_refl, hs, Bool.and_self, cond_true]; rfl) (by simp only [List.all_cons, List.all_nil, h1]; rfl) C (fun v' M' h => by
  obtain ⟨rfl, rfl⟩ := h
  show WP l X (d + 1) md (pc + 3, L, _, M') Q
  rw [hp]; exact K)
theorem x_invI3 {l : Launch} {X : XT} {d pc pc' : Nat} {md : MD} {len a c : Nat} {v : Int32} {lg : Int64} {ks : List (Int32 × Nat)} {L : List (Option AV)} {st : List AV} {M : Mem} {Q : Option AV → Mem → Prop} {i n : Nat} {M1 : Mem} {y1 y2 : AV} {rv : Int32}  (hr : cRow md.2.2.2.2.2.2 pc = some (.invokevirtual n, len, a, 3, c, v, lg, ks)) (hp : pc + 3 = pc') (hs : st.length.ble 4 = true) (h1 : isL y1 = false) (h2 : isL y2 = false) (C : CT l X d (mdOf a) [.inr (.inr (c, i, 0)), y1, y2] M (some (.inl rv)) M1) (K : WP l X (d + 1) md (pc', L, .inl rv :: st, M1) Q) : WP l X (d + 1) md (pc, L, y2 :: y1 :: .inr (.inr (c, i, 0)) :: st, M) Q := wp_call (S1 := (pc + 3, L, st, M)) (as := [.inr (.inr (c, i, 0)), y1, y2]) (by
  rw [st_of hr]
  simp only [exI, List.drop, List.take, Nat.add_one_sub_one, Nat.beq_refl, hs, Bool.and_self, cond_true]; rfl) (by simp only [List.all_cons, List.all_nil, h1, h2]; rfl) C (fun v' M' h => by
  obtain ⟨rfl, rfl⟩ := h
  show WP l X (d + 1) md (pc + 3, L, _, M') Q
  rw [hp]; exact K)
theorem x_invV3 {l : Launch} {X : XT} {d pc pc' : Nat} {md : MD} {len a c : Nat} {v : Int32} {lg : Int64} {ks : List (Int32 × Nat)} {L : List (Option AV)} {st : List AV} {M : Mem} {Q : Option AV → Mem → Prop} {i n : Nat} {M1 : Mem} {y1 y2 : AV}   (hr : cRow md.2.2.2.2.2.2 pc = some (.invokevirtual n, len, a, 3, c, v, lg, ks)) (hp : pc + 3 = pc') (hs : st.length.ble 4 = true) (h1 : isL y1 = false) (h2 : isL y2 = false) (C : CT l X d (mdOf a) [.inr (.inr (c, i, 0)), y1, y2] M none M1) (K : WP l X (d + 1) md (pc', L, st, M1) Q) : WP l X (d + 1) md (pc, L, y2 :: y1 :: .inr (.inr (c, i, 0)) :: st, M) Q := wp_call (S1 := (pc + 3, L, st, M)) (as := [.inr (.inr (c, i, 0)), y1, y2]) (by
  rw [st_of hr]
  simp only [exI, List.drop, List.take, Nat.add_one_sub_one, Nat.beq_refl, hs, Bool.and_self, cond_true]; rfl) (by simp only [List.all_cons, List.all_nil, h1, h2]; rfl) C (fun v' M' h => by
  obtain ⟨rfl, rfl⟩ := h
  show WP l X (d + 1) md (pc + 3, L, _, M') Q
  rw [hp]; exact K)
theorem x_invI4 {l : Launch} {X : XT} {d pc pc' : Nat} {md : MD} {len a c : Nat} {v : Int32} {lg : Int64} {ks : List (Int32 × Nat)} {L : List (Option AV)} {st : List AV} {M : Mem} {Q : Option AV → Mem → Prop} {i n : Nat} {M1 : Mem} {y1 y2 y3 : AV} {rv : Int32}  (hr : cRow md.2.2.2.2.2.2 pc = some (.invokevirtual n, len, a, 4, c, v, lg, ks)) (hp : pc + 3 = pc') (hs : st.length.ble 4 = true) (h1 : isL y1 = false) (h2 : isL y2 = false) (h3 : isL y3 = false) (C : CT l X d (mdOf a) [.inr (.inr (c, i, 0)), y1, y2, y3] M (some (.inl rv)) M1) (K : WP l X (d + 1) md (pc', L, .inl rv :: st, M1) Q) : WP l X (d + 1) md (pc, L, y3 :: y2 :: y1 :: .inr (.inr (c, i, 0)) :: st, M) Q := wp_call (S1 := (pc + 3, L, st, M)) (as := [.inr (.inr (c, i, 0)), y1, y2, y3]) (by
  rw [st_of hr]
  simp only [exI, List.drop, List.take, Nat.add_one_sub_one, Nat.beq_refl, hs, Bool.and_self, cond_true]; rfl) (by simp only [List.all_cons, List.all_nil, h1, h2, h3]; rfl) C (fun v' M' h => by
  obtain ⟨rfl, rfl⟩ := h
  show WP l X (d + 1) md (pc + 3, L, _, M') Q
  rw [hp]; exact K)
theorem x_invV4 {l : Launch} {X : XT} {d pc pc' : Nat} {md : MD} {len a c : Nat} {v : Int32} {lg : Int64} {ks : List (Int32 × Nat)} {L : List (Option AV)} {st : List AV} {M : Mem} {Q : Option AV → Mem → Prop} {i n : Nat} {M1 : Mem} {y1 y2 y3 : AV}   (hr : cRow md.2.2.2.2.2.2 pc = some (.invokevirtual n, len, a, 4, c, v, lg, ks)) (hp : pc + 3 = pc') (hs : st.length.ble 4 = true) (h1 : isL y1 = false) (h2 : isL y2 = false) (h3 : isL y3 = false) (C : CT l X d (mdOf a) [.inr (.inr (c, i, 0)), y1, y2, y3] M none M1) (K : WP l X (d + 1) md (pc', L, st, M1) Q) : WP l X (d + 1) md (pc, L, y3 :: y2 :: y1 :: .inr (.inr (c, i, 0)) :: st, M) Q := wp_call (S1 := (pc + 3, L, st, M)) (as := [.inr (.inr (c, i, 0)), y1, y2, y3]) (by
  rw [st_of hr]
  simp only [exI, List.drop, List.take, Nat.add_one_sub_one, Nat.beq_refl, hs, Bool.and_self, cond_true]; rfl) (by simp only [List.all_cons, List.all_nil, h1, h2, h3]; rfl) C (fun v' M' h => by
  obtain ⟨rfl, rfl⟩ := h
  show WP l X (d + 1) md (pc + 3, L, _, M') Q
  rw [hp]; exact K)
theorem x_invI5 {l : Launch} {X : XT} {d pc pc' : Nat} {md : MD} {len a c : Nat} {v : Int32} {lg : Int64} {ks : List (Int32 × Nat)} {L : List (Option AV)} {st : List AV} {M : Mem} {Q : Option AV → Mem → Prop} {i n : Nat} {M1 : Mem} {y1 y2 y3 y4 : AV} {rv : Int32}  (hr : cRow md.2.2.2.2.2.2 pc = some (.invokevirtual n, len, a, 5, c, v, lg, ks)) (hp : pc + 3 = pc') (hs : st.length.ble 4 = true) (h1 : isL y1 = false) (h2 : isL y2 = false) (h3 : isL y3 = false) (h4 : isL y4 = false) (C : CT l X d (mdOf a) [.inr (.inr (c, i, 0)), y1, y2, y3, y4] M (some (.inl rv)) M1) (K : WP l X (d + 1) md (pc', L, .inl rv :: st, M1) Q) : WP l X (d + 1) md (pc, L, y4 :: y3 :: y2 :: y1 :: .inr (.inr (c, i, 0)) :: st, M) Q := wp_call (S1 := (pc + 3, L, st, M)) (as := [.inr (.inr (c, i, 0)), y1, y2, y3, y4]) (by
  rw [st_of hr]
  simp only [exI, List.drop, List.take, Nat.add_one_sub_one, Nat.beq_refl, hs, Bool.and_self, cond_true]; rfl) (by simp only [List.all_cons, List.all_nil, h1, h2, h3, h4]; rfl) C (fun v' M' h => by
  obtain ⟨rfl, rfl⟩ := h
  show WP l X (d + 1) md (pc + 3, L, _, M') Q
  rw [hp]; exact K)
theorem x_invV5 {l : Launch} {X : XT} {d pc pc' : Nat} {md : MD} {len a c : Nat} {v : Int32} {lg : Int64} {ks : List (Int32 × Nat)} {L : List (Option AV)} {st : List AV} {M : Mem} {Q : Option AV → Mem → Prop} {i n : Nat} {M1 : Mem} {y1 y2 y3 y4 : AV}   (hr : cRow md.2.2.2.2.2.2 pc = some (.invokevirtual n, len, a, 5, c, v, lg, ks)) (hp : pc + 3 = pc') (hs : st.length.ble 4 = true) (h1 : isL y1 = false) (h2 : isL y2 = false) (h3 : isL y3 = false) (h4 : isL y4 = false) (C : CT l X d (mdOf a) [.inr (.inr (c, i, 0)), y1, y2, y3, y4] M none M1) (K : WP l X (d + 1) md (pc', L, st, M1) Q) : WP l X (d + 1) md (pc, L, y4 :: y3 :: y2 :: y1 :: .inr (.inr (c, i, 0)) :: st, M) Q := wp_call (S1 := (pc + 3, L, st, M)) (as := [.inr (.inr (c, i, 0)), y1, y2, y3, y4]) (by
  rw [st_of hr]
  simp only [exI, List.drop, List.take, Nat.add_one_sub_one, Nat.beq_refl, hs, Bool.and_self, cond_true]; rfl) (by simp only [List.all_cons, List.all_nil, h1, h2, h3, h4]; rfl) C (fun v' M' h => by
  obtain ⟨rfl, rfl⟩ := h
  show WP l X (d + 1) md (pc + 3, L, _, M') Q
  rw [hp]; exact K)
theorem x_invS1 {l : Launch} {X : XT} {d pc pc' : Nat} {md : MD} {len a : Nat} {v : Int32} {lg : Int64} {ks : List (Int32 × Nat)} {L : List (Option AV)} {st : List AV} {M : Mem} {Q : Option AV → Mem → Prop} {n : Nat} {M1 : Mem} {y1 : AV} {rv : Int32}  (hr : cRow md.2.2.2.2.2.2 pc = some (.invokestatic n, len, a, 1, 0, v, lg, ks)) (hp : pc + 3 = pc') (hs : st.length.ble 4 = true) (h1 : isL y1 = false) (C : CT l X d (mdOf a) [y1] M (some (.inl rv)) M1) (K : WP l X (d + 1) md (pc', L, .inl rv :: st, M1) Q) : WP l X (d + 1) md (pc, L, y1 :: st, M) Q := wp_call (S1 := (pc + 3, L, st, M)) (as := [y1]) (by
  rw [st_of hr]
  have h9 : Nat.ble 1 (y1 :: st).length = true := by simp
  simp only [exI, List.drop, List.take, hs, h9, Bool.and_self, cond_true]; rfl) (by simp only [List.all_cons, List.all_nil, h1]; rfl) C (fun v' M' h => by
  obtain ⟨rfl, rfl⟩ := h
  show WP l X (d + 1) md (pc + 3, L, _, M') Q
  rw [hp]; exact K)
theorem x_invS2 {l : Launch} {X : XT} {d pc pc' : Nat} {md : MD} {len a : Nat} {v : Int32} {lg : Int64} {ks : List (Int32 × Nat)} {L : List (Option AV)} {st : List AV} {M : Mem} {Q : Option AV → Mem → Prop} {n : Nat} {M1 : Mem} {y1 y2 : AV} {rv : Int32}  (hr : cRow md.2.2.2.2.2.2 pc = some (.invokestatic n, len, a, 2, 0, v, lg, ks)) (hp : pc + 3 = pc') (hs : st.length.ble 4 = true) (h1 : isL y1 = false) (h2 : isL y2 = false) (C : CT l X d (mdOf a) [y1, y2] M (some (.inl rv)) M1) (K : WP l X (d + 1) md (pc', L, .inl rv :: st, M1) Q) : WP l X (d + 1) md (pc, L, y2 :: y1 :: st, M) Q := wp_call (S1 := (pc + 3, L, st, M)) (as := [y1, y2]) (by
  rw [st_of hr]
  have h9 : Nat.ble 2 (y2 :: y1 :: st).length = true := by simp
  simp only [exI, List.drop, List.take, hs, h9, Bool.and_self, cond_true]; rfl) (by simp only [List.all_cons, List.all_nil, h1, h2]; rfl) C (fun v' M' h => by
  obtain ⟨rfl, rfl⟩ := h
  show WP l X (d + 1) md (pc + 3, L, _, M') Q
  rw [hp]; exact K)
theorem x_invS3 {l : Launch} {X : XT} {d pc pc' : Nat} {md : MD} {len a : Nat} {v : Int32} {lg : Int64} {ks : List (Int32 × Nat)} {L : List (Option AV)} {st : List AV} {M : Mem} {Q : Option AV → Mem → Prop} {n : Nat} {M1 : Mem} {y1 y2 y3 : AV} {rv : Int32}  (hr : cRow md.2.2.2.2.2.2 pc = some (.invokestatic n, len, a, 3, 0, v, lg, ks)) (hp : pc + 3 = pc') (hs : st.length.ble 4 = true) (h1 : isL y1 = false) (h2 : isL y2 = false) (h3 : isL y3 = false) (C : CT l X d (mdOf a) [y1, y2, y3] M (some (.inl rv)) M1) (K : WP l X (d + 1) md (pc', L, .inl rv :: st, M1) Q) : WP l X (d + 1) md (pc, L, y3 :: y2 :: y1 :: st, M) Q := wp_call (S1 := (pc + 3, L, st, M)) (as := [y1, y2, y3]) (by
  rw [st_of hr]
  have h9 : Nat.ble 3 (y3 :: y2 :: y1 :: st).length = true := by simp
  simp only [exI, List.drop, List.take, hs, h9, Bool.and_self, cond_true]; rfl) (by simp only [List.all_cons, List.all_nil, h1, h2, h3]; rfl) C (fun v' M' h => by
  obtain ⟨rfl, rfl⟩ := h
  show WP l X (d + 1) md (pc + 3, L, _, M') Q
  rw [hp]; exact K)
theorem x_invQ1 {l : Launch} {X : XT} {d pc pc' : Nat} {md : MD} {len a c : Nat} {v : Int32} {lg : Int64} {ks : List (Int32 × Nat)} {L : List (Option AV)} {st : List AV} {M : Mem} {Q : Option AV → Mem → Prop} {i n : Nat} {Q1 : Option AV → Mem → Prop}   (hr : cRow md.2.2.2.2.2.2 pc = some (.invokevirtual n, len, a, 1, c, v, lg, ks)) (hp : pc + 3 = pc') (hs : st.length.ble 4 = true)  (C : WP l X d (mdOf a) (en (mdOf a) [.inr (.inr (c, i, 0))] M) Q1) (K : ∀ (v' : Option AV) (M' : Mem), Q1 v' M' → WP l X (d + 1) md (pc', L, v'.toList ++ st, M') Q) : WP l X (d + 1) md (pc, L, .inr (.inr (c, i, 0)) :: st, M) Q := wp_call (S1 := (pc + 3, L, st, M)) (as := [.inr (.inr (c, i, 0))]) (by
  rw [st_of hr]
  simp only [exI, List.drop, List.take, Nat.add_one_sub_one, Nat.beq_refl, hs, Bool.and_self, cond_true]; rfl) (by simp only [List.all_cons, List.all_nil]; rfl) C (fun v' M' h => by
  show WP l X (d + 1) md (pc + 3, L, _, M') Q
  rw [hp]; exact K v' M' h)
theorem x_invQ2 {l : Launch} {X : XT} {d pc pc' : Nat} {md : MD} {len a c : Nat} {v : Int32} {lg : Int64} {ks : List (Int32 × Nat)} {L : List (Option AV)} {st : List AV} {M : Mem} {Q : Option AV → Mem → Prop} {i n : Nat} {Q1 : Option AV → Mem → Prop} {y1 : AV}  (hr : cRow md.2.2.2.2.2.2 pc = some (.invokevirtual n, len, a, 2, c, v, lg, ks)) (hp : pc + 3 = pc') (hs : st.length.ble 4 = true) (h1 : isL y1 = false) (C : WP l X d (mdOf a) (en (mdOf a) [.inr (.inr (c, i, 0)), y1] M) Q1) (K : ∀ (v' : Option AV) (M' : Mem), Q1 v' M' → WP l X (d + 1) md (pc', L, v'.toList ++ st, M') Q) : WP l X (d + 1) md (pc, L, y1 :: .inr (.inr (c, i, 0)) :: st, M) Q := wp_call (S1 := (pc + 3, L, st, M)) (as := [.inr (.inr (c, i, 0)), y1]) (by
  rw [st_of hr]
  simp only [exI, List.drop, List.take, Nat.add_one_sub_one, Nat.beq_refl, hs, Bool.and_self, cond_true]; rfl) (by simp only [List.all_cons, List.all_nil, h1]; rfl) C (fun v' M' h => by
  show WP l X (d + 1) md (pc + 3, L, _, M') Q
  rw [hp]; exact K v' M' h)
theorem x_invQ3 {l : Launch} {X : XT} {d pc pc' : Nat} {md : MD} {len a c : Nat} {v : Int32} {lg : Int64} {ks : List (Int32 × Nat)} {L : List (Option AV)} {st : List AV} {M : Mem} {Q : Option AV → Mem → Prop} {i n : Nat} {Q1 : Option AV → Mem → Prop} {y1 y2 : AV}  (hr : cRow md.2.2.2.2.2.2 pc = some (.invokevirtual n, len, a, 3, c, v, lg, ks)) (hp : pc + 3 = pc') (hs : st.length.ble 4 = true) (h1 : isL y1 = false) (h2 : isL y2 = false) (C : WP l X d (mdOf a) (en (mdOf a) [.inr (.inr (c, i, 0)), y1, y2] M) Q1) (K : ∀ (v' : Option AV) (M' : Mem), Q1 v' M' → WP l X (d + 1) md (pc', L, v'.toList ++ st, M') Q) : WP l X (d + 1) md (pc, L, y2 :: y1 :: .inr (.inr (c, i, 0)) :: st, M) Q := wp_call (S1 := (pc + 3, L, st, M)) (as := [.inr (.inr (c, i, 0)), y1, y2]) (by
  rw [st_of hr]
  simp only [exI, List.drop, List.take, Nat.add_one_sub_one, Nat.beq_refl, hs, Bool.and_self, cond_true]; rfl) (by simp only [List.all_cons, List.all_nil, h1, h2]; rfl) C (fun v' M' h => by
  show WP l X (d + 1) md (pc + 3, L, _, M') Q
  rw [hp]; exact K v' M' h)
theorem x_invQ4 {l : Launch} {X : XT} {d pc pc' : Nat} {md : MD} {len a c : Nat} {v : Int32} {lg : Int64} {ks : List (Int32 × Nat)} {L : List (Option AV)} {st : List AV} {M : Mem} {Q : Option AV → Mem → Prop} {i n : Nat} {Q1 : Option AV → Mem → Prop} {y1 y2 y3 : AV}  (hr : cRow md.2.2.2.2.2.2 pc = some (.invokevirtual n, len, a, 4, c, v, lg, ks)) (hp : pc + 3 = pc') (hs : st.length.ble 4 = true) (h1 : isL y1 = false) (h2 : isL y2 = false) (h3 : isL y3 = false) (C : WP l X d (mdOf a) (en (mdOf a) [.inr (.inr (c, i, 0)), y1, y2, y3] M) Q1) (K : ∀ (v' : Option AV) (M' : Mem), Q1 v' M' → WP l X (d + 1) md (pc', L, v'.toList ++ st, M') Q) : WP l X (d + 1) md (pc, L, y3 :: y2 :: y1 :: .inr (.inr (c, i, 0)) :: st, M) Q := wp_call (S1 := (pc + 3, L, st, M)) (as := [.inr (.inr (c, i, 0)), y1, y2, y3]) (by
  rw [st_of hr]
  simp only [exI, List.drop, List.take, Nat.add_one_sub_one, Nat.beq_refl, hs, Bool.and_self, cond_true]; rfl) (by simp only [List.all_cons, List.all_nil, h1, h2, h3]; rfl) C (fun v' M' h => by
  show WP l X (d + 1) md (pc + 3, L, _, M') Q
  rw [hp]; exact K v' M' h)
theorem x_invQ5 {l : Launch} {X : XT} {d pc pc' : Nat} {md : MD} {len a c : Nat} {v : Int32} {lg : Int64} {ks : List (Int32 × Nat)} {L : List (Option AV)} {st : List AV} {M : Mem} {Q : Option AV → Mem → Prop} {i n : Nat} {Q1 : Option AV → Mem → Prop} {y1 y2 y3 y4 : AV}  (hr : cRow md.2.2.2.2.2.2 pc = some (.invokevirtual n, len, a, 5, c, v, lg, ks)) (hp : pc + 3 = pc') (hs : st.length.ble 4 = true) (h1 : isL y1 = false) (h2 : isL y2 = false) (h3 : isL y3 = false) (h4 : isL y4 = false) (C : WP l X d (mdOf a) (en (mdOf a) [.inr (.inr (c, i, 0)), y1, y2, y3, y4] M) Q1) (K : ∀ (v' : Option AV) (M' : Mem), Q1 v' M' → WP l X (d + 1) md (pc', L, v'.toList ++ st, M') Q) : WP l X (d + 1) md (pc, L, y4 :: y3 :: y2 :: y1 :: .inr (.inr (c, i, 0)) :: st, M) Q := wp_call (S1 := (pc + 3, L, st, M)) (as := [.inr (.inr (c, i, 0)), y1, y2, y3, y4]) (by
  rw [st_of hr]
  simp only [exI, List.drop, List.take, Nat.add_one_sub_one, Nat.beq_refl, hs, Bool.and_self, cond_true]; rfl) (by simp only [List.all_cons, List.all_nil, h1, h2, h3, h4]; rfl) C (fun v' M' h => by
  show WP l X (d + 1) md (pc + 3, L, _, M') Q
  rw [hp]; exact K v' M' h)
theorem x_iret {l : Launch} {X : XT} {d pc : Nat} {md : MD} {len a b c : Nat} {v : Int32} {lg : Int64} {ks : List (Int32 × Nat)} {L : List (Option AV)} {M : Mem} {Q : Option AV → Mem → Prop} {x : Int32}  (hr : cRow md.2.2.2.2.2.2 pc = some (.ireturn, len, a, b, c, v, lg, ks)) (ht : md.2.2.2.2.1 = some .int) (hq : Q (some (.inl x)) M) : WP l X d md (pc, L, [.inl x], M) Q := wp_ret (by rw [st_of hr, ht]; rfl) hq
theorem x_zret {l : Launch} {X : XT} {d pc : Nat} {md : MD} {len a b c : Nat} {v : Int32} {lg : Int64} {ks : List (Int32 × Nat)} {L : List (Option AV)} {M : Mem} {Q : Option AV → Mem → Prop} {x : Int32}  (hr : cRow md.2.2.2.2.2.2 pc = some (.ireturn, len, a, b, c, v, lg, ks)) (ht : md.2.2.2.2.1 = some .boolean) (hx : x = 0 ∨ x = 1) (hq : Q (some (.inl x)) M) : WP l X d md (pc, L, [.inl x], M) Q := wp_ret (by rw [st_of hr, ht]; simp only [exI, if_pos hx]) hq
theorem x_vret {l : Launch} {X : XT} {d pc : Nat} {md : MD} {len a b c : Nat} {v : Int32} {lg : Int64} {ks : List (Int32 × Nat)} {L : List (Option AV)} {M : Mem} {Q : Option AV → Mem → Prop}  (hr : cRow md.2.2.2.2.2.2 pc = some (.return_, len, a, b, c, v, lg, ks)) (ht : md.2.2.2.2.1 = none) (hq : Q none M) : WP l X d md (pc, L, [], M) Q := wp_ret (by rw [st_of hr, ht]; rfl) hq
end
section
/-! small methods -/
def bI (b : Bool) : Int32 := bif b then nI 1 else nI 0
theorem bI_t {b : Bool} (h : b = true) : bI b = nI 1 := by rw [h]; rfl
theorem bI_f {b : Bool} (h : b = false) : bI b = nI 0 := by rw [h]; rfl
theorem bI_eq0 {b : Bool} : bI b = 0 ↔ b = false := by cases b <;> decide
theorem bI_01 (b : Bool) : bI b = 0 ∨ bI b = 1 := by cases b <;> decide
def inB (v lo hi : Int32) : Bool := decide (lo ≤ v) && decide (v ≤ hi)
theorem inB_t {v lo hi : Int32} (h1 : ¬ v < lo) (h2 : ¬ hi < v) : inB v lo hi = true := by
  simp only [inB, Bool.and_eq_true, decide_eq_true_eq]
  exact ⟨Int32.not_lt.mp h1, Int32.not_lt.mp h2⟩
theorem inB_f1 {v lo hi : Int32} (h1 : v < lo) : inB v lo hi = false := by
  simp only [inB, Bool.and_eq_false_iff, decide_eq_false_iff_not]
  exact Or.inl (Int32.not_le.mpr h1)
theorem inB_f2 {v lo hi : Int32} (h1 : hi < v) : inB v lo hi = false := by
  simp only [inB, Bool.and_eq_false_iff, decide_eq_false_iff_not]
  exact Or.inr (Int32.not_le.mpr h1)
theorem sI {x y : Int32} {M : Mem} (h : x = y) : some (Sum.inl x) = (some (Sum.inl y) : Option AV) ∧ M = M := ⟨by rw [h], rfl⟩
theorem sM {x y : Int32} {M M1 : Mem} (h : x = y) (h2 : M = M1) : some (Sum.inl x) = (some (Sum.inl y) : Option AV) ∧ M = M1 := ⟨by rw [h], h2⟩
set_option maxRecDepth 20000 in
theorem c_X8_isWithin {l : Launch} {X : XT} {d : Nat} {M : Mem} (v lo hi : Int32) : CT l X (d + 1) md_X8_isWithin [.inl v, .inl lo, .inl hi] (M) (some (.inl (bI (inB v lo hi)))) (M) := by
  show WP l X _ md_X8_isWithin (0, [some (.inl v), some (.inl lo), some (.inl hi)], [], _) _
  refine x_iload_n (pc' := 1) rfl rfl rfl (x_iload_n (pc' := 2) rfl rfl rfl ?_)
  refine x_icmp_lt (pc' := 5) rfl rfl (fun h2 => ?_) (fun h2 => ?_)
  · refine x_iconst (pc' := 15) rfl rfl ?_
    refine x_zret rfl rfl (by decide) ?_
    exact sI (by first | exact (bI_t (inB_t h2 h7)).symm | exact (bI_f (inB_f1 h2)).symm | exact (bI_f (inB_f2 h7)).symm)
  · refine x_iload_n (pc' := 6) rfl rfl rfl (x_iload_n (pc' := 7) rfl rfl rfl ?_)
    refine x_icmp_gt (pc' := 10) rfl rfl (fun h7 => ?_) (fun h7 => ?_)
    · refine x_iconst (pc' := 15) rfl rfl ?_
      refine x_zret rfl rfl (by decide) ?_
      exact sI (by first | exact (bI_t (inB_t h2 h7)).symm | exact (bI_f (inB_f1 h2)).symm | exact (bI_f (inB_f2 h7)).symm)
    · refine x_iconst (pc' := 11) rfl rfl (x_goto rfl ?_)
      refine x_zret rfl rfl (by decide) ?_
      exact sI (by first | exact (bI_t (inB_t h2 h7)).symm | exact (bI_f (inB_f1 h2)).symm | exact (bI_f (inB_f2 h7)).symm)
set_option maxRecDepth 20000 in
theorem c_X9_in {l : Launch} {X : XT} {d : Nat} {M : Mem} (v lo hi : Int32) : CT l X (d + 1) md_X9_in [.inl v, .inl lo, .inl hi] (M) (some (.inl (bI (inB v lo hi)))) (M) := by
  show WP l X _ md_X9_in (0, [some (.inl v), some (.inl lo), some (.inl hi)], [], _) _
  refine x_iload_n (pc' := 1) rfl rfl rfl (x_iload_n (pc' := 2) rfl rfl rfl ?_)
  refine x_icmp_lt (pc' := 5) rfl rfl (fun h2 => ?_) (fun h2 => ?_)
  · refine x_iconst (pc' := 15) rfl rfl ?_
    refine x_zret rfl rfl (by decide) ?_
    exact sI (by first | exact (bI_t (inB_t h2 h7)).symm | exact (bI_f (inB_f1 h2)).symm | exact (bI_f (inB_f2 h7)).symm)
  · refine x_iload_n (pc' := 6) rfl rfl rfl (x_iload_n (pc' := 7) rfl rfl rfl ?_)
    refine x_icmp_gt (pc' := 10) rfl rfl (fun h7 => ?_) (fun h7 => ?_)
    · refine x_iconst (pc' := 15) rfl rfl ?_
      refine x_zret rfl rfl (by decide) ?_
      exact sI (by first | exact (bI_t (inB_t h2 h7)).symm | exact (bI_f (inB_f1 h2)).symm | exact (bI_f (inB_f2 h7)).symm)
    · refine x_iconst (pc' := 11) rfl rfl (x_goto rfl ?_)
      refine x_zret rfl rfl (by decide) ?_
      exact sI (by first | exact (bI_t (inB_t h2 h7)).symm | exact (bI_f (inB_f1 h2)).symm | exact (bI_f (inB_f2 h7)).symm)
set_option maxRecDepth 20000 in
theorem c_X8_isKind {l : Launch} {X : XT} {d : Nat} {M : Mem} (v : Int32) : CT l X (d + 2) md_X8_isKind [.inl v] (M) (some (.inl (bI (inB v (nI 0) (nI 2))))) (M) := by
  show WP l X _ md_X8_isKind (0, [some (.inl v)], [], _) _
  refine x_iload_n (pc' := 1) rfl rfl rfl (x_iconst (pc' := 2) rfl rfl (x_iconst (pc' := 3) rfl rfl (x_invS3 (pc' := 6) rfl rfl rfl rfl rfl rfl (c_X8_isWithin _ _ _) ?_)))
  refine x_zret rfl rfl (bI_01 _) ?_
  exact sI rfl
set_option maxRecDepth 20000 in
theorem c_X9_isKind {l : Launch} {X : XT} {d : Nat} {M : Mem} (v : Int32) : CT l X (d + 2) md_X9_isKind [.inl v] (M) (some (.inl (bI (inB v (nI 0) (nI 2))))) (M) := by
  show WP l X _ md_X9_isKind (0, [some (.inl v)], [], _) _
  refine x_iload_n (pc' := 1) rfl rfl rfl (x_iconst (pc' := 2) rfl rfl (x_iconst (pc' := 3) rfl rfl (x_invS3 (pc' := 6) rfl rfl rfl rfl rfl rfl (c_X9_in _ _ _) ?_)))
  refine x_zret rfl rfl (bI_01 _) ?_
  exact sI rfl
set_option maxRecDepth 20000 in
theorem c_X8_isPerson {l : Launch} {X : XT} {d Lz : Nat} {w : Nat → Nat → Nat → Nat → Int32} (v : Int32) : CT l X (d + 2) md_X8_isPerson [.inr (.inr (8, 0, 0)), .inl v] (mk Lz w) (some (.inl (bI (inB v (nI 0) (w 4 (w 8 0 0 8).toNatClampNeg 0 6 - nI 1))))) (mk Lz w) := by
  show WP l X _ md_X8_isPerson (0, [some (.inr (.inr (8, 0, 0))), some (.inl v)], [], _) _
  refine x_iload_n (pc' := 1) rfl rfl rfl (x_iconst (pc' := 2) rfl rfl (x_aload_n (pc' := 3) rfl rfl rfl (x_getR (pc' := 6) (t := (4, _, 0)) rfl rfl rfl (x_getI (pc' := 9) rfl rfl rfl (x_iconst (pc' := 10) rfl rfl ?_)))))
  refine x_isub (pc' := 11) rfl rfl (x_invS3 (pc' := 14) rfl rfl rfl rfl rfl rfl (c_X8_isWithin _ _ _) ?_)
  refine x_zret rfl rfl (bI_01 _) ?_
  exact sI rfl
set_option maxRecDepth 20000 in
theorem c_X8_isOffice {l : Launch} {X : XT} {d Lz : Nat} {w : Nat → Nat → Nat → Nat → Int32} (v : Int32) : CT l X (d + 2) md_X8_isOffice [.inr (.inr (8, 0, 0)), .inl v] (mk Lz w) (some (.inl (bI (inB v (nI 0) (w 4 (w 8 0 0 8).toNatClampNeg 0 8 - nI 1))))) (mk Lz w) := by
  show WP l X _ md_X8_isOffice (0, [some (.inr (.inr (8, 0, 0))), some (.inl v)], [], _) _
  refine x_iload_n (pc' := 1) rfl rfl rfl (x_iconst (pc' := 2) rfl rfl (x_aload_n (pc' := 3) rfl rfl rfl (x_getR (pc' := 6) (t := (4, _, 0)) rfl rfl rfl (x_getI (pc' := 9) rfl rfl rfl (x_iconst (pc' := 10) rfl rfl ?_)))))
  refine x_isub (pc' := 11) rfl rfl (x_invS3 (pc' := 14) rfl rfl rfl rfl rfl rfl (c_X8_isWithin _ _ _) ?_)
  refine x_zret rfl rfl (bI_01 _) ?_
  exact sI rfl
set_option maxRecDepth 20000 in
theorem c_X9_isPerson {l : Launch} {X : XT} {d Lz : Nat} {w : Nat → Nat → Nat → Nat → Int32} (v : Int32) : CT l X (d + 2) md_X9_isPerson [.inr (.inr (9, 0, 0)), .inl v] (mk Lz w) (some (.inl (bI (inB v (nI 0) (w 9 0 0 6 - nI 1))))) (mk Lz w) := by
  show WP l X _ md_X9_isPerson (0, [some (.inr (.inr (9, 0, 0))), some (.inl v)], [], _) _
  refine x_iload_n (pc' := 1) rfl rfl rfl (x_iconst (pc' := 2) rfl rfl (x_aload_n (pc' := 3) rfl rfl rfl (x_getI (pc' := 6) rfl rfl rfl (x_iconst (pc' := 7) rfl rfl (x_isub (pc' := 8) rfl rfl ?_)))))
  refine x_invS3 (pc' := 11) rfl rfl rfl rfl rfl rfl (c_X9_in _ _ _) ?_
  refine x_zret rfl rfl (bI_01 _) ?_
  exact sI rfl
set_option maxRecDepth 20000 in
theorem c_X9_isOffice {l : Launch} {X : XT} {d Lz : Nat} {w : Nat → Nat → Nat → Nat → Int32} (v : Int32) : CT l X (d + 2) md_X9_isOffice [.inr (.inr (9, 0, 0)), .inl v] (mk Lz w) (some (.inl (bI (inB v (nI 0) (w 9 0 0 7 - nI 1))))) (mk Lz w) := by
  show WP l X _ md_X9_isOffice (0, [some (.inr (.inr (9, 0, 0))), some (.inl v)], [], _) _
  refine x_iload_n (pc' := 1) rfl rfl rfl (x_iconst (pc' := 2) rfl rfl (x_aload_n (pc' := 3) rfl rfl rfl (x_getI (pc' := 6) rfl rfl rfl (x_iconst (pc' := 7) rfl rfl (x_isub (pc' := 8) rfl rfl ?_)))))
  refine x_invS3 (pc' := 11) rfl rfl rfl rfl rfl rfl (c_X9_in _ _ _) ?_
  refine x_zret rfl rfl (bI_01 _) ?_
  exact sI rfl
def mxI (x y : Int32) : Int32 := if x < y then y else x
def mnI (x y : Int32) : Int32 := if y < x then y else x
def cpI (x y : Int32) : Int32 := if y ≤ x then (if x = y then nI 0 else nI 1) else -1
set_option maxRecDepth 20000 in
theorem c_J9_max_7cf53 {l : Launch} {X : XT} {d : Nat} {M : Mem} (x y : Int32) : CT l X (d + 1) md_J9_max_7cf53 [.inl x, .inl y] (M) (some (.inl (mxI x y))) (M) := by
  show WP l X _ md_J9_max_7cf53 (0, [some (.inl x), some (.inl y)], [], _) _
  refine x_iload_n (pc' := 1) rfl rfl rfl (x_iload_n (pc' := 2) rfl rfl rfl ?_)
  refine x_icmp_lt (pc' := 5) rfl rfl (fun h2 => ?_) (fun h2 => ?_)
  · refine x_iload_n (pc' := 10) rfl rfl rfl ?_
    refine x_iret rfl rfl ?_
    exact sI (by simp only [mxI]; first | rw [if_pos h2] | rw [if_neg h2])
  · refine x_iload_n (pc' := 6) rfl rfl rfl (x_goto rfl ?_)
    refine x_iret rfl rfl ?_
    exact sI (by simp only [mxI]; first | rw [if_pos h2] | rw [if_neg h2])
set_option maxRecDepth 20000 in
theorem c_J9_min_7cf53 {l : Launch} {X : XT} {d : Nat} {M : Mem} (x y : Int32) : CT l X (d + 1) md_J9_min_7cf53 [.inl x, .inl y] (M) (some (.inl (mnI x y))) (M) := by
  show WP l X _ md_J9_min_7cf53 (0, [some (.inl x), some (.inl y)], [], _) _
  refine x_iload_n (pc' := 1) rfl rfl rfl (x_iload_n (pc' := 2) rfl rfl rfl ?_)
  refine x_icmp_gt (pc' := 5) rfl rfl (fun h2 => ?_) (fun h2 => ?_)
  · refine x_iload_n (pc' := 10) rfl rfl rfl ?_
    refine x_iret rfl rfl ?_
    exact sI (by simp only [mnI]; first | rw [if_pos h2] | rw [if_neg h2])
  · refine x_iload_n (pc' := 6) rfl rfl rfl (x_goto rfl ?_)
    refine x_iret rfl rfl ?_
    exact sI (by simp only [mnI]; first | rw [if_pos h2] | rw [if_neg h2])
set_option maxRecDepth 20000 in
theorem c_J6_compare_7cf53 {l : Launch} {X : XT} {d : Nat} {M : Mem} (x y : Int32) : CT l X (d + 1) md_J6_compare_7cf53 [.inl x, .inl y] (M) (some (.inl (cpI x y))) (M) := by
  show WP l X _ md_J6_compare_7cf53 (0, [some (.inl x), some (.inl y)], [], _) _
  refine x_iload_n (pc' := 1) rfl rfl rfl (x_iload_n (pc' := 2) rfl rfl rfl ?_)
  refine x_icmp_ge (pc' := 5) rfl rfl (fun h2 => ?_) (fun h2 => ?_)
  · refine x_iload_n (pc' := 10) rfl rfl rfl (x_iload_n (pc' := 11) rfl rfl rfl ?_)
    refine x_icmp_ne (pc' := 14) rfl rfl (fun h11 => ?_) (fun h11 => ?_)
    · refine x_iconst (pc' := 15) rfl rfl (x_goto rfl ?_)
      refine x_iret rfl rfl ?_
      exact sI (by simp only [cpI]; first | rw [if_neg h2] | rw [if_pos h2, if_pos h11] | rw [if_pos h2, if_neg h11])
    · refine x_iconst (pc' := 19) rfl rfl ?_
      refine x_iret rfl rfl ?_
      exact sI (by simp only [cpI]; first | rw [if_neg h2] | rw [if_pos h2, if_pos h11] | rw [if_pos h2, if_neg h11])
  · refine x_iconst (pc' := 6) rfl rfl (x_goto rfl ?_)
    refine x_iret rfl rfl ?_
    exact sI (by simp only [cpI]; first | rw [if_neg h2] | rw [if_pos h2, if_pos h11] | rw [if_pos h2, if_neg h11])
end
section
/-! what methods answer, in words of our own -/
def oI : Option Nat → Int32
  | none => -1
  | some p => nI p
theorem nI_ne1 {n : Nat} (h : n < 2 ^ 31) : ¬ nI n = -1 := by
  intro e
  have h1 := nI_toInt h
  rw [e] at h1
  have h2 : (-1 : Int32).toInt = -1 := by decide
  omega
theorem oI_none {a : Option Nat} (h : ∀ p, a = some p → p < 2 ^ 31) : oI a = -1 ↔ a = none := by
  cases a with
  | none => exact ⟨fun _ => rfl, fun _ => rfl⟩
  | some p => exact ⟨fun e => absurd e (nI_ne1 (h p rfl)), fun e => by cases e⟩
/-- a set as an int -/
def enc (f : Nat → Bool) : Nat → Int32
  | 0 => nI 0
  | n + 1 => bif f n then enc f n ||| (nI 1 <<< (nI n &&& 31)) else enc f n
theorem enc_congr {f g : Nat → Bool} : ∀ n, (∀ p, p < n → f p = g p) → enc f n = enc g n
  | 0, _ => rfl
  | n + 1, h => by
    show (bif f n then _ else _) = (bif g n then _ else _)
    rw [h n (by omega), enc_congr n (fun p hp => h p (by omega))]
theorem enc_t {f : Nat → Bool} {n : Nat} (h : f n = true) : enc f n ||| (nI 1 <<< (nI n &&& 31)) = enc f (n + 1) := by
  show _ = (bif f n then _ else _)
  rw [h]; rfl
theorem enc_f {f : Nat → Bool} {n : Nat} (h : f n = false) : enc f n = enc f (n + 1) := by
  show _ = (bif f n then _ else _)
  rw [h]; rfl
def mkV (g e dr : Nat → Int32) (rn : Int32) (k p : Nat) : Int32 := g (p * 3 + k) * e p + (if rn = 0 then dr p else dr p / nI 2)
def kdV (f : Nat → Int32) (nt kk : Nat) : Int32 := if nt = 0 then nI 0 else f (kk % nt)
theorem dT {p : Prop} [Decidable p] (h : p) : decide p = true := decide_eq_true h
theorem dF {p : Prop} [Decidable p] (h : ¬ p) : decide p = false := decide_eq_false h
theorem rI {x y : Int32} {M : Mem} (h : x = y) : some (Sum.inl x) = (some (Sum.inl y) : Option AV) ∧ M = M := ⟨by rw [h], rfl⟩
theorem rM {x y : Int32} {M M1 : Mem} (h : x = y) (h2 : M = M1) : some (Sum.inl x) = (some (Sum.inl y) : Option AV) ∧ M = M1 := ⟨by rw [h], h2⟩
theorem WPc {l : Launch} {X : XT} {d : Nat} {md : MD} {pc : Nat} {L L' : List (Option AV)} {st : List AV} {M M' : Mem} {Q : Option AV → Mem → Prop} (h : WP l X d md (pc, L', st, M') Q) (e1 : L = L') (e2 : M = M') : WP l X d md (pc, L, st, M) Q := by rw [e1, e2]; exact h
set_option maxRecDepth 20000 in
theorem c_X6_giftOf {l : Launch} {X : XT} {d Lz : Nat} {w : Nat → Nat → Nat → Nat → Int32} (i p k : Nat) (hk : p * 3 + k < 21) : CT l X (d + 1) md_X6_giftOf [.inr (.inr (6, i, 0)), .inl (nI p), .inl (nI k)] (mk Lz w) (some (.inl (w 6 i 1 (p * 3 + k)))) (mk Lz w) := by
  show WP l X _ md_X6_giftOf (0, [some (.inr (.inr (6, i, 0))), some (.inl (nI p)), some (.inl (nI k))], [], _) _
  refine x_aload_n (pc' := 1) rfl rfl rfl (x_getR (pc' := 4) (t := (6, _, 1)) rfl rfl rfl (x_iload_n (pc' := 5) rfl rfl rfl (x_iconst (pc' := 6) rfl rfl (x_imulN (pc' := 7) rfl rfl (x_iload_n (pc' := 8) rfl rfl rfl ?_)))))
  refine x_iaddN (pc' := 9) rfl rfl (x_iald (pc' := 10) (N := 21) rfl rfl rfl rfl (by first | assumption | omega) (by decide) ?_)
  refine x_iret rfl rfl ?_
  exact rI rfl
set_option maxRecDepth 20000 in
theorem c_X6_setGift {l : Launch} {X : XT} {d Lz : Nat} {w : Nat → Nat → Nat → Nat → Int32} (i p k : Nat) (v : Int32) (hk : p * 3 + k < 21) : CT l X (d + 1) md_X6_setGift [.inr (.inr (6, i, 0)), .inl (nI p), .inl (nI k), .inl (v)] (mk Lz w) (none) (mk Lz (u4 w 6 i 1 (p * 3 + k) v)) := by
  show WP l X _ md_X6_setGift (0, [some (.inr (.inr (6, i, 0))), some (.inl (nI p)), some (.inl (nI k)), some (.inl (v))], [], _) _
  refine x_aload_n (pc' := 1) rfl rfl rfl (x_getR (pc' := 4) (t := (6, _, 1)) rfl rfl rfl (x_iload_n (pc' := 5) rfl rfl rfl (x_iconst (pc' := 6) rfl rfl (x_imulN (pc' := 7) rfl rfl (x_iload_n (pc' := 8) rfl rfl rfl ?_)))))
  refine x_iaddN (pc' := 9) rfl rfl (x_iload_n (pc' := 10) rfl rfl rfl (x_iast (pc' := 11) (N := 21) rfl rfl rfl (by decide) rfl (by first | assumption | omega) (by decide) ?_))
  refine x_vret rfl rfl ?_
  exact ⟨rfl, rfl⟩
set_option maxRecDepth 20000 in
theorem c_X6_isAtCourt {l : Launch} {X : XT} {d Lz : Nat} {w : Nat → Nat → Nat → Nat → Int32} (i p : Nat) (hp : p < 7) : CT l X (d + 1) md_X6_isAtCourt [.inr (.inr (6, i, 0)), .inl (nI p)] (mk Lz w) (some (.inl (bI (decide (w 6 i 3 p = 0))))) (mk Lz w) := by
  show WP l X _ md_X6_isAtCourt (0, [some (.inr (.inr (6, i, 0))), some (.inl (nI p))], [], _) _
  refine x_aload_n (pc' := 1) rfl rfl rfl (x_getR (pc' := 4) (t := (6, _, 3)) rfl rfl rfl (x_iload_n (pc' := 5) rfl rfl rfl (x_iald (pc' := 6) (N := 7) rfl rfl rfl rfl (by first | assumption | omega) (by decide) ?_)))
  refine x_if_ne (pc' := 9) rfl rfl (fun h6 => ?_) (fun h6 => ?_)
  · refine x_iconst (pc' := 10) rfl rfl (x_goto rfl ?_)
    refine x_zret rfl rfl (by decide) ?_
    first | exact rI (bI_t (dT h6)).symm | exact rI (bI_f (dF h6)).symm
  · refine x_iconst (pc' := 14) rfl rfl ?_
    refine x_zret rfl rfl (by decide) ?_
    first | exact rI (bI_t (dT h6)).symm | exact rI (bI_f (dF h6)).symm
def cC (w : Nat → Nat → Nat → Nat → Int32) (i : Nat) : Nat → Bool := fun p => decide (w 6 i 3 p = 0)
theorem bq {b : Bool} (h : ¬ bI b = 0) : b = true := by
  cases b
  · exact absurd rfl h
  · rfl
set_option maxRecDepth 20000 in
theorem l_X6_courtOf {l : Launch} {X : XT} {d Lz : Nat} {w : Nat → Nat → Nat → Nat → Int32} (i : Nat) (j np : Nat) (hnp : w 4 j 0 6 = nI np) (hn7 : np ≤ 7) : ∀ (k n : Nat),  n ≤ np → np + 1 ≤ n + k → WP l X (d + 2) md_X6_courtOf (4, [some (.inr (.inr (6, i, 0))), some (.inr (.inr (4, j, 0))), some (.inl (enc (cC w i) n)), some (.inl (nI n))], [], mk Lz w) (fun v M' => v = some (.inl (enc (cC w i) np)) ∧ M' = mk Lz w) := by
  intro k
  induction k with
  | zero =>
    intro n h1 h2
    exact absurd h2 (by omega)
  | succ k ih =>
    intro n hi1 hi2
    refine x_iload_n (pc' := 5) rfl rfl rfl (x_aload_n (pc' := 6) rfl rfl rfl (x_getI (pc' := 9) rfl rfl rfl ?_))
    rw [hnp]
    refine x_icmp_geN (pc' := 12) rfl rfl (by omega) (by omega) (fun h9 => ?_) (fun h9 => ?_)
    · refine x_iload_n (pc' := 33) rfl rfl rfl ?_
      refine x_iret rfl rfl ?_
      have e : n = np := by omega
      subst e
      exact rI rfl
    · refine x_aload_n (pc' := 13) rfl rfl rfl (x_iload_n (pc' := 14) rfl rfl rfl (x_invI2 (pc' := 17) rfl rfl rfl rfl (c_X6_isAtCourt _ _ (by omega)) ?_))
      refine x_if_eq (pc' := 20) rfl rfl (fun h17 => ?_) (fun h17 => ?_)
      · refine x_iinc3 (pc' := 29) rfl rfl rfl (nI_add _ _) (x_goto rfl ?_)
        exact WPc (ih (n + 1) (by omega) (by omega)) (by first | rw [← enc_t (bq h17)] | rw [← enc_f (bI_eq0.mp h17)]) rfl
      · refine x_iload_n (pc' := 21) rfl rfl rfl (x_iconst (pc' := 22) rfl rfl (x_iload_n (pc' := 23) rfl rfl rfl (x_ishl (pc' := 24) rfl rfl (x_ior (pc' := 25) rfl rfl (x_istore_n2 (pc' := 26) rfl rfl rfl ?_)))))
        refine x_iinc3 (pc' := 29) rfl rfl rfl (nI_add _ _) (x_goto rfl ?_)
        exact WPc (ih (n + 1) (by omega) (by omega)) (by first | rw [← enc_t (bq h17)] | rw [← enc_f (bI_eq0.mp h17)]) rfl
set_option maxRecDepth 20000 in
theorem c_X6_courtOf {l : Launch} {X : XT} {d Lz : Nat} {w : Nat → Nat → Nat → Nat → Int32} (i : Nat) (j np : Nat) (hnp : w 4 j 0 6 = nI np) (hn7 : np ≤ 7) : CT l X (d + 2) md_X6_courtOf [.inr (.inr (6, i, 0)), .inr (.inr (4, j, 0))] (mk Lz w) (some (.inl (enc (cC w i) np))) (mk Lz w) := by
  show WP l X _ md_X6_courtOf (0, [some (.inr (.inr (6, i, 0))), some (.inr (.inr (4, j, 0))), none, none], [], _) _
  refine x_iconst (pc' := 1) rfl rfl (x_istore_n2 (pc' := 2) rfl rfl rfl (x_iconst (pc' := 3) rfl rfl (x_istore_n3 (pc' := 4) rfl rfl rfl ?_)))
  exact l_X6_courtOf i j np hnp hn7 (np + 1) 0 (by omega) (by omega)
def hC (w : Nat → Nat → Nat → Nat → Int32) (i : Nat) (h : Int32) : Nat → Bool := fun p => decide (w 6 i 5 p = h)
set_option maxRecDepth 20000 in
theorem l_X6_officesOf {l : Launch} {X : XT} {d Lz : Nat} {w : Nat → Nat → Nat → Nat → Int32} (i : Nat) (h : Int32) (j no : Nat) (hno : w 4 j 0 8 = nI no) (hn4 : no ≤ 4) : ∀ (k n : Nat),  n ≤ no → no + 1 ≤ n + k → WP l X (d + 1) md_X6_officesOf (5, [some (.inr (.inr (6, i, 0))), some (.inr (.inr (4, j, 0))), some (.inl (h)), some (.inl (enc (hC w i h) n)), some (.inl (nI n))], [], mk Lz w) (fun v M' => v = some (.inl (enc (hC w i h) no)) ∧ M' = mk Lz w) := by
  intro k
  induction k with
  | zero =>
    intro n h1 h2
    exact absurd h2 (by omega)
  | succ k ih =>
    intro n hi1 hi2
    refine x_iload (pc' := 7) rfl rfl rfl (x_aload_n (pc' := 8) rfl rfl rfl (x_getI (pc' := 11) rfl rfl rfl ?_))
    rw [hno]
    refine x_icmp_geN (pc' := 14) rfl rfl (by omega) (by omega) (fun h11 => ?_) (fun h11 => ?_)
    · refine x_iload_n (pc' := 39) rfl rfl rfl ?_
      refine x_iret rfl rfl ?_
      have e : n = no := by omega
      subst e
      exact rI rfl
    · refine x_aload_n (pc' := 15) rfl rfl rfl (x_getR (pc' := 18) (t := (6, _, 5)) rfl rfl rfl (x_iload (pc' := 20) rfl rfl rfl (x_iald (pc' := 21) (N := 4) rfl rfl rfl rfl (by first | assumption | omega) (by decide) (x_iload_n (pc' := 22) rfl rfl rfl ?_))))
      refine x_icmp_ne (pc' := 25) rfl rfl (fun h22 => ?_) (fun h22 => ?_)
      · refine x_iload_n (pc' := 26) rfl rfl rfl (x_iconst (pc' := 27) rfl rfl (x_iload (pc' := 29) rfl rfl rfl (x_ishl (pc' := 30) rfl rfl (x_ior (pc' := 31) rfl rfl (x_istore_n3 (pc' := 32) rfl rfl rfl ?_)))))
        refine x_iinc4 (pc' := 35) rfl rfl rfl (nI_add _ _) (x_goto rfl ?_)
        exact WPc (ih (n + 1) (by omega) (by omega)) (by first | rw [← enc_t (dT h22)] | rw [← enc_f (dF h22)]) rfl
      · refine x_iinc4 (pc' := 35) rfl rfl rfl (nI_add _ _) (x_goto rfl ?_)
        exact WPc (ih (n + 1) (by omega) (by omega)) (by first | rw [← enc_t (dT h22)] | rw [← enc_f (dF h22)]) rfl
set_option maxRecDepth 20000 in
theorem c_X6_officesOf {l : Launch} {X : XT} {d Lz : Nat} {w : Nat → Nat → Nat → Nat → Int32} (i : Nat) (h : Int32) (j no : Nat) (hno : w 4 j 0 8 = nI no) (hn4 : no ≤ 4) : CT l X (d + 1) md_X6_officesOf [.inr (.inr (6, i, 0)), .inr (.inr (4, j, 0)), .inl (h)] (mk Lz w) (some (.inl (enc (hC w i h) no))) (mk Lz w) := by
  show WP l X _ md_X6_officesOf (0, [some (.inr (.inr (6, i, 0))), some (.inr (.inr (4, j, 0))), some (.inl (h)), none, none], [], _) _
  refine x_iconst (pc' := 1) rfl rfl (x_istore_n3 (pc' := 2) rfl rfl rfl (x_iconst (pc' := 3) rfl rfl (x_istore4 (pc' := 5) rfl rfl rfl ?_)))
  exact l_X6_officesOf i h j no hno hn4 (no + 1) 0 (by omega) (by omega)
def mC (w : Nat → Nat → Nat → Nat → Int32) (i j k : Nat) : Nat → Int32 := mkV (w 6 i 1) (w 6 i 2) (w 4 j 2) (w 6 i 0 8) k
set_option maxRecDepth 20000 in
theorem c_X6_markOf {l : Launch} {X : XT} {d Lz : Nat} {w : Nat → Nat → Nat → Nat → Int32} (i j p k : Nat) (hp : p < 7) (hk : k < 3) : CT l X (d + 2) md_X6_markOf [.inr (.inr (6, i, 0)), .inr (.inr (4, j, 0)), .inl (nI p), .inl (nI k)] (mk Lz w) (some (.inl (mC w i j k p))) (mk Lz w) := by
  show WP l X _ md_X6_markOf (0, [some (.inr (.inr (6, i, 0))), some (.inr (.inr (4, j, 0))), some (.inl (nI p)), some (.inl (nI k)), none], [], _) _
  refine x_aload_n (pc' := 1) rfl rfl rfl (x_getR (pc' := 4) (t := (4, _, 2)) rfl rfl rfl (x_iload_n (pc' := 5) rfl rfl rfl (x_iald (pc' := 6) (N := 7) rfl rfl rfl rfl (by first | assumption | omega) (by decide) (x_istore4 (pc' := 8) rfl rfl rfl (x_aload_n (pc' := 9) rfl rfl rfl ?_)))))
  refine x_iload_n (pc' := 10) rfl rfl rfl (x_iload_n (pc' := 11) rfl rfl rfl (x_invI3 (pc' := 14) rfl rfl rfl rfl rfl (c_X6_giftOf _ _ _ (by omega)) ?_))
  refine x_aload_n (pc' := 15) rfl rfl rfl (x_getR (pc' := 18) (t := (6, _, 2)) rfl rfl rfl (x_iload_n (pc' := 19) rfl rfl rfl (x_iald (pc' := 20) (N := 7) rfl rfl rfl rfl (by first | assumption | omega) (by decide) (x_imul (pc' := 21) rfl rfl (x_aload_n (pc' := 22) rfl rfl rfl ?_)))))
  refine x_getI (pc' := 25) rfl rfl rfl ?_
  refine x_if_eq (pc' := 28) rfl rfl (fun h25 => ?_) (fun h25 => ?_)
  · refine x_iload (pc' := 37) rfl rfl rfl (x_iadd (pc' := 38) rfl rfl ?_)
    refine x_iret rfl rfl ?_
    exact rI (by unfold mC mkV; first | rw [if_pos h25] | rw [if_neg h25])
  · refine x_iload (pc' := 30) rfl rfl rfl (x_iconst (pc' := 31) rfl rfl (x_idivE (pc' := 32) rfl rfl (by decide) rfl (x_goto rfl (x_iadd (pc' := 38) rfl rfl ?_))))
    refine x_iret rfl rfl ?_
    exact rI (by unfold mC mkV; first | rw [if_pos h25] | rw [if_neg h25])
set_option maxRecDepth 20000 in
theorem c_X4_isThere {l : Launch} {X : XT} {d Lz : Nat} {w : Nat → Nat → Nat → Nat → Int32} (j : Nat) : CT l X (d + 1) md_X4_isThere [.inr (.inr (4, j, 0))] (mk Lz w) (some (.inl (bI (decide (¬ w 4 j 0 4 = -1))))) (mk Lz w) := by
  show WP l X _ md_X4_isThere (0, [some (.inr (.inr (4, j, 0)))], [], _) _
  refine x_aload_n (pc' := 1) rfl rfl rfl (x_getI (pc' := 4) rfl rfl rfl (x_iconst (pc' := 5) rfl rfl ?_))
  refine x_icmp_eq (pc' := 8) rfl rfl (fun h5 => ?_) (fun h5 => ?_)
  · refine x_iconst (pc' := 13) rfl rfl ?_
    refine x_zret rfl rfl (by decide) ?_
    first | exact rI (bI_f (by simp [h5])).symm | exact rI (bI_t (by simp [h5])).symm
  · refine x_iconst (pc' := 9) rfl rfl (x_goto rfl ?_)
    refine x_zret rfl rfl (by decide) ?_
    first | exact rI (bI_f (by simp [h5])).symm | exact rI (bI_t (by simp [h5])).symm
set_option maxRecDepth 20000 in
theorem c_X4_kindOfDay {l : Launch} {X : XT} {d Lz : Nat} {w : Nat → Nat → Nat → Nat → Int32} (j nt kk : Nat) (hnt : w 4 j 0 7 = nI nt) (h12 : nt ≤ 12) (hkk : kk < 2 ^ 31) : CT l X (d + 1) md_X4_kindOfDay [.inr (.inr (4, j, 0)), .inl (nI kk)] (mk Lz w) (some (.inl (kdV (w 4 j 3) nt kk))) (mk Lz w) := by
  show WP l X _ md_X4_kindOfDay (0, [some (.inr (.inr (4, j, 0))), some (.inl (nI kk))], [], _) _
  refine x_aload_n (pc' := 1) rfl rfl rfl (x_getI (pc' := 4) rfl rfl rfl ?_)
  rw [hnt]
  refine x_iconst (pc' := 5) rfl rfl ?_
  refine x_icmp_geN (pc' := 8) rfl rfl (by omega) (by omega) (fun h5 => ?_) (fun h5 => ?_)
  · refine x_aload_n (pc' := 13) rfl rfl rfl (x_getR (pc' := 16) (t := (4, _, 3)) rfl rfl rfl (x_iload_n (pc' := 17) rfl rfl rfl (x_aload_n (pc' := 18) rfl rfl rfl (x_getI (pc' := 21) rfl rfl rfl ?_))))
    rw [hnt]
    refine x_iremN (pc' := 22) rfl rfl (by omega) (by omega) (by omega) (x_iald (pc' := 23) (N := 12) rfl rfl rfl rfl (by have := Nat.mod_lt kk (show 0 < nt by omega); omega) (by decide) ?_)
    refine x_iret rfl rfl ?_
    exact rI (by unfold kdV; first | rw [if_pos (by omega)] | rw [if_neg (by omega)])
  · refine x_iconst (pc' := 9) rfl rfl (x_goto rfl ?_)
    refine x_iret rfl rfl ?_
    exact rI (by unfold kdV; first | rw [if_pos (by omega)] | rw [if_neg (by omega)])
set_option maxRecDepth 20000 in
theorem c_X4_clear {l : Launch} {X : XT} {d Lz : Nat} {w : Nat → Nat → Nat → Nat → Int32} (j : Nat) : CT l X (d + 1) md_X4_clear [.inr (.inr (4, j, 0))] (mk Lz w) (none) (mk Lz (u4 (u4 (u4 (u4 (u4 w 4 j 0 4 (-1)) 4 j 0 5 (nI 0)) 4 j 0 6 (nI 0)) 4 j 0 7 (nI 0)) 4 j 0 8 (nI 0))) := by
  show WP l X _ md_X4_clear (0, [some (.inr (.inr (4, j, 0)))], [], _) _
  refine x_aload_n (pc' := 1) rfl rfl rfl (x_iconst (pc' := 2) rfl rfl (x_putI (pc' := 5) rfl rfl rfl (x_aload_n (pc' := 6) rfl rfl rfl (x_iconst (pc' := 7) rfl rfl (x_putI (pc' := 10) rfl rfl rfl ?_)))))
  refine x_aload_n (pc' := 11) rfl rfl rfl (x_iconst (pc' := 12) rfl rfl (x_putI (pc' := 15) rfl rfl rfl (x_aload_n (pc' := 16) rfl rfl rfl (x_iconst (pc' := 17) rfl rfl (x_putI (pc' := 20) rfl rfl rfl ?_)))))
  refine x_aload_n (pc' := 21) rfl rfl rfl (x_iconst (pc' := 22) rfl rfl (x_putI (pc' := 25) rfl rfl rfl ?_))
  refine x_vret rfl rfl ?_
  exact ⟨rfl, rfl⟩
end
section
/-! sets as ints, by their bits -/
def has (x : Int32) (p : Nat) : Bool := decide ((x >>> (nI p &&& 31)) &&& nI 1 = nI 1)
theorem sh_k : ∀ p, p < 32 → ((nI p &&& 31).toBitVec.smod 32).toNat = p := by decide
theorem one_bit : ∀ n, n < 32 → ∀ i, i < 32 → (nI 1 <<< (nI n &&& 31)).toBitVec.getLsbD i = decide (i = n) := by decide +kernel
theorem m1_bit : ∀ i, i < 32 → (-1 : Int32).toBitVec.getLsbD i = true := by decide
theorem z_bit : ∀ i, i < 32 → (nI 0).toBitVec.getLsbD i = false := by decide
theorem and1 (x : BitVec 32) : (x &&& 1#32 = 1#32) ↔ x.getLsbD 0 = true := by
  rw [BitVec.and_one_eq_setWidth_ofBool_getLsbD]
  cases x.getLsbD 0 <;> decide
theorem has_bit {x : Int32} {p : Nat} (hp : p < 32) : has x p = x.toBitVec.getLsbD p := by
  have e : ((x >>> (nI p &&& 31)) &&& nI 1 = nI 1) ↔ x.toBitVec.getLsbD p = true := by
    rw [← Int32.toBitVec_inj]
    show ((x.toBitVec.sshiftRight ((nI p &&& 31).toBitVec.smod 32).toNat) &&& 1#32 = 1#32) ↔ _
    rw [sh_k p hp, and1, BitVec.getLsbD_sshiftRight]
    simp [hp]
  unfold has
  cases hb : x.toBitVec.getLsbD p with
  | true => exact decide_eq_true (e.mpr hb)
  | false => exact decide_eq_false (fun h => by rw [e.mp h] at hb; cases hb)
theorem i32_ext {a b : Int32} (h : ∀ i, i < 32 → a.toBitVec.getLsbD i = b.toBitVec.getLsbD i) : a = b := by
  rw [← Int32.toBitVec_inj]
  exact BitVec.eq_of_getLsbD_eq (fun i hi => h i hi)
theorem enc_bit {f : Nat → Bool} : ∀ n, n ≤ 32 → ∀ i, i < 32 → (enc f n).toBitVec.getLsbD i = (decide (i < n) && f i)
  | 0, _, i, hi => by
    show (nI 0).toBitVec.getLsbD i = _
    rw [z_bit i hi]; simp
  | n + 1, hn, i, hi => by
    have ih := enc_bit (f := f) n (by omega) i hi
    show (bif f n then enc f n ||| (nI 1 <<< (nI n &&& 31)) else enc f n).toBitVec.getLsbD i = _
    cases hf : f n with
    | true =>
      show ((enc f n).toBitVec ||| (nI 1 <<< (nI n &&& 31)).toBitVec).getLsbD i = _
      rw [BitVec.getLsbD_or, ih, one_bit n (by omega) i hi]
      by_cases e : i = n
      · subst e; simp [hf]
      · by_cases h2 : i < n
        · simp [h2, e, Nat.lt_succ_of_lt h2]
        · have h3 : ¬ i < n + 1 := by omega
          simp [h2, e, h3]
    | false =>
      show (enc f n).toBitVec.getLsbD i = _
      rw [ih]
      by_cases e : i = n
      · subst e; simp [hf]
      · by_cases h2 : i < n
        · simp [h2, Nat.lt_succ_of_lt h2]
        · have h3 : ¬ i < n + 1 := by omega
          simp [h2, h3]
theorem has_enc {f : Nat → Bool} {n p : Nat} (hn : n ≤ 32) (hp : p < n) : has (enc f n) p = f p := by
  rw [has_bit (by omega), enc_bit n hn p (by omega)]; simp [hp]
theorem and_bit (a b : Int32) (i : Nat) : (a &&& b).toBitVec.getLsbD i = (a.toBitVec.getLsbD i && b.toBitVec.getLsbD i) := by
  show (a.toBitVec &&& b.toBitVec).getLsbD i = _
  rw [BitVec.getLsbD_and]
theorem or_bit (a b : Int32) (i : Nat) : (a ||| b).toBitVec.getLsbD i = (a.toBitVec.getLsbD i || b.toBitVec.getLsbD i) := by
  show (a.toBitVec ||| b.toBitVec).getLsbD i = _
  rw [BitVec.getLsbD_or]
theorem not_bit (a : Int32) {i : Nat} (hi : i < 32) : (a ^^^ -1).toBitVec.getLsbD i = !a.toBitVec.getLsbD i := by
  show (a.toBitVec ^^^ (-1 : Int32).toBitVec).getLsbD i = _
  rw [BitVec.getLsbD_xor, m1_bit i hi]; simp
theorem enc_one {n q : Nat} (hn : n ≤ 32) (hq : q < n) : nI 1 <<< (nI q &&& 31) = enc (fun p => decide (p = q)) n := by
  apply i32_ext
  intro i hi
  rw [one_bit q (by omega) i hi, enc_bit n hn i hi]
  by_cases e : i = q
  · subst e; simp [hq]
  · simp [e]
theorem enc_diff {f g : Nat → Bool} {n : Nat} (hn : n ≤ 32) : enc f n &&& (enc g n ^^^ -1) = enc (fun p => f p && !g p) n := by
  apply i32_ext
  intro i hi
  rw [and_bit, not_bit _ hi, enc_bit n hn i hi, enc_bit n hn i hi, enc_bit n hn i hi]
  by_cases h : i < n <;> simp [h]
theorem enc_or {f g : Nat → Bool} {n : Nat} (hn : n ≤ 32) : enc f n ||| enc g n = enc (fun p => f p || g p) n := by
  apply i32_ext
  intro i hi
  rw [or_bit, enc_bit n hn i hi, enc_bit n hn i hi, enc_bit n hn i hi]
  by_cases h : i < n <;> simp [h]
theorem has_not {x : Int32} {p : Nat} (hp : p < 32) : has (x ^^^ -1) p = !has x p := by rw [has_bit hp, has_bit hp, not_bit _ hp]
theorem enc_0 {f : Nat → Bool} {n : Nat} (hn : n ≤ 32) : enc f n = 0 ↔ ∀ p, p < n → f p = false := by
  constructor
  · intro h p hp
    have := enc_bit (f := f) n hn p (by omega)
    rw [h] at this
    have z : (0 : Int32).toBitVec.getLsbD p = false := z_bit p (by omega)
    rw [z] at this
    simpa [hp] using this.symm
  · intro h
    apply i32_ext
    intro i hi
    rw [enc_bit n hn i hi, show (0 : Int32).toBitVec.getLsbD i = false from z_bit i hi]
    by_cases hq : i < n
    · simp [h i hq]
    · simp [hq]
end
section
/-! contests -/
def ahd (law : Int32) (dr mk : Nat → Int32) (p q : Nat) : Bool := if mk p = mk q then (if law = nI 1 then (if dr p = dr q then decide (p < q) else decide (dr q < dr p)) else decide (p < q)) else decide (mk q < mk p)
def bst (S : Nat → Bool) (ah : Nat → Nat → Bool) : Nat → Option Nat
  | 0 => none
  | n + 1 => match bst S ah n with
    | none => bif S n then some n else none
    | some b => bif S n && ah n b then some n else some b
theorem bst_no {S : Nat → Bool} {ah : Nat → Nat → Bool} {n : Nat} (h : S n = false) : bst S ah (n + 1) = bst S ah n := by
  show (match bst S ah n with | none => bif S n then some n else none | some b => bif S n && ah n b then some n else some b) = _
  cases bst S ah n <;> simp [h]
theorem bst_new {S : Nat → Bool} {ah : Nat → Nat → Bool} {n : Nat} (hb : bst S ah n = none) (h : S n = true) : bst S ah (n + 1) = some n := by
  show (match bst S ah n with | none => bif S n then some n else none | some b => bif S n && ah n b then some n else some b) = _
  rw [hb]; simp [h]
theorem bst_up {S : Nat → Bool} {ah : Nat → Nat → Bool} {n b : Nat} (hb : bst S ah n = some b) (h : S n = true) (ha : ah n b = true) : bst S ah (n + 1) = some n := by
  show (match bst S ah n with | none => bif S n then some n else none | some b => bif S n && ah n b then some n else some b) = _
  rw [hb]; simp [h, ha]
theorem bst_keep {S : Nat → Bool} {ah : Nat → Nat → Bool} {n b : Nat} (hb : bst S ah n = some b) (ha : ah n b = false) : bst S ah (n + 1) = some b := by
  show (match bst S ah n with | none => bif S n then some n else none | some b => bif S n && ah n b then some n else some b) = _
  rw [hb]; simp [ha]
theorem bst_lt {S : Nat → Bool} {ah : Nat → Nat → Bool} : ∀ n b, bst S ah n = some b → b < n ∧ S b = true
  | 0, b, h => by cases h
  | n + 1, b, h => by
    cases hn : bst S ah n with
    | none =>
      cases hs : S n with
      | true => rw [bst_new hn hs] at h; cases h; exact ⟨Nat.lt_succ_self _, hs⟩
      | false => rw [bst_no hs, hn] at h; cases h
    | some c =>
      have ih := bst_lt n c hn
      cases hs : S n with
      | false => rw [bst_no hs, hn] at h; cases h; exact ⟨Nat.lt_succ_of_lt ih.1, ih.2⟩
      | true =>
        cases ha : ah n c with
        | true => rw [bst_up hn hs ha] at h; cases h; exact ⟨Nat.lt_succ_self _, hs⟩
        | false => rw [bst_keep hn ha] at h; cases h; exact ⟨Nat.lt_succ_of_lt ih.1, ih.2⟩
theorem bst_congr {S S' : Nat → Bool} {ah ah' : Nat → Nat → Bool} : ∀ n, (∀ p, p < n → S p = S' p) → (∀ p q, p < n → q < n → ah p q = ah' p q) → bst S ah n = bst S' ah' n
  | 0, _, _ => rfl
  | n + 1, h1, h2 => by
    have ih := bst_congr n (fun p hp => h1 p (by omega)) (fun p q hp hq => h2 p q (by omega) (by omega))
    show (match bst S ah n with | none => bif S n then some n else none | some b => bif S n && ah n b then some n else some b) = (match bst S' ah' n with | none => bif S' n then some n else none | some b => bif S' n && ah' n b then some n else some b)
    rw [ih, h1 n (by omega)]
    cases hb : bst S' ah' n with
    | none => rfl
    | some b =>
      have hl : b < n := by rw [← ih] at hb; exact (bst_lt n b hb).1
      show (bif S' n && ah n b then some n else some b) = (bif S' n && ah' n b then some n else some b)
      rw [h2 n b (by omega) (by omega)]
theorem ahd_congr {law : Int32} {dr dr' mk mk' : Nat → Int32} {p q : Nat} (h1 : dr p = dr' p) (h2 : dr q = dr' q) (h3 : mk p = mk' p) (h4 : mk q = mk' q) : ahd law dr mk p q = ahd law dr' mk' p q := by
  unfold ahd; rw [h1, h2, h3, h4]
/-- who is first of all, who are first, who is second -/
def ldr (co : Nat → Bool) (law : Int32) (dr mk : Nat → Int32) (np : Nat) : Option Nat := bst co (ahd law dr mk) np
def fst' (co : Nat → Bool) (law : Int32) (dr mk : Nat → Int32) (np p : Nat) : Bool := match ldr co law dr mk np with
  | none => false
  | some b => if law = nI 2 then co p && decide (mk p = mk b) else decide (p = b)
def snd' (co : Nat → Bool) (law : Int32) (dr mk : Nat → Int32) (np : Nat) : Option Nat := bst (fun p => co p && !fst' co law dr mk np p) (ahd law dr mk) np
theorem ldr_congr {co co' : Nat → Bool} {law : Int32} {dr dr' mk mk' : Nat → Int32} {np : Nat} (h1 : ∀ p, p < np → co p = co' p) (h2 : ∀ p, p < np → dr p = dr' p) (h3 : ∀ p, p < np → mk p = mk' p) : ldr co law dr mk np = ldr co' law dr' mk' np :=
  bst_congr np h1 (fun p q hp hq => ahd_congr (h2 p hp) (h2 q hq) (h3 p hp) (h3 q hq))
theorem fst_congr {co co' : Nat → Bool} {law : Int32} {dr dr' mk mk' : Nat → Int32} {np p : Nat} (hp : p < np) (h1 : ∀ p, p < np → co p = co' p) (h2 : ∀ p, p < np → dr p = dr' p) (h3 : ∀ p, p < np → mk p = mk' p) : fst' co law dr mk np p = fst' co' law dr' mk' np p := by
  have e := ldr_congr (law := law) h1 h2 h3
  unfold fst'
  rw [e]
  cases hb : ldr co' law dr' mk' np with
  | none => rfl
  | some b =>
    have hl : b < np := (bst_lt np b hb).1
    show (if law = nI 2 then co p && decide (mk p = mk b) else decide (p = b)) = (if law = nI 2 then co' p && decide (mk' p = mk' b) else decide (p = b))
    rw [h1 p hp, h3 p hp, h3 b hl]
theorem snd_congr {co co' : Nat → Bool} {law : Int32} {dr dr' mk mk' : Nat → Int32} {np : Nat} (h1 : ∀ p, p < np → co p = co' p) (h2 : ∀ p, p < np → dr p = dr' p) (h3 : ∀ p, p < np → mk p = mk' p) : snd' co law dr mk np = snd' co' law dr' mk' np :=
  bst_congr np (fun p hp => by rw [h1 p hp, fst_congr hp h1 h2 h3]) (fun p q hp hq => ahd_congr (h2 p hp) (h2 q hq) (h3 p hp) (h3 q hq))
theorem hT {x : Int32} {p : Nat} (h : (x >>> (nI p &&& 31)) &&& nI 1 = nI 1) : has x p = true := decide_eq_true h
theorem hF {x : Int32} {p : Nat} (h : ¬ (x >>> (nI p &&& 31)) &&& nI 1 = nI 1) : has x p = false := decide_eq_false h
set_option maxRecDepth 20000 in
theorem c_X1_isFirst {l : Launch} {X : XT} {d Lz : Nat} {w : Nat → Nat → Nat → Nat → Int32} (p : Nat) : CT l X (d + 1) md_X1_isFirst [.inr (.inr (1, 0, 0)), .inl (nI p)] (mk Lz w) (some (.inl (bI (has (w 1 0 0 1) p)))) (mk Lz w) := by
  show WP l X _ md_X1_isFirst (0, [some (.inr (.inr (1, 0, 0))), some (.inl (nI p))], [], _) _
  refine x_aload_n (pc' := 1) rfl rfl rfl (x_getI (pc' := 4) rfl rfl rfl (x_iload_n (pc' := 5) rfl rfl rfl (x_ishr (pc' := 6) rfl rfl (x_iconst (pc' := 7) rfl rfl (x_iand (pc' := 8) rfl rfl ?_)))))
  refine x_iconst (pc' := 9) rfl rfl ?_
  refine x_icmp_ne (pc' := 12) rfl rfl (fun h9 => ?_) (fun h9 => ?_)
  · refine x_iconst (pc' := 13) rfl rfl (x_goto rfl ?_)
    refine x_zret rfl rfl (by decide) ?_
    first | exact rI (bI_t (hT h9)).symm | exact rI (bI_f (hF h9)).symm
  · refine x_iconst (pc' := 17) rfl rfl ?_
    refine x_zret rfl rfl (by decide) ?_
    first | exact rI (bI_t (hT h9)).symm | exact rI (bI_f (hF h9)).symm
set_option maxRecDepth 20000 in
theorem c_X9_has {l : Launch} {X : XT} {d : Nat} {M : Mem} (x : Int32) (p : Nat) : CT l X (d + 1) md_X9_has [.inl (x), .inl (nI p)] (M) (some (.inl (bI (has x p)))) (M) := by
  show WP l X _ md_X9_has (0, [some (.inl (x)), some (.inl (nI p))], [], _) _
  refine x_iload_n (pc' := 1) rfl rfl rfl (x_iload_n (pc' := 2) rfl rfl rfl (x_ishr (pc' := 3) rfl rfl (x_iconst (pc' := 4) rfl rfl (x_iand (pc' := 5) rfl rfl (x_iconst (pc' := 6) rfl rfl ?_)))))
  refine x_icmp_ne (pc' := 9) rfl rfl (fun h6 => ?_) (fun h6 => ?_)
  · refine x_iconst (pc' := 10) rfl rfl (x_goto rfl ?_)
    refine x_zret rfl rfl (by decide) ?_
    first | exact rI (bI_t (hT h6)).symm | exact rI (bI_f (hF h6)).symm
  · refine x_iconst (pc' := 14) rfl rfl ?_
    refine x_zret rfl rfl (by decide) ?_
    first | exact rI (bI_t (hT h6)).symm | exact rI (bI_f (hF h6)).symm
set_option maxRecDepth 20000 in
theorem c_X1_isAheadOf {l : Launch} {X : XT} {d Lz : Nat} {w : Nat → Nat → Nat → Nat → Int32} (j p q : Nat) (hp : p < 7) (hq : q < 7) : CT l X (d + 1) md_X1_isAheadOf [.inr (.inr (1, 0, 0)), .inr (.inr (4, j, 0)), .inl (nI p), .inl (nI q)] (mk Lz w) (some (.inl (bI (ahd (w 4 j 0 4) (w 4 j 2) (w 1 0 1) p q)))) (mk Lz w) := by
  show WP l X _ md_X1_isAheadOf (0, [some (.inr (.inr (1, 0, 0))), some (.inr (.inr (4, j, 0))), some (.inl (nI p)), some (.inl (nI q))], [], _) _
  refine x_aload_n (pc' := 1) rfl rfl rfl (x_getR (pc' := 4) (t := (1, _, 1)) rfl rfl rfl (x_iload_n (pc' := 5) rfl rfl rfl (x_iald (pc' := 6) (N := 7) rfl rfl rfl rfl (by first | assumption | omega) (by decide) (x_aload_n (pc' := 7) rfl rfl rfl (x_getR (pc' := 10) (t := (1, _, 1)) rfl rfl rfl ?_)))))
  refine x_iload_n (pc' := 11) rfl rfl rfl (x_iald (pc' := 12) (N := 7) rfl rfl rfl rfl (by first | assumption | omega) (by decide) ?_)
  refine x_icmp_eq (pc' := 15) rfl rfl (fun h12 => ?_) (fun h12 => ?_)
  · refine x_aload_n (pc' := 37) rfl rfl rfl (x_getI (pc' := 40) rfl rfl rfl (x_iconst (pc' := 41) rfl rfl ?_))
    refine x_icmp_ne (pc' := 44) rfl rfl (fun h41 => ?_) (fun h41 => ?_)
    · refine x_aload_n (pc' := 45) rfl rfl rfl (x_getR (pc' := 48) (t := (4, _, 2)) rfl rfl rfl (x_iload_n (pc' := 49) rfl rfl rfl (x_iald (pc' := 50) (N := 7) rfl rfl rfl rfl (by first | assumption | omega) (by decide) (x_aload_n (pc' := 51) rfl rfl rfl (x_getR (pc' := 54) (t := (4, _, 2)) rfl rfl rfl ?_)))))
      refine x_iload_n (pc' := 55) rfl rfl rfl (x_iald (pc' := 56) (N := 7) rfl rfl rfl rfl (by first | assumption | omega) (by decide) ?_)
      refine x_icmp_eq (pc' := 59) rfl rfl (fun h56 => ?_) (fun h56 => ?_)
      · refine x_iload_n (pc' := 81) rfl rfl rfl (x_iload_n (pc' := 82) rfl rfl rfl ?_)
        refine x_icmp_geN (pc' := 85) rfl rfl (by omega) (by omega) (fun h82 => ?_) (fun h82 => ?_)
        · refine x_iconst (pc' := 90) rfl rfl ?_
          refine x_zret rfl rfl (by decide) ?_
          exact rI (by unfold ahd; first | (rw [if_neg h12, dF (Int32.not_lt.mpr h27)]; rfl) | (rw [if_neg h12, dT (Int32.not_le.mp h27)]; rfl) | (rw [if_pos h12, if_pos h41, if_neg h56, dF (Int32.not_lt.mpr h71)]; rfl) | (rw [if_pos h12, if_pos h41, if_neg h56, dT (Int32.not_le.mp h71)]; rfl) | (rw [if_pos h12, if_pos h41, if_pos h56, dF (by omega)]; rfl) | (rw [if_pos h12, if_pos h41, if_pos h56, dT (by omega)]; rfl) | (rw [if_pos h12, if_neg h41, dF (by omega)]; rfl) | (rw [if_pos h12, if_neg h41, dT (by omega)]; rfl))
        · refine x_iconst (pc' := 86) rfl rfl (x_goto rfl ?_)
          refine x_zret rfl rfl (by decide) ?_
          exact rI (by unfold ahd; first | (rw [if_neg h12, dF (Int32.not_lt.mpr h27)]; rfl) | (rw [if_neg h12, dT (Int32.not_le.mp h27)]; rfl) | (rw [if_pos h12, if_pos h41, if_neg h56, dF (Int32.not_lt.mpr h71)]; rfl) | (rw [if_pos h12, if_pos h41, if_neg h56, dT (Int32.not_le.mp h71)]; rfl) | (rw [if_pos h12, if_pos h41, if_pos h56, dF (by omega)]; rfl) | (rw [if_pos h12, if_pos h41, if_pos h56, dT (by omega)]; rfl) | (rw [if_pos h12, if_neg h41, dF (by omega)]; rfl) | (rw [if_pos h12, if_neg h41, dT (by omega)]; rfl))
      · refine x_aload_n (pc' := 60) rfl rfl rfl (x_getR (pc' := 63) (t := (4, _, 2)) rfl rfl rfl (x_iload_n (pc' := 64) rfl rfl rfl (x_iald (pc' := 65) (N := 7) rfl rfl rfl rfl (by first | assumption | omega) (by decide) (x_aload_n (pc' := 66) rfl rfl rfl (x_getR (pc' := 69) (t := (4, _, 2)) rfl rfl rfl ?_)))))
        refine x_iload_n (pc' := 70) rfl rfl rfl (x_iald (pc' := 71) (N := 7) rfl rfl rfl rfl (by first | assumption | omega) (by decide) ?_)
        refine x_icmp_le (pc' := 74) rfl rfl (fun h71 => ?_) (fun h71 => ?_)
        · refine x_iconst (pc' := 79) rfl rfl ?_
          refine x_zret rfl rfl (by decide) ?_
          exact rI (by unfold ahd; first | (rw [if_neg h12, dF (Int32.not_lt.mpr h27)]; rfl) | (rw [if_neg h12, dT (Int32.not_le.mp h27)]; rfl) | (rw [if_pos h12, if_pos h41, if_neg h56, dF (Int32.not_lt.mpr h71)]; rfl) | (rw [if_pos h12, if_pos h41, if_neg h56, dT (Int32.not_le.mp h71)]; rfl) | (rw [if_pos h12, if_pos h41, if_pos h56, dF (by omega)]; rfl) | (rw [if_pos h12, if_pos h41, if_pos h56, dT (by omega)]; rfl) | (rw [if_pos h12, if_neg h41, dF (by omega)]; rfl) | (rw [if_pos h12, if_neg h41, dT (by omega)]; rfl))
        · refine x_iconst (pc' := 75) rfl rfl (x_goto rfl ?_)
          refine x_zret rfl rfl (by decide) ?_
          exact rI (by unfold ahd; first | (rw [if_neg h12, dF (Int32.not_lt.mpr h27)]; rfl) | (rw [if_neg h12, dT (Int32.not_le.mp h27)]; rfl) | (rw [if_pos h12, if_pos h41, if_neg h56, dF (Int32.not_lt.mpr h71)]; rfl) | (rw [if_pos h12, if_pos h41, if_neg h56, dT (Int32.not_le.mp h71)]; rfl) | (rw [if_pos h12, if_pos h41, if_pos h56, dF (by omega)]; rfl) | (rw [if_pos h12, if_pos h41, if_pos h56, dT (by omega)]; rfl) | (rw [if_pos h12, if_neg h41, dF (by omega)]; rfl) | (rw [if_pos h12, if_neg h41, dT (by omega)]; rfl))
    · refine x_iload_n (pc' := 81) rfl rfl rfl (x_iload_n (pc' := 82) rfl rfl rfl ?_)
      refine x_icmp_geN (pc' := 85) rfl rfl (by omega) (by omega) (fun h82 => ?_) (fun h82 => ?_)
      · refine x_iconst (pc' := 90) rfl rfl ?_
        refine x_zret rfl rfl (by decide) ?_
        exact rI (by unfold ahd; first | (rw [if_neg h12, dF (Int32.not_lt.mpr h27)]; rfl) | (rw [if_neg h12, dT (Int32.not_le.mp h27)]; rfl) | (rw [if_pos h12, if_pos h41, if_neg h56, dF (Int32.not_lt.mpr h71)]; rfl) | (rw [if_pos h12, if_pos h41, if_neg h56, dT (Int32.not_le.mp h71)]; rfl) | (rw [if_pos h12, if_pos h41, if_pos h56, dF (by omega)]; rfl) | (rw [if_pos h12, if_pos h41, if_pos h56, dT (by omega)]; rfl) | (rw [if_pos h12, if_neg h41, dF (by omega)]; rfl) | (rw [if_pos h12, if_neg h41, dT (by omega)]; rfl))
      · refine x_iconst (pc' := 86) rfl rfl (x_goto rfl ?_)
        refine x_zret rfl rfl (by decide) ?_
        exact rI (by unfold ahd; first | (rw [if_neg h12, dF (Int32.not_lt.mpr h27)]; rfl) | (rw [if_neg h12, dT (Int32.not_le.mp h27)]; rfl) | (rw [if_pos h12, if_pos h41, if_neg h56, dF (Int32.not_lt.mpr h71)]; rfl) | (rw [if_pos h12, if_pos h41, if_neg h56, dT (Int32.not_le.mp h71)]; rfl) | (rw [if_pos h12, if_pos h41, if_pos h56, dF (by omega)]; rfl) | (rw [if_pos h12, if_pos h41, if_pos h56, dT (by omega)]; rfl) | (rw [if_pos h12, if_neg h41, dF (by omega)]; rfl) | (rw [if_pos h12, if_neg h41, dT (by omega)]; rfl))
  · refine x_aload_n (pc' := 16) rfl rfl rfl (x_getR (pc' := 19) (t := (1, _, 1)) rfl rfl rfl (x_iload_n (pc' := 20) rfl rfl rfl (x_iald (pc' := 21) (N := 7) rfl rfl rfl rfl (by first | assumption | omega) (by decide) (x_aload_n (pc' := 22) rfl rfl rfl (x_getR (pc' := 25) (t := (1, _, 1)) rfl rfl rfl ?_)))))
    refine x_iload_n (pc' := 26) rfl rfl rfl (x_iald (pc' := 27) (N := 7) rfl rfl rfl rfl (by first | assumption | omega) (by decide) ?_)
    refine x_icmp_le (pc' := 30) rfl rfl (fun h27 => ?_) (fun h27 => ?_)
    · refine x_iconst (pc' := 35) rfl rfl ?_
      refine x_zret rfl rfl (by decide) ?_
      exact rI (by unfold ahd; first | (rw [if_neg h12, dF (Int32.not_lt.mpr h27)]; rfl) | (rw [if_neg h12, dT (Int32.not_le.mp h27)]; rfl) | (rw [if_pos h12, if_pos h41, if_neg h56, dF (Int32.not_lt.mpr h71)]; rfl) | (rw [if_pos h12, if_pos h41, if_neg h56, dT (Int32.not_le.mp h71)]; rfl) | (rw [if_pos h12, if_pos h41, if_pos h56, dF (by omega)]; rfl) | (rw [if_pos h12, if_pos h41, if_pos h56, dT (by omega)]; rfl) | (rw [if_pos h12, if_neg h41, dF (by omega)]; rfl) | (rw [if_pos h12, if_neg h41, dT (by omega)]; rfl))
    · refine x_iconst (pc' := 31) rfl rfl (x_goto rfl ?_)
      refine x_zret rfl rfl (by decide) ?_
      exact rI (by unfold ahd; first | (rw [if_neg h12, dF (Int32.not_lt.mpr h27)]; rfl) | (rw [if_neg h12, dT (Int32.not_le.mp h27)]; rfl) | (rw [if_pos h12, if_pos h41, if_neg h56, dF (Int32.not_lt.mpr h71)]; rfl) | (rw [if_pos h12, if_pos h41, if_neg h56, dT (Int32.not_le.mp h71)]; rfl) | (rw [if_pos h12, if_pos h41, if_pos h56, dF (by omega)]; rfl) | (rw [if_pos h12, if_pos h41, if_pos h56, dT (by omega)]; rfl) | (rw [if_pos h12, if_neg h41, dF (by omega)]; rfl) | (rw [if_pos h12, if_neg h41, dT (by omega)]; rfl))
abbrev fS (w : Nat → Nat → Nat → Nat → Int32) (i : Nat) : Nat → Bool := fun p => cC w i p && !has (w 1 0 0 1) p
abbrev fA (w : Nat → Nat → Nat → Nat → Int32) (j : Nat) : Nat → Nat → Bool := ahd (w 4 j 0 4) (w 4 j 2) (w 1 0 1)
set_option maxRecDepth 20000 in
theorem l_X1_foremost {l : Launch} {X : XT} {d Lz : Nat} {w : Nat → Nat → Nat → Nat → Int32} (i : Nat) (j np : Nat) (hnp : w 4 j 0 6 = nI np) (hn7 : np ≤ 7) : ∀ (k n : Nat),  n ≤ np → np + 1 ≤ n + k → WP l X (d + 2) md_X1_foremost (5, [some (.inr (.inr (1, 0, 0))), some (.inr (.inr (4, j, 0))), some (.inr (.inr (6, i, 0))), some (.inl (oI (bst (fS w i) (fA w j) n))), some (.inl (nI n))], [], mk Lz w) (fun v M' => v = some (.inl (oI (bst (fS w i) (fA w j) np))) ∧ M' = mk Lz w) := by
  intro k
  induction k with
  | zero =>
    intro n h1 h2
    exact absurd h2 (by omega)
  | succ k ih =>
    intro n hi1 hi2
    cases hb : bst (fS w i) (fA w j) n with
    | none =>
      show WP l X _ md_X1_foremost (5, [some (.inr (.inr (1, 0, 0))), some (.inr (.inr (4, j, 0))), some (.inr (.inr (6, i, 0))), some (.inl (-1)), some (.inl (nI n))], [], _) _
      refine x_iload (pc' := 7) rfl rfl rfl (x_aload_n (pc' := 8) rfl rfl rfl (x_getI (pc' := 11) rfl rfl rfl ?_))
      rw [hnp]
      refine x_icmp_geN (pc' := 14) rfl rfl (by omega) (by omega) (fun h11 => ?_) (fun h11 => ?_)
      · refine x_iload_n (pc' := 58) rfl rfl rfl ?_
        refine x_iret rfl rfl ?_
        have e : n = np := by omega
        subst e
        rw [hb]
        exact rI rfl
      · refine x_aload_n (pc' := 15) rfl rfl rfl (x_iload (pc' := 17) rfl rfl rfl (x_invI2 (pc' := 20) rfl rfl rfl rfl (c_X6_isAtCourt _ _ (by omega)) ?_))
        refine x_if_eq (pc' := 23) rfl rfl (fun h20 => ?_) (fun h20 => ?_)
        · refine x_iinc4 (pc' := 54) rfl rfl rfl (nI_add _ _) (x_goto rfl ?_)
          first | exact WPc (ih (n + 1) (by omega) (by omega)) (by rw [bst_new hb (by show (cC w i n && !has (w 1 0 0 1) n) = true; rw [show cC w i n = true from bq h20, bI_eq0.mp h29]; rfl)]; rfl) rfl | exact WPc (ih (n + 1) (by omega) (by omega)) (by rw [bst_no (by show (cC w i n && _) = false; rw [show cC w i n = false from bI_eq0.mp h20]; rfl), hb]; rfl) rfl | exact WPc (ih (n + 1) (by omega) (by omega)) (by rw [bst_no (by show (_ && !has (w 1 0 0 1) n) = false; rw [bq h29]; simp), hb]; rfl) rfl
        · refine x_aload_n (pc' := 24) rfl rfl rfl (x_iload (pc' := 26) rfl rfl rfl (x_invI2 (pc' := 29) rfl rfl rfl rfl (c_X1_isFirst _) ?_))
          refine x_if_ne (pc' := 32) rfl rfl (fun h29 => ?_) (fun h29 => ?_)
          · refine x_iload_n (pc' := 33) rfl rfl rfl (x_iconst (pc' := 34) rfl rfl ?_)
            refine x_icmp_eq (pc' := 37) rfl rfl (fun h34 => ?_) (fun h34 => absurd rfl h34)
            refine x_iload (pc' := 50) rfl rfl rfl (x_istore_n3 (pc' := 51) rfl rfl rfl (x_iinc4 (pc' := 54) rfl rfl rfl (nI_add _ _) (x_goto rfl ?_)))
            first | exact WPc (ih (n + 1) (by omega) (by omega)) (by rw [bst_new hb (by show (cC w i n && !has (w 1 0 0 1) n) = true; rw [show cC w i n = true from bq h20, bI_eq0.mp h29]; rfl)]; rfl) rfl | exact WPc (ih (n + 1) (by omega) (by omega)) (by rw [bst_no (by show (cC w i n && _) = false; rw [show cC w i n = false from bI_eq0.mp h20]; rfl), hb]; rfl) rfl | exact WPc (ih (n + 1) (by omega) (by omega)) (by rw [bst_no (by show (_ && !has (w 1 0 0 1) n) = false; rw [bq h29]; simp), hb]; rfl) rfl
          · refine x_iinc4 (pc' := 54) rfl rfl rfl (nI_add _ _) (x_goto rfl ?_)
            first | exact WPc (ih (n + 1) (by omega) (by omega)) (by rw [bst_new hb (by show (cC w i n && !has (w 1 0 0 1) n) = true; rw [show cC w i n = true from bq h20, bI_eq0.mp h29]; rfl)]; rfl) rfl | exact WPc (ih (n + 1) (by omega) (by omega)) (by rw [bst_no (by show (cC w i n && _) = false; rw [show cC w i n = false from bI_eq0.mp h20]; rfl), hb]; rfl) rfl | exact WPc (ih (n + 1) (by omega) (by omega)) (by rw [bst_no (by show (_ && !has (w 1 0 0 1) n) = false; rw [bq h29]; simp), hb]; rfl) rfl
    | some b =>
      have hbl := (bst_lt n b hb).1
      show WP l X _ md_X1_foremost (5, [some (.inr (.inr (1, 0, 0))), some (.inr (.inr (4, j, 0))), some (.inr (.inr (6, i, 0))), some (.inl (nI b)), some (.inl (nI n))], [], _) _
      refine x_iload (pc' := 7) rfl rfl rfl (x_aload_n (pc' := 8) rfl rfl rfl (x_getI (pc' := 11) rfl rfl rfl ?_))
      rw [hnp]
      refine x_icmp_geN (pc' := 14) rfl rfl (by omega) (by omega) (fun h11 => ?_) (fun h11 => ?_)
      · refine x_iload_n (pc' := 58) rfl rfl rfl ?_
        refine x_iret rfl rfl ?_
        have e : n = np := by omega
        subst e
        rw [hb]
        exact rI rfl
      · refine x_aload_n (pc' := 15) rfl rfl rfl (x_iload (pc' := 17) rfl rfl rfl (x_invI2 (pc' := 20) rfl rfl rfl rfl (c_X6_isAtCourt _ _ (by omega)) ?_))
        refine x_if_eq (pc' := 23) rfl rfl (fun h20 => ?_) (fun h20 => ?_)
        · refine x_iinc4 (pc' := 54) rfl rfl rfl (nI_add _ _) (x_goto rfl ?_)
          first | exact WPc (ih (n + 1) (by omega) (by omega)) (by rw [bst_up hb (by show (cC w i n && !has (w 1 0 0 1) n) = true; rw [show cC w i n = true from bq h20, bI_eq0.mp h29]; rfl) (bq h45)]; rfl) rfl | exact WPc (ih (n + 1) (by omega) (by omega)) (by rw [bst_keep hb (bI_eq0.mp h45)]; rfl) rfl | exact WPc (ih (n + 1) (by omega) (by omega)) (by rw [bst_no (by show (cC w i n && _) = false; rw [show cC w i n = false from bI_eq0.mp h20]; rfl), hb]; rfl) rfl | exact WPc (ih (n + 1) (by omega) (by omega)) (by rw [bst_no (by show (_ && !has (w 1 0 0 1) n) = false; rw [bq h29]; simp), hb]; rfl) rfl
        · refine x_aload_n (pc' := 24) rfl rfl rfl (x_iload (pc' := 26) rfl rfl rfl (x_invI2 (pc' := 29) rfl rfl rfl rfl (c_X1_isFirst _) ?_))
          refine x_if_ne (pc' := 32) rfl rfl (fun h29 => ?_) (fun h29 => ?_)
          · refine x_iload_n (pc' := 33) rfl rfl rfl (x_iconst (pc' := 34) rfl rfl ?_)
            refine x_icmp_eq (pc' := 37) rfl rfl (fun h34 => absurd h34 (nI_ne1 (by omega))) (fun h34 => ?_)
            refine x_aload_n (pc' := 38) rfl rfl rfl (x_aload_n (pc' := 39) rfl rfl rfl (x_iload (pc' := 41) rfl rfl rfl (x_iload_n (pc' := 42) rfl rfl rfl (x_invI4 (pc' := 45) rfl rfl rfl rfl rfl rfl (c_X1_isAheadOf _ _ _ (by omega) (by omega)) ?_))))
            refine x_if_eq (pc' := 48) rfl rfl (fun h45 => ?_) (fun h45 => ?_)
            · refine x_iinc4 (pc' := 54) rfl rfl rfl (nI_add _ _) (x_goto rfl ?_)
              first | exact WPc (ih (n + 1) (by omega) (by omega)) (by rw [bst_up hb (by show (cC w i n && !has (w 1 0 0 1) n) = true; rw [show cC w i n = true from bq h20, bI_eq0.mp h29]; rfl) (bq h45)]; rfl) rfl | exact WPc (ih (n + 1) (by omega) (by omega)) (by rw [bst_keep hb (bI_eq0.mp h45)]; rfl) rfl | exact WPc (ih (n + 1) (by omega) (by omega)) (by rw [bst_no (by show (cC w i n && _) = false; rw [show cC w i n = false from bI_eq0.mp h20]; rfl), hb]; rfl) rfl | exact WPc (ih (n + 1) (by omega) (by omega)) (by rw [bst_no (by show (_ && !has (w 1 0 0 1) n) = false; rw [bq h29]; simp), hb]; rfl) rfl
            · refine x_iload (pc' := 50) rfl rfl rfl (x_istore_n3 (pc' := 51) rfl rfl rfl (x_iinc4 (pc' := 54) rfl rfl rfl (nI_add _ _) (x_goto rfl ?_)))
              first | exact WPc (ih (n + 1) (by omega) (by omega)) (by rw [bst_up hb (by show (cC w i n && !has (w 1 0 0 1) n) = true; rw [show cC w i n = true from bq h20, bI_eq0.mp h29]; rfl) (bq h45)]; rfl) rfl | exact WPc (ih (n + 1) (by omega) (by omega)) (by rw [bst_keep hb (bI_eq0.mp h45)]; rfl) rfl | exact WPc (ih (n + 1) (by omega) (by omega)) (by rw [bst_no (by show (cC w i n && _) = false; rw [show cC w i n = false from bI_eq0.mp h20]; rfl), hb]; rfl) rfl | exact WPc (ih (n + 1) (by omega) (by omega)) (by rw [bst_no (by show (_ && !has (w 1 0 0 1) n) = false; rw [bq h29]; simp), hb]; rfl) rfl
          · refine x_iinc4 (pc' := 54) rfl rfl rfl (nI_add _ _) (x_goto rfl ?_)
            first | exact WPc (ih (n + 1) (by omega) (by omega)) (by rw [bst_up hb (by show (cC w i n && !has (w 1 0 0 1) n) = true; rw [show cC w i n = true from bq h20, bI_eq0.mp h29]; rfl) (bq h45)]; rfl) rfl | exact WPc (ih (n + 1) (by omega) (by omega)) (by rw [bst_keep hb (bI_eq0.mp h45)]; rfl) rfl | exact WPc (ih (n + 1) (by omega) (by omega)) (by rw [bst_no (by show (cC w i n && _) = false; rw [show cC w i n = false from bI_eq0.mp h20]; rfl), hb]; rfl) rfl | exact WPc (ih (n + 1) (by omega) (by omega)) (by rw [bst_no (by show (_ && !has (w 1 0 0 1) n) = false; rw [bq h29]; simp), hb]; rfl) rfl
set_option maxRecDepth 20000 in
theorem c_X1_foremost {l : Launch} {X : XT} {d Lz : Nat} {w : Nat → Nat → Nat → Nat → Int32} (i : Nat) (j np : Nat) (hnp : w 4 j 0 6 = nI np) (hn7 : np ≤ 7) : CT l X (d + 2) md_X1_foremost [.inr (.inr (1, 0, 0)), .inr (.inr (4, j, 0)), .inr (.inr (6, i, 0))] (mk Lz w) (some (.inl (oI (bst (fS w i) (fA w j) np)))) (mk Lz w) := by
  show WP l X _ md_X1_foremost (0, [some (.inr (.inr (1, 0, 0))), some (.inr (.inr (4, j, 0))), some (.inr (.inr (6, i, 0))), none, none], [], _) _
  refine x_iconst (pc' := 1) rfl rfl (x_istore_n3 (pc' := 2) rfl rfl rfl (x_iconst (pc' := 3) rfl rfl (x_istore4 (pc' := 5) rfl rfl rfl ?_)))
  exact l_X1_foremost i j np hnp hn7 (np + 1) 0 (by omega) (by omega)
abbrev aL (w : Nat → Nat → Nat → Nat → Int32) (i b : Nat) : Nat → Bool := fun p => cC w i p && decide (w 1 0 1 p = w 1 0 1 b)
set_option maxRecDepth 20000 in
theorem l_X1_allLike {l : Launch} {X : XT} {d Lz : Nat} {w : Nat → Nat → Nat → Nat → Int32} (i b : Nat) (hb : b < 7) (j np : Nat) (hnp : w 4 j 0 6 = nI np) (hn7 : np ≤ 7) : ∀ (k n : Nat),  n ≤ np → np + 1 ≤ n + k → WP l X (d + 2) md_X1_allLike (6, [some (.inr (.inr (1, 0, 0))), some (.inr (.inr (4, j, 0))), some (.inr (.inr (6, i, 0))), some (.inl (nI b)), some (.inl (enc (aL w i b) n)), some (.inl (nI n))], [], mk Lz w) (fun v M' => v = some (.inl (enc (aL w i b) np)) ∧ M' = mk Lz w) := by
  intro k
  induction k with
  | zero =>
    intro n h1 h2
    exact absurd h2 (by omega)
  | succ k ih =>
    intro n hi1 hi2
    refine x_iload (pc' := 8) rfl rfl rfl (x_aload_n (pc' := 9) rfl rfl rfl (x_getI (pc' := 12) rfl rfl rfl ?_))
    rw [hnp]
    refine x_icmp_geN (pc' := 15) rfl rfl (by omega) (by omega) (fun h12 => ?_) (fun h12 => ?_)
    · refine x_iload (pc' := 57) rfl rfl rfl ?_
      refine x_iret rfl rfl ?_
      have e : n = np := by omega
      subst e
      exact rI rfl
    · refine x_aload_n (pc' := 16) rfl rfl rfl (x_iload (pc' := 18) rfl rfl rfl (x_invI2 (pc' := 21) rfl rfl rfl rfl (c_X6_isAtCourt _ _ (by omega)) ?_))
      refine x_if_eq (pc' := 24) rfl rfl (fun h21 => ?_) (fun h21 => ?_)
      · refine x_iinc5 (pc' := 52) rfl rfl rfl (nI_add _ _) (x_goto rfl ?_)
        first | exact WPc (ih (n + 1) (by omega) (by omega)) (by rw [← enc_t (f := aL w i b) (n := n) (by show (cC w i n && _) = true; rw [show cC w i n = true from bq h21, dT h37]; rfl)]) rfl | exact WPc (ih (n + 1) (by omega) (by omega)) (by rw [← enc_f (f := aL w i b) (n := n) (by show (cC w i n && _) = false; rw [show cC w i n = false from bI_eq0.mp h21]; rfl)]) rfl | exact WPc (ih (n + 1) (by omega) (by omega)) (by rw [← enc_f (f := aL w i b) (n := n) (by show (_ && decide (w 1 0 1 n = w 1 0 1 b)) = false; rw [dF h37]; simp)]) rfl
      · refine x_aload_n (pc' := 25) rfl rfl rfl (x_getR (pc' := 28) (t := (1, _, 1)) rfl rfl rfl (x_iload (pc' := 30) rfl rfl rfl (x_iald (pc' := 31) (N := 7) rfl rfl rfl rfl (by first | assumption | omega) (by decide) (x_aload_n (pc' := 32) rfl rfl rfl (x_getR (pc' := 35) (t := (1, _, 1)) rfl rfl rfl ?_)))))
        refine x_iload_n (pc' := 36) rfl rfl rfl (x_iald (pc' := 37) (N := 7) rfl rfl rfl rfl (by first | assumption | omega) (by decide) ?_)
        refine x_icmp_ne (pc' := 40) rfl rfl (fun h37 => ?_) (fun h37 => ?_)
        · refine x_iload (pc' := 42) rfl rfl rfl (x_iconst (pc' := 43) rfl rfl (x_iload (pc' := 45) rfl rfl rfl (x_ishl (pc' := 46) rfl rfl (x_ior (pc' := 47) rfl rfl (x_istore4 (pc' := 49) rfl rfl rfl ?_)))))
          refine x_iinc5 (pc' := 52) rfl rfl rfl (nI_add _ _) (x_goto rfl ?_)
          first | exact WPc (ih (n + 1) (by omega) (by omega)) (by rw [← enc_t (f := aL w i b) (n := n) (by show (cC w i n && _) = true; rw [show cC w i n = true from bq h21, dT h37]; rfl)]) rfl | exact WPc (ih (n + 1) (by omega) (by omega)) (by rw [← enc_f (f := aL w i b) (n := n) (by show (cC w i n && _) = false; rw [show cC w i n = false from bI_eq0.mp h21]; rfl)]) rfl | exact WPc (ih (n + 1) (by omega) (by omega)) (by rw [← enc_f (f := aL w i b) (n := n) (by show (_ && decide (w 1 0 1 n = w 1 0 1 b)) = false; rw [dF h37]; simp)]) rfl
        · refine x_iinc5 (pc' := 52) rfl rfl rfl (nI_add _ _) (x_goto rfl ?_)
          first | exact WPc (ih (n + 1) (by omega) (by omega)) (by rw [← enc_t (f := aL w i b) (n := n) (by show (cC w i n && _) = true; rw [show cC w i n = true from bq h21, dT h37]; rfl)]) rfl | exact WPc (ih (n + 1) (by omega) (by omega)) (by rw [← enc_f (f := aL w i b) (n := n) (by show (cC w i n && _) = false; rw [show cC w i n = false from bI_eq0.mp h21]; rfl)]) rfl | exact WPc (ih (n + 1) (by omega) (by omega)) (by rw [← enc_f (f := aL w i b) (n := n) (by show (_ && decide (w 1 0 1 n = w 1 0 1 b)) = false; rw [dF h37]; simp)]) rfl
set_option maxRecDepth 20000 in
theorem c_X1_allLike {l : Launch} {X : XT} {d Lz : Nat} {w : Nat → Nat → Nat → Nat → Int32} (i b : Nat) (hb : b < 7) (j np : Nat) (hnp : w 4 j 0 6 = nI np) (hn7 : np ≤ 7) : CT l X (d + 2) md_X1_allLike [.inr (.inr (1, 0, 0)), .inr (.inr (4, j, 0)), .inr (.inr (6, i, 0)), .inl (nI b)] (mk Lz w) (some (.inl (enc (aL w i b) np))) (mk Lz w) := by
  show WP l X _ md_X1_allLike (0, [some (.inr (.inr (1, 0, 0))), some (.inr (.inr (4, j, 0))), some (.inr (.inr (6, i, 0))), some (.inl (nI b)), none, none], [], _) _
  refine x_iconst (pc' := 1) rfl rfl (x_istore4 (pc' := 3) rfl rfl rfl (x_iconst (pc' := 4) rfl rfl (x_istore5 (pc' := 6) rfl rfl rfl ?_)))
  exact l_X1_allLike i b hb j np hnp hn7 (np + 1) 0 (by omega) (by omega)
end
section
/-! ranks -/
abbrev WF : Type := Nat → Nat → Nat → Nat → Int32
/-- all but the contest's own cells is as it was -/
def fr1 (w w' : WF) : Prop := ∀ c i o q, c ≠ 1 → w' c i o q = w c i o q
theorem fr1.rf (w : WF) : fr1 w w := fun _ _ _ _ _ => rfl
theorem fr1.u {w w' : WF} (h : fr1 w w') (i o k : Nat) (x : Int32) : fr1 w (u4 w' 1 i o k x) := fun c i' o' q hc => by
  rw [← h c i' o' q hc]
  exact u4_ne (fun e => hc (by cases e; rfl)) q
theorem fr1.tr {w w' w'' : WF} (h : fr1 w w') (h2 : fr1 w' w'') : fr1 w w'' := fun c i o q hc => (h2 c i o q hc).trans (h c i o q hc)
theorem cC_fr {w w' : WF} (h : fr1 w w') (i : Nat) : cC w' i = cC w i := by
  funext p; unfold cC; rw [h 6 i 3 p (by decide)]
theorem mC_fr {w w' : WF} (h : fr1 w w') (i j k : Nat) : mC w' i j k = mC w i j k := by
  funext p; unfold mC mkV
  rw [h 6 i 1 _ (by decide), h 6 i 2 _ (by decide), h 4 j 2 _ (by decide), h 6 i 0 8 (by decide)]
theorem enc_none : ∀ n, enc (fun _ => false) n = nI 0
  | 0 => rfl
  | n + 1 => by rw [← enc_f rfl]; exact enc_none n
abbrev LDR (w : WF) (i j k np : Nat) : Option Nat := ldr (cC w i) (w 4 j 0 4) (w 4 j 2) (mC w i j k) np
abbrev FST (w : WF) (i j k np : Nat) : Nat → Bool := fst' (cC w i) (w 4 j 0 4) (w 4 j 2) (mC w i j k) np
abbrev SND (w : WF) (i j k np : Nat) : Option Nat := snd' (cC w i) (w 4 j 0 4) (w 4 j 2) (mC w i j k) np
/-- what a rank leaves -/
def RK (w : WF) (i j k np : Nat) (w' : WF) : Prop := fr1 w w' ∧ w' 1 0 0 1 = enc (FST w i j k np) np ∧ w' 1 0 0 2 = oI (LDR w i j k np) ∧ w' 1 0 0 3 = oI (SND w i j k np) ∧ ∀ p, p < np → w' 1 0 1 p = mC w i j k p
theorem fore_eq {w w2 : WF} {i j k np : Nat} {G : Nat → Bool} (hn7 : np ≤ 7) (hf : fr1 w w2) (hm : ∀ p, p < np → w2 1 0 1 p = mC w i j k p) (hG : w2 1 0 0 1 = enc G np) : bst (fS w2 i) (fA w2 j) np = bst (fun p => cC w i p && !G p) (ahd (w 4 j 0 4) (w 4 j 2) (mC w i j k)) np := by
  apply bst_congr
  · intro p hp
    show (cC w2 i p && !has (w2 1 0 0 1) p) = _
    rw [cC_fr hf, hG, has_enc (by omega) hp]
  · intro p q hp hq
    show ahd (w2 4 j 0 4) (w2 4 j 2) (w2 1 0 1) p q = _
    rw [hf 4 j 0 4 (by decide)]
    exact ahd_congr (hf 4 j 2 p (by decide)) (hf 4 j 2 q (by decide)) (hm p hp) (hm q hq)
theorem bst_all {S : Nat → Bool} {ah : Nat → Nat → Bool} {n : Nat} : bst (fun p => S p && !(fun _ : Nat => false) p) ah n = bst S ah n := bst_congr n (fun p _ => by simp) (fun _ _ _ _ => rfl)
set_option maxRecDepth 20000 in
theorem r_X1_rank {l : Launch} {X : XT} {d Lz : Nat} {w : Nat → Nat → Nat → Nat → Int32} (i k : Nat) (j np : Nat) (hnp : w 4 j 0 6 = nI np) (hn7 : np ≤ 7) (wn : WF) (hf : fr1 w wn) (hm : ∀ p, p < np → wn 1 0 1 p = mC w i j k p) : WP l X (d + 3) md_X1_rank (33, [some (.inr (.inr (1, 0, 0))), some (.inr (.inr (4, j, 0))), some (.inr (.inr (6, i, 0))), some (.inl (nI k)), some (.inl (nI np))], [], mk Lz wn) (fun v M' => v = none ∧ ∃ w', M' = mk Lz w' ∧ RK w i j k np w') := by
  have ha := hf.u 0 0 1 (nI 0)
  have hma : ∀ p, p < np → u4 wn 1 0 0 1 (nI 0) 1 0 1 p = mC w i j k p := fun p hp => by rw [u4_ne (by decide)]; exact hm p hp
  have hL : bst (fS (u4 wn 1 0 0 1 (nI 0)) i) (fA (u4 wn 1 0 0 1 (nI 0)) j) np = LDR w i j k np := by
    rw [fore_eq (G := fun _ => false) hn7 ha hma (by rw [u4_self, enc_none])]
    exact bst_all
  have hFn : LDR w i j k np = none → FST w i j k np = fun _ => false := by
    intro h; funext p
    show (match LDR w i j k np with | none => false | some b => _) = false
    rw [h]
  cases hl : LDR w i j k np with
  | none =>
    have hb := ha.u 0 0 2 (oI none)
    have hS2 : bst (fS (u4 (u4 wn 1 0 0 1 (nI 0)) 1 0 0 2 (oI none)) i) (fA (u4 (u4 wn 1 0 0 1 (nI 0)) 1 0 0 2 (oI none)) j) np = SND w i j k np := by
      rw [fore_eq (G := fun _ => false) hn7 hb (fun p hp => by rw [u4_ne (by decide)]; exact hma p hp) (by rw [u4_k (by decide), u4_self, enc_none])]
      show _ = bst (fun p => cC w i p && !FST w i j k np p) _ np
      rw [hFn hl]
    refine x_aload_n (pc' := 34) rfl rfl rfl (x_iconst (pc' := 35) rfl rfl (x_putI (pc' := 38) rfl rfl rfl (x_aload_n (pc' := 39) rfl rfl rfl (x_aload_n (pc' := 40) rfl rfl rfl (x_aload_n (pc' := 41) rfl rfl rfl ?_)))))
    refine x_aload_n (pc' := 42) rfl rfl rfl (x_invI3 (pc' := 45) rfl rfl rfl rfl rfl (c_X1_foremost i j np (by rw [ha 4 j 0 6 (by decide)]; exact hnp) hn7) ?_)
    rw [hL, hl]
    refine x_putI (pc' := 48) rfl rfl rfl (x_aload_n (pc' := 49) rfl rfl rfl (x_getI (pc' := 52) rfl rfl rfl ?_))
    rw [u4_self]
    refine x_iconst (pc' := 53) rfl rfl ?_
    refine x_icmp_eq (pc' := 56) rfl rfl (fun h53 => ?_) (fun h53 => absurd rfl h53)
    refine x_aload_n (pc' := 88) rfl rfl rfl (x_aload_n (pc' := 89) rfl rfl rfl (x_aload_n (pc' := 90) rfl rfl rfl (x_aload_n (pc' := 91) rfl rfl rfl (x_invI3 (pc' := 94) rfl rfl rfl rfl rfl (c_X1_foremost i j np (by rw [hb 4 j 0 6 (by decide)]; exact hnp) hn7) ?_))))
    rw [hS2]
    refine x_putI (pc' := 97) rfl rfl rfl ?_
    refine x_vret rfl rfl ?_
    refine ⟨rfl, _, rfl, hb.u 0 0 3 _, ?_, ?_, ?_, fun p hp => ?_⟩
    · rw [u4_k (by decide), u4_k (by decide), u4_self, hFn hl, enc_none]
    · rw [u4_k (by decide), u4_self, hl]
    · rw [u4_self]
    · rw [u4_ne (by decide), u4_ne (by decide)]; exact hma p hp
  | some b =>
    have hbl : b < np := (bst_lt np b hl).1
    have hb := ha.u 0 0 2 (oI (some b))
    have hmb : ∀ p, p < np → u4 (u4 wn 1 0 0 1 (nI 0)) 1 0 0 2 (oI (some b)) 1 0 1 p = mC w i j k p := fun p hp => by rw [u4_ne (by decide)]; exact hma p hp
    have hlaw : u4 (u4 wn 1 0 0 1 (nI 0)) 1 0 0 2 (oI (some b)) 4 j 0 4 = w 4 j 0 4 := hb 4 j 0 4 (by decide)
    have hF2 : w 4 j 0 4 = nI 2 → enc (aL (u4 (u4 wn 1 0 0 1 (nI 0)) 1 0 0 2 (oI (some b))) i b) np = enc (FST w i j k np) np := by
      intro h
      apply enc_congr
      intro p hp
      show (cC _ i p && decide (_ = _)) = (match LDR w i j k np with | none => false | some b => if w 4 j 0 4 = nI 2 then cC w i p && decide (mC w i j k p = mC w i j k b) else decide (p = b))
      rw [hl, cC_fr hb, hmb p hp, hmb b hbl]
      show _ = (if w 4 j 0 4 = nI 2 then _ else _)
      rw [if_pos h]
    have hF1 : ¬ w 4 j 0 4 = nI 2 → nI 1 <<< (nI b &&& 31) = enc (FST w i j k np) np := by
      intro h
      rw [enc_one (n := np) (by omega) hbl]
      apply enc_congr
      intro p hp
      show _ = (match LDR w i j k np with | none => false | some b => if w 4 j 0 4 = nI 2 then cC w i p && decide (mC w i j k p = mC w i j k b) else decide (p = b))
      rw [hl]
      show _ = (if w 4 j 0 4 = nI 2 then _ else _)
      rw [if_neg h]
    have hc := hb.u 0 0 1 (enc (FST w i j k np) np)
    have hS2 : bst (fS (u4 (u4 (u4 wn 1 0 0 1 (nI 0)) 1 0 0 2 (oI (some b))) 1 0 0 1 (enc (FST w i j k np) np)) i) (fA (u4 (u4 (u4 wn 1 0 0 1 (nI 0)) 1 0 0 2 (oI (some b))) 1 0 0 1 (enc (FST w i j k np) np)) j) np = SND w i j k np := fore_eq (G := FST w i j k np) hn7 hc (fun p hp => by rw [u4_ne (by decide)]; exact hmb p hp) (by rw [u4_self])
    refine x_aload_n (pc' := 34) rfl rfl rfl (x_iconst (pc' := 35) rfl rfl (x_putI (pc' := 38) rfl rfl rfl (x_aload_n (pc' := 39) rfl rfl rfl (x_aload_n (pc' := 40) rfl rfl rfl (x_aload_n (pc' := 41) rfl rfl rfl ?_)))))
    refine x_aload_n (pc' := 42) rfl rfl rfl (x_invI3 (pc' := 45) rfl rfl rfl rfl rfl (c_X1_foremost i j np (by rw [ha 4 j 0 6 (by decide)]; exact hnp) hn7) ?_)
    rw [hL, hl]
    refine x_putI (pc' := 48) rfl rfl rfl (x_aload_n (pc' := 49) rfl rfl rfl (x_getI (pc' := 52) rfl rfl rfl ?_))
    rw [u4_self]
    refine x_iconst (pc' := 53) rfl rfl ?_
    refine x_icmp_eq (pc' := 56) rfl rfl (fun h53 => absurd h53 (nI_ne1 (by omega))) (fun h53 => ?_)
    refine x_aload_n (pc' := 57) rfl rfl rfl (x_aload_n (pc' := 58) rfl rfl rfl (x_getI (pc' := 61) rfl rfl rfl ?_))
    rw [hlaw]
    refine x_iconst (pc' := 62) rfl rfl ?_
    refine x_icmp_ne (pc' := 65) rfl rfl (fun h62 => ?_) (fun h62 => ?_)
    · refine x_aload_n (pc' := 66) rfl rfl rfl (x_aload_n (pc' := 67) rfl rfl rfl (x_aload_n (pc' := 68) rfl rfl rfl (x_aload_n (pc' := 69) rfl rfl rfl (x_getI (pc' := 72) rfl rfl rfl ?_))))
      rw [u4_self]
      refine x_invI4 (pc' := 75) rfl rfl rfl rfl rfl rfl (c_X1_allLike i b (by omega) j np (by rw [hb 4 j 0 6 (by decide)]; exact hnp) hn7) ?_
      rw [hF2 h62]
      refine x_goto rfl (x_putI (pc' := 87) rfl rfl rfl (x_aload_n (pc' := 88) rfl rfl rfl (x_aload_n (pc' := 89) rfl rfl rfl (x_aload_n (pc' := 90) rfl rfl rfl (x_aload_n (pc' := 91) rfl rfl rfl ?_)))))
      refine x_invI3 (pc' := 94) rfl rfl rfl rfl rfl (c_X1_foremost i j np (by rw [hc 4 j 0 6 (by decide)]; exact hnp) hn7) ?_
      rw [hS2]
      refine x_putI (pc' := 97) rfl rfl rfl ?_
      refine x_vret rfl rfl ?_
      refine ⟨rfl, _, rfl, hc.u 0 0 3 _, ?_, ?_, ?_, fun p hp => ?_⟩
      · rw [u4_k (by decide), u4_self]
      · rw [u4_k (by decide), u4_k (by decide), u4_self, hl]
      · rw [u4_self]
      · rw [u4_ne (by decide), u4_ne (by decide)]; exact hmb p hp
    · refine x_iconst (pc' := 79) rfl rfl (x_aload_n (pc' := 80) rfl rfl rfl (x_getI (pc' := 83) rfl rfl rfl ?_))
      rw [u4_self]
      refine x_ishl (pc' := 84) rfl rfl ?_
      show WP l X _ md_X1_rank (84, _, .inl (nI 1 <<< (nI b &&& 31)) :: _, _) _
      rw [hF1 h62]
      refine x_putI (pc' := 87) rfl rfl rfl (x_aload_n (pc' := 88) rfl rfl rfl (x_aload_n (pc' := 89) rfl rfl rfl (x_aload_n (pc' := 90) rfl rfl rfl (x_aload_n (pc' := 91) rfl rfl rfl (x_invI3 (pc' := 94) rfl rfl rfl rfl rfl (c_X1_foremost i j np (by rw [hc 4 j 0 6 (by decide)]; exact hnp) hn7) ?_)))))
      rw [hS2]
      refine x_putI (pc' := 97) rfl rfl rfl ?_
      refine x_vret rfl rfl ?_
      refine ⟨rfl, _, rfl, hc.u 0 0 3 _, ?_, ?_, ?_, fun p hp => ?_⟩
      · rw [u4_k (by decide), u4_self]
      · rw [u4_k (by decide), u4_k (by decide), u4_self, hl]
      · rw [u4_self]
      · rw [u4_ne (by decide), u4_ne (by decide)]; exact hmb p hp
set_option maxRecDepth 20000 in
theorem l_X1_rank {l : Launch} {X : XT} {d Lz : Nat} {w : Nat → Nat → Nat → Nat → Int32} (i k : Nat) (hk : k < 3) (j np : Nat) (hnp : w 4 j 0 6 = nI np) (hn7 : np ≤ 7) : ∀ (kk n : Nat), ∀ (wn : WF), fr1 w wn → (∀ p, p < n → wn 1 0 1 p = mC w i j k p) →  n ≤ np → np + 1 ≤ n + kk → WP l X (d + 3) md_X1_rank (3, [some (.inr (.inr (1, 0, 0))), some (.inr (.inr (4, j, 0))), some (.inr (.inr (6, i, 0))), some (.inl (nI k)), some (.inl (nI n))], [], mk Lz wn) (fun v M' => v = none ∧ ∃ w', M' = mk Lz w' ∧ RK w i j k np w') := by
  intro kk
  induction kk with
  | zero =>
    intro n wn hf hm h1 h2
    exact absurd h2 (by omega)
  | succ kk ih =>
    intro n wn hf hm hi1 hi2
    refine x_iload (pc' := 5) rfl rfl rfl (x_aload_n (pc' := 6) rfl rfl rfl (x_getI (pc' := 9) rfl rfl rfl ?_))
    rw [hf 4 j 0 6 (by decide), hnp]
    refine x_icmp_geN (pc' := 12) rfl rfl (by omega) (by omega) (fun h9 => ?_) (fun h9 => ?_)
    · have e : n = np := by omega
      subst e
      exact r_X1_rank i k j n hnp hn7 wn hf hm
    · refine x_aload_n (pc' := 13) rfl rfl rfl (x_getR (pc' := 16) (t := (1, _, 1)) rfl rfl rfl (x_iload (pc' := 18) rfl rfl rfl (x_aload_n (pc' := 19) rfl rfl rfl (x_aload_n (pc' := 20) rfl rfl rfl (x_iload (pc' := 22) rfl rfl rfl ?_)))))
      refine x_iload_n (pc' := 23) rfl rfl rfl (x_invI4 (pc' := 26) rfl rfl rfl rfl rfl rfl (c_X6_markOf i j n k (by omega) hk) ?_)
      refine x_iast (pc' := 27) (N := 7) rfl rfl rfl (by decide) rfl (by first | assumption | omega) (by decide) (x_iinc4 (pc' := 30) rfl rfl rfl (nI_add _ _) (x_goto rfl ?_))
      refine ih (n + 1) _ (hf.u 0 1 n _) (fun p hp => ?_) (by omega) (by omega)
      by_cases e : p = n
      · subst e; rw [u4_self, mC_fr hf]
      · rw [u4_k e]; exact hm p (by omega)
set_option maxRecDepth 20000 in
theorem c_X1_rank {l : Launch} {X : XT} {d Lz : Nat} {w : Nat → Nat → Nat → Nat → Int32} (i k : Nat) (hk : k < 3) (j np : Nat) (hnp : w 4 j 0 6 = nI np) (hn7 : np ≤ 7) : WP l X (d + 3) md_X1_rank (en md_X1_rank [.inr (.inr (1, 0, 0)), .inr (.inr (4, j, 0)), .inr (.inr (6, i, 0)), .inl (nI k)] (mk Lz w)) (fun v M' => v = none ∧ ∃ w', M' = mk Lz w' ∧ RK w i j k np w') := by
  show WP l X _ md_X1_rank (0, [some (.inr (.inr (1, 0, 0))), some (.inr (.inr (4, j, 0))), some (.inr (.inr (6, i, 0))), some (.inl (nI k)), none], [], _) _
  refine x_iconst (pc' := 1) rfl rfl (x_istore4 (pc' := 3) rfl rfl rfl ?_)
  exact l_X1_rank i k hk j np hnp hn7 (np + 1) 0 w (fr1.rf w) (fun p hp => by omega) (by omega) (by omega)
end
section
/-! a day -/
theorem u4_at (w : WF) (c i o k : Nat) (x : Int32) (q : Nat) : u4 w c i o k x c i o q = if q = k then x else w c i o q := by
  by_cases h : q = k
  · subst h; rw [u4_self, if_pos rfl]
  · rw [u4_k h, if_neg h]
theorem ne3 {c i o c' i' o' : Nat} (h : ¬ (c' = c ∧ i' = i ∧ o' = o)) : (c', i', o') ≠ (c, i, o) := fun e => h (by cases e; exact ⟨rfl, rfl, rfl⟩)
def TCi (w : WF) (i p : Nat) (tm : Int32) (n : Nat) (w' : WF) : Prop := (∀ c i' o q, ¬ (c = 6 ∧ i' = i ∧ (o = 3 ∨ o = 5)) → w' c i' o q = w c i' o q) ∧ (∀ q, w' 6 i 3 q = if q = p then tm else w 6 i 3 q) ∧ (∀ q, q < n → w' 6 i 5 q = if w 6 i 5 q = nI p then -1 else w 6 i 5 q) ∧ (∀ q, n ≤ q → w' 6 i 5 q = w 6 i 5 q)
theorem TCi_0 (w : WF) (i p : Nat) (tm : Int32) : TCi w i p tm 0 (u4 w 6 i 3 p tm) :=
  ⟨fun c i' o q h => u4_ne (ne3 (fun z => h ⟨z.1, z.2.1, Or.inl z.2.2⟩)) q, fun q => u4_at w 6 i 3 p tm q, fun q hq => absurd hq (by omega), fun q _ => u4_ne (ne3 (by omega)) q⟩
theorem TCi_t {w w' : WF} {i p n : Nat} {tm : Int32} (h : TCi w i p tm n w') (e : w' 6 i 5 n = nI p) : TCi w i p tm (n + 1) (u4 w' 6 i 5 n (-1)) := by
  obtain ⟨h1, h2, h3, h4⟩ := h
  refine ⟨fun c i' o q hc => ?_, fun q => ?_, fun q hq => ?_, fun q hq => ?_⟩
  · rw [u4_ne (ne3 (fun z => hc ⟨z.1, z.2.1, Or.inr z.2.2⟩)) q]; exact h1 c i' o q hc
  · rw [u4_ne (ne3 (by omega)) q]; exact h2 q
  · rw [u4_at]
    by_cases z : q = n
    · subst z; rw [if_pos rfl, if_pos (by rw [← h4 q (Nat.le_refl _)]; exact e)]
    · rw [if_neg z]; exact h3 q (by omega)
  · rw [u4_at, if_neg (by omega)]; exact h4 q (by omega)
theorem TCi_f {w w' : WF} {i p n : Nat} {tm : Int32} (h : TCi w i p tm n w') (e : ¬ w' 6 i 5 n = nI p) : TCi w i p tm (n + 1) w' := by
  obtain ⟨h1, h2, h3, h4⟩ := h
  refine ⟨h1, h2, fun q hq => ?_, fun q hq => h4 q (by omega)⟩
  by_cases z : q = n
  · subst z; rw [if_neg (by rw [← h4 q (Nat.le_refl _)]; exact e)]; exact h4 q (Nat.le_refl _)
  · exact h3 q (by omega)
set_option maxRecDepth 20000 in
theorem l_X6_toCoast {l : Launch} {X : XT} {d Lz : Nat} {w : Nat → Nat → Nat → Nat → Int32} (i j p : Nat) (tm : Int32) (no : Nat) (hno : w 4 j 0 8 = nI no) (hn4 : no ≤ 4) : ∀ (k n : Nat), ∀ (wn : WF), TCi w i p tm n wn →  n ≤ no → no + 1 ≤ n + k → WP l X (d + 1) md_X6_toCoast (12, [some (.inr (.inr (6, i, 0))), some (.inr (.inr (4, j, 0))), some (.inl (nI p)), some (.inl (nI n))], [], mk Lz wn) (fun v M' => v = none ∧ ∃ w', M' = mk Lz w' ∧ TCi w i p tm no w') := by
  intro k
  induction k with
  | zero =>
    intro n wn hi h1 h2
    exact absurd h2 (by omega)
  | succ k ih =>
    intro n wn hi hi1 hi2
    refine x_iload_n (pc' := 13) rfl rfl rfl (x_aload_n (pc' := 14) rfl rfl rfl (x_getI (pc' := 17) rfl rfl rfl ?_))
    rw [hi.1 4 j 0 8 (by omega), hno]
    refine x_icmp_geN (pc' := 20) rfl rfl (by omega) (by omega) (fun h17 => ?_) (fun h17 => ?_)
    · refine x_vret rfl rfl ?_
      have e : n = no := by omega
      subst e
      exact ⟨rfl, _, rfl, hi⟩
    · refine x_aload_n (pc' := 21) rfl rfl rfl (x_getR (pc' := 24) (t := (6, _, 5)) rfl rfl rfl (x_iload_n (pc' := 25) rfl rfl rfl (x_iald (pc' := 26) (N := 4) rfl rfl rfl rfl (by first | assumption | omega) (by decide) (x_iload_n (pc' := 27) rfl rfl rfl ?_))))
      refine x_icmp_ne (pc' := 30) rfl rfl (fun h27 => ?_) (fun h27 => ?_)
      · refine x_aload_n (pc' := 31) rfl rfl rfl (x_getR (pc' := 34) (t := (6, _, 5)) rfl rfl rfl (x_iload_n (pc' := 35) rfl rfl rfl (x_iconst (pc' := 36) rfl rfl (x_iast (pc' := 37) (N := 4) rfl rfl rfl (by decide) rfl (by first | assumption | omega) (by decide) (x_iinc3 (pc' := 40) rfl rfl rfl (nI_add _ _) ?_)))))
        refine x_goto rfl ?_
        first | exact ih (n + 1) _ (TCi_t hi h27) (by omega) (by omega) | exact ih (n + 1) _ (TCi_f hi h27) (by omega) (by omega)
      · refine x_iinc3 (pc' := 40) rfl rfl rfl (nI_add _ _) (x_goto rfl ?_)
        first | exact ih (n + 1) _ (TCi_t hi h27) (by omega) (by omega) | exact ih (n + 1) _ (TCi_f hi h27) (by omega) (by omega)
set_option maxRecDepth 20000 in
theorem c_X6_toCoast {l : Launch} {X : XT} {d Lz : Nat} {w : Nat → Nat → Nat → Nat → Int32} (i j p : Nat) (hp : p < 7) (no : Nat) (hno : w 4 j 0 8 = nI no) (hn4 : no ≤ 4) : WP l X (d + 1) md_X6_toCoast (en md_X6_toCoast [.inr (.inr (6, i, 0)), .inr (.inr (4, j, 0)), .inl (nI p)] (mk Lz w)) (fun v M' => v = none ∧ ∃ w', M' = mk Lz w' ∧ TCi w i p (w 4 j 0 5) no w') := by
  show WP l X _ md_X6_toCoast (0, [some (.inr (.inr (6, i, 0))), some (.inr (.inr (4, j, 0))), some (.inl (nI p)), none], [], _) _
  refine x_aload_n (pc' := 1) rfl rfl rfl (x_getR (pc' := 4) (t := (6, _, 3)) rfl rfl rfl (x_iload_n (pc' := 5) rfl rfl rfl (x_aload_n (pc' := 6) rfl rfl rfl (x_getI (pc' := 9) rfl rfl rfl (x_iast (pc' := 10) (N := 7) rfl rfl rfl (by decide) rfl (by first | assumption | omega) (by decide) ?_)))))
  refine x_iconst (pc' := 11) rfl rfl (x_istore_n3 (pc' := 12) rfl rfl rfl ?_)
  exact l_X6_toCoast i j p (w 4 j 0 5) no hno hn4 (no + 1) 0 _ (TCi_0 w i p _) (by omega) (by omega)
def PMi (w : WF) (i j p k n : Nat) (w' : WF) : Prop := (∀ c i' o q, ¬ (c = 6 ∧ i' = i ∧ o = 5) → w' c i' o q = w c i' o q) ∧ (∀ q, q < n → w' 6 i 5 q = if w 4 j 4 q = nI k then nI p else w 6 i 5 q) ∧ (∀ q, n ≤ q → w' 6 i 5 q = w 6 i 5 q)
theorem PMi_0 (w : WF) (i j p k : Nat) : PMi w i j p k 0 w := ⟨fun _ _ _ _ _ => rfl, fun q hq => absurd hq (by omega), fun _ _ => rfl⟩
theorem PMi_t {w w' : WF} {i j p k n : Nat} (h : PMi w i j p k n w') (e : w' 4 j 4 n = nI k) : PMi w i j p k (n + 1) (u4 w' 6 i 5 n (nI p)) := by
  obtain ⟨h1, h3, h4⟩ := h
  refine ⟨fun c i' o q hc => ?_, fun q hq => ?_, fun q hq => ?_⟩
  · rw [u4_ne (ne3 hc) q]; exact h1 c i' o q hc
  · rw [u4_at]
    by_cases z : q = n
    · subst z; rw [if_pos rfl, if_pos (by rw [← h1 4 j 4 q (by omega)]; exact e)]
    · rw [if_neg z]; exact h3 q (by omega)
  · rw [u4_at, if_neg (by omega)]; exact h4 q (by omega)
theorem PMi_f {w w' : WF} {i j p k n : Nat} (h : PMi w i j p k n w') (e : ¬ w' 4 j 4 n = nI k) : PMi w i j p k (n + 1) w' := by
  obtain ⟨h1, h3, h4⟩ := h
  refine ⟨h1, fun q hq => ?_, fun q hq => h4 q (by omega)⟩
  by_cases z : q = n
  · subst z; rw [if_neg (by rw [← h1 4 j 4 q (by omega)]; exact e)]; exact h4 q (Nat.le_refl _)
  · exact h3 q (by omega)
/-- what being made leaves -/
def PM (w : WF) (i j p k no : Nat) (w' : WF) : Prop := (∀ c i' o q, ¬ (c = 6 ∧ i' = i ∧ (o = 1 ∨ o = 4 ∨ o = 5)) → w' c i' o q = w c i' o q) ∧ (∀ q, q < no → w' 6 i 5 q = if w 4 j 4 q = nI k then nI p else w 6 i 5 q) ∧ (∀ q, w' 6 i 4 q = if q = p then w 6 i 4 p + nI 1 else w 6 i 4 q) ∧ (∀ q, w' 6 i 1 q = if q = p * 3 + k then mxI (nI 0) (w 6 i 1 (p * 3 + k) - nI 1) else w 6 i 1 q)
theorem PM_of {w wn : WF} {i j p k no : Nat} (h : PMi w i j p k no wn) : PM w i j p k no (u4 (u4 wn 6 i 4 p (wn 6 i 4 p + nI 1)) 6 i 1 (p * 3 + k) (mxI (nI 0) (u4 wn 6 i 4 p (wn 6 i 4 p + nI 1) 6 i 1 (p * 3 + k) - nI 1))) := by
  obtain ⟨h1, h3, h4⟩ := h
  refine ⟨fun c i' o q hc => ?_, fun q hq => ?_, fun q => ?_, fun q => ?_⟩
  · rw [u4_ne (ne3 (by omega)) q, u4_ne (ne3 (by omega)) q]; exact h1 c i' o q (by omega)
  · rw [u4_ne (ne3 (by omega)) q, u4_ne (ne3 (by omega)) q]; exact h3 q hq
  · rw [u4_ne (ne3 (by omega)) q, u4_at, h1 6 i 4 p (by omega), h1 6 i 4 q (by omega)]
  · rw [u4_at, u4_ne (ne3 (by omega)), u4_ne (ne3 (by omega)), h1 6 i 1 _ (by omega), h1 6 i 1 q (by omega)]
set_option maxRecDepth 20000 in
theorem l_X6_promote {l : Launch} {X : XT} {d Lz : Nat} {w : Nat → Nat → Nat → Nat → Int32} (i j p k : Nat) (hp : p < 7) (hk : k < 3) (no : Nat) (hno : w 4 j 0 8 = nI no) (hn4 : no ≤ 4) : ∀ (kk n : Nat), ∀ (wn : WF), PMi w i j p k n wn →  n ≤ no → no + 1 ≤ n + kk → WP l X (d + 2) md_X6_promote (3, [some (.inr (.inr (6, i, 0))), some (.inr (.inr (4, j, 0))), some (.inl (nI p)), some (.inl (nI k)), some (.inl (nI n))], [], mk Lz wn) (fun v M' => v = none ∧ ∃ w', M' = mk Lz w' ∧ PM w i j p k no w') := by
  intro kk
  induction kk with
  | zero =>
    intro n wn hi h1 h2
    exact absurd h2 (by omega)
  | succ kk ih =>
    intro n wn hi hi1 hi2
    refine x_iload (pc' := 5) rfl rfl rfl (x_aload_n (pc' := 6) rfl rfl rfl (x_getI (pc' := 9) rfl rfl rfl ?_))
    rw [hi.1 4 j 0 8 (by omega), hno]
    refine x_icmp_geN (pc' := 12) rfl rfl (by omega) (by omega) (fun h9 => ?_) (fun h9 => ?_)
    · refine x_aload_n (pc' := 38) rfl rfl rfl (x_getR (pc' := 41) (t := (6, _, 4)) rfl rfl rfl (x_iload_n (pc' := 42) rfl rfl rfl (x_dup2 (pc' := 43) rfl rfl rfl (x_iald (pc' := 44) (N := 7) rfl rfl rfl rfl (by first | assumption | omega) (by decide) (x_iconst (pc' := 45) rfl rfl ?_)))))
      refine x_iadd (pc' := 46) rfl rfl (x_iast (pc' := 47) (N := 7) rfl rfl rfl (by decide) rfl (by first | assumption | omega) (by decide) (x_aload_n (pc' := 48) rfl rfl rfl (x_iload_n (pc' := 49) rfl rfl rfl (x_iload_n (pc' := 50) rfl rfl rfl (x_iconst (pc' := 51) rfl rfl ?_)))))
      refine x_aload_n (pc' := 52) rfl rfl rfl (x_iload_n (pc' := 53) rfl rfl rfl (x_iload_n (pc' := 54) rfl rfl rfl (x_invI3 (pc' := 57) rfl rfl rfl rfl rfl (c_X6_giftOf _ _ _ (by omega)) ?_)))
      refine x_iconst (pc' := 58) rfl rfl (x_isub (pc' := 59) rfl rfl (x_invS2 (pc' := 62) rfl rfl rfl rfl rfl (c_J9_max_7cf53 _ _) ?_))
      refine x_invV4 (pc' := 65) rfl rfl rfl rfl rfl rfl (c_X6_setGift _ _ _ _ (by omega)) ?_
      refine x_vret rfl rfl ?_
      have e : n = no := by omega
      subst e
      exact ⟨rfl, _, rfl, PM_of hi⟩
    · refine x_aload_n (pc' := 13) rfl rfl rfl (x_getR (pc' := 16) (t := (4, _, 4)) rfl rfl rfl (x_iload (pc' := 18) rfl rfl rfl (x_iald (pc' := 19) (N := 4) rfl rfl rfl rfl (by first | assumption | omega) (by decide) (x_iload_n (pc' := 20) rfl rfl rfl ?_))))
      refine x_icmp_ne (pc' := 23) rfl rfl (fun h20 => ?_) (fun h20 => ?_)
      · refine x_aload_n (pc' := 24) rfl rfl rfl (x_getR (pc' := 27) (t := (6, _, 5)) rfl rfl rfl (x_iload (pc' := 29) rfl rfl rfl (x_iload_n (pc' := 30) rfl rfl rfl (x_iast (pc' := 31) (N := 4) rfl rfl rfl (by decide) rfl (by first | assumption | omega) (by decide) (x_iinc4 (pc' := 34) rfl rfl rfl (nI_add _ _) ?_)))))
        refine x_goto rfl ?_
        first | exact ih (n + 1) _ (PMi_t hi h20) (by omega) (by omega) | exact ih (n + 1) _ (PMi_f hi h20) (by omega) (by omega)
      · refine x_iinc4 (pc' := 34) rfl rfl rfl (nI_add _ _) (x_goto rfl ?_)
        first | exact ih (n + 1) _ (PMi_t hi h20) (by omega) (by omega) | exact ih (n + 1) _ (PMi_f hi h20) (by omega) (by omega)
set_option maxRecDepth 20000 in
theorem c_X6_promote {l : Launch} {X : XT} {d Lz : Nat} {w : Nat → Nat → Nat → Nat → Int32} (i j p k : Nat) (hp : p < 7) (hk : k < 3) (no : Nat) (hno : w 4 j 0 8 = nI no) (hn4 : no ≤ 4) : WP l X (d + 2) md_X6_promote (en md_X6_promote [.inr (.inr (6, i, 0)), .inr (.inr (4, j, 0)), .inl (nI p), .inl (nI k)] (mk Lz w)) (fun v M' => v = none ∧ ∃ w', M' = mk Lz w' ∧ PM w i j p k no w') := by
  show WP l X _ md_X6_promote (0, [some (.inr (.inr (6, i, 0))), some (.inr (.inr (4, j, 0))), some (.inl (nI p)), some (.inl (nI k)), none], [], _) _
  refine x_iconst (pc' := 1) rfl rfl (x_istore4 (pc' := 3) rfl rfl rfl ?_)
  exact l_X6_promote i j p k hp hk no hno hn4 (no + 1) 0 _ (PMi_0 w i j p k) (by omega) (by omega)
/-- what a log entry leaves -/
def LG (w : WF) (i cc : Nat) (kd : Int32) (w' : WF) : Prop := (∀ c i' o q, ¬ (c = 6 ∧ i' = i ∧ (o = 6 ∨ (o = 0 ∧ q = 6))) → w' c i' o q = w c i' o q) ∧ w' 6 i 0 6 = nI (cc + 1) ∧ (∀ q, w' 6 i 6 q = if q = cc % 20 * 4 + 3 then w 1 0 0 3 else if q = cc % 20 * 4 + 2 then w 1 0 0 2 else if q = cc % 20 * 4 + 1 then kd else if q = cc % 20 * 4 then w 6 i 0 7 else w 6 i 6 q)
set_option maxRecDepth 20000 in
theorem c_X6_logContest {l : Launch} {X : XT} {d Lz : Nat} {w : Nat → Nat → Nat → Nat → Int32} (i cc : Nat) (kd : Int32) (hcc : w 6 i 0 6 = nI cc) (hc : cc < 2 ^ 30) : WP l X (d + 1) md_X6_logContest (en md_X6_logContest [.inr (.inr (6, i, 0)), .inl (kd), .inr (.inr (1, 0, 0))] (mk Lz w)) (fun v M' => v = none ∧ ∃ w', M' = mk Lz w' ∧ LG w i cc kd w') := by
  show WP l X _ md_X6_logContest (0, [some (.inr (.inr (6, i, 0))), some (.inl (kd)), some (.inr (.inr (1, 0, 0))), none], [], _) _
  refine x_aload_n (pc' := 1) rfl rfl rfl (x_getI (pc' := 4) rfl rfl rfl ?_)
  rw [hcc]
  refine x_bipush (pc' := 6) rfl rfl (x_iremN (pc' := 7) rfl rfl (by decide) (by omega) (by decide) (x_iconst (pc' := 8) rfl rfl (x_imulN (pc' := 9) rfl rfl (x_istore_n3 (pc' := 10) rfl rfl rfl (x_aload_n (pc' := 11) rfl rfl rfl ?_)))))
  refine x_getR (pc' := 14) (t := (6, _, 6)) rfl rfl rfl (x_iload_n (pc' := 15) rfl rfl rfl (x_aload_n (pc' := 16) rfl rfl rfl (x_getI (pc' := 19) rfl rfl rfl (x_iast (pc' := 20) (N := 80) rfl rfl rfl (by decide) rfl (by have := Nat.mod_lt cc (show 0 < 20 by decide); omega) (by decide) (x_aload_n (pc' := 21) rfl rfl rfl ?_)))))
  refine x_getR (pc' := 24) (t := (6, _, 6)) rfl rfl rfl (x_iload_n (pc' := 25) rfl rfl rfl (x_iconst (pc' := 26) rfl rfl (x_iaddN (pc' := 27) rfl rfl (x_iload_n (pc' := 28) rfl rfl rfl (x_iast (pc' := 29) (N := 80) rfl rfl rfl (by decide) rfl (by have := Nat.mod_lt cc (show 0 < 20 by decide); omega) (by decide) ?_)))))
  refine x_aload_n (pc' := 30) rfl rfl rfl (x_getR (pc' := 33) (t := (6, _, 6)) rfl rfl rfl (x_iload_n (pc' := 34) rfl rfl rfl (x_iconst (pc' := 35) rfl rfl (x_iaddN (pc' := 36) rfl rfl (x_aload_n (pc' := 37) rfl rfl rfl ?_)))))
  refine x_getI (pc' := 40) rfl rfl rfl (x_iast (pc' := 41) (N := 80) rfl rfl rfl (by decide) rfl (by have := Nat.mod_lt cc (show 0 < 20 by decide); omega) (by decide) (x_aload_n (pc' := 42) rfl rfl rfl (x_getR (pc' := 45) (t := (6, _, 6)) rfl rfl rfl (x_iload_n (pc' := 46) rfl rfl rfl (x_iconst (pc' := 47) rfl rfl ?_)))))
  refine x_iaddN (pc' := 48) rfl rfl (x_aload_n (pc' := 49) rfl rfl rfl (x_getI (pc' := 52) rfl rfl rfl (x_iast (pc' := 53) (N := 80) rfl rfl rfl (by decide) rfl (by have := Nat.mod_lt cc (show 0 < 20 by decide); omega) (by decide) (x_aload_n (pc' := 54) rfl rfl rfl (x_dup (pc' := 55) rfl rfl rfl ?_)))))
  refine x_getI (pc' := 58) rfl rfl rfl ?_
  rw [u4_ne (ne3 (by omega)), u4_ne (ne3 (by omega)), u4_ne (ne3 (by omega)), u4_ne (ne3 (by omega)), hcc]
  refine x_iconst (pc' := 59) rfl rfl (x_iaddN (pc' := 60) rfl rfl (x_putI (pc' := 63) rfl rfl rfl ?_))
  refine x_vret rfl rfl ?_
  refine ⟨rfl, _, rfl, fun c i2 o2 q hc => ?_, ?_, fun q => ?_⟩
  · by_cases h6 : c = 6 ∧ i2 = i ∧ o2 = 0
    · obtain ⟨rfl, rfl, rfl⟩ := h6
      rw [u4_k (by omega), u4_ne (ne3 (by omega)), u4_ne (ne3 (by omega)), u4_ne (ne3 (by omega)), u4_ne (ne3 (by omega))]
    · rw [u4_ne (ne3 h6), u4_ne (ne3 (by omega)), u4_ne (ne3 (by omega)), u4_ne (ne3 (by omega)), u4_ne (ne3 (by omega))]
  · rw [u4_self]
  · rw [u4_ne (ne3 (by omega)), u4_at, u4_at, u4_at, u4_at, u4_ne (ne3 (by omega)), u4_ne (ne3 (by omega)), u4_ne (ne3 (by omega)), u4_ne (ne3 (by omega)), u4_ne (ne3 (by omega))]
end
section
/-! the day, together -/
def ho1 (h : Nat → Int32) (F : Nat → Bool) : Nat → Nat → Int32
  | 0, o => h o
  | n + 1, o => if F n = true ∧ ho1 h F n o = nI n then -1 else ho1 h F n o
def ho2 (h ok : Nat → Int32) (F : Nat → Bool) (S : Option Nat) (k np o : Nat) : Int32 := match S with
  | none => ho1 h F np o
  | some s => if ok o = nI k then nI s else ho1 h F np o
def gf2 (g : Nat → Int32) (S : Option Nat) (k q : Nat) : Int32 := match S with
  | none => g q
  | some s => if q = s * 3 + k then mxI (nI 0) (g q - nI 1) else g q
def lg2 (lg : Nat → Int32) (cc : Nat) (dy kd a b : Int32) (q : Nat) : Int32 := if q = cc % 20 * 4 + 3 then b else if q = cc % 20 * 4 + 2 then a else if q = cc % 20 * 4 + 1 then kd else if q = cc % 20 * 4 then dy else lg q
def STi (w : WF) (i : Nat) (F : Nat → Bool) (tm : Int32) (no n : Nat) (w' : WF) : Prop := (∀ c i' o q, ¬ (c = 6 ∧ i' = i ∧ (o = 3 ∨ o = 5)) → w' c i' o q = w c i' o q) ∧ (∀ q, w' 6 i 3 q = if q < n ∧ F q = true then tm else w 6 i 3 q) ∧ (∀ q, q < no → w' 6 i 5 q = ho1 (w 6 i 5) F n q)
theorem STi_0 (w : WF) (i : Nat) (F : Nat → Bool) (tm : Int32) (no : Nat) : STi w i F tm no 0 w := ⟨fun _ _ _ _ _ => rfl, fun q => by rw [if_neg (by omega)], fun _ _ => rfl⟩
theorem STi_t {w w' w2 : WF} {i n no : Nat} {F : Nat → Bool} {tm : Int32} (h : STi w i F tm no n w') (hF : F n = true) (ht : TCi w' i n tm no w2) : STi w i F tm no (n + 1) w2 := by
  obtain ⟨h1, h2, h3⟩ := h
  obtain ⟨t1, t2, t3, -⟩ := ht
  refine ⟨fun c i' o q hc => by rw [t1 c i' o q hc]; exact h1 c i' o q hc, fun q => ?_, fun q hq => ?_⟩
  · rw [t2 q]
    by_cases z : q = n
    · subst z; rw [if_pos rfl, if_pos ⟨by omega, hF⟩]
    · rw [if_neg z, h2 q]
      by_cases z2 : q < n ∧ F q = true
      · rw [if_pos z2, if_pos ⟨by omega, z2.2⟩]
      · rw [if_neg z2, if_neg (fun y => z2 ⟨by omega, y.2⟩)]
  · rw [t3 q hq, h3 q hq]
    show _ = if F n = true ∧ ho1 (w 6 i 5) F n q = nI n then -1 else ho1 (w 6 i 5) F n q
    by_cases z : ho1 (w 6 i 5) F n q = nI n
    · rw [if_pos z, if_pos ⟨hF, z⟩]
    · rw [if_neg z, if_neg (fun y => z y.2)]
theorem STi_f {w w' : WF} {i n no : Nat} {F : Nat → Bool} {tm : Int32} (h : STi w i F tm no n w') (hF : F n = false) : STi w i F tm no (n + 1) w' := by
  obtain ⟨h1, h2, h3⟩ := h
  refine ⟨h1, fun q => ?_, fun q hq => ?_⟩
  · rw [h2 q]
    by_cases z2 : q < n ∧ F q = true
    · rw [if_pos z2, if_pos ⟨by omega, z2.2⟩]
    · rw [if_neg z2, if_neg (fun y => ?_)]
      by_cases z : q = n
      · subst z; rw [hF] at y; cases y.2
      · exact z2 ⟨by omega, y.2⟩
  · rw [h3 q hq]
    show _ = if F n = true ∧ ho1 (w 6 i 5) F n q = nI n then -1 else ho1 (w 6 i 5) F n q
    rw [if_neg (fun y => by rw [hF] at y; cases y.1)]
/-- what a contest leaves in a state -/
def SE (w : WF) (i j k np no cc : Nat) (F : Nat → Bool) (a b : Int32) (S : Option Nat) (w' : WF) : Prop := (∀ c i' o q, ¬ (c = 6 ∧ i' = i) → w' c i' o q = w c i' o q) ∧ (∀ q, w' 6 i 2 q = w 6 i 2 q) ∧ (∀ q, w' 6 i 3 q = if q < np ∧ F q = true then w 4 j 0 5 else w 6 i 3 q) ∧ (∀ q, w' 6 i 4 q = if S = some q then w 6 i 4 q + nI 1 else w 6 i 4 q) ∧ (∀ q, w' 6 i 1 q = gf2 (w 6 i 1) S k q) ∧ (∀ q, q < no → w' 6 i 5 q = ho2 (w 6 i 5) (w 4 j 4) F S k np q) ∧ (∀ q, q ≠ 6 → w' 6 i 0 q = w 6 i 0 q) ∧ w' 6 i 0 6 = nI (cc + 1) ∧ (∀ q, w' 6 i 6 q = lg2 (w 6 i 6) cc (w 6 i 0 7) (nI k) a b q)
theorem SE_of0 {w wn w' : WF} {i j k np no cc : Nat} {F : Nat → Bool} {a : Int32} (h : STi w i F (w 4 j 0 5) no np wn) (ha : w 1 0 0 2 = a) (hb : w 1 0 0 3 = oI none) (hl : LG wn i cc (nI k) w') : SE w i j k np no cc F a (oI none) none w' := by
  obtain ⟨h1, h2, h3⟩ := h
  obtain ⟨l1, l2, l3⟩ := hl
  refine ⟨fun c i' o q hc => ?_, fun q => ?_, fun q => ?_, fun q => ?_, fun q => ?_, fun q hq => ?_, fun q hq => ?_, l2, fun q => ?_⟩
  · rw [l1 c i' o q (by omega), h1 c i' o q (by omega)]
  · rw [l1 6 i 2 q (by omega), h1 6 i 2 q (by omega)]
  · rw [l1 6 i 3 q (by omega), h2 q]
  · rw [l1 6 i 4 q (by omega), h1 6 i 4 q (by omega), if_neg (by intro z; cases z)]
  · rw [l1 6 i 1 q (by omega), h1 6 i 1 q (by omega)]; rfl
  · rw [l1 6 i 5 q (by omega), h3 q hq]; rfl
  · rw [l1 6 i 0 q (by omega), h1 6 i 0 q (by omega)]
  · rw [l3 q, h1 1 0 0 3 (by omega), h1 1 0 0 2 (by omega), h1 6 i 0 7 (by omega), h1 6 i 6 q (by omega), ha, hb]; rfl
theorem SE_of1 {w wn w3 w' : WF} {i j k np no cc s : Nat} {F : Nat → Bool} {a : Int32} (h : STi w i F (w 4 j 0 5) no np wn) (ha : w 1 0 0 2 = a) (hb : w 1 0 0 3 = oI (some s)) (hp : PM wn i j s k no w3) (hl : LG w3 i cc (nI k) w') : SE w i j k np no cc F a (oI (some s)) (some s) w' := by
  obtain ⟨h1, h2, h3⟩ := h
  obtain ⟨p1, p2, p3, p4⟩ := hp
  obtain ⟨l1, l2, l3⟩ := hl
  refine ⟨fun c i' o q hc => ?_, fun q => ?_, fun q => ?_, fun q => ?_, fun q => ?_, fun q hq => ?_, fun q hq => ?_, l2, fun q => ?_⟩
  · rw [l1 c i' o q (by omega), p1 c i' o q (by omega), h1 c i' o q (by omega)]
  · rw [l1 6 i 2 q (by omega), p1 6 i 2 q (by omega), h1 6 i 2 q (by omega)]
  · rw [l1 6 i 3 q (by omega), p1 6 i 3 q (by omega), h2 q]
  · rw [l1 6 i 4 q (by omega), p3 q, h1 6 i 4 s (by omega), h1 6 i 4 q (by omega)]
    by_cases z : q = s
    · subst z; rw [if_pos rfl, if_pos rfl]
    · rw [if_neg z, if_neg (fun y => z (by cases y; rfl))]
  · rw [l1 6 i 1 q (by omega), p4 q, h1 6 i 1 _ (by omega), h1 6 i 1 q (by omega)]
    show _ = if q = s * 3 + k then mxI (nI 0) (w 6 i 1 q - nI 1) else w 6 i 1 q
    by_cases z : q = s * 3 + k
    · subst z; simp
    · rw [if_neg z, if_neg z]
  · rw [l1 6 i 5 q (by omega), p2 q hq, h3 q hq, h1 4 j 4 q (by omega)]; rfl
  · rw [l1 6 i 0 q (by omega), p1 6 i 0 q (by omega), h1 6 i 0 q (by omega)]
  · rw [l3 q, p1 1 0 0 3 (by omega), p1 1 0 0 2 (by omega), p1 6 i 0 7 (by omega), p1 6 i 6 q (by omega), h1 1 0 0 3 (by omega), h1 1 0 0 2 (by omega), h1 6 i 0 7 (by omega), h1 6 i 6 q (by omega), ha, hb]; rfl
set_option maxRecDepth 20000 in
theorem r_X6_settle {l : Launch} {X : XT} {d Lz : Nat} {w : Nat → Nat → Nat → Nat → Int32} (i j k : Nat) (hk : k < 3) (np : Nat) (hnp : w 4 j 0 6 = nI np) (hn7 : np ≤ 7) (no : Nat) (hno : w 4 j 0 8 = nI no) (hn4 : no ≤ 4) (cc : Nat) (hcc : w 6 i 0 6 = nI cc) (hc : cc < 2 ^ 30) (F : Nat → Bool) (hF : w 1 0 0 1 = enc F np) (a : Int32) (ha : w 1 0 0 2 = a) (S : Option Nat) (hS : w 1 0 0 3 = oI S) (hs : ∀ s, S = some s → s < np) (wn : WF) (hi : STi w i F (w 4 j 0 5) no np wn) : WP l X (d + 3) md_X6_settle (34, [some (.inr (.inr (6, i, 0))), some (.inr (.inr (4, j, 0))), some (.inr (.inr (1, 0, 0))), some (.inl (nI k)), some (.inl (nI np))], [], mk Lz wn) (fun v M' => v = none ∧ ∃ w', M' = mk Lz w' ∧ SE w i j k np no cc F a (oI S) S w') := by
  have h3 : wn 1 0 0 3 = oI S := by rw [hi.1 1 0 0 3 (by omega)]; exact hS
  have h6 : wn 6 i 0 6 = nI cc := by rw [hi.1 6 i 0 6 (by omega)]; exact hcc
  cases S with
  | none =>
    refine x_aload_n (pc' := 35) rfl rfl rfl (x_getI (pc' := 38) rfl rfl rfl ?_)
    rw [h3]
    refine x_iconst (pc' := 39) rfl rfl ?_
    refine x_icmp_eq (pc' := 42) rfl rfl (fun h39 => ?_) (fun h39 => absurd rfl h39)
    refine x_aload_n (pc' := 53) rfl rfl rfl (x_iload_n (pc' := 54) rfl rfl rfl (x_aload_n (pc' := 55) rfl rfl rfl (x_invQ3 (pc' := 58) rfl rfl rfl rfl rfl (c_X6_logContest i cc (nI k) h6 hc) (fun vq Mq hq55 => ?_))))
    obtain ⟨rfl, w4, rfl, hl⟩ := hq55
    show WP l X _ md_X6_settle (58, _, [], _) _
    refine x_vret rfl rfl ?_
    exact ⟨rfl, _, rfl, SE_of0 hi ha hS hl⟩
  | some s =>
    have hsl := hs s rfl
    refine x_aload_n (pc' := 35) rfl rfl rfl (x_getI (pc' := 38) rfl rfl rfl ?_)
    rw [h3]
    refine x_iconst (pc' := 39) rfl rfl ?_
    refine x_icmp_eq (pc' := 42) rfl rfl (fun h39 => absurd h39 (nI_ne1 (by omega))) (fun h39 => ?_)
    refine x_aload_n (pc' := 43) rfl rfl rfl (x_aload_n (pc' := 44) rfl rfl rfl (x_aload_n (pc' := 45) rfl rfl rfl (x_getI (pc' := 48) rfl rfl rfl ?_)))
    rw [h3]
    refine x_iload_n (pc' := 49) rfl rfl rfl (x_invQ4 (pc' := 52) rfl rfl rfl rfl rfl rfl (c_X6_promote i j s k (by omega) hk no (by rw [hi.1 4 j 0 8 (by omega)]; exact hno) hn4) (fun vq Mq hq49 => ?_))
    obtain ⟨rfl, w3, rfl, hp⟩ := hq49
    show WP l X _ md_X6_settle (52, _, [], _) _
    refine x_aload_n (pc' := 53) rfl rfl rfl (x_iload_n (pc' := 54) rfl rfl rfl (x_aload_n (pc' := 55) rfl rfl rfl (x_invQ3 (pc' := 58) rfl rfl rfl rfl rfl (c_X6_logContest i cc (nI k) (by rw [hp.1 6 i 0 6 (by omega)]; exact h6) hc) (fun vq Mq hq55 => ?_))))
    obtain ⟨rfl, w4, rfl, hl⟩ := hq55
    show WP l X _ md_X6_settle (58, _, [], _) _
    refine x_vret rfl rfl ?_
    exact ⟨rfl, _, rfl, SE_of1 hi ha hS hp hl⟩
set_option maxRecDepth 20000 in
theorem l_X6_settle {l : Launch} {X : XT} {d Lz : Nat} {w : Nat → Nat → Nat → Nat → Int32} (i j k : Nat) (hk : k < 3) (np : Nat) (hnp : w 4 j 0 6 = nI np) (hn7 : np ≤ 7) (no : Nat) (hno : w 4 j 0 8 = nI no) (hn4 : no ≤ 4) (cc : Nat) (hcc : w 6 i 0 6 = nI cc) (hc : cc < 2 ^ 30) (F : Nat → Bool) (hF : w 1 0 0 1 = enc F np) (a : Int32) (ha : w 1 0 0 2 = a) (S : Option Nat) (hS : w 1 0 0 3 = oI S) (hs : ∀ s, S = some s → s < np) : ∀ (kk n : Nat), ∀ (wn : WF), STi w i F (w 4 j 0 5) no n wn →  n ≤ np → np + 1 ≤ n + kk → WP l X (d + 3) md_X6_settle (3, [some (.inr (.inr (6, i, 0))), some (.inr (.inr (4, j, 0))), some (.inr (.inr (1, 0, 0))), some (.inl (nI k)), some (.inl (nI n))], [], mk Lz wn) (fun v M' => v = none ∧ ∃ w', M' = mk Lz w' ∧ SE w i j k np no cc F a (oI S) S w') := by
  intro kk
  induction kk with
  | zero =>
    intro n wn hi h1 h2
    exact absurd h2 (by omega)
  | succ kk ih =>
    intro n wn hi hi1 hi2
    refine x_iload (pc' := 5) rfl rfl rfl (x_aload_n (pc' := 6) rfl rfl rfl (x_getI (pc' := 9) rfl rfl rfl ?_))
    rw [hi.1 4 j 0 6 (by omega), hnp]
    refine x_icmp_geN (pc' := 12) rfl rfl (by omega) (by omega) (fun h9 => ?_) (fun h9 => ?_)
    · have e : n = np := by omega
      subst e
      exact r_X6_settle i j k hk n hnp hn7 no hno hn4 cc hcc hc F hF a ha S hS hs wn hi
    · refine x_aload_n (pc' := 13) rfl rfl rfl (x_iload (pc' := 15) rfl rfl rfl (x_invI2 (pc' := 18) rfl rfl rfl rfl (c_X1_isFirst _) ?_))
      rw [hi.1 1 0 0 1 (by omega), hF, has_enc (by omega) (by omega)]
      refine x_if_eq (pc' := 21) rfl rfl (fun h18 => ?_) (fun h18 => ?_)
      · refine x_iinc4 (pc' := 31) rfl rfl rfl (nI_add _ _) (x_goto rfl ?_)
        first | exact ih (n + 1) _ (STi_t hi (bq h18) ht) (by omega) (by omega) | exact ih (n + 1) _ (STi_f hi (bI_eq0.mp h18)) (by omega) (by omega)
      · refine x_aload_n (pc' := 22) rfl rfl rfl (x_aload_n (pc' := 23) rfl rfl rfl (x_iload (pc' := 25) rfl rfl rfl (x_invQ3 (pc' := 28) rfl rfl rfl rfl rfl (c_X6_toCoast i j n (by omega) no (by rw [hi.1 4 j 0 8 (by omega)]; exact hno) hn4) (fun vq Mq hq25 => ?_))))
        obtain ⟨rfl, w2, rfl, ht⟩ := hq25
        rw [hi.1 4 j 0 5 (by omega)] at ht
        show WP l X _ md_X6_settle (28, _, [], _) _
        refine x_iinc4 (pc' := 31) rfl rfl rfl (nI_add _ _) (x_goto rfl ?_)
        first | exact ih (n + 1) _ (STi_t hi (bq h18) ht) (by omega) (by omega) | exact ih (n + 1) _ (STi_f hi (bI_eq0.mp h18)) (by omega) (by omega)
set_option maxRecDepth 20000 in
theorem c_X6_settle {l : Launch} {X : XT} {d Lz : Nat} {w : Nat → Nat → Nat → Nat → Int32} (i j k : Nat) (hk : k < 3) (np : Nat) (hnp : w 4 j 0 6 = nI np) (hn7 : np ≤ 7) (no : Nat) (hno : w 4 j 0 8 = nI no) (hn4 : no ≤ 4) (cc : Nat) (hcc : w 6 i 0 6 = nI cc) (hc : cc < 2 ^ 30) (F : Nat → Bool) (hF : w 1 0 0 1 = enc F np) (a : Int32) (ha : w 1 0 0 2 = a) (S : Option Nat) (hS : w 1 0 0 3 = oI S) (hs : ∀ s, S = some s → s < np) : WP l X (d + 3) md_X6_settle (en md_X6_settle [.inr (.inr (6, i, 0)), .inr (.inr (4, j, 0)), .inr (.inr (1, 0, 0)), .inl (nI k)] (mk Lz w)) (fun v M' => v = none ∧ ∃ w', M' = mk Lz w' ∧ SE w i j k np no cc F a (oI S) S w') := by
  show WP l X _ md_X6_settle (0, [some (.inr (.inr (6, i, 0))), some (.inr (.inr (4, j, 0))), some (.inr (.inr (1, 0, 0))), some (.inl (nI k)), none], [], _) _
  refine x_iconst (pc' := 1) rfl rfl (x_istore4 (pc' := 3) rfl rfl rfl ?_)
  exact l_X6_settle i j k hk np hnp hn7 no hno hn4 cc hcc hc F hF a ha S hS hs (np + 1) 0 _ (STi_0 w i F _ no) (by omega) (by omega)
theorem has0 {x : Int32} {p : Nat} : ((x >>> (nI p &&& 31)) &&& nI 1 = 0) ↔ has x p = false := by
  have h : ∀ y : Int32, y &&& nI 1 = 0 ∨ y &&& nI 1 = nI 1 := by
    intro y
    have : (y &&& nI 1).toBitVec = 0#32 ∨ (y &&& nI 1).toBitVec = 1#32 := by
      show (y.toBitVec &&& 1#32) = 0#32 ∨ (y.toBitVec &&& 1#32) = 1#32
      rw [BitVec.and_one_eq_setWidth_ofBool_getLsbD]
      cases y.toBitVec.getLsbD 0
      · exact Or.inl (by decide)
      · exact Or.inr (by decide)
    rcases this with h | h
    · exact Or.inl (Int32.toBitVec_inj.mp h)
    · exact Or.inr (Int32.toBitVec_inj.mp h)
  unfold has
  rcases h (x >>> (nI p &&& 31)) with e | e
  · rw [e]; exact ⟨fun _ => by decide, fun _ => rfl⟩
  · rw [e]; exact ⟨fun z => absurd z (by decide), fun z => absurd z (by decide)⟩
/-- a contest or none -/
def MID (w : WF) (i j k np no cc : Nat) (w' : WF) : Prop := (∀ c i' o q, c ≠ 1 → ¬ (c = 6 ∧ i' = i) → w' c i' o q = w c i' o q) ∧ (∀ q, w' 6 i 2 q = w 6 i 2 q) ∧ (∀ q, w' 6 i 3 q = if q < np ∧ FST w i j k np q = true then w 4 j 0 5 else w 6 i 3 q) ∧ (∀ q, w' 6 i 4 q = if SND w i j k np = some q then w 6 i 4 q + nI 1 else w 6 i 4 q) ∧ (∀ q, w' 6 i 1 q = gf2 (w 6 i 1) (SND w i j k np) k q) ∧ (∀ q, q < no → w' 6 i 5 q = ho2 (w 6 i 5) (w 4 j 4) (FST w i j k np) (SND w i j k np) k np q) ∧ (∀ q, q ≠ 6 → w' 6 i 0 q = w 6 i 0 q) ∧ (LDR w i j k np = none → w' 6 i 0 6 = nI cc ∧ ∀ q, w' 6 i 6 q = w 6 i 6 q) ∧ (LDR w i j k np ≠ none → w' 6 i 0 6 = nI (cc + 1) ∧ ∀ q, w' 6 i 6 q = lg2 (w 6 i 6) cc (w 6 i 0 7) (nI k) (oI (LDR w i j k np)) (oI (SND w i j k np)) q)
theorem bst_nobody {S : Nat → Bool} {ah : Nat → Nat → Bool} : ∀ n, (∀ p, p < n → S p = false) → bst S ah n = none
  | 0, _ => rfl
  | n + 1, h => by rw [bst_no (h n (by omega))]; exact bst_nobody n (fun p hp => h p (by omega))
theorem bst_some {S : Nat → Bool} {ah : Nat → Nat → Bool} : ∀ n, bst S ah n = none → ∀ p, p < n → S p = false
  | 0, _, p, hp => by omega
  | n + 1, h, p, hp => by
    cases hs : S n with
    | true =>
      cases hb : bst S ah n with
      | none => rw [bst_new hb hs] at h; cases h
      | some b =>
        cases ha : ah n b with
        | true => rw [bst_up hb hs ha] at h; cases h
        | false => rw [bst_keep hb ha] at h; cases h
    | false =>
      rw [bst_no hs] at h
      by_cases e : p = n
      · subst e; exact hs
      · exact bst_some n h p (by omega)
theorem fst_none {co : Nat → Bool} {law : Int32} {dr mk : Nat → Int32} {np : Nat} (h : ldr co law dr mk np = none) (p : Nat) : fst' co law dr mk np p = false := by
  unfold fst'; rw [h]
theorem snd_none {co : Nat → Bool} {law : Int32} {dr mk : Nat → Int32} {np : Nat} (h : ldr co law dr mk np = none) : snd' co law dr mk np = none :=
  bst_nobody np (fun p hp => by show (co p && _) = false; rw [bst_some np h p hp]; rfl)
theorem ho1_no {h : Nat → Int32} {F : Nat → Bool} (hF : ∀ p, F p = false) : ∀ n o, ho1 h F n o = h o
  | 0, _ => rfl
  | n + 1, o => by
    show (if F n = true ∧ _ then _ else _) = _
    rw [if_neg (fun y => by rw [hF n] at y; cases y.1)]; exact ho1_no hF n o
theorem MID_none {w : WF} {i j k np no cc : Nat} (hcc : w 6 i 0 6 = nI cc) (h : LDR w i j k np = none) : MID w i j k np no cc w := by
  have h1 : ∀ p, FST w i j k np p = false := fun p => fst_none h p
  have h2 : SND w i j k np = none := snd_none h
  refine ⟨fun _ _ _ _ _ _ => rfl, fun _ => rfl, fun q => ?_, fun q => ?_, fun q => ?_, fun q _ => ?_, fun _ _ => rfl, fun _ => ⟨hcc, fun _ => rfl⟩, fun z => absurd h z⟩
  · rw [if_neg (fun y => by rw [h1 q] at y; cases y.2)]
  · rw [h2, if_neg (by intro z; cases z)]
  · rw [h2]; rfl
  · rw [h2]; exact (ho1_no h1 np q).symm
theorem MID_some {w w1 w2 : WF} {i j k np no cc : Nat} (hr : RK w i j k np w1) (hL : LDR w i j k np ≠ none) (hs : SE w1 i j k np no cc (FST w i j k np) (oI (LDR w i j k np)) (oI (SND w i j k np)) (SND w i j k np) w2) : MID w i j k np no cc w2 := by
  obtain ⟨r1, -⟩ := hr
  obtain ⟨s1, s2, s3, s4, s5, s6, s7, s8, s9⟩ := hs
  have e5 : w1 6 i 5 = w 6 i 5 := by funext q; exact r1 6 i 5 q (by decide)
  have e1 : w1 6 i 1 = w 6 i 1 := by funext q; exact r1 6 i 1 q (by decide)
  have e6 : w1 6 i 6 = w 6 i 6 := by funext q; exact r1 6 i 6 q (by decide)
  have e4 : w1 4 j 4 = w 4 j 4 := by funext q; exact r1 4 j 4 q (by decide)
  refine ⟨fun c i' o q hc hc2 => ?_, fun q => ?_, fun q => ?_, fun q => ?_, fun q => ?_, fun q hq => ?_, fun q hq => ?_, fun z => absurd z hL, fun _ => ⟨s8, fun q => ?_⟩⟩
  · rw [s1 c i' o q hc2]; exact r1 c i' o q hc
  · rw [s2 q]; exact r1 6 i 2 q (by decide)
  · rw [s3 q, r1 4 j 0 5 (by decide), r1 6 i 3 q (by decide)]
  · rw [s4 q, r1 6 i 4 q (by decide)]
  · rw [s5 q, e1]
  · rw [s6 q hq, e5, e4]
  · rw [s7 q hq]; exact r1 6 i 0 q (by decide)
  · rw [s9 q, e6, r1 6 i 0 7 (by decide)]
def DLi (w2 : WF) (i : Nat) (co : Nat → Bool) (n : Nat) (w' : WF) : Prop := (∀ c i' o q, ¬ (c = 6 ∧ i' = i ∧ o = 3) → w' c i' o q = w2 c i' o q) ∧ (∀ q, w' 6 i 3 q = if q < n ∧ co q = false then w2 6 i 3 q - nI 1 else w2 6 i 3 q)
theorem DLi_0 (w : WF) (i : Nat) (co : Nat → Bool) : DLi w i co 0 w := ⟨fun _ _ _ _ _ => rfl, fun q => by rw [if_neg (by omega)]⟩
theorem DLi_t {w2 w' : WF} {i n : Nat} {co : Nat → Bool} (h : DLi w2 i co n w') (hc : co n = false) : DLi w2 i co (n + 1) (u4 w' 6 i 3 n (w' 6 i 3 n - nI 1)) := by
  obtain ⟨h1, h2⟩ := h
  refine ⟨fun c i' o q hq => by rw [u4_ne (ne3 hq)]; exact h1 c i' o q hq, fun q => ?_⟩
  rw [u4_at]
  by_cases z : q = n
  · subst z; rw [if_pos rfl, if_pos ⟨by omega, hc⟩, h2 q, if_neg (by omega)]
  · rw [if_neg z, h2 q]
    by_cases z2 : q < n ∧ co q = false
    · rw [if_pos z2, if_pos ⟨by omega, z2.2⟩]
    · rw [if_neg z2, if_neg (fun y => z2 ⟨by omega, y.2⟩)]
theorem DLi_f {w2 w' : WF} {i n : Nat} {co : Nat → Bool} (h : DLi w2 i co n w') (hc : co n = true) : DLi w2 i co (n + 1) w' := by
  obtain ⟨h1, h2⟩ := h
  refine ⟨h1, fun q => ?_⟩
  rw [h2 q]
  by_cases z2 : q < n ∧ co q = false
  · rw [if_pos z2, if_pos ⟨by omega, z2.2⟩]
  · rw [if_neg z2, if_neg (fun y => ?_)]
    by_cases z : q = n
    · subst z; rw [hc] at y; cases y.2
    · exact z2 ⟨by omega, y.2⟩
/-- what a day leaves -/
def DY (w : WF) (i j k np no cc dd : Nat) (w' : WF) : Prop := ∃ w2, MID w i j k np no cc w2 ∧ (∀ c i' o q, ¬ (c = 6 ∧ i' = i ∧ (o = 3 ∨ (o = 0 ∧ q = 7))) → w' c i' o q = w2 c i' o q) ∧ w' 6 i 0 7 = nI (dd + 1) ∧ (∀ q, w' 6 i 3 q = if q < np ∧ cC w i q = false then w2 6 i 3 q - nI 1 else w2 6 i 3 q)
theorem DY_of {w w2 wn : WF} {i j k np no cc dd : Nat} (hm : MID w i j k np no cc w2) (hi : DLi w2 i (cC w i) np wn) : DY w i j k np no cc dd (u4 wn 6 i 0 7 (nI (dd + 1))) := by
  obtain ⟨h1, h2⟩ := hi
  refine ⟨w2, hm, fun c i' o q hq => ?_, u4_self _ _ _ _ _ _, fun q => ?_⟩
  · by_cases z : c = 6 ∧ i' = i ∧ o = 0
    · obtain ⟨rfl, rfl, rfl⟩ := z
      rw [u4_k (by omega)]; exact h1 _ _ _ q (by omega)
    · rw [u4_ne (ne3 z)]; exact h1 c i' o q (by omega)
  · rw [u4_ne (ne3 (by omega))]; exact h2 q
set_option maxRecDepth 20000 in
theorem l_X6_passDay {l : Launch} {X : XT} {d Lz : Nat} {w : Nat → Nat → Nat → Nat → Int32} (i j k : Nat) (hk : k < 3) (np : Nat) (hnp : w 4 j 0 6 = nI np) (hn7 : np ≤ 7) (no : Nat) (hno : w 4 j 0 8 = nI no) (hn4 : no ≤ 4) (cc : Nat) (hcc : w 6 i 0 6 = nI cc) (hc : cc < 2 ^ 30) (dd : Nat) (hdd : w 6 i 0 7 = nI dd) (hd : dd < 2 ^ 30) (nt : Nat) (hnt : w 4 j 0 7 = nI nt) (h12 : nt ≤ 12) (hkd : kdV (w 4 j 3) nt dd = nI k) (w2 : WF) (hm : MID w i j k np no cc w2) : ∀ (kk n : Nat), ∀ (wn : WF), DLi w2 i (cC w i) n wn →  n ≤ np → np + 1 ≤ n + kk → WP l X (d + 4) md_X6_passDay (38, [some (.inr (.inr (6, i, 0))), some (.inr (.inr (4, j, 0))), some (.inr (.inr (1, 0, 0))), some (.inl (nI k)), some (.inl (enc (cC w i) np)), some (.inl (nI n))], [], mk Lz wn) (fun v M' => v = none ∧ ∃ w', M' = mk Lz w' ∧ DY w i j k np no cc dd w') := by
  intro kk
  induction kk with
  | zero =>
    intro n wn hi h1 h2
    exact absurd h2 (by omega)
  | succ kk ih =>
    intro n wn hi hi1 hi2
    refine x_iload (pc' := 40) rfl rfl rfl (x_aload_n (pc' := 41) rfl rfl rfl (x_getI (pc' := 44) rfl rfl rfl ?_))
    rw [hi.1 4 j 0 6 (by omega), hm.1 4 j 0 6 (by decide) (by omega), hnp]
    refine x_icmp_geN (pc' := 47) rfl rfl (by omega) (by omega) (fun h44 => ?_) (fun h44 => ?_)
    · refine x_aload_n (pc' := 75) rfl rfl rfl (x_dup (pc' := 76) rfl rfl rfl (x_getI (pc' := 79) rfl rfl rfl ?_))
      rw [hi.1 6 i 0 7 (by omega), hm.2.2.2.2.2.2.1 7 (by decide), hdd]
      refine x_iconst (pc' := 80) rfl rfl (x_iaddN (pc' := 81) rfl rfl (x_putI (pc' := 84) rfl rfl rfl ?_))
      refine x_vret rfl rfl ?_
      have e : n = np := by omega
      subst e
      exact ⟨rfl, _, rfl, DY_of hm hi⟩
    · refine x_iload (pc' := 49) rfl rfl rfl (x_iload (pc' := 51) rfl rfl rfl (x_ishr (pc' := 52) rfl rfl (x_iconst (pc' := 53) rfl rfl (x_iand (pc' := 54) rfl rfl ?_))))
      refine x_if_ne (pc' := 57) rfl rfl (fun h54 => ?_) (fun h54 => ?_)
      · refine x_aload_n (pc' := 58) rfl rfl rfl (x_getR (pc' := 61) (t := (6, _, 3)) rfl rfl rfl (x_iload (pc' := 63) rfl rfl rfl (x_dup2 (pc' := 64) rfl rfl rfl (x_iald (pc' := 65) (N := 7) rfl rfl rfl rfl (by first | assumption | omega) (by decide) (x_iconst (pc' := 66) rfl rfl ?_)))))
        refine x_isub (pc' := 67) rfl rfl (x_iast (pc' := 68) (N := 7) rfl rfl rfl (by decide) rfl (by first | assumption | omega) (by decide) (x_iinc5 (pc' := 71) rfl rfl rfl (nI_add _ _) (x_goto rfl ?_)))
        first | exact ih (n + 1) _ (DLi_t hi (by rw [← has_enc (f := cC w i) (n := np) (by omega) (by omega)]; exact has0.mp h54)) (by omega) (by omega) | exact ih (n + 1) _ (DLi_f hi (by cases hb : cC w i n with | true => rfl | false => exact absurd (has0.mpr (by rw [has_enc (by omega) (by omega)]; exact hb)) h54)) (by omega) (by omega)
      · refine x_iinc5 (pc' := 71) rfl rfl rfl (nI_add _ _) (x_goto rfl ?_)
        first | exact ih (n + 1) _ (DLi_t hi (by rw [← has_enc (f := cC w i) (n := np) (by omega) (by omega)]; exact has0.mp h54)) (by omega) (by omega) | exact ih (n + 1) _ (DLi_f hi (by cases hb : cC w i n with | true => rfl | false => exact absurd (has0.mpr (by rw [has_enc (by omega) (by omega)]; exact hb)) h54)) (by omega) (by omega)
set_option maxRecDepth 20000 in
theorem c_X6_passDay {l : Launch} {X : XT} {d Lz : Nat} {w : Nat → Nat → Nat → Nat → Int32} (i j k : Nat) (hk : k < 3) (np : Nat) (hnp : w 4 j 0 6 = nI np) (hn7 : np ≤ 7) (no : Nat) (hno : w 4 j 0 8 = nI no) (hn4 : no ≤ 4) (cc : Nat) (hcc : w 6 i 0 6 = nI cc) (hc : cc < 2 ^ 30) (dd : Nat) (hdd : w 6 i 0 7 = nI dd) (hd : dd < 2 ^ 30) (nt : Nat) (hnt : w 4 j 0 7 = nI nt) (h12 : nt ≤ 12) (hkd : kdV (w 4 j 3) nt dd = nI k) : WP l X (d + 4) md_X6_passDay (en md_X6_passDay [.inr (.inr (6, i, 0)), .inr (.inr (4, j, 0)), .inr (.inr (1, 0, 0))] (mk Lz w)) (fun v M' => v = none ∧ ∃ w', M' = mk Lz w' ∧ DY w i j k np no cc dd w') := by
  show WP l X _ md_X6_passDay (0, [some (.inr (.inr (6, i, 0))), some (.inr (.inr (4, j, 0))), some (.inr (.inr (1, 0, 0))), none, none, none], [], _) _
  refine x_aload_n (pc' := 1) rfl rfl rfl (x_aload_n (pc' := 2) rfl rfl rfl (x_getI (pc' := 5) rfl rfl rfl ?_))
  rw [hdd]
  refine x_invI2 (pc' := 8) rfl rfl rfl rfl (c_X4_kindOfDay j nt dd hnt h12 (by omega)) ?_
  rw [hkd]
  refine x_istore_n3 (pc' := 9) rfl rfl rfl (x_aload_n (pc' := 10) rfl rfl rfl (x_aload_n (pc' := 11) rfl rfl rfl (x_invI2 (pc' := 14) rfl rfl rfl rfl (c_X6_courtOf i j np hnp hn7) ?_)))
  refine x_istore4 (pc' := 16) rfl rfl rfl (x_iload (pc' := 18) rfl rfl rfl ?_)
  refine x_if_eq (pc' := 21) rfl rfl (fun h18 => ?_) (fun h18 => ?_)
  · refine x_iconst (pc' := 36) rfl rfl (x_istore5 (pc' := 38) rfl rfl rfl ?_)
    first | exact l_X6_passDay i j k hk np hnp hn7 no hno hn4 cc hcc hc dd hdd hd nt hnt h12 hkd _ (MID_none hcc (bst_nobody np (fun p hp => (enc_0 (by omega)).mp h18 p hp))) (np + 1) 0 _ (DLi_0 _ i _) (by omega) (by omega) | exact l_X6_passDay i j k hk np hnp hn7 no hno hn4 cc hcc hc dd hdd hd nt hnt h12 hkd _ (MID_some hr (fun z => h18 ((enc_0 (by omega)).mpr (fun p hp => bst_some np z p hp))) hse) (np + 1) 0 _ (DLi_0 _ i _) (by omega) (by omega)
  · refine x_aload_n (pc' := 22) rfl rfl rfl (x_aload_n (pc' := 23) rfl rfl rfl (x_aload_n (pc' := 24) rfl rfl rfl (x_iload_n (pc' := 25) rfl rfl rfl (x_invQ4 (pc' := 28) rfl rfl rfl rfl rfl rfl (c_X1_rank i k hk j np hnp hn7) (fun vq Mq hq25 => ?_)))))
    obtain ⟨rfl, w1, rfl, hr⟩ := hq25
    show WP l X _ md_X6_passDay (28, _, [], _) _
    refine x_aload_n (pc' := 29) rfl rfl rfl (x_aload_n (pc' := 30) rfl rfl rfl (x_aload_n (pc' := 31) rfl rfl rfl (x_iload_n (pc' := 32) rfl rfl rfl (x_invQ4 (pc' := 35) rfl rfl rfl rfl rfl rfl (c_X6_settle i j k hk np (by rw [hr.1 4 j 0 6 (by decide)]; exact hnp) hn7 no (by rw [hr.1 4 j 0 8 (by decide)]; exact hno) hn4 cc (by rw [hr.1 6 i 0 6 (by decide)]; exact hcc) hc (FST w i j k np) hr.2.1 _ hr.2.2.1 (SND w i j k np) hr.2.2.2.1 (fun s hs => (bst_lt np s hs).1)) (fun vq Mq hq32 => ?_)))))
    obtain ⟨rfl, w2, rfl, hse⟩ := hq32
    show WP l X _ md_X6_passDay (35, _, [], _) _
    refine x_iconst (pc' := 36) rfl rfl (x_istore5 (pc' := 38) rfl rfl rfl ?_)
    first | exact l_X6_passDay i j k hk np hnp hn7 no hno hn4 cc hcc hc dd hdd hd nt hnt h12 hkd _ (MID_none hcc (bst_nobody np (fun p hp => (enc_0 (by omega)).mp h18 p hp))) (np + 1) 0 _ (DLi_0 _ i _) (by omega) (by omega) | exact l_X6_passDay i j k hk np hnp hn7 no hno hn4 cc hcc hc dd hdd hd nt hnt h12 hkd _ (MID_some hr (fun z => h18 ((enc_0 (by omega)).mpr (fun p hp => bst_some np z p hp))) hse) (np + 1) 0 _ (DLi_0 _ i _) (by omega) (by omega)
end
section
/-! the reference: contests -/
def cM (w : WF) (x : Nat) : Nat → Bool := fun p => decide (w 9 0 1 (x + 28 + p) = 0)
def mM (w : WF) (x k : Nat) : Nat → Int32 := mkV (fun q => w 9 0 1 (x + q)) (fun p => w 9 0 1 (x + 21 + p)) (w 9 0 2) (w 9 0 1 (x + 46)) k
theorem i3 (x p k : Nat) : x + 3 * p + k = x + (p * 3 + k) := by omega
theorem mM_ret1 {w : WF} {x k p : Nat} (hr : w 9 0 1 (x + 46) = 0 ∨ w 9 0 1 (x + 46) = nI 1) (h : w 9 0 1 (x + 46) = nI 1) : w 9 0 1 (x + 3 * p + k) * w 9 0 1 (x + 21 + p) + w 9 0 2 p / nI 2 = mM w x k p := by
  unfold mM mkV
  rw [i3, h, if_neg (by decide)]
theorem mM_ret2 {w : WF} {x k p : Nat} (hr : w 9 0 1 (x + 46) = 0 ∨ w 9 0 1 (x + 46) = nI 1) (h : ¬ w 9 0 1 (x + 46) = nI 1) : w 9 0 1 (x + 3 * p + k) * w 9 0 1 (x + 21 + p) + w 9 0 2 p = mM w x k p := by
  unfold mM mkV
  rcases hr with e | e
  · rw [i3, e, if_pos rfl]
  · exact absurd e h
set_option maxRecDepth 20000 in
theorem c_X9_markIn {l : Launch} {X : XT} {d Lz : Nat} {w : Nat → Nat → Nat → Nat → Int32} (x : Nat) (hx : x + 130 ≤ 4420) (p k : Nat) (hp : p < 7) (hk : k < 3) (hr : w 9 0 1 (x + 46) = 0 ∨ w 9 0 1 (x + 46) = nI 1) : CT l X (d + 1) md_X9_markIn [.inr (.inr (9, 0, 0)), .inl (nI x), .inl (nI p), .inl (nI k)] (mk Lz w) (some (.inl (mM w x k p))) (mk Lz w) := by
  show WP l X _ md_X9_markIn (0, [some (.inr (.inr (9, 0, 0))), some (.inl (nI x)), some (.inl (nI p)), some (.inl (nI k)), none], [], _) _
  refine x_aload_n (pc' := 1) rfl rfl rfl (x_getR (pc' := 4) (t := (9, _, 1)) rfl rfl rfl (x_iload_n (pc' := 5) rfl rfl rfl (x_bipush (pc' := 7) rfl rfl (x_iaddN (pc' := 8) rfl rfl (x_iald (pc' := 9) (N := 4420) rfl rfl rfl rfl (by first | assumption | omega) (by decide) ?_)))))
  refine x_iconst (pc' := 10) rfl rfl ?_
  refine x_icmp_ne (pc' := 13) rfl rfl (fun h10 => ?_) (fun h10 => ?_)
  · refine x_aload_n (pc' := 14) rfl rfl rfl (x_getR (pc' := 17) (t := (9, _, 2)) rfl rfl rfl (x_iload_n (pc' := 18) rfl rfl rfl (x_iald (pc' := 19) (N := 7) rfl rfl rfl rfl (by first | assumption | omega) (by decide) (x_iconst (pc' := 20) rfl rfl (x_idivE (pc' := 21) rfl rfl (by decide) rfl ?_)))))
    refine x_goto rfl (x_istore4 (pc' := 32) rfl rfl rfl (x_aload_n (pc' := 33) rfl rfl rfl (x_getR (pc' := 36) (t := (9, _, 1)) rfl rfl rfl (x_iload_n (pc' := 37) rfl rfl rfl (x_iconst (pc' := 38) rfl rfl ?_)))))
    refine x_iload_n (pc' := 39) rfl rfl rfl (x_imulN (pc' := 40) rfl rfl (x_iaddN (pc' := 41) rfl rfl (x_iload_n (pc' := 42) rfl rfl rfl (x_iaddN (pc' := 43) rfl rfl (x_iald (pc' := 44) (N := 4420) rfl rfl rfl rfl (by first | assumption | omega) (by decide) ?_)))))
    refine x_aload_n (pc' := 45) rfl rfl rfl (x_getR (pc' := 48) (t := (9, _, 1)) rfl rfl rfl (x_iload_n (pc' := 49) rfl rfl rfl (x_bipush (pc' := 51) rfl rfl (x_iaddN (pc' := 52) rfl rfl (x_iload_n (pc' := 53) rfl rfl rfl ?_)))))
    refine x_iaddN (pc' := 54) rfl rfl (x_iald (pc' := 55) (N := 4420) rfl rfl rfl rfl (by first | assumption | omega) (by decide) (x_imul (pc' := 56) rfl rfl (x_iload (pc' := 58) rfl rfl rfl (x_iadd (pc' := 59) rfl rfl ?_))))
    refine x_iret rfl rfl ?_
    first | exact rI (mM_ret1 hr h10) | exact rI (mM_ret2 hr h10)
  · refine x_aload_n (pc' := 25) rfl rfl rfl (x_getR (pc' := 28) (t := (9, _, 2)) rfl rfl rfl (x_iload_n (pc' := 29) rfl rfl rfl (x_iald (pc' := 30) (N := 7) rfl rfl rfl rfl (by first | assumption | omega) (by decide) (x_istore4 (pc' := 32) rfl rfl rfl (x_aload_n (pc' := 33) rfl rfl rfl ?_)))))
    refine x_getR (pc' := 36) (t := (9, _, 1)) rfl rfl rfl (x_iload_n (pc' := 37) rfl rfl rfl (x_iconst (pc' := 38) rfl rfl (x_iload_n (pc' := 39) rfl rfl rfl (x_imulN (pc' := 40) rfl rfl (x_iaddN (pc' := 41) rfl rfl ?_)))))
    refine x_iload_n (pc' := 42) rfl rfl rfl (x_iaddN (pc' := 43) rfl rfl (x_iald (pc' := 44) (N := 4420) rfl rfl rfl rfl (by first | assumption | omega) (by decide) (x_aload_n (pc' := 45) rfl rfl rfl (x_getR (pc' := 48) (t := (9, _, 1)) rfl rfl rfl (x_iload_n (pc' := 49) rfl rfl rfl ?_)))))
    refine x_bipush (pc' := 51) rfl rfl (x_iaddN (pc' := 52) rfl rfl (x_iload_n (pc' := 53) rfl rfl rfl (x_iaddN (pc' := 54) rfl rfl (x_iald (pc' := 55) (N := 4420) rfl rfl rfl rfl (by first | assumption | omega) (by decide) (x_imul (pc' := 56) rfl rfl ?_)))))
    refine x_iload (pc' := 58) rfl rfl rfl (x_iadd (pc' := 59) rfl rfl ?_)
    refine x_iret rfl rfl ?_
    first | exact rI (mM_ret1 hr h10) | exact rI (mM_ret2 hr h10)
set_option maxRecDepth 20000 in
theorem c_X9_isAtCourt {l : Launch} {X : XT} {d Lz : Nat} {w : Nat → Nat → Nat → Nat → Int32} (x : Nat) (hx : x + 130 ≤ 4420) (p : Nat) (hp : p < 7) : CT l X (d + 1) md_X9_isAtCourt [.inr (.inr (9, 0, 0)), .inl (nI x), .inl (nI p)] (mk Lz w) (some (.inl (bI (cM w x p)))) (mk Lz w) := by
  show WP l X _ md_X9_isAtCourt (0, [some (.inr (.inr (9, 0, 0))), some (.inl (nI x)), some (.inl (nI p))], [], _) _
  refine x_aload_n (pc' := 1) rfl rfl rfl (x_getR (pc' := 4) (t := (9, _, 1)) rfl rfl rfl (x_iload_n (pc' := 5) rfl rfl rfl (x_bipush (pc' := 7) rfl rfl (x_iaddN (pc' := 8) rfl rfl (x_iload_n (pc' := 9) rfl rfl rfl ?_)))))
  refine x_iaddN (pc' := 10) rfl rfl (x_iald (pc' := 11) (N := 4420) rfl rfl rfl rfl (by first | assumption | omega) (by decide) ?_)
  refine x_if_ne (pc' := 14) rfl rfl (fun h11 => ?_) (fun h11 => ?_)
  · refine x_iconst (pc' := 15) rfl rfl (x_goto rfl ?_)
    refine x_zret rfl rfl (by decide) ?_
    first | exact rI (bI_t (dT h11)).symm | exact rI (bI_f (dF h11)).symm
  · refine x_iconst (pc' := 19) rfl rfl ?_
    refine x_zret rfl rfl (by decide) ?_
    first | exact rI (bI_t (dT h11)).symm | exact rI (bI_f (dF h11)).symm
theorem or_0 (x : Int32) : x ||| nI 0 = x := by
  apply i32_ext
  intro i hi
  rw [or_bit, z_bit i hi]; simp
set_option maxRecDepth 20000 in
theorem l_X9_courtIn {l : Launch} {X : XT} {d Lz : Nat} {w : Nat → Nat → Nat → Nat → Int32} (x : Nat) (hx : x + 130 ≤ 4420) (np : Nat) (hnp : w 9 0 0 6 = nI np) (hn7 : np ≤ 7) : ∀ (k n : Nat),  n ≤ np → np + 1 ≤ n + k → WP l X (d + 2) md_X9_courtIn (4, [some (.inr (.inr (9, 0, 0))), some (.inl (nI x)), some (.inl (enc (cM w x) n)), some (.inl (nI n))], [], mk Lz w) (fun v M' => v = some (.inl (enc (cM w x) np)) ∧ M' = mk Lz w) := by
  intro k
  induction k with
  | zero =>
    intro n h1 h2
    exact absurd h2 (by omega)
  | succ k ih =>
    intro n hi1 hi2
    refine x_iload_n (pc' := 5) rfl rfl rfl (x_aload_n (pc' := 6) rfl rfl rfl (x_getI (pc' := 9) rfl rfl rfl ?_))
    rw [hnp]
    refine x_icmp_geN (pc' := 12) rfl rfl (by omega) (by omega) (fun h9 => ?_) (fun h9 => ?_)
    · refine x_iload_n (pc' := 38) rfl rfl rfl ?_
      refine x_iret rfl rfl ?_
      have e : n = np := by omega
      subst e
      exact rI rfl
    · refine x_iload_n (pc' := 13) rfl rfl rfl (x_aload_n (pc' := 14) rfl rfl rfl (x_iload_n (pc' := 15) rfl rfl rfl (x_iload_n (pc' := 16) rfl rfl rfl (x_invI3 (pc' := 19) rfl rfl rfl rfl rfl (c_X9_isAtCourt x hx n (by omega)) ?_))))
      refine x_if_eq (pc' := 22) rfl rfl (fun h19 => ?_) (fun h19 => ?_)
      · refine x_iconst (pc' := 29) rfl rfl (x_ior (pc' := 30) rfl rfl (x_istore_n2 (pc' := 31) rfl rfl rfl (x_iinc3 (pc' := 34) rfl rfl rfl (nI_add _ _) (x_goto rfl ?_))))
        first | exact WPc (ih (n + 1) (by omega) (by omega)) (by rw [← enc_t (bq h19)]) rfl | exact WPc (ih (n + 1) (by omega) (by omega)) (by rw [← enc_f (bI_eq0.mp h19), or_0]) rfl
      · refine x_iconst (pc' := 23) rfl rfl (x_iload_n (pc' := 24) rfl rfl rfl (x_ishl (pc' := 25) rfl rfl (x_goto rfl (x_ior (pc' := 30) rfl rfl (x_istore_n2 (pc' := 31) rfl rfl rfl ?_)))))
        refine x_iinc3 (pc' := 34) rfl rfl rfl (nI_add _ _) (x_goto rfl ?_)
        first | exact WPc (ih (n + 1) (by omega) (by omega)) (by rw [← enc_t (bq h19)]) rfl | exact WPc (ih (n + 1) (by omega) (by omega)) (by rw [← enc_f (bI_eq0.mp h19), or_0]) rfl
set_option maxRecDepth 20000 in
theorem c_X9_courtIn {l : Launch} {X : XT} {d Lz : Nat} {w : Nat → Nat → Nat → Nat → Int32} (x : Nat) (hx : x + 130 ≤ 4420) (np : Nat) (hnp : w 9 0 0 6 = nI np) (hn7 : np ≤ 7) : CT l X (d + 2) md_X9_courtIn [.inr (.inr (9, 0, 0)), .inl (nI x)] (mk Lz w) (some (.inl (enc (cM w x) np))) (mk Lz w) := by
  show WP l X _ md_X9_courtIn (0, [some (.inr (.inr (9, 0, 0))), some (.inl (nI x)), none, none], [], _) _
  refine x_iconst (pc' := 1) rfl rfl (x_istore_n2 (pc' := 2) rfl rfl rfl (x_iconst (pc' := 3) rfl rfl (x_istore_n3 (pc' := 4) rfl rfl rfl ?_)))
  exact l_X9_courtIn x hx np hnp hn7 (np + 1) 0 (by omega) (by omega)
abbrev aM (w : WF) (x k : Nat) : Nat → Nat → Bool := ahd (w 9 0 0 4) (w 9 0 2) (mM w x k)
set_option maxRecDepth 20000 in
theorem c_X9_isAhead {l : Launch} {X : XT} {d Lz : Nat} {w : Nat → Nat → Nat → Nat → Int32} (x : Nat) (hx : x + 130 ≤ 4420) (p q k : Nat) (hp : p < 7) (hq : q < 7) (hk : k < 3) (hr : w 9 0 1 (x + 46) = 0 ∨ w 9 0 1 (x + 46) = nI 1) : CT l X (d + 2) md_X9_isAhead [.inr (.inr (9, 0, 0)), .inl (nI x), .inl (nI p), .inl (nI q), .inl (nI k)] (mk Lz w) (some (.inl (bI (aM w x k p q)))) (mk Lz w) := by
  show WP l X _ md_X9_isAhead (0, [some (.inr (.inr (9, 0, 0))), some (.inl (nI x)), some (.inl (nI p)), some (.inl (nI q)), some (.inl (nI k)), none, none], [], _) _
  refine x_aload_n (pc' := 1) rfl rfl rfl (x_iload_n (pc' := 2) rfl rfl rfl (x_iload_n (pc' := 3) rfl rfl rfl (x_iload (pc' := 5) rfl rfl rfl (x_invI4 (pc' := 8) rfl rfl rfl rfl rfl rfl (c_X9_markIn x hx p k hp hk hr) ?_))))
  refine x_istore5 (pc' := 10) rfl rfl rfl (x_aload_n (pc' := 11) rfl rfl rfl (x_iload_n (pc' := 12) rfl rfl rfl (x_iload_n (pc' := 13) rfl rfl rfl (x_iload (pc' := 15) rfl rfl rfl (x_invI4 (pc' := 18) rfl rfl rfl rfl rfl rfl (c_X9_markIn x hx q k hq hk hr) ?_)))))
  refine x_istore6 (pc' := 20) rfl rfl rfl (x_iload (pc' := 22) rfl rfl rfl (x_iload (pc' := 24) rfl rfl rfl ?_))
  refine x_icmp_eq (pc' := 27) rfl rfl (fun h24 => ?_) (fun h24 => ?_)
  · refine x_aload_n (pc' := 41) rfl rfl rfl (x_getI (pc' := 44) rfl rfl rfl (x_iconst (pc' := 45) rfl rfl ?_))
    refine x_icmp_ne (pc' := 48) rfl rfl (fun h45 => ?_) (fun h45 => ?_)
    · refine x_aload_n (pc' := 49) rfl rfl rfl (x_getR (pc' := 52) (t := (9, _, 2)) rfl rfl rfl (x_iload_n (pc' := 53) rfl rfl rfl (x_iald (pc' := 54) (N := 7) rfl rfl rfl rfl (by first | assumption | omega) (by decide) (x_aload_n (pc' := 55) rfl rfl rfl (x_getR (pc' := 58) (t := (9, _, 2)) rfl rfl rfl ?_)))))
      refine x_iload_n (pc' := 59) rfl rfl rfl (x_iald (pc' := 60) (N := 7) rfl rfl rfl rfl (by first | assumption | omega) (by decide) ?_)
      refine x_icmp_eq (pc' := 63) rfl rfl (fun h60 => ?_) (fun h60 => ?_)
      · refine x_iload_n (pc' := 87) rfl rfl rfl (x_iload_n (pc' := 88) rfl rfl rfl ?_)
        refine x_icmp_geN (pc' := 91) rfl rfl (by omega) (by omega) (fun h88 => ?_) (fun h88 => ?_)
        · refine x_iconst (pc' := 96) rfl rfl ?_
          refine x_zret rfl rfl (by decide) ?_
          exact rI (by unfold aM ahd; first | (rw [if_neg h24, dF (Int32.not_lt.mpr h31)]; rfl) | (rw [if_neg h24, dT (Int32.not_le.mp h31)]; rfl) | (rw [if_pos h24, if_pos h45, if_neg h60, dF (Int32.not_lt.mpr h75)]; rfl) | (rw [if_pos h24, if_pos h45, if_neg h60, dT (Int32.not_le.mp h75)]; rfl) | (rw [if_pos h24, if_pos h45, if_pos h60, dF (by omega)]; rfl) | (rw [if_pos h24, if_pos h45, if_pos h60, dT (by omega)]; rfl) | (rw [if_pos h24, if_neg h45, dF (by omega)]; rfl) | (rw [if_pos h24, if_neg h45, dT (by omega)]; rfl))
        · refine x_iconst (pc' := 92) rfl rfl (x_goto rfl ?_)
          refine x_zret rfl rfl (by decide) ?_
          exact rI (by unfold aM ahd; first | (rw [if_neg h24, dF (Int32.not_lt.mpr h31)]; rfl) | (rw [if_neg h24, dT (Int32.not_le.mp h31)]; rfl) | (rw [if_pos h24, if_pos h45, if_neg h60, dF (Int32.not_lt.mpr h75)]; rfl) | (rw [if_pos h24, if_pos h45, if_neg h60, dT (Int32.not_le.mp h75)]; rfl) | (rw [if_pos h24, if_pos h45, if_pos h60, dF (by omega)]; rfl) | (rw [if_pos h24, if_pos h45, if_pos h60, dT (by omega)]; rfl) | (rw [if_pos h24, if_neg h45, dF (by omega)]; rfl) | (rw [if_pos h24, if_neg h45, dT (by omega)]; rfl))
      · refine x_aload_n (pc' := 64) rfl rfl rfl (x_getR (pc' := 67) (t := (9, _, 2)) rfl rfl rfl (x_iload_n (pc' := 68) rfl rfl rfl (x_iald (pc' := 69) (N := 7) rfl rfl rfl rfl (by first | assumption | omega) (by decide) (x_aload_n (pc' := 70) rfl rfl rfl (x_getR (pc' := 73) (t := (9, _, 2)) rfl rfl rfl ?_)))))
        refine x_iload_n (pc' := 74) rfl rfl rfl (x_iald (pc' := 75) (N := 7) rfl rfl rfl rfl (by first | assumption | omega) (by decide) ?_)
        refine x_icmp_le (pc' := 78) rfl rfl (fun h75 => ?_) (fun h75 => ?_)
        · refine x_iconst (pc' := 83) rfl rfl (x_goto rfl ?_)
          refine x_zret rfl rfl (by decide) ?_
          exact rI (by unfold aM ahd; first | (rw [if_neg h24, dF (Int32.not_lt.mpr h31)]; rfl) | (rw [if_neg h24, dT (Int32.not_le.mp h31)]; rfl) | (rw [if_pos h24, if_pos h45, if_neg h60, dF (Int32.not_lt.mpr h75)]; rfl) | (rw [if_pos h24, if_pos h45, if_neg h60, dT (Int32.not_le.mp h75)]; rfl) | (rw [if_pos h24, if_pos h45, if_pos h60, dF (by omega)]; rfl) | (rw [if_pos h24, if_pos h45, if_pos h60, dT (by omega)]; rfl) | (rw [if_pos h24, if_neg h45, dF (by omega)]; rfl) | (rw [if_pos h24, if_neg h45, dT (by omega)]; rfl))
        · refine x_iconst (pc' := 79) rfl rfl (x_goto rfl ?_)
          refine x_zret rfl rfl (by decide) ?_
          exact rI (by unfold aM ahd; first | (rw [if_neg h24, dF (Int32.not_lt.mpr h31)]; rfl) | (rw [if_neg h24, dT (Int32.not_le.mp h31)]; rfl) | (rw [if_pos h24, if_pos h45, if_neg h60, dF (Int32.not_lt.mpr h75)]; rfl) | (rw [if_pos h24, if_pos h45, if_neg h60, dT (Int32.not_le.mp h75)]; rfl) | (rw [if_pos h24, if_pos h45, if_pos h60, dF (by omega)]; rfl) | (rw [if_pos h24, if_pos h45, if_pos h60, dT (by omega)]; rfl) | (rw [if_pos h24, if_neg h45, dF (by omega)]; rfl) | (rw [if_pos h24, if_neg h45, dT (by omega)]; rfl))
    · refine x_iload_n (pc' := 87) rfl rfl rfl (x_iload_n (pc' := 88) rfl rfl rfl ?_)
      refine x_icmp_geN (pc' := 91) rfl rfl (by omega) (by omega) (fun h88 => ?_) (fun h88 => ?_)
      · refine x_iconst (pc' := 96) rfl rfl ?_
        refine x_zret rfl rfl (by decide) ?_
        exact rI (by unfold aM ahd; first | (rw [if_neg h24, dF (Int32.not_lt.mpr h31)]; rfl) | (rw [if_neg h24, dT (Int32.not_le.mp h31)]; rfl) | (rw [if_pos h24, if_pos h45, if_neg h60, dF (Int32.not_lt.mpr h75)]; rfl) | (rw [if_pos h24, if_pos h45, if_neg h60, dT (Int32.not_le.mp h75)]; rfl) | (rw [if_pos h24, if_pos h45, if_pos h60, dF (by omega)]; rfl) | (rw [if_pos h24, if_pos h45, if_pos h60, dT (by omega)]; rfl) | (rw [if_pos h24, if_neg h45, dF (by omega)]; rfl) | (rw [if_pos h24, if_neg h45, dT (by omega)]; rfl))
      · refine x_iconst (pc' := 92) rfl rfl (x_goto rfl ?_)
        refine x_zret rfl rfl (by decide) ?_
        exact rI (by unfold aM ahd; first | (rw [if_neg h24, dF (Int32.not_lt.mpr h31)]; rfl) | (rw [if_neg h24, dT (Int32.not_le.mp h31)]; rfl) | (rw [if_pos h24, if_pos h45, if_neg h60, dF (Int32.not_lt.mpr h75)]; rfl) | (rw [if_pos h24, if_pos h45, if_neg h60, dT (Int32.not_le.mp h75)]; rfl) | (rw [if_pos h24, if_pos h45, if_pos h60, dF (by omega)]; rfl) | (rw [if_pos h24, if_pos h45, if_pos h60, dT (by omega)]; rfl) | (rw [if_pos h24, if_neg h45, dF (by omega)]; rfl) | (rw [if_pos h24, if_neg h45, dT (by omega)]; rfl))
  · refine x_iload (pc' := 29) rfl rfl rfl (x_iload (pc' := 31) rfl rfl rfl ?_)
    refine x_icmp_le (pc' := 34) rfl rfl (fun h31 => ?_) (fun h31 => ?_)
    · refine x_iconst (pc' := 39) rfl rfl ?_
      refine x_zret rfl rfl (by decide) ?_
      exact rI (by unfold aM ahd; first | (rw [if_neg h24, dF (Int32.not_lt.mpr h31)]; rfl) | (rw [if_neg h24, dT (Int32.not_le.mp h31)]; rfl) | (rw [if_pos h24, if_pos h45, if_neg h60, dF (Int32.not_lt.mpr h75)]; rfl) | (rw [if_pos h24, if_pos h45, if_neg h60, dT (Int32.not_le.mp h75)]; rfl) | (rw [if_pos h24, if_pos h45, if_pos h60, dF (by omega)]; rfl) | (rw [if_pos h24, if_pos h45, if_pos h60, dT (by omega)]; rfl) | (rw [if_pos h24, if_neg h45, dF (by omega)]; rfl) | (rw [if_pos h24, if_neg h45, dT (by omega)]; rfl))
    · refine x_iconst (pc' := 35) rfl rfl (x_goto rfl ?_)
      refine x_zret rfl rfl (by decide) ?_
      exact rI (by unfold aM ahd; first | (rw [if_neg h24, dF (Int32.not_lt.mpr h31)]; rfl) | (rw [if_neg h24, dT (Int32.not_le.mp h31)]; rfl) | (rw [if_pos h24, if_pos h45, if_neg h60, dF (Int32.not_lt.mpr h75)]; rfl) | (rw [if_pos h24, if_pos h45, if_neg h60, dT (Int32.not_le.mp h75)]; rfl) | (rw [if_pos h24, if_pos h45, if_pos h60, dF (by omega)]; rfl) | (rw [if_pos h24, if_pos h45, if_pos h60, dT (by omega)]; rfl) | (rw [if_pos h24, if_neg h45, dF (by omega)]; rfl) | (rw [if_pos h24, if_neg h45, dT (by omega)]; rfl))
set_option maxRecDepth 20000 in
theorem l_X9_bestOf {l : Launch} {X : XT} {d Lz : Nat} {w : Nat → Nat → Nat → Nat → Int32} (x : Nat) (hx : x + 130 ≤ 4420) (s : Int32) (k : Nat) (hk : k < 3) (hr : w 9 0 1 (x + 46) = 0 ∨ w 9 0 1 (x + 46) = nI 1) (np : Nat) (hnp : w 9 0 0 6 = nI np) (hn7 : np ≤ 7) : ∀ (kk n : Nat),  n ≤ np → np + 1 ≤ n + kk → WP l X (d + 3) md_X9_bestOf (6, [some (.inr (.inr (9, 0, 0))), some (.inl (nI x)), some (.inl (s)), some (.inl (nI k)), some (.inl (oI (bst (has s) (aM w x k) n))), some (.inl (nI n))], [], mk Lz w) (fun v M' => v = some (.inl (oI (bst (has s) (aM w x k) np))) ∧ M' = mk Lz w) := by
  intro kk
  induction kk with
  | zero =>
    intro n h1 h2
    exact absurd h2 (by omega)
  | succ kk ih =>
    intro n hi1 hi2
    cases hb : bst (has s) (aM w x k) n with
    | none =>
      show WP l X _ md_X9_bestOf (6, [some (.inr (.inr (9, 0, 0))), some (.inl (nI x)), some (.inl (s)), some (.inl (nI k)), some (.inl (-1)), some (.inl (nI n))], [], _) _
      refine x_iload (pc' := 8) rfl rfl rfl (x_aload_n (pc' := 9) rfl rfl rfl (x_getI (pc' := 12) rfl rfl rfl ?_))
      rw [hnp]
      refine x_icmp_geN (pc' := 15) rfl rfl (by omega) (by omega) (fun h12 => ?_) (fun h12 => ?_)
      · refine x_iload (pc' := 55) rfl rfl rfl ?_
        refine x_iret rfl rfl ?_
        have e : n = np := by omega
        subst e
        rw [hb]
        exact rI rfl
      · refine x_iload_n (pc' := 16) rfl rfl rfl (x_iload (pc' := 18) rfl rfl rfl (x_invS2 (pc' := 21) rfl rfl rfl rfl rfl (c_X9_has _ _) ?_))
        refine x_if_eq (pc' := 24) rfl rfl (fun h21 => ?_) (fun h21 => ?_)
        · refine x_iinc5 (pc' := 50) rfl rfl rfl (nI_add _ _) (x_goto rfl ?_)
          first | exact WPc (ih (n + 1) (by omega) (by omega)) (by rw [bst_new hb (bq h21)]; rfl) rfl | exact WPc (ih (n + 1) (by omega) (by omega)) (by rw [bst_no (bI_eq0.mp h21), hb]; rfl) rfl
        · refine x_iload (pc' := 26) rfl rfl rfl (x_iconst (pc' := 27) rfl rfl ?_)
          refine x_icmp_eq (pc' := 30) rfl rfl (fun h27 => ?_) (fun h27 => absurd rfl h27)
          refine x_iload (pc' := 45) rfl rfl rfl (x_istore4 (pc' := 47) rfl rfl rfl (x_iinc5 (pc' := 50) rfl rfl rfl (nI_add _ _) (x_goto rfl ?_)))
          first | exact WPc (ih (n + 1) (by omega) (by omega)) (by rw [bst_new hb (bq h21)]; rfl) rfl | exact WPc (ih (n + 1) (by omega) (by omega)) (by rw [bst_no (bI_eq0.mp h21), hb]; rfl) rfl
    | some b =>
      have hbl := (bst_lt n b hb).1
      show WP l X _ md_X9_bestOf (6, [some (.inr (.inr (9, 0, 0))), some (.inl (nI x)), some (.inl (s)), some (.inl (nI k)), some (.inl (nI b)), some (.inl (nI n))], [], _) _
      refine x_iload (pc' := 8) rfl rfl rfl (x_aload_n (pc' := 9) rfl rfl rfl (x_getI (pc' := 12) rfl rfl rfl ?_))
      rw [hnp]
      refine x_icmp_geN (pc' := 15) rfl rfl (by omega) (by omega) (fun h12 => ?_) (fun h12 => ?_)
      · refine x_iload (pc' := 55) rfl rfl rfl ?_
        refine x_iret rfl rfl ?_
        have e : n = np := by omega
        subst e
        rw [hb]
        exact rI rfl
      · refine x_iload_n (pc' := 16) rfl rfl rfl (x_iload (pc' := 18) rfl rfl rfl (x_invS2 (pc' := 21) rfl rfl rfl rfl rfl (c_X9_has _ _) ?_))
        refine x_if_eq (pc' := 24) rfl rfl (fun h21 => ?_) (fun h21 => ?_)
        · refine x_iinc5 (pc' := 50) rfl rfl rfl (nI_add _ _) (x_goto rfl ?_)
          first | exact WPc (ih (n + 1) (by omega) (by omega)) (by rw [bst_up hb (bq h21) (bq h40)]; rfl) rfl | exact WPc (ih (n + 1) (by omega) (by omega)) (by rw [bst_keep hb (bI_eq0.mp h40)]; rfl) rfl | exact WPc (ih (n + 1) (by omega) (by omega)) (by rw [bst_no (bI_eq0.mp h21), hb]; rfl) rfl
        · refine x_iload (pc' := 26) rfl rfl rfl (x_iconst (pc' := 27) rfl rfl ?_)
          refine x_icmp_eq (pc' := 30) rfl rfl (fun h27 => absurd h27 (nI_ne1 (by omega))) (fun h27 => ?_)
          refine x_aload_n (pc' := 31) rfl rfl rfl (x_iload_n (pc' := 32) rfl rfl rfl (x_iload (pc' := 34) rfl rfl rfl (x_iload (pc' := 36) rfl rfl rfl (x_iload_n (pc' := 37) rfl rfl rfl (x_invI5 (pc' := 40) rfl rfl rfl rfl rfl rfl rfl (c_X9_isAhead x hx n b k (by omega) (by omega) hk hr) ?_)))))
          refine x_if_eq (pc' := 43) rfl rfl (fun h40 => ?_) (fun h40 => ?_)
          · refine x_iinc5 (pc' := 50) rfl rfl rfl (nI_add _ _) (x_goto rfl ?_)
            first | exact WPc (ih (n + 1) (by omega) (by omega)) (by rw [bst_up hb (bq h21) (bq h40)]; rfl) rfl | exact WPc (ih (n + 1) (by omega) (by omega)) (by rw [bst_keep hb (bI_eq0.mp h40)]; rfl) rfl | exact WPc (ih (n + 1) (by omega) (by omega)) (by rw [bst_no (bI_eq0.mp h21), hb]; rfl) rfl
          · refine x_iload (pc' := 45) rfl rfl rfl (x_istore4 (pc' := 47) rfl rfl rfl (x_iinc5 (pc' := 50) rfl rfl rfl (nI_add _ _) (x_goto rfl ?_)))
            first | exact WPc (ih (n + 1) (by omega) (by omega)) (by rw [bst_up hb (bq h21) (bq h40)]; rfl) rfl | exact WPc (ih (n + 1) (by omega) (by omega)) (by rw [bst_keep hb (bI_eq0.mp h40)]; rfl) rfl | exact WPc (ih (n + 1) (by omega) (by omega)) (by rw [bst_no (bI_eq0.mp h21), hb]; rfl) rfl
set_option maxRecDepth 20000 in
theorem c_X9_bestOf {l : Launch} {X : XT} {d Lz : Nat} {w : Nat → Nat → Nat → Nat → Int32} (x : Nat) (hx : x + 130 ≤ 4420) (s : Int32) (k : Nat) (hk : k < 3) (hr : w 9 0 1 (x + 46) = 0 ∨ w 9 0 1 (x + 46) = nI 1) (np : Nat) (hnp : w 9 0 0 6 = nI np) (hn7 : np ≤ 7) : CT l X (d + 3) md_X9_bestOf [.inr (.inr (9, 0, 0)), .inl (nI x), .inl (s), .inl (nI k)] (mk Lz w) (some (.inl (oI (bst (has s) (aM w x k) np)))) (mk Lz w) := by
  show WP l X _ md_X9_bestOf (0, [some (.inr (.inr (9, 0, 0))), some (.inl (nI x)), some (.inl (s)), some (.inl (nI k)), none, none], [], _) _
  refine x_iconst (pc' := 1) rfl rfl (x_istore4 (pc' := 3) rfl rfl rfl (x_iconst (pc' := 4) rfl rfl (x_istore5 (pc' := 6) rfl rfl rfl ?_)))
  exact l_X9_bestOf x hx s k hk hr np hnp hn7 (np + 1) 0 (by omega) (by omega)
abbrev LDM (w : WF) (x k np : Nat) : Option Nat := ldr (cM w x) (w 9 0 0 4) (w 9 0 2) (mM w x k) np
abbrev FSM (w : WF) (x k np : Nat) : Nat → Bool := fst' (cM w x) (w 9 0 0 4) (w 9 0 2) (mM w x k) np
abbrev SNM (w : WF) (x k np : Nat) : Option Nat := snd' (cM w x) (w 9 0 0 4) (w 9 0 2) (mM w x k) np
abbrev lkM (w : WF) (x k b : Nat) : Nat → Bool := fun p => cM w x p && decide (mM w x k p = mM w x k b)
theorem best_ld {w : WF} {x k np : Nat} (hn7 : np ≤ 7) : bst (has (enc (cM w x) np)) (aM w x k) np = LDM w x k np := bst_congr np (fun p hp => has_enc (by omega) hp) (fun _ _ _ _ => rfl)
theorem or_as (a b c : Int32) : a ||| b ||| c = a ||| (b ||| c) := by
  apply i32_ext
  intro i _
  rw [or_bit, or_bit, or_bit, or_bit, Bool.or_assoc]
theorem FSM_2 {w : WF} {x k np b : Nat} (hn7 : np ≤ 7) (hl : LDM w x k np = some b) (h2 : w 9 0 0 4 = nI 2) : (nI 1 <<< (nI b &&& 31)) ||| enc (lkM w x k b) np = enc (FSM w x k np) np := by
  have hb := bst_lt np b hl
  rw [enc_one (n := np) (by omega) hb.1, enc_or (by omega)]
  apply enc_congr
  intro p hp
  show (decide (p = b) || (cM w x p && decide (mM w x k p = mM w x k b))) = (match LDM w x k np with | none => false | some b => if w 9 0 0 4 = nI 2 then cM w x p && decide (mM w x k p = mM w x k b) else decide (p = b))
  rw [hl]
  show _ = (if w 9 0 0 4 = nI 2 then _ else _)
  rw [if_pos h2]
  by_cases e : p = b
  · subst e; rw [hb.2]; simp
  · simp [e]
theorem FSM_1 {w : WF} {x k np b : Nat} (hn7 : np ≤ 7) (hl : LDM w x k np = some b) (h2 : ¬ w 9 0 0 4 = nI 2) : (nI 1 <<< (nI b &&& 31)) = enc (FSM w x k np) np := by
  have hb := bst_lt np b hl
  rw [enc_one (n := np) (by omega) hb.1]
  apply enc_congr
  intro p hp
  show _ = (match LDM w x k np with | none => false | some b => if w 9 0 0 4 = nI 2 then cM w x p && decide (mM w x k p = mM w x k b) else decide (p = b))
  rw [hl]
  show _ = (if w 9 0 0 4 = nI 2 then _ else _)
  rw [if_neg h2]
theorem FSM_0 {w : WF} {x k np : Nat} (hl : LDM w x k np = none) : nI 0 = enc (FSM w x k np) np := by
  rw [← enc_none np]
  exact enc_congr np (fun p _ => (fst_none hl p).symm)
set_option maxRecDepth 20000 in
theorem l_X9_firstOnes0 {l : Launch} {X : XT} {d Lz : Nat} {w : Nat → Nat → Nat → Nat → Int32} (x : Nat) (hx : x + 130 ≤ 4420) (k : Nat) (hk : k < 3) (hr : w 9 0 1 (x + 46) = 0 ∨ w 9 0 1 (x + 46) = nI 1) (np : Nat) (hnp : w 9 0 0 6 = nI np) (hn7 : np ≤ 7) (hl : LDM w x k np = none) : ∀ (kk n : Nat),  n ≤ np → np + 1 ≤ n + kk → WP l X (d + 4) md_X9_firstOnes (34, [some (.inr (.inr (9, 0, 0))), some (.inl (nI x)), some (.inl (nI k)), some (.inl (enc (cM w x) np)), some (.inl (-1)), some (.inl (nI 0)), some (.inl (nI n))], [], mk Lz w) (fun v M' => v = some (.inl (enc (FSM w x k np) np)) ∧ M' = mk Lz w) := by
  intro kk
  induction kk with
  | zero =>
    intro n h1 h2
    exact absurd h2 (by omega)
  | succ kk ih =>
    intro n hi1 hi2
    refine x_iload (pc' := 36) rfl rfl rfl (x_aload_n (pc' := 37) rfl rfl rfl (x_getI (pc' := 40) rfl rfl rfl ?_))
    rw [hnp]
    refine x_icmp_geN (pc' := 43) rfl rfl (by omega) (by omega) (fun h40 => ?_) (fun h40 => ?_)
    · refine x_iload (pc' := 100) rfl rfl rfl ?_
      refine x_iret rfl rfl ?_
      exact rI (FSM_0 hl)
    · refine x_aload_n (pc' := 44) rfl rfl rfl (x_getI (pc' := 47) rfl rfl rfl (x_iconst (pc' := 48) rfl rfl ?_))
      refine x_icmp_ne (pc' := 51) rfl rfl (fun h48 => ?_) (fun h48 => ?_)
      · refine x_iload (pc' := 53) rfl rfl rfl (x_iload_n (pc' := 54) rfl rfl rfl (x_iload (pc' := 56) rfl rfl rfl (x_invS2 (pc' := 59) rfl rfl rfl rfl rfl (c_X9_has _ _) ?_)))
        rw [has_enc (by omega) (by omega), bst_some np hl n (by omega)]
        refine x_if_eq (pc' := 62) rfl rfl (fun h59 => ?_) (fun h59 => absurd rfl h59)
        refine x_iconst (pc' := 89) rfl rfl (x_ior (pc' := 90) rfl rfl (x_istore5 (pc' := 92) rfl rfl rfl (x_iinc6 (pc' := 95) rfl rfl rfl (nI_add _ _) (x_goto rfl ?_))))
        exact WPc (ih (n + 1) (by omega) (by omega)) (by rw [or_0]) rfl
      · refine x_iload (pc' := 100) rfl rfl rfl ?_
        refine x_iret rfl rfl ?_
        exact rI (FSM_0 hl)
set_option maxRecDepth 20000 in
theorem l_X9_firstOnes2 {l : Launch} {X : XT} {d Lz : Nat} {w : Nat → Nat → Nat → Nat → Int32} (x : Nat) (hx : x + 130 ≤ 4420) (k : Nat) (hk : k < 3) (hr : w 9 0 1 (x + 46) = 0 ∨ w 9 0 1 (x + 46) = nI 1) (np : Nat) (hnp : w 9 0 0 6 = nI np) (hn7 : np ≤ 7) (b : Nat) (hl : LDM w x k np = some b) (hb : b < np) (h2 : w 9 0 0 4 = nI 2) : ∀ (kk n : Nat),  n ≤ np → np + 1 ≤ n + kk → WP l X (d + 4) md_X9_firstOnes (34, [some (.inr (.inr (9, 0, 0))), some (.inl (nI x)), some (.inl (nI k)), some (.inl (enc (cM w x) np)), some (.inl (nI b)), some (.inl ((nI 1 <<< (nI b &&& 31)) ||| enc (lkM w x k b) n)), some (.inl (nI n))], [], mk Lz w) (fun v M' => v = some (.inl (enc (FSM w x k np) np)) ∧ M' = mk Lz w) := by
  intro kk
  induction kk with
  | zero =>
    intro n h1 h2
    exact absurd h2 (by omega)
  | succ kk ih =>
    intro n hi1 hi2
    refine x_iload (pc' := 36) rfl rfl rfl (x_aload_n (pc' := 37) rfl rfl rfl (x_getI (pc' := 40) rfl rfl rfl ?_))
    rw [hnp]
    refine x_icmp_geN (pc' := 43) rfl rfl (by omega) (by omega) (fun h40 => ?_) (fun h40 => ?_)
    · refine x_iload (pc' := 100) rfl rfl rfl ?_
      refine x_iret rfl rfl ?_
      first | exact rI (by rw [show n = np by omega]; exact FSM_2 hn7 hl h2) | exact absurd h2 h48
    · refine x_aload_n (pc' := 44) rfl rfl rfl (x_getI (pc' := 47) rfl rfl rfl (x_iconst (pc' := 48) rfl rfl ?_))
      refine x_icmp_ne (pc' := 51) rfl rfl (fun h48 => ?_) (fun h48 => ?_)
      · refine x_iload (pc' := 53) rfl rfl rfl (x_iload_n (pc' := 54) rfl rfl rfl (x_iload (pc' := 56) rfl rfl rfl (x_invS2 (pc' := 59) rfl rfl rfl rfl rfl (c_X9_has _ _) ?_)))
        rw [has_enc (by omega) (by omega)]
        refine x_if_eq (pc' := 62) rfl rfl (fun h59 => ?_) (fun h59 => ?_)
        · refine x_iconst (pc' := 89) rfl rfl (x_ior (pc' := 90) rfl rfl (x_istore5 (pc' := 92) rfl rfl rfl (x_iinc6 (pc' := 95) rfl rfl rfl (nI_add _ _) (x_goto rfl ?_))))
          first | exact WPc (ih (n + 1) (by omega) (by omega)) (by rw [or_as, enc_t (f := lkM w x k b) (n := n) (by show (_ && decide _) = true; rw [bq h59, dT h78]; rfl)]) rfl | exact WPc (ih (n + 1) (by omega) (by omega)) (by rw [or_0, enc_f (f := lkM w x k b) (n := n) (by show (cM w x n && _) = false; rw [bI_eq0.mp h59]; rfl)]) rfl | exact WPc (ih (n + 1) (by omega) (by omega)) (by rw [or_0, enc_f (f := lkM w x k b) (n := n) (by show (_ && decide (mM w x k n = mM w x k b)) = false; rw [dF h78]; simp)]) rfl
        · refine x_aload_n (pc' := 63) rfl rfl rfl (x_iload_n (pc' := 64) rfl rfl rfl (x_iload (pc' := 66) rfl rfl rfl (x_iload_n (pc' := 67) rfl rfl rfl (x_invI4 (pc' := 70) rfl rfl rfl rfl rfl rfl (c_X9_markIn x hx n k (by omega) hk hr) ?_))))
          refine x_aload_n (pc' := 71) rfl rfl rfl (x_iload_n (pc' := 72) rfl rfl rfl (x_iload (pc' := 74) rfl rfl rfl (x_iload_n (pc' := 75) rfl rfl rfl (x_invI4 (pc' := 78) rfl rfl rfl rfl rfl rfl (c_X9_markIn x hx b k (by omega) hk hr) ?_))))
          refine x_icmp_ne (pc' := 81) rfl rfl (fun h78 => ?_) (fun h78 => ?_)
          · refine x_iconst (pc' := 82) rfl rfl (x_iload (pc' := 84) rfl rfl rfl (x_ishl (pc' := 85) rfl rfl (x_goto rfl (x_ior (pc' := 90) rfl rfl (x_istore5 (pc' := 92) rfl rfl rfl ?_)))))
            refine x_iinc6 (pc' := 95) rfl rfl rfl (nI_add _ _) (x_goto rfl ?_)
            first | exact WPc (ih (n + 1) (by omega) (by omega)) (by rw [or_as, enc_t (f := lkM w x k b) (n := n) (by show (_ && decide _) = true; rw [bq h59, dT h78]; rfl)]) rfl | exact WPc (ih (n + 1) (by omega) (by omega)) (by rw [or_0, enc_f (f := lkM w x k b) (n := n) (by show (cM w x n && _) = false; rw [bI_eq0.mp h59]; rfl)]) rfl | exact WPc (ih (n + 1) (by omega) (by omega)) (by rw [or_0, enc_f (f := lkM w x k b) (n := n) (by show (_ && decide (mM w x k n = mM w x k b)) = false; rw [dF h78]; simp)]) rfl
          · refine x_iconst (pc' := 89) rfl rfl (x_ior (pc' := 90) rfl rfl (x_istore5 (pc' := 92) rfl rfl rfl (x_iinc6 (pc' := 95) rfl rfl rfl (nI_add _ _) (x_goto rfl ?_))))
            first | exact WPc (ih (n + 1) (by omega) (by omega)) (by rw [or_as, enc_t (f := lkM w x k b) (n := n) (by show (_ && decide _) = true; rw [bq h59, dT h78]; rfl)]) rfl | exact WPc (ih (n + 1) (by omega) (by omega)) (by rw [or_0, enc_f (f := lkM w x k b) (n := n) (by show (cM w x n && _) = false; rw [bI_eq0.mp h59]; rfl)]) rfl | exact WPc (ih (n + 1) (by omega) (by omega)) (by rw [or_0, enc_f (f := lkM w x k b) (n := n) (by show (_ && decide (mM w x k n = mM w x k b)) = false; rw [dF h78]; simp)]) rfl
      · refine x_iload (pc' := 100) rfl rfl rfl ?_
        refine x_iret rfl rfl ?_
        first | exact rI (by rw [show n = np by omega]; exact FSM_2 hn7 hl h2) | exact absurd h2 h48
set_option maxRecDepth 20000 in
theorem c_X9_firstOnes {l : Launch} {X : XT} {d Lz : Nat} {w : Nat → Nat → Nat → Nat → Int32} (x : Nat) (hx : x + 130 ≤ 4420) (k : Nat) (hk : k < 3) (hr : w 9 0 1 (x + 46) = 0 ∨ w 9 0 1 (x + 46) = nI 1) (np : Nat) (hnp : w 9 0 0 6 = nI np) (hn7 : np ≤ 7) : CT l X (d + 4) md_X9_firstOnes [.inr (.inr (9, 0, 0)), .inl (nI x), .inl (nI k)] (mk Lz w) (some (.inl (enc (FSM w x k np) np))) (mk Lz w) := by
  cases hl : LDM w x k np with
  | none =>
    show WP l X _ md_X9_firstOnes (0, [some (.inr (.inr (9, 0, 0))), some (.inl (nI x)), some (.inl (nI k)), none, none, none, none], [], _) _
    refine x_aload_n (pc' := 1) rfl rfl rfl (x_iload_n (pc' := 2) rfl rfl rfl (x_invI2 (pc' := 5) rfl rfl rfl rfl (c_X9_courtIn x hx np hnp hn7) ?_))
    refine x_istore_n3 (pc' := 6) rfl rfl rfl (x_aload_n (pc' := 7) rfl rfl rfl (x_iload_n (pc' := 8) rfl rfl rfl (x_iload_n (pc' := 9) rfl rfl rfl (x_iload_n (pc' := 10) rfl rfl rfl (x_invI4 (pc' := 13) rfl rfl rfl rfl rfl rfl (c_X9_bestOf x hx _ k hk hr np hnp hn7) ?_)))))
    rw [best_ld hn7, hl]
    refine x_istore4 (pc' := 15) rfl rfl rfl (x_iload (pc' := 17) rfl rfl rfl (x_iconst (pc' := 18) rfl rfl ?_))
    refine x_icmp_ne (pc' := 21) rfl rfl (fun h18 => ?_) (fun h18 => absurd rfl h18)
    refine x_iconst (pc' := 22) rfl rfl (x_goto rfl (x_istore5 (pc' := 31) rfl rfl rfl (x_iconst (pc' := 32) rfl rfl (x_istore6 (pc' := 34) rfl rfl rfl ?_))))
    exact l_X9_firstOnes0 x hx k hk hr np hnp hn7 hl (np + 1) 0 (by omega) (by omega)
  | some b =>
    have hb := (bst_lt np b hl).1
    by_cases h2 : w 9 0 0 4 = nI 2
    · show WP l X _ md_X9_firstOnes (0, [some (.inr (.inr (9, 0, 0))), some (.inl (nI x)), some (.inl (nI k)), none, none, none, none], [], _) _
      refine x_aload_n (pc' := 1) rfl rfl rfl (x_iload_n (pc' := 2) rfl rfl rfl (x_invI2 (pc' := 5) rfl rfl rfl rfl (c_X9_courtIn x hx np hnp hn7) ?_))
      refine x_istore_n3 (pc' := 6) rfl rfl rfl (x_aload_n (pc' := 7) rfl rfl rfl (x_iload_n (pc' := 8) rfl rfl rfl (x_iload_n (pc' := 9) rfl rfl rfl (x_iload_n (pc' := 10) rfl rfl rfl (x_invI4 (pc' := 13) rfl rfl rfl rfl rfl rfl (c_X9_bestOf x hx _ k hk hr np hnp hn7) ?_)))))
      rw [best_ld hn7, hl]
      refine x_istore4 (pc' := 15) rfl rfl rfl (x_iload (pc' := 17) rfl rfl rfl (x_iconst (pc' := 18) rfl rfl ?_))
      refine x_icmp_ne (pc' := 21) rfl rfl (fun h18 => absurd h18 (nI_ne1 (by omega))) (fun h18 => ?_)
      refine x_iconst (pc' := 26) rfl rfl (x_iload (pc' := 28) rfl rfl rfl (x_ishl (pc' := 29) rfl rfl (x_istore5 (pc' := 31) rfl rfl rfl (x_iconst (pc' := 32) rfl rfl (x_istore6 (pc' := 34) rfl rfl rfl ?_)))))
      exact WPc (l_X9_firstOnes2 x hx k hk hr np hnp hn7 b hl hb h2 (np + 1) 0 (by omega) (by omega)) (by rw [show enc (lkM w x k b) 0 = nI 0 from rfl, or_0]; rfl) rfl
    · show WP l X _ md_X9_firstOnes (0, [some (.inr (.inr (9, 0, 0))), some (.inl (nI x)), some (.inl (nI k)), none, none, none, none], [], _) _
      refine x_aload_n (pc' := 1) rfl rfl rfl (x_iload_n (pc' := 2) rfl rfl rfl (x_invI2 (pc' := 5) rfl rfl rfl rfl (c_X9_courtIn x hx np hnp hn7) ?_))
      refine x_istore_n3 (pc' := 6) rfl rfl rfl (x_aload_n (pc' := 7) rfl rfl rfl (x_iload_n (pc' := 8) rfl rfl rfl (x_iload_n (pc' := 9) rfl rfl rfl (x_iload_n (pc' := 10) rfl rfl rfl (x_invI4 (pc' := 13) rfl rfl rfl rfl rfl rfl (c_X9_bestOf x hx _ k hk hr np hnp hn7) ?_)))))
      rw [best_ld hn7, hl]
      refine x_istore4 (pc' := 15) rfl rfl rfl (x_iload (pc' := 17) rfl rfl rfl (x_iconst (pc' := 18) rfl rfl ?_))
      refine x_icmp_ne (pc' := 21) rfl rfl (fun h18 => absurd h18 (nI_ne1 (by omega))) (fun h18 => ?_)
      refine x_iconst (pc' := 26) rfl rfl (x_iload (pc' := 28) rfl rfl rfl (x_ishl (pc' := 29) rfl rfl (x_istore5 (pc' := 31) rfl rfl rfl (x_iconst (pc' := 32) rfl rfl (x_istore6 (pc' := 34) rfl rfl rfl ?_)))))
      refine x_iload (pc' := 36) rfl rfl rfl (x_aload_n (pc' := 37) rfl rfl rfl (x_getI (pc' := 40) rfl rfl rfl ?_))
      rw [hnp]
      refine x_icmp_ge (pc' := 43) rfl rfl (fun h40 => absurd h40 (by intro z; exact nI_ge (show 0 < np by omega) (by omega) z)) (fun h40 => ?_)
      refine x_aload_n (pc' := 44) rfl rfl rfl (x_getI (pc' := 47) rfl rfl rfl (x_iconst (pc' := 48) rfl rfl ?_))
      refine x_icmp_ne (pc' := 51) rfl rfl (fun h48 => absurd h48 h2) (fun h48 => ?_)
      refine x_iload (pc' := 100) rfl rfl rfl ?_
      refine x_iret rfl rfl ?_
      exact rI (FSM_1 hn7 hl h2)
set_option maxRecDepth 20000 in
theorem c_X9_secondOne {l : Launch} {X : XT} {d Lz : Nat} {w : Nat → Nat → Nat → Nat → Int32} (x : Nat) (hx : x + 130 ≤ 4420) (k : Nat) (hk : k < 3) (hr : w 9 0 1 (x + 46) = 0 ∨ w 9 0 1 (x + 46) = nI 1) (np : Nat) (hnp : w 9 0 0 6 = nI np) (hn7 : np ≤ 7) : CT l X (d + 5) md_X9_secondOne [.inr (.inr (9, 0, 0)), .inl (nI x), .inl (nI k)] (mk Lz w) (some (.inl (oI (SNM w x k np)))) (mk Lz w) := by
  show WP l X _ md_X9_secondOne (0, [some (.inr (.inr (9, 0, 0))), some (.inl (nI x)), some (.inl (nI k))], [], _) _
  refine x_aload_n (pc' := 1) rfl rfl rfl (x_iload_n (pc' := 2) rfl rfl rfl (x_aload_n (pc' := 3) rfl rfl rfl (x_iload_n (pc' := 4) rfl rfl rfl (x_invI2 (pc' := 7) rfl rfl rfl rfl (c_X9_courtIn x hx np hnp hn7) ?_))))
  refine x_aload_n (pc' := 8) rfl rfl rfl (x_iload_n (pc' := 9) rfl rfl rfl (x_iload_n (pc' := 10) rfl rfl rfl (x_invI3 (pc' := 13) rfl rfl rfl rfl rfl (c_X9_firstOnes x hx k hk hr np hnp hn7) ?_)))
  refine x_iconst (pc' := 14) rfl rfl (x_ixor (pc' := 15) rfl rfl (x_iand (pc' := 16) rfl rfl ?_))
  rw [enc_diff (by omega)]
  refine x_iload_n (pc' := 17) rfl rfl rfl (x_invI4 (pc' := 20) rfl rfl rfl rfl rfl rfl (c_X9_bestOf x hx _ k hk hr np hnp hn7) ?_)
  refine x_iret rfl rfl ?_
  exact rI (by rw [show bst (has (enc (fun p => cM w x p && !FSM w x k np p) np)) (aM w x k) np = SNM w x k np from bst_congr np (fun p hp => has_enc (by omega) hp) (fun _ _ _ _ => rfl)])
end
section
/-! the reference: a day -/
/-- all but the reference's long row is as it was -/
def fr9 (w w' : WF) : Prop := ∀ c i o q, ¬ (c = 9 ∧ i = 0 ∧ o = 1) → w' c i o q = w c i o q
theorem fr9.rf (w : WF) : fr9 w w := fun _ _ _ _ _ => rfl
theorem fr9.u {w w' : WF} (h : fr9 w w') (k : Nat) (v : Int32) : fr9 w (u4 w' 9 0 1 k v) := fun c i o q hq => by rw [u4_ne (ne3 hq)]; exact h c i o q hq
theorem fr9.tr {a b c : WF} (h : fr9 a b) (h2 : fr9 b c) : fr9 a c := fun x i o q hq => (h2 x i o q hq).trans (h x i o q hq)
def GOi (w : WF) (x p : Nat) (tm : Int32) (n : Nat) (w' : WF) : Prop := fr9 w w' ∧ (∀ q, ¬ (x + 28 ≤ q ∧ q < x + 35) → ¬ (x + 42 ≤ q ∧ q < x + 46) → w' 9 0 1 q = w 9 0 1 q) ∧ (∀ q, q < 7 → w' 9 0 1 (x + 28 + q) = if q = p then tm else w 9 0 1 (x + 28 + q)) ∧ (∀ q, q < n → w' 9 0 1 (x + 42 + q) = if w 9 0 1 (x + 42 + q) = nI p then -1 else w 9 0 1 (x + 42 + q)) ∧ (∀ q, n ≤ q → w' 9 0 1 (x + 42 + q) = w 9 0 1 (x + 42 + q))
theorem GOi_0 (w : WF) (x p : Nat) (hp : p < 7) (tm : Int32) : GOi w x p tm 0 (u4 w 9 0 1 (x + 28 + p) tm) := by
  refine ⟨(fr9.rf w).u _ _, fun q h1 h2 => ?_, fun q hq => ?_, fun q hq => absurd hq (by omega), fun q _ => ?_⟩
  · rw [u4_k (by omega)]
  · rw [u4_at]
    by_cases e : q = p
    · subst e; simp
    · rw [if_neg (by omega), if_neg e]
  · rw [u4_k (by omega)]
theorem GOi_s {w w' : WF} {x p n : Nat} {tm v : Int32} (hn : n < 4) (h : GOi w x p tm n w') (hv : v = if w 9 0 1 (x + 42 + n) = nI p then -1 else w 9 0 1 (x + 42 + n)) : GOi w x p tm (n + 1) (u4 w' 9 0 1 (x + 42 + n) v) := by
  obtain ⟨h1, h2, h3, h4, h5⟩ := h
  refine ⟨h1.u _ _, fun q a b => ?_, fun q hq => ?_, fun q hq => ?_, fun q hq => ?_⟩
  · rw [u4_k (by omega)]; exact h2 q a b
  · rw [u4_k (by omega)]; exact h3 q hq
  · rw [u4_at]
    by_cases e : q = n
    · subst e; rw [if_pos rfl]; exact hv
    · rw [if_neg (by omega)]; exact h4 q (by omega)
  · rw [u4_k (by omega)]; exact h5 q (by omega)
set_option maxRecDepth 20000 in
theorem l_X9_goOff {l : Launch} {X : XT} {d Lz : Nat} {w : Nat → Nat → Nat → Nat → Int32} (x : Nat) (hx : x + 130 ≤ 4420) (p : Nat) (hp : p < 7) (tm : Int32) (no : Nat) (hno : w 9 0 0 7 = nI no) (hn4 : no ≤ 4) : ∀ (kk n : Nat), ∀ (wn : WF), GOi w x p tm n wn →  n ≤ no → no + 1 ≤ n + kk → WP l X (d + 1) md_X9_goOff (17, [some (.inr (.inr (9, 0, 0))), some (.inl (nI x)), some (.inl (nI p)), some (.inl (nI n))], [], mk Lz wn) (fun v M' => v = none ∧ ∃ w', M' = mk Lz w' ∧ GOi w x p tm no w') := by
  intro kk
  induction kk with
  | zero =>
    intro n wn hi h1 h2
    exact absurd h2 (by omega)
  | succ kk ih =>
    intro n wn hi hi1 hi2
    refine x_iload_n (pc' := 18) rfl rfl rfl (x_aload_n (pc' := 19) rfl rfl rfl (x_getI (pc' := 22) rfl rfl rfl ?_))
    rw [hi.1 9 0 0 7 (by omega), hno]
    refine x_icmp_geN (pc' := 25) rfl rfl (by omega) (by omega) (fun h22 => ?_) (fun h22 => ?_)
    · refine x_vret rfl rfl ?_
      have e : n = no := by omega
      subst e
      exact ⟨rfl, _, rfl, hi⟩
    · refine x_aload_n (pc' := 26) rfl rfl rfl (x_getR (pc' := 29) (t := (9, _, 1)) rfl rfl rfl (x_iload_n (pc' := 30) rfl rfl rfl (x_bipush (pc' := 32) rfl rfl (x_iaddN (pc' := 33) rfl rfl (x_iload_n (pc' := 34) rfl rfl rfl ?_)))))
      refine x_iaddN (pc' := 35) rfl rfl (x_aload_n (pc' := 36) rfl rfl rfl (x_getR (pc' := 39) (t := (9, _, 1)) rfl rfl rfl (x_iload_n (pc' := 40) rfl rfl rfl (x_bipush (pc' := 42) rfl rfl (x_iaddN (pc' := 43) rfl rfl ?_)))))
      refine x_iload_n (pc' := 44) rfl rfl rfl (x_iaddN (pc' := 45) rfl rfl (x_iald (pc' := 46) (N := 4420) rfl rfl rfl rfl (by first | assumption | omega) (by decide) ?_))
      rw [hi.2.2.2.2 n (Nat.le_refl n)]
      refine x_iload_n (pc' := 47) rfl rfl rfl ?_
      refine x_icmp_ne (pc' := 50) rfl rfl (fun h47 => ?_) (fun h47 => ?_)
      · refine x_iconst (pc' := 51) rfl rfl (x_goto rfl (x_iast (pc' := 66) (N := 4420) rfl rfl rfl (by decide) rfl (by first | assumption | omega) (by decide) (x_iinc3 (pc' := 69) rfl rfl rfl (nI_add _ _) (x_goto rfl ?_))))
        first | exact ih (n + 1) _ (GOi_s (by omega) hi (by rw [if_pos h47])) (by omega) (by omega) | exact ih (n + 1) _ (GOi_s (by omega) hi (by rw [if_neg h47])) (by omega) (by omega)
      · refine x_aload_n (pc' := 55) rfl rfl rfl (x_getR (pc' := 58) (t := (9, _, 1)) rfl rfl rfl (x_iload_n (pc' := 59) rfl rfl rfl (x_bipush (pc' := 61) rfl rfl (x_iaddN (pc' := 62) rfl rfl (x_iload_n (pc' := 63) rfl rfl rfl ?_)))))
        refine x_iaddN (pc' := 64) rfl rfl (x_iald (pc' := 65) (N := 4420) rfl rfl rfl rfl (by first | assumption | omega) (by decide) ?_)
        rw [hi.2.2.2.2 n (Nat.le_refl n)]
        refine x_iast (pc' := 66) (N := 4420) rfl rfl rfl (by decide) rfl (by first | assumption | omega) (by decide) (x_iinc3 (pc' := 69) rfl rfl rfl (nI_add _ _) (x_goto rfl ?_))
        first | exact ih (n + 1) _ (GOi_s (by omega) hi (by rw [if_pos h47])) (by omega) (by omega) | exact ih (n + 1) _ (GOi_s (by omega) hi (by rw [if_neg h47])) (by omega) (by omega)
set_option maxRecDepth 20000 in
theorem c_X9_goOff {l : Launch} {X : XT} {d Lz : Nat} {w : Nat → Nat → Nat → Nat → Int32} (x : Nat) (hx : x + 130 ≤ 4420) (p : Nat) (hp : p < 7) (no : Nat) (hno : w 9 0 0 7 = nI no) (hn4 : no ≤ 4) : WP l X (d + 1) md_X9_goOff (en md_X9_goOff [.inr (.inr (9, 0, 0)), .inl (nI x), .inl (nI p)] (mk Lz w)) (fun v M' => v = none ∧ ∃ w', M' = mk Lz w' ∧ GOi w x p (w 9 0 0 5) no w') := by
  show WP l X _ md_X9_goOff (0, [some (.inr (.inr (9, 0, 0))), some (.inl (nI x)), some (.inl (nI p)), none], [], _) _
  refine x_aload_n (pc' := 1) rfl rfl rfl (x_getR (pc' := 4) (t := (9, _, 1)) rfl rfl rfl (x_iload_n (pc' := 5) rfl rfl rfl (x_bipush (pc' := 7) rfl rfl (x_iaddN (pc' := 8) rfl rfl (x_iload_n (pc' := 9) rfl rfl rfl ?_)))))
  refine x_iaddN (pc' := 10) rfl rfl (x_aload_n (pc' := 11) rfl rfl rfl (x_getI (pc' := 14) rfl rfl rfl (x_iast (pc' := 15) (N := 4420) rfl rfl rfl (by decide) rfl (by first | assumption | omega) (by decide) (x_iconst (pc' := 16) rfl rfl (x_istore_n3 (pc' := 17) rfl rfl rfl ?_)))))
  exact l_X9_goOff x hx p hp (w 9 0 0 5) no hno hn4 (no + 1) 0 _ (GOi_0 w x p hp _) (by omega) (by omega)
set_option maxRecDepth 20000 in
theorem l_X9_least {l : Launch} {X : XT} {d : Nat} {M : Mem} (F : Nat → Bool) (np lp : Nat) (hn7 : np ≤ 7) (hl : lp < np) (hF : F lp = true) (hm : ∀ q, q < lp → F q = false) : ∀ (kk n : Nat),  n ≤ lp → lp + 1 ≤ n + kk → WP l X (d + 2) md_X9_least (2, [some (.inl (enc F np)), some (.inl (nI n))], [], M) (fun v M' => v = some (.inl (nI lp)) ∧ M' = M) := by
  intro kk
  induction kk with
  | zero =>
    intro n h1 h2
    exact absurd h2 (by omega)
  | succ kk ih =>
    intro n hi1 hi2
    refine x_iload_n (pc' := 3) rfl rfl rfl (x_iload_n (pc' := 4) rfl rfl rfl (x_invS2 (pc' := 7) rfl rfl rfl rfl rfl (c_X9_has _ _) ?_))
    rw [has_enc (by omega) (by omega)]
    refine x_if_ne (pc' := 10) rfl rfl (fun h7 => ?_) (fun h7 => ?_)
    · refine x_iinc1 (pc' := 13) rfl rfl rfl (nI_add _ _) (x_goto rfl ?_)
      have hlt : n < lp := by rcases Nat.lt_or_ge n lp with z | z; exact z; exact absurd (show F n = true by rw [show n = lp by omega]; exact hF) (by rw [bI_eq0.mp h7]; decide)
      exact ih (n + 1) (by omega) (by omega)
    · refine x_iload_n (pc' := 17) rfl rfl rfl ?_
      refine x_iret rfl rfl ?_
      exact rI (by rw [show n = lp by rcases Nat.lt_or_ge n lp with z | z; exact absurd (hm n z) (by rw [bq h7]; decide); omega])
set_option maxRecDepth 20000 in
theorem c_X9_least {l : Launch} {X : XT} {d : Nat} {M : Mem} (F : Nat → Bool) (np lp : Nat) (hn7 : np ≤ 7) (hl : lp < np) (hF : F lp = true) (hm : ∀ q, q < lp → F q = false) : CT l X (d + 2) md_X9_least [.inl (enc F np)] (M) (some (.inl (nI lp))) (M) := by
  show WP l X _ md_X9_least (0, [some (.inl (enc F np)), none], [], _) _
  refine x_iconst (pc' := 1) rfl rfl (x_istore_n1 (pc' := 2) rfl rfl rfl ?_)
  exact l_X9_least F np lp hn7 hl hF hm (lp + 1) 0 (by omega) (by omega)
theorem z0 {n : Nat} (h : nI n = 0) (h12 : n ≤ 12) : n = 0 := by
  rcases Nat.eq_zero_or_pos n with e | e
  · exact e
  · exact absurd h (nI_ne0 e (by omega))
theorem z1 {n : Nat} (h : ¬ nI n = 0) : ¬ n = 0 := fun e => h (by rw [e]; rfl)
set_option maxRecDepth 20000 in
theorem c_X9_kindOf {l : Launch} {X : XT} {d Lz : Nat} {w : Nat → Nat → Nat → Nat → Int32} (nt kk : Nat) (hnt : w 9 0 0 8 = nI nt) (h12 : nt ≤ 12) (hkk : kk < 2 ^ 31) : CT l X (d + 1) md_X9_kindOf [.inr (.inr (9, 0, 0)), .inl (nI kk)] (mk Lz w) (some (.inl (kdV (w 9 0 4) nt kk))) (mk Lz w) := by
  show WP l X _ md_X9_kindOf (0, [some (.inr (.inr (9, 0, 0))), some (.inl (nI kk))], [], _) _
  refine x_aload_n (pc' := 1) rfl rfl rfl (x_getI (pc' := 4) rfl rfl rfl ?_)
  rw [hnt]
  refine x_if_ne (pc' := 7) rfl rfl (fun h4 => ?_) (fun h4 => ?_)
  · refine x_iconst (pc' := 8) rfl rfl (x_goto rfl ?_)
    refine x_iret rfl rfl ?_
    exact rI (by unfold kdV; first | rw [if_pos (z0 h4 h12)] | rw [if_neg (z1 h4)])
  · refine x_aload_n (pc' := 12) rfl rfl rfl (x_getR (pc' := 15) (t := (9, _, 4)) rfl rfl rfl (x_iload_n (pc' := 16) rfl rfl rfl (x_aload_n (pc' := 17) rfl rfl rfl (x_getI (pc' := 20) rfl rfl rfl ?_))))
    rw [hnt]
    refine x_iremN (pc' := 21) rfl rfl (by have := z1 h4; omega) (by omega) (by omega) (x_iald (pc' := 22) (N := 12) rfl rfl rfl rfl (by have := Nat.mod_lt kk (show 0 < nt by have := z1 h4; omega); omega) (by decide) ?_)
    refine x_iret rfl rfl ?_
    exact rI (by unfold kdV; first | rw [if_pos (z0 h4 h12)] | rw [if_neg (z1 h4)])
def LSi (w : WF) (x n : Nat) (w' : WF) : Prop := fr9 w w' ∧ (∀ q, ¬ (x + 49 ≤ q ∧ q < x + 129) → w' 9 0 1 q = w 9 0 1 q) ∧ (∀ q, q + 4 < n → w' 9 0 1 (x + 49 + q) = w 9 0 1 (x + 49 + (q + 4))) ∧ (∀ q, n ≤ q + 4 → w' 9 0 1 (x + 49 + q) = w 9 0 1 (x + 49 + q))
theorem LSi_0 (w : WF) (x : Nat) : LSi w x 4 w := ⟨fr9.rf w, fun _ _ => rfl, fun q hq => absurd hq (by omega), fun _ _ => rfl⟩
theorem LSi_s {w w' : WF} {x n : Nat} (h4 : 4 ≤ n) (h80 : n < 80) (h : LSi w x n w') : LSi w x (n + 1) (u4 w' 9 0 1 (x + 49 + n - 4) (w' 9 0 1 (x + 49 + n))) := by
  obtain ⟨h1, h2, h3, h5⟩ := h
  refine ⟨h1.u _ _, fun q hq => ?_, fun q hq => ?_, fun q hq => ?_⟩
  · rw [u4_k (by omega)]; exact h2 q hq
  · rw [u4_at]
    by_cases e : q + 4 = n
    · rw [if_pos (by omega), h5 n (by omega)]; rw [← e]
    · rw [if_neg (by omega)]; exact h3 q (by omega)
  · rw [u4_k (by omega)]; exact h5 q (by omega)
/-- where a new entry goes: all entries, when there are 20 -/
def lcn (lc : Nat) : Nat := if lc = 20 then 19 else lc
/-- what an entry leaves -/
def LGM (w : WF) (x lc : Nat) (dy kd a b : Int32) (w' : WF) : Prop := fr9 w w' ∧ (∀ q, ¬ (x + 48 ≤ q ∧ q < x + 129) → w' 9 0 1 q = w 9 0 1 q) ∧ w' 9 0 1 (x + 48) = nI (lcn lc + 1) ∧ (∀ q, q < 4 * lcn lc → w' 9 0 1 (x + 49 + q) = w 9 0 1 (x + 49 + (if lc = 20 then q + 4 else q))) ∧ w' 9 0 1 (x + 49 + 4 * lcn lc) = dy ∧ w' 9 0 1 (x + 49 + (4 * lcn lc + 1)) = kd ∧ w' 9 0 1 (x + 49 + (4 * lcn lc + 2)) = a ∧ w' 9 0 1 (x + 49 + (4 * lcn lc + 3)) = b
theorem LGM_of {w wn : WF} {x lc : Nat} {dy kd a b : Int32} (hl : lc ≤ 20) (hf : fr9 w wn) (h48 : wn 9 0 1 (x + 48) = nI (lcn lc)) (hq : ∀ q, ¬ (x + 48 ≤ q ∧ q < x + 129) → wn 9 0 1 q = w 9 0 1 q) (he : ∀ q, q < 4 * lcn lc → wn 9 0 1 (x + 49 + q) = w 9 0 1 (x + 49 + (if lc = 20 then q + 4 else q))) : LGM w x lc dy kd a b (u4 (u4 (u4 (u4 (u4 wn 9 0 1 (x + 49 + 4 * lcn lc) dy) 9 0 1 (x + 49 + 4 * lcn lc + 1) kd) 9 0 1 (x + 49 + 4 * lcn lc + 2) a) 9 0 1 (x + 49 + 4 * lcn lc + 3) b) 9 0 1 (x + 48) (nI (lcn lc + 1))) := by
  have hc : lcn lc ≤ 19 := by unfold lcn; split <;> omega
  refine ⟨((((hf.u _ _).u _ _).u _ _).u _ _).u _ _, fun q h => ?_, u4_self _ _ _ _ _ _, fun q h => ?_, ?_, ?_, ?_, ?_⟩
  · rw [u4_k (by omega), u4_k (by omega), u4_k (by omega), u4_k (by omega), u4_k (by omega)]; exact hq q h
  · rw [u4_k (by omega), u4_k (by omega), u4_k (by omega), u4_k (by omega), u4_k (by omega)]; exact he q h
  · rw [u4_k (by omega), u4_k (by omega), u4_k (by omega), u4_k (by omega), u4_self]
  · rw [u4_k (by omega), u4_k (by omega), u4_k (by omega), show x + 49 + (4 * lcn lc + 1) = x + 49 + 4 * lcn lc + 1 by omega, u4_self]
  · rw [u4_k (by omega), u4_k (by omega), show x + 49 + (4 * lcn lc + 2) = x + 49 + 4 * lcn lc + 2 by omega, u4_self]
  · rw [u4_k (by omega), show x + 49 + (4 * lcn lc + 3) = x + 49 + 4 * lcn lc + 3 by omega, u4_self]
set_option maxRecDepth 20000 in
theorem r_X9_logIn {l : Launch} {X : XT} {d Lz : Nat} {w : Nat → Nat → Nat → Nat → Int32} (x : Nat) (hx : x + 130 ≤ 4420) (lc : Nat) (hlc : w 9 0 1 (x + 48) = nI lc) (hl : lc ≤ 20) (kd a b : Int32) (wn : WF) (hf : fr9 w wn) (h48 : wn 9 0 1 (x + 48) = nI (lcn lc)) (hq : ∀ q, ¬ (x + 48 ≤ q ∧ q < x + 129) → wn 9 0 1 q = w 9 0 1 q) (he : ∀ q, q < 4 * lcn lc → wn 9 0 1 (x + 49 + q) = w 9 0 1 (x + 49 + (if lc = 20 then q + 4 else q))) (z : Option AV) : WP l X (d + 1) md_X9_logIn (69, [some (.inr (.inr (9, 0, 0))), some (.inl (nI x)), some (.inl (kd)), some (.inl (a)), some (.inl (b)), z], [], mk Lz wn) (fun v M' => v = none ∧ ∃ w', M' = mk Lz w' ∧ LGM w x lc (w 9 0 1 (x + 47)) kd a b w') := by
  have hc : lcn lc ≤ 19 := by unfold lcn; split <;> omega
  refine x_iload_n (pc' := 70) rfl rfl rfl (x_bipush (pc' := 72) rfl rfl (x_iaddN (pc' := 73) rfl rfl (x_iconst (pc' := 74) rfl rfl (x_aload_n (pc' := 75) rfl rfl rfl (x_getR (pc' := 78) (t := (9, _, 1)) rfl rfl rfl ?_)))))
  refine x_iload_n (pc' := 79) rfl rfl rfl (x_bipush (pc' := 81) rfl rfl (x_iaddN (pc' := 82) rfl rfl (x_iald (pc' := 83) (N := 4420) rfl rfl rfl rfl (by first | assumption | omega) (by decide) ?_)))
  rw [h48]
  refine x_imulN (pc' := 84) rfl rfl (x_iaddN (pc' := 85) rfl rfl (x_istore5 (pc' := 87) rfl rfl rfl (x_aload_n (pc' := 88) rfl rfl rfl (x_getR (pc' := 91) (t := (9, _, 1)) rfl rfl rfl (x_iload (pc' := 93) rfl rfl rfl ?_)))))
  refine x_aload_n (pc' := 94) rfl rfl rfl (x_getR (pc' := 97) (t := (9, _, 1)) rfl rfl rfl (x_iload_n (pc' := 98) rfl rfl rfl (x_bipush (pc' := 100) rfl rfl (x_iaddN (pc' := 101) rfl rfl (x_iald (pc' := 102) (N := 4420) rfl rfl rfl rfl (by first | assumption | omega) (by decide) ?_)))))
  rw [hq (x + 47) (by omega)]
  refine x_iast (pc' := 103) (N := 4420) rfl rfl rfl (by decide) rfl (by first | assumption | omega) (by decide) (x_aload_n (pc' := 104) rfl rfl rfl (x_getR (pc' := 107) (t := (9, _, 1)) rfl rfl rfl (x_iload (pc' := 109) rfl rfl rfl (x_iconst (pc' := 110) rfl rfl (x_iaddN (pc' := 111) rfl rfl ?_)))))
  refine x_iload_n (pc' := 112) rfl rfl rfl (x_iast (pc' := 113) (N := 4420) rfl rfl rfl (by decide) rfl (by first | assumption | omega) (by decide) (x_aload_n (pc' := 114) rfl rfl rfl (x_getR (pc' := 117) (t := (9, _, 1)) rfl rfl rfl (x_iload (pc' := 119) rfl rfl rfl (x_iconst (pc' := 120) rfl rfl ?_)))))
  refine x_iaddN (pc' := 121) rfl rfl (x_iload_n (pc' := 122) rfl rfl rfl (x_iast (pc' := 123) (N := 4420) rfl rfl rfl (by decide) rfl (by first | assumption | omega) (by decide) (x_aload_n (pc' := 124) rfl rfl rfl (x_getR (pc' := 127) (t := (9, _, 1)) rfl rfl rfl (x_iload (pc' := 129) rfl rfl rfl ?_)))))
  refine x_iconst (pc' := 130) rfl rfl (x_iaddN (pc' := 131) rfl rfl (x_iload (pc' := 133) rfl rfl rfl (x_iast (pc' := 134) (N := 4420) rfl rfl rfl (by decide) rfl (by first | assumption | omega) (by decide) (x_aload_n (pc' := 135) rfl rfl rfl (x_getR (pc' := 138) (t := (9, _, 1)) rfl rfl rfl ?_)))))
  refine x_iload_n (pc' := 139) rfl rfl rfl (x_bipush (pc' := 141) rfl rfl (x_iaddN (pc' := 142) rfl rfl (x_dup2 (pc' := 143) rfl rfl rfl (x_iald (pc' := 144) (N := 4420) rfl rfl rfl rfl (by first | assumption | omega) (by decide) ?_))))
  rw [u4_k (by omega), u4_k (by omega), u4_k (by omega), u4_k (by omega), h48]
  refine x_iconst (pc' := 145) rfl rfl (x_iaddN (pc' := 146) rfl rfl (x_iast (pc' := 147) (N := 4420) rfl rfl rfl (by decide) rfl (by first | assumption | omega) (by decide) ?_))
  refine x_vret rfl rfl ?_
  exact ⟨rfl, _, rfl, LGM_of hl hf h48 hq he⟩
set_option maxRecDepth 20000 in
theorem l_X9_logIn {l : Launch} {X : XT} {d Lz : Nat} {w : Nat → Nat → Nat → Nat → Int32} (x : Nat) (hx : x + 130 ≤ 4420) (lc : Nat) (hlc : w 9 0 1 (x + 48) = nI lc) (hl : lc ≤ 20) (kd a b : Int32) (h20 : lc = 20) : ∀ (kk n : Nat), ∀ (wn : WF), LSi w x n wn → 4 ≤ n →  n ≤ 80 → 80 + 1 ≤ n + kk → WP l X (d + 1) md_X9_logIn (17, [some (.inr (.inr (9, 0, 0))), some (.inl (nI x)), some (.inl (kd)), some (.inl (a)), some (.inl (b)), some (.inl (nI n))], [], mk Lz wn) (fun v M' => v = none ∧ ∃ w', M' = mk Lz w' ∧ LGM w x lc (w 9 0 1 (x + 47)) kd a b w') := by
  intro kk
  induction kk with
  | zero =>
    intro n wn hi h4 h1 h2
    exact absurd h2 (by omega)
  | succ kk ih =>
    intro n wn hi h4 hi1 hi2
    refine x_iload (pc' := 19) rfl rfl rfl (x_bipush (pc' := 21) rfl rfl ?_)
    refine x_icmp_geN (pc' := 24) rfl rfl (by omega) (by omega) (fun h21 => ?_) (fun h21 => ?_)
    · refine x_aload_n (pc' := 57) rfl rfl rfl (x_getR (pc' := 60) (t := (9, _, 1)) rfl rfl rfl (x_iload_n (pc' := 61) rfl rfl rfl (x_bipush (pc' := 63) rfl rfl (x_iaddN (pc' := 64) rfl rfl (x_dup2 (pc' := 65) rfl rfl rfl ?_)))))
      refine x_iald (pc' := 66) (N := 4420) rfl rfl rfl rfl (by first | assumption | omega) (by decide) ?_
      rw [hi.2.1 (x + 48) (by omega), show w 9 0 1 (x + 48) = nI 20 by rw [hlc, h20]]
      refine x_iconst (pc' := 67) rfl rfl (x_isubN (pc' := 68) rfl rfl (by first | assumption | omega) (x_iast (pc' := 69) (N := 4420) rfl rfl rfl (by decide) rfl (by first | assumption | omega) (by decide) ?_))
      have e : n = 80 := by omega
      subst e
      have hcn : lcn lc = 19 := by unfold lcn; rw [if_pos h20]
      refine r_X9_logIn x hx lc hlc hl kd a b _ (hi.1.u _ _) (by rw [u4_self, hcn]) (fun q h => ?_) (fun q h => ?_) _
      · rw [u4_k (by omega)]; exact hi.2.1 q (by omega)
      · rw [u4_k (by omega), if_pos h20]; exact hi.2.2.1 q (by omega)
    · refine x_aload_n (pc' := 25) rfl rfl rfl (x_getR (pc' := 28) (t := (9, _, 1)) rfl rfl rfl (x_iload_n (pc' := 29) rfl rfl rfl (x_bipush (pc' := 31) rfl rfl (x_iaddN (pc' := 32) rfl rfl (x_iload (pc' := 34) rfl rfl rfl ?_)))))
      refine x_iaddN (pc' := 35) rfl rfl (x_iconst (pc' := 36) rfl rfl (x_isubN (pc' := 37) rfl rfl (by first | assumption | omega) (x_aload_n (pc' := 38) rfl rfl rfl (x_getR (pc' := 41) (t := (9, _, 1)) rfl rfl rfl (x_iload_n (pc' := 42) rfl rfl rfl ?_)))))
      refine x_bipush (pc' := 44) rfl rfl (x_iaddN (pc' := 45) rfl rfl (x_iload (pc' := 47) rfl rfl rfl (x_iaddN (pc' := 48) rfl rfl (x_iald (pc' := 49) (N := 4420) rfl rfl rfl rfl (by first | assumption | omega) (by decide) (x_iast (pc' := 50) (N := 4420) rfl rfl rfl (by decide) rfl (by first | assumption | omega) (by decide) ?_)))))
      refine x_iinc5 (pc' := 53) rfl rfl rfl (nI_add _ _) (x_goto rfl ?_)
      exact ih (n + 1) _ (LSi_s (by omega) (by omega) hi) (by omega) (by omega) (by omega)
set_option maxRecDepth 20000 in
theorem c_X9_logIn {l : Launch} {X : XT} {d Lz : Nat} {w : Nat → Nat → Nat → Nat → Int32} (x : Nat) (hx : x + 130 ≤ 4420) (lc : Nat) (hlc : w 9 0 1 (x + 48) = nI lc) (hl : lc ≤ 20) (kd a b : Int32) : WP l X (d + 1) md_X9_logIn (en md_X9_logIn [.inr (.inr (9, 0, 0)), .inl (nI x), .inl (kd), .inl (a), .inl (b)] (mk Lz w)) (fun v M' => v = none ∧ ∃ w', M' = mk Lz w' ∧ LGM w x lc (w 9 0 1 (x + 47)) kd a b w') := by
  show WP l X _ md_X9_logIn (0, [some (.inr (.inr (9, 0, 0))), some (.inl (nI x)), some (.inl (kd)), some (.inl (a)), some (.inl (b)), none], [], _) _
  refine x_aload_n (pc' := 1) rfl rfl rfl (x_getR (pc' := 4) (t := (9, _, 1)) rfl rfl rfl (x_iload_n (pc' := 5) rfl rfl rfl (x_bipush (pc' := 7) rfl rfl (x_iaddN (pc' := 8) rfl rfl (x_iald (pc' := 9) (N := 4420) rfl rfl rfl rfl (by first | assumption | omega) (by decide) ?_)))))
  rw [hlc]
  refine x_bipush (pc' := 11) rfl rfl ?_
  refine x_icmp_neN (pc' := 14) rfl rfl (by omega) (by omega) (fun h11 => ?_) (fun h11 => ?_)
  · refine x_iconst (pc' := 15) rfl rfl (x_istore5 (pc' := 17) rfl rfl rfl ?_)
    exact l_X9_logIn x hx lc hlc hl kd a b h11 80 4 _ (LSi_0 w x) (by omega) (by omega) (by omega)
  · have hcn : lcn lc = lc := by unfold lcn; rw [if_neg h11]
    exact r_X9_logIn x hx lc hlc hl kd a b w (fr9.rf w) (by rw [hcn]; exact hlc) (fun _ _ => rfl) (fun q _ => by rw [if_neg h11]) _
end
section
/-! the reference: a day, together -/
def STm (w : WF) (x : Nat) (F : Nat → Bool) (tm : Int32) (no n : Nat) (w' : WF) : Prop := fr9 w w' ∧ (∀ q, ¬ (x + 28 ≤ q ∧ q < x + 35) → ¬ (x + 42 ≤ q ∧ q < x + 46) → w' 9 0 1 q = w 9 0 1 q) ∧ (∀ q, q < 7 → w' 9 0 1 (x + 28 + q) = if q < n ∧ F q = true then tm else w 9 0 1 (x + 28 + q)) ∧ (∀ q, q < no → w' 9 0 1 (x + 42 + q) = ho1 (fun o => w 9 0 1 (x + 42 + o)) F n q)
theorem STm_0 (w : WF) (x : Nat) (F : Nat → Bool) (tm : Int32) (no : Nat) : STm w x F tm no 0 w := ⟨fr9.rf w, fun _ _ _ => rfl, fun q _ => by rw [if_neg (by omega)], fun _ _ => rfl⟩
theorem STm_t {w w' w2 : WF} {x n no : Nat} {F : Nat → Bool} {tm : Int32} (h : STm w x F tm no n w') (hF : F n = true) (ht : GOi w' x n tm no w2) : STm w x F tm no (n + 1) w2 := by
  obtain ⟨h1, h2, h3, h4⟩ := h
  obtain ⟨t1, t2, t3, t4, -⟩ := ht
  refine ⟨h1.tr t1, fun q a b => by rw [t2 q a b]; exact h2 q a b, fun q hq => ?_, fun q hq => ?_⟩
  · rw [t3 q hq]
    by_cases z : q = n
    · subst z; rw [if_pos rfl, if_pos ⟨by omega, hF⟩]
    · rw [if_neg z, h3 q hq]
      by_cases z2 : q < n ∧ F q = true
      · rw [if_pos z2, if_pos ⟨by omega, z2.2⟩]
      · rw [if_neg z2, if_neg (fun y => z2 ⟨by omega, y.2⟩)]
  · rw [t4 q hq, h4 q hq]
    show _ = if F n = true ∧ ho1 (fun o => w 9 0 1 (x + 42 + o)) F n q = nI n then -1 else ho1 (fun o => w 9 0 1 (x + 42 + o)) F n q
    by_cases z : ho1 (fun o => w 9 0 1 (x + 42 + o)) F n q = nI n
    · rw [if_pos z, if_pos ⟨hF, z⟩]
    · rw [if_neg z, if_neg (fun y => z y.2)]
theorem STm_f {w w' : WF} {x n no : Nat} {F : Nat → Bool} {tm : Int32} (h : STm w x F tm no n w') (hF : F n = false) : STm w x F tm no (n + 1) w' := by
  obtain ⟨h1, h2, h3, h4⟩ := h
  refine ⟨h1, h2, fun q hq => ?_, fun q hq => ?_⟩
  · rw [h3 q hq]
    by_cases z2 : q < n ∧ F q = true
    · rw [if_pos z2, if_pos ⟨by omega, z2.2⟩]
    · rw [if_neg z2, if_neg (fun y => ?_)]
      by_cases z : q = n
      · subst z; rw [hF] at y; cases y.2
      · exact z2 ⟨by omega, y.2⟩
  · rw [h4 q hq]
    show _ = if F n = true ∧ ho1 (fun o => w 9 0 1 (x + 42 + o)) F n q = nI n then -1 else ho1 (fun o => w 9 0 1 (x + 42 + o)) F n q
    rw [if_neg (fun y => by rw [hF] at y; cases y.1)]
def PHi (w : WF) (x s k n : Nat) (w' : WF) : Prop := fr9 w w' ∧ (∀ q, ¬ (x + 42 ≤ q ∧ q < x + 46) → w' 9 0 1 q = w 9 0 1 q) ∧ (∀ q, q < n → w' 9 0 1 (x + 42 + q) = if w 9 0 3 q = nI k then nI s else w 9 0 1 (x + 42 + q)) ∧ (∀ q, n ≤ q → w' 9 0 1 (x + 42 + q) = w 9 0 1 (x + 42 + q))
theorem PHi_0 (w : WF) (x s k : Nat) : PHi w x s k 0 w := ⟨fr9.rf w, fun _ _ => rfl, fun q hq => absurd hq (by omega), fun _ _ => rfl⟩
theorem PHi_s {w w' : WF} {x s k n : Nat} {v : Int32} (hn : n < 4) (h : PHi w x s k n w') (hv : v = if w 9 0 3 n = nI k then nI s else w 9 0 1 (x + 42 + n)) : PHi w x s k (n + 1) (u4 w' 9 0 1 (x + 42 + n) v) := by
  obtain ⟨h1, h2, h4, h5⟩ := h
  refine ⟨h1.u _ _, fun q a => ?_, fun q hq => ?_, fun q hq => ?_⟩
  · rw [u4_k (by omega)]; exact h2 q a
  · rw [u4_at]
    by_cases e : q = n
    · subst e; rw [if_pos rfl]; exact hv
    · rw [if_neg (by omega)]; exact h4 q (by omega)
  · rw [u4_k (by omega)]; exact h5 q (by omega)
/-- being made, in the reference -/
def PMm (w : WF) (x s k no : Nat) (w' : WF) : Prop := fr9 w w' ∧ (∀ q, ¬ q < x + 21 ∨ q < x → ¬ (x + 35 ≤ q ∧ q < x + 46) → w' 9 0 1 q = w 9 0 1 q) ∧ (∀ q, q < no → w' 9 0 1 (x + 42 + q) = if w 9 0 3 q = nI k then nI s else w 9 0 1 (x + 42 + q)) ∧ (∀ q, q < 7 → w' 9 0 1 (x + 35 + q) = if q = s then w 9 0 1 (x + 35 + q) + nI 1 else w 9 0 1 (x + 35 + q)) ∧ (∀ q, q < 21 → w' 9 0 1 (x + q) = if q = s * 3 + k then mxI (nI 0) (w 9 0 1 (x + q) - nI 1) else w 9 0 1 (x + q))
theorem mx_dec {g : Int32} {v : Nat} (hv : v ≤ 9) (hg : g = nI v) : mxI (nI 0) (g - nI 1) = if g ≤ 0 then nI 0 else g - nI 1 := by
  subst hg
  exact (by decide : ∀ v, v ≤ 9 → mxI (nI 0) (nI v - nI 1) = if nI v ≤ 0 then nI 0 else nI v - nI 1) v hv
theorem PMm_of {w wn : WF} {x s k no : Nat} {g : Int32} (hs : s < 7) (hk : k < 3) (h4 : no ≤ 4) (h : PHi w x s k no wn) (hg : g = mxI (nI 0) (w 9 0 1 (x + (s * 3 + k)) - nI 1)) : PMm w x s k no (u4 (u4 wn 9 0 1 (x + 35 + s) (wn 9 0 1 (x + 35 + s) + nI 1)) 9 0 1 (x + 3 * s + k) g) := by
  obtain ⟨h1, h2, h3, h5⟩ := h
  refine ⟨(h1.u _ _).u _ _, fun q a b => ?_, fun q hq => ?_, fun q hq => ?_, fun q hq => ?_⟩
  · rw [u4_k (by omega), u4_k (by omega)]; exact h2 q (by omega)
  · rw [u4_k (by omega), u4_k (by omega)]; exact h3 q hq
  · rw [u4_k (by omega), u4_at, h2 _ (by omega), h2 _ (by omega)]
    by_cases e : q = s
    · subst e; simp
    · rw [if_neg (by omega), if_neg e]
  · rw [u4_at]
    by_cases e : q = s * 3 + k
    · rw [if_pos (by omega), if_pos e, hg, e]
    · rw [if_neg (by omega), if_neg e, u4_k (by omega)]; exact h2 _ (by omega)
/-- what a contest leaves in a row -/
def SEm (w : WF) (x k np no lc : Nat) (F : Nat → Bool) (a b : Int32) (S : Option Nat) (w' : WF) : Prop := fr9 w w' ∧ (∀ q, q < x ∨ x + 129 ≤ q → w' 9 0 1 q = w 9 0 1 q) ∧ (∀ q, q < 7 → w' 9 0 1 (x + 21 + q) = w 9 0 1 (x + 21 + q)) ∧ (∀ q, q < 7 → w' 9 0 1 (x + 28 + q) = if q < np ∧ F q = true then w 9 0 0 5 else w 9 0 1 (x + 28 + q)) ∧ (∀ q, q < 7 → w' 9 0 1 (x + 35 + q) = if S = some q then w 9 0 1 (x + 35 + q) + nI 1 else w 9 0 1 (x + 35 + q)) ∧ (∀ q, q < 21 → w' 9 0 1 (x + q) = gf2 (fun q => w 9 0 1 (x + q)) S k q) ∧ (∀ q, q < no → w' 9 0 1 (x + 42 + q) = ho2 (fun q => w 9 0 1 (x + 42 + q)) (w 9 0 3) F S k np q) ∧ w' 9 0 1 (x + 46) = w 9 0 1 (x + 46) ∧ w' 9 0 1 (x + 47) = w 9 0 1 (x + 47) ∧ (w' 9 0 1 (x + 48) = nI (lcn lc + 1) ∧ (∀ q, q < 4 * lcn lc → w' 9 0 1 (x + 49 + q) = w 9 0 1 (x + 49 + (if lc = 20 then q + 4 else q))) ∧ w' 9 0 1 (x + 49 + 4 * lcn lc) = w 9 0 1 (x + 47) ∧ w' 9 0 1 (x + 49 + (4 * lcn lc + 1)) = nI k ∧ w' 9 0 1 (x + 49 + (4 * lcn lc + 2)) = a ∧ w' 9 0 1 (x + 49 + (4 * lcn lc + 3)) = b)
theorem SEm_of0 {w wn w' : WF} {x k np no lc : Nat} {F : Nat → Bool} {a b : Int32} (h4 : no ≤ 4) (hl : lc ≤ 20) (h : STm w x F (w 9 0 0 5) no np wn) (hg : LGM wn x lc (wn 9 0 1 (x + 47)) (nI k) a b w') : SEm w x k np no lc F a b none w' := by
  obtain ⟨h1, h2, h3, h5⟩ := h
  obtain ⟨g1, g2, g3, g4, g5, g6, g7, g8⟩ := hg
  have hc : lcn lc ≤ 19 := by unfold lcn; split <;> omega
  refine ⟨h1.tr g1, fun q hq => ?_, fun q hq => ?_, fun q hq => ?_, fun q hq => ?_, fun q hq => ?_, fun q hq => ?_, ?_, ?_, g3, fun q hq => ?_, ?_, g6, g7, g8⟩
  · rw [g2 q (by omega)]; exact h2 q (by omega) (by omega)
  · rw [g2 _ (by omega)]; exact h2 _ (by omega) (by omega)
  · rw [g2 _ (by omega)]; exact h3 q hq
  · rw [g2 _ (by omega), h2 _ (by omega) (by omega), if_neg (by intro z; cases z)]
  · rw [g2 _ (by omega), h2 _ (by omega) (by omega)]; rfl
  · rw [g2 _ (by omega), h5 q hq]; rfl
  · rw [g2 _ (by omega), h2 _ (by omega) (by omega)]
  · rw [g2 _ (by omega), h2 _ (by omega) (by omega)]
  · rw [g4 q hq, h2 _ (by omega) (by omega)]
  · rw [g5, h2 _ (by omega) (by omega)]
theorem SEm_of1 {w wn w3 w' : WF} {x k np no lc s : Nat} {F : Nat → Bool} {a b : Int32} (h4 : no ≤ 4) (hl : lc ≤ 20) (h : STm w x F (w 9 0 0 5) no np wn) (hp : PMm wn x s k no w3) (hg : LGM w3 x lc (w3 9 0 1 (x + 47)) (nI k) a b w') : SEm w x k np no lc F a b (some s) w' := by
  obtain ⟨h1, h2, h3, h5⟩ := h
  obtain ⟨p1, p2, p3, p4, p5⟩ := hp
  obtain ⟨g1, g2, g3, g4, g5, g6, g7, g8⟩ := hg
  have hc : lcn lc ≤ 19 := by unfold lcn; split <;> omega
  refine ⟨(h1.tr p1).tr g1, fun q hq => ?_, fun q hq => ?_, fun q hq => ?_, fun q hq => ?_, fun q hq => ?_, fun q hq => ?_, ?_, ?_, g3, fun q hq => ?_, ?_, g6, g7, g8⟩
  · rw [g2 q (by omega), p2 q (by omega) (by omega)]; exact h2 q (by omega) (by omega)
  · rw [g2 _ (by omega), p2 _ (by omega) (by omega)]; exact h2 _ (by omega) (by omega)
  · rw [g2 _ (by omega), p2 _ (by omega) (by omega)]; exact h3 q hq
  · rw [g2 _ (by omega), p4 q hq, h2 _ (by omega) (by omega)]
    by_cases z : q = s
    · subst z; simp
    · rw [if_neg z, if_neg (fun y => z (by cases y; rfl))]
  · rw [g2 _ (by omega), p5 q hq, h2 _ (by omega) (by omega)]; rfl
  · rw [g2 _ (by omega), p3 q hq, h5 q hq, h1 9 0 3 q (by omega)]; rfl
  · rw [g2 _ (by omega), p2 _ (by omega) (by omega), h2 _ (by omega) (by omega)]
  · rw [g2 _ (by omega), p2 _ (by omega) (by omega), h2 _ (by omega) (by omega)]
  · rw [g4 q hq, p2 _ (by omega) (by omega), h2 _ (by omega) (by omega)]
  · rw [g5, p2 _ (by omega) (by omega), h2 _ (by omega) (by omega)]
/-- the leader is the least of the first ones -/
theorem ldr_least {co : Nat → Bool} {law : Int32} {dr mk : Nat → Int32} (h2 : law = nI 2) : ∀ n b, bst co (ahd law dr mk) n = some b → ∀ q, q < n → co q = true → (mk q ≤ mk b ∧ (mk q = mk b → b ≤ q))
  | 0, b, h, q, hq, _ => by omega
  | n + 1, b, h, q, hq, hc => by
    have h1 : ¬ law = nI 1 := by rw [h2]; decide
    cases hb : bst co (ahd law dr mk) n with
    | none =>
      have hn := bst_some n hb
      by_cases e : q = n
      · subst e
        rw [bst_new hb hc] at h
        cases h
        exact ⟨Int32.le_refl _, fun _ => Nat.le_refl _⟩
      · rw [hn q (by omega)] at hc; cases hc
    | some c =>
      have ih := ldr_least (dr := dr) h2 n c hb
      have hcl := bst_lt n c hb
      cases hs : co n with
      | false =>
        rw [bst_no hs, hb] at h
        cases h
        by_cases e : q = n
        · subst e; rw [hs] at hc; cases hc
        · exact ih q (by omega) hc
      | true =>
        cases ha : ahd law dr mk n c with
        | true =>
          rw [bst_up hb hs ha] at h
          cases h
          unfold ahd at ha
          by_cases em : mk n = mk c
          · rw [if_pos em, if_neg h1] at ha
            have := of_decide_eq_true ha
            omega
          · rw [if_neg em] at ha
            have hlt : mk c < mk n := of_decide_eq_true ha
            by_cases e : q = n
            · subst e; exact ⟨Int32.le_refl _, fun _ => Nat.le_refl _⟩
            · have := (ih q (by omega) hc).1
              have h3 : mk q < mk n := Int32.lt_of_le_of_lt this hlt
              exact ⟨Int32.le_of_lt h3, fun z => absurd h3 (by rw [z]; exact Int32.lt_irrefl)⟩
        | false =>
          rw [bst_keep hb ha] at h
          cases h
          by_cases e : q = n
          · subst e
            unfold ahd at ha
            by_cases em : mk q = mk b
            · exact ⟨by rw [em]; exact Int32.le_refl _, fun _ => by omega⟩
            · rw [if_neg em] at ha
              have := of_decide_eq_false ha
              exact ⟨Int32.not_lt.mp this, fun z => absurd z em⟩
          · exact ih q (by omega) hc
theorem fst_least {co : Nat → Bool} {law : Int32} {dr mk : Nat → Int32} {np b : Nat} (h : ldr co law dr mk np = some b) : b < np ∧ fst' co law dr mk np b = true ∧ ∀ q, q < b → fst' co law dr mk np q = false := by
  have hb := bst_lt np b h
  unfold fst'
  rw [h]
  refine ⟨hb.1, ?_, fun q hq => ?_⟩
  · show (if law = nI 2 then co b && decide (mk b = mk b) else decide (b = b)) = true
    split
    · rw [hb.2]; simp
    · simp
  · show (if law = nI 2 then co q && decide (mk q = mk b) else decide (q = b)) = false
    split
    · rename_i h2
      cases hc : co q with
      | false => rfl
      | true =>
        have := ldr_least h2 np b h q (by omega) hc
        have hne : ¬ mk q = mk b := fun z => by have := this.2 z; omega
        simp [hne]
    · simp; omega
set_option maxRecDepth 20000 in
theorem r_X9_contest0 {l : Launch} {X : XT} {d Lz : Nat} {w : Nat → Nat → Nat → Nat → Int32} (x : Nat) (hx : x + 130 ≤ 4420) (k : Nat) (hk : k < 3) (hr : w 9 0 1 (x + 46) = 0 ∨ w 9 0 1 (x + 46) = nI 1) (np : Nat) (hnp : w 9 0 0 6 = nI np) (hn7 : np ≤ 7) (no : Nat) (hno : w 9 0 0 7 = nI no) (hn4 : no ≤ 4) (lc : Nat) (hlc : w 9 0 1 (x + 48) = nI lc) (hl : lc ≤ 20) (hg : ∀ q, q < 21 → ∃ v, v ≤ 9 ∧ w 9 0 1 (x + q) = nI v) (L : Nat) (hL : LDM w x k np = some L) (wn : WF) (hi : STm w x (FSM w x k np) (w 9 0 0 5) no np wn) (hS : SNM w x k np = none) (z : Option AV) : WP l X (d + 3) md_X9_contestIn (49, [some (.inr (.inr (9, 0, 0))), some (.inl (nI x)), some (.inl (nI k)), some (.inl (enc (FSM w x k np) np)), some (.inl (-1)), z], [], mk Lz wn) (fun v M' => v = none ∧ ∃ w', M' = mk Lz w' ∧ SEm w x k np no lc (FSM w x k np) (nI L) (oI (SNM w x k np)) (SNM w x k np) w') := by
  refine x_iload (pc' := 51) rfl rfl rfl (x_iconst (pc' := 52) rfl rfl ?_)
  refine x_icmp_eq (pc' := 55) rfl rfl (fun h52 => ?_) (fun h52 => absurd rfl h52)
  refine x_aload_n (pc' := 170) rfl rfl rfl (x_iload_n (pc' := 171) rfl rfl rfl (x_iload_n (pc' := 172) rfl rfl rfl (x_iload_n (pc' := 173) rfl rfl rfl (x_invS1 (pc' := 176) rfl rfl rfl rfl (c_X9_least (FSM w x k np) np L hn7 (fst_least hL).1 (fst_least hL).2.1 (fst_least hL).2.2) ?_))))
  refine x_iload (pc' := 178) rfl rfl rfl (x_invQ5 (pc' := 181) rfl rfl rfl rfl rfl rfl rfl (c_X9_logIn x hx lc (by rw [hi.2.1 _ (by omega) (by omega)]; exact hlc) hl (nI k) (nI L) (-1)) (fun vq Mq hq178 => ?_))
  obtain ⟨rfl, w4, rfl, hg4⟩ := hq178
  show WP l X _ md_X9_contestIn (181, _, [], _) _
  refine x_vret rfl rfl ?_
  exact ⟨rfl, _, rfl, by rw [hS]; exact SEm_of0 hn4 hl hi hg4⟩
set_option maxRecDepth 20000 in
theorem r_X9_contest2 {l : Launch} {X : XT} {d Lz : Nat} {w : Nat → Nat → Nat → Nat → Int32} (x : Nat) (hx : x + 130 ≤ 4420) (k : Nat) (hk : k < 3) (hr : w 9 0 1 (x + 46) = 0 ∨ w 9 0 1 (x + 46) = nI 1) (np : Nat) (hnp : w 9 0 0 6 = nI np) (hn7 : np ≤ 7) (no : Nat) (hno : w 9 0 0 7 = nI no) (hn4 : no ≤ 4) (lc : Nat) (hlc : w 9 0 1 (x + 48) = nI lc) (hl : lc ≤ 20) (hg : ∀ q, q < 21 → ∃ v, v ≤ 9 ∧ w 9 0 1 (x + q) = nI v) (L : Nat) (hL : LDM w x k np = some L) (wn : WF) (hi : STm w x (FSM w x k np) (w 9 0 0 5) no np wn) (s : Nat) (hS : SNM w x k np = some s) (hs : s < np) (wm : WF) (hm : PHi wn x s k no wm) (g : Int32) (hgg : g = mxI (nI 0) (wn 9 0 1 (x + (s * 3 + k)) - nI 1)) (z : Option AV) : WP l X (d + 3) md_X9_contestIn (169, [some (.inr (.inr (9, 0, 0))), some (.inl (nI x)), some (.inl (nI k)), some (.inl (enc (FSM w x k np) np)), some (.inl (nI s)), z], [], mk Lz (u4 (u4 wm 9 0 1 (x + 35 + s) (wm 9 0 1 (x + 35 + s) + nI 1)) 9 0 1 (x + 3 * s + k) g)) (fun v M' => v = none ∧ ∃ w', M' = mk Lz w' ∧ SEm w x k np no lc (FSM w x k np) (nI L) (oI (SNM w x k np)) (SNM w x k np) w') := by
  have hpm := PMm_of (by omega) hk hn4 hm hgg
  refine x_aload_n (pc' := 170) rfl rfl rfl (x_iload_n (pc' := 171) rfl rfl rfl (x_iload_n (pc' := 172) rfl rfl rfl (x_iload_n (pc' := 173) rfl rfl rfl (x_invS1 (pc' := 176) rfl rfl rfl rfl (c_X9_least (FSM w x k np) np L hn7 (fst_least hL).1 (fst_least hL).2.1 (fst_least hL).2.2) ?_))))
  refine x_iload (pc' := 178) rfl rfl rfl (x_invQ5 (pc' := 181) rfl rfl rfl rfl rfl rfl rfl (c_X9_logIn x hx lc (by rw [hpm.2.1 _ (by omega) (by omega), hi.2.1 _ (by omega) (by omega)]; exact hlc) hl (nI k) (nI L) (nI s)) (fun vq Mq hq178 => ?_))
  obtain ⟨rfl, w4, rfl, hg4⟩ := hq178
  show WP l X _ md_X9_contestIn (181, _, [], _) _
  refine x_vret rfl rfl ?_
  exact ⟨rfl, _, rfl, by rw [hS]; exact SEm_of1 hn4 hl hi hpm hg4⟩
set_option maxRecDepth 20000 in
theorem r_X9_contest1 {l : Launch} {X : XT} {d Lz : Nat} {w : Nat → Nat → Nat → Nat → Int32} (x : Nat) (hx : x + 130 ≤ 4420) (k : Nat) (hk : k < 3) (hr : w 9 0 1 (x + 46) = 0 ∨ w 9 0 1 (x + 46) = nI 1) (np : Nat) (hnp : w 9 0 0 6 = nI np) (hn7 : np ≤ 7) (no : Nat) (hno : w 9 0 0 7 = nI no) (hn4 : no ≤ 4) (lc : Nat) (hlc : w 9 0 1 (x + 48) = nI lc) (hl : lc ≤ 20) (hg : ∀ q, q < 21 → ∃ v, v ≤ 9 ∧ w 9 0 1 (x + q) = nI v) (L : Nat) (hL : LDM w x k np = some L) (wn : WF) (hi : STm w x (FSM w x k np) (w 9 0 0 5) no np wn) (s : Nat) (hS : SNM w x k np = some s) (hs : s < np) (wm : WF) (hm : PHi wn x s k no wm) (z : Option AV) : WP l X (d + 3) md_X9_contestIn (113, [some (.inr (.inr (9, 0, 0))), some (.inl (nI x)), some (.inl (nI k)), some (.inl (enc (FSM w x k np) np)), some (.inl (nI s)), z], [], mk Lz wm) (fun v M' => v = none ∧ ∃ w', M' = mk Lz w' ∧ SEm w x k np no lc (FSM w x k np) (nI L) (oI (SNM w x k np)) (SNM w x k np) w') := by
  obtain ⟨v, hv, hgv⟩ := hg (s * 3 + k) (by omega)
  have hgn : wm 9 0 1 (x + 3 * s + k) = nI v := by rw [i3, hm.2.1 _ (by omega), hi.2.1 _ (by omega) (by omega)]; exact hgv
  have hwn : wn 9 0 1 (x + (s * 3 + k)) = nI v := by rw [hi.2.1 _ (by omega) (by omega)]; exact hgv
  refine x_aload_n (pc' := 114) rfl rfl rfl (x_getR (pc' := 117) (t := (9, _, 1)) rfl rfl rfl (x_iload_n (pc' := 118) rfl rfl rfl (x_bipush (pc' := 120) rfl rfl (x_iaddN (pc' := 121) rfl rfl (x_iload (pc' := 123) rfl rfl rfl ?_)))))
  refine x_iaddN (pc' := 124) rfl rfl (x_dup2 (pc' := 125) rfl rfl rfl (x_iald (pc' := 126) (N := 4420) rfl rfl rfl rfl (by first | assumption | omega) (by decide) (x_iconst (pc' := 127) rfl rfl (x_iadd (pc' := 128) rfl rfl (x_iast (pc' := 129) (N := 4420) rfl rfl rfl (by decide) rfl (by first | assumption | omega) (by decide) ?_)))))
  refine x_iload_n (pc' := 130) rfl rfl rfl (x_iconst (pc' := 131) rfl rfl (x_iload (pc' := 133) rfl rfl rfl (x_imulN (pc' := 134) rfl rfl (x_iaddN (pc' := 135) rfl rfl (x_iload_n (pc' := 136) rfl rfl rfl ?_)))))
  refine x_iaddN (pc' := 137) rfl rfl (x_istore5 (pc' := 139) rfl rfl rfl (x_aload_n (pc' := 140) rfl rfl rfl (x_getR (pc' := 143) (t := (9, _, 1)) rfl rfl rfl (x_iload (pc' := 145) rfl rfl rfl (x_aload_n (pc' := 146) rfl rfl rfl ?_)))))
  refine x_getR (pc' := 149) (t := (9, _, 1)) rfl rfl rfl (x_iload (pc' := 151) rfl rfl rfl (x_iald (pc' := 152) (N := 4420) rfl rfl rfl rfl (by first | assumption | omega) (by decide) ?_))
  rw [u4_k (by omega), hgn]
  refine x_if_le (pc' := 155) rfl rfl (fun h152 => ?_) (fun h152 => ?_)
  · refine x_iconst (pc' := 168) rfl rfl (x_iast (pc' := 169) (N := 4420) rfl rfl rfl (by decide) rfl (by first | assumption | omega) (by decide) ?_)
    refine r_X9_contest2 x hx k hk hr np hnp hn7 no hno hn4 lc hlc hl hg L hL wn hi s hS hs wm hm _ ?_ _
    rw [hwn, mx_dec hv rfl]
    first | rw [if_pos h152] | rw [if_neg h152]
  · refine x_aload_n (pc' := 156) rfl rfl rfl (x_getR (pc' := 159) (t := (9, _, 1)) rfl rfl rfl (x_iload (pc' := 161) rfl rfl rfl (x_iald (pc' := 162) (N := 4420) rfl rfl rfl rfl (by first | assumption | omega) (by decide) ?_)))
    rw [u4_k (by omega), hgn]
    refine x_iconst (pc' := 163) rfl rfl (x_isub (pc' := 164) rfl rfl (x_goto rfl (x_iast (pc' := 169) (N := 4420) rfl rfl rfl (by decide) rfl (by first | assumption | omega) (by decide) ?_)))
    refine r_X9_contest2 x hx k hk hr np hnp hn7 no hno hn4 lc hlc hl hg L hL wn hi s hS hs wm hm _ ?_ _
    rw [hwn, mx_dec hv rfl]
    first | rw [if_pos h152] | rw [if_neg h152]
set_option maxRecDepth 20000 in
theorem l_X9_contestO {l : Launch} {X : XT} {d Lz : Nat} {w : Nat → Nat → Nat → Nat → Int32} (x : Nat) (hx : x + 130 ≤ 4420) (k : Nat) (hk : k < 3) (hr : w 9 0 1 (x + 46) = 0 ∨ w 9 0 1 (x + 46) = nI 1) (np : Nat) (hnp : w 9 0 0 6 = nI np) (hn7 : np ≤ 7) (no : Nat) (hno : w 9 0 0 7 = nI no) (hn4 : no ≤ 4) (lc : Nat) (hlc : w 9 0 1 (x + 48) = nI lc) (hl : lc ≤ 20) (hg : ∀ q, q < 21 → ∃ v, v ≤ 9 ∧ w 9 0 1 (x + q) = nI v) (L : Nat) (hL : LDM w x k np = some L) (wn : WF) (hi : STm w x (FSM w x k np) (w 9 0 0 5) no np wn) (s : Nat) (hS : SNM w x k np = some s) (hs : s < np) : ∀ (kk n : Nat), ∀ (wm : WF), PHi wn x s k n wm →  n ≤ no → no + 1 ≤ n + kk → WP l X (d + 3) md_X9_contestIn (58, [some (.inr (.inr (9, 0, 0))), some (.inl (nI x)), some (.inl (nI k)), some (.inl (enc (FSM w x k np) np)), some (.inl (nI s)), some (.inl (nI n))], [], mk Lz wm) (fun v M' => v = none ∧ ∃ w', M' = mk Lz w' ∧ SEm w x k np no lc (FSM w x k np) (nI L) (oI (SNM w x k np)) (SNM w x k np) w') := by
  intro kk
  induction kk with
  | zero =>
    intro n wm hm h1 h2
    exact absurd h2 (by omega)
  | succ kk ih =>
    intro n wm hm hi1 hi2
    refine x_iload (pc' := 60) rfl rfl rfl (x_aload_n (pc' := 61) rfl rfl rfl (x_getI (pc' := 64) rfl rfl rfl ?_))
    rw [hm.1 9 0 0 7 (by omega), hi.1 9 0 0 7 (by omega), hno]
    refine x_icmp_geN (pc' := 67) rfl rfl (by omega) (by omega) (fun h64 => ?_) (fun h64 => ?_)
    · have e : n = no := by omega
      subst e
      exact r_X9_contest1 x hx k hk hr np hnp hn7 n hno hn4 lc hlc hl hg L hL wn hi s hS hs wm hm _
    · refine x_aload_n (pc' := 68) rfl rfl rfl (x_getR (pc' := 71) (t := (9, _, 1)) rfl rfl rfl (x_iload_n (pc' := 72) rfl rfl rfl (x_bipush (pc' := 74) rfl rfl (x_iaddN (pc' := 75) rfl rfl (x_iload (pc' := 77) rfl rfl rfl ?_)))))
      refine x_iaddN (pc' := 78) rfl rfl (x_aload_n (pc' := 79) rfl rfl rfl (x_getR (pc' := 82) (t := (9, _, 3)) rfl rfl rfl (x_iload (pc' := 84) rfl rfl rfl (x_iald (pc' := 85) (N := 4) rfl rfl rfl rfl (by first | assumption | omega) (by decide) ?_))))
      rw [hm.1 9 0 3 n (by omega)]
      refine x_iload_n (pc' := 86) rfl rfl rfl ?_
      refine x_icmp_ne (pc' := 89) rfl rfl (fun h86 => ?_) (fun h86 => ?_)
      · refine x_iload (pc' := 91) rfl rfl rfl (x_goto rfl (x_iast (pc' := 107) (N := 4420) rfl rfl rfl (by decide) rfl (by first | assumption | omega) (by decide) (x_iinc5 (pc' := 110) rfl rfl rfl (nI_add _ _) (x_goto rfl ?_))))
        first | exact ih (n + 1) _ (PHi_s (by omega) hm (by rw [if_pos h86])) (by omega) (by omega) | exact ih (n + 1) _ (PHi_s (by omega) hm (by rw [if_neg h86])) (by omega) (by omega)
      · refine x_aload_n (pc' := 95) rfl rfl rfl (x_getR (pc' := 98) (t := (9, _, 1)) rfl rfl rfl (x_iload_n (pc' := 99) rfl rfl rfl (x_bipush (pc' := 101) rfl rfl (x_iaddN (pc' := 102) rfl rfl (x_iload (pc' := 104) rfl rfl rfl ?_)))))
        refine x_iaddN (pc' := 105) rfl rfl (x_iald (pc' := 106) (N := 4420) rfl rfl rfl rfl (by first | assumption | omega) (by decide) ?_)
        rw [hm.2.2.2 n (Nat.le_refl n)]
        refine x_iast (pc' := 107) (N := 4420) rfl rfl rfl (by decide) rfl (by first | assumption | omega) (by decide) (x_iinc5 (pc' := 110) rfl rfl rfl (nI_add _ _) (x_goto rfl ?_))
        first | exact ih (n + 1) _ (PHi_s (by omega) hm (by rw [if_pos h86])) (by omega) (by omega) | exact ih (n + 1) _ (PHi_s (by omega) hm (by rw [if_neg h86])) (by omega) (by omega)
set_option maxRecDepth 20000 in
theorem l_X9_contestP {l : Launch} {X : XT} {d Lz : Nat} {w : Nat → Nat → Nat → Nat → Int32} (x : Nat) (hx : x + 130 ≤ 4420) (k : Nat) (hk : k < 3) (hr : w 9 0 1 (x + 46) = 0 ∨ w 9 0 1 (x + 46) = nI 1) (np : Nat) (hnp : w 9 0 0 6 = nI np) (hn7 : np ≤ 7) (no : Nat) (hno : w 9 0 0 7 = nI no) (hn4 : no ≤ 4) (lc : Nat) (hlc : w 9 0 1 (x + 48) = nI lc) (hl : lc ≤ 20) (hg : ∀ q, q < 21 → ∃ v, v ≤ 9 ∧ w 9 0 1 (x + q) = nI v) (L : Nat) (hL : LDM w x k np = some L) : ∀ (kk n : Nat), ∀ (wn : WF), STm w x (FSM w x k np) (w 9 0 0 5) no n wn →  n ≤ np → np + 1 ≤ n + kk → WP l X (d + 3) md_X9_contestIn (18, [some (.inr (.inr (9, 0, 0))), some (.inl (nI x)), some (.inl (nI k)), some (.inl (enc (FSM w x k np) np)), some (.inl (oI (SNM w x k np))), some (.inl (nI n))], [], mk Lz wn) (fun v M' => v = none ∧ ∃ w', M' = mk Lz w' ∧ SEm w x k np no lc (FSM w x k np) (nI L) (oI (SNM w x k np)) (SNM w x k np) w') := by
  intro kk
  induction kk with
  | zero =>
    intro n wn hi h1 h2
    exact absurd h2 (by omega)
  | succ kk ih =>
    intro n wn hi hi1 hi2
    refine x_iload (pc' := 20) rfl rfl rfl (x_aload_n (pc' := 21) rfl rfl rfl (x_getI (pc' := 24) rfl rfl rfl ?_))
    rw [hi.1 9 0 0 6 (by omega), hnp]
    refine x_icmp_geN (pc' := 27) rfl rfl (by omega) (by omega) (fun h24 => ?_) (fun h24 => ?_)
    · have e : n = np := by omega
      subst e
      have hcs : SNM w x k n = none ∨ ∃ s, SNM w x k n = some s := by
        cases SNM w x k n with
        | none => exact Or.inl rfl
        | some s => exact Or.inr ⟨s, rfl⟩
      rcases hcs with hS | ⟨s, hS⟩
      · exact WPc (r_X9_contest0 x hx k hk hr n hnp hn7 no hno hn4 lc hlc hl hg L hL wn hi hS _) (by rw [hS]; rfl) rfl
      · have hs : s < n := (bst_lt n s hS).1
        refine WPc (L' := [some (.inr (.inr (9, 0, 0))), some (.inl (nI x)), some (.inl (nI k)), some (.inl (enc (FSM w x k n) n)), some (.inl (nI s)), some (.inl (nI n))]) ?_ (by rw [hS]; rfl) rfl
        refine x_iload (pc' := 51) rfl rfl rfl (x_iconst (pc' := 52) rfl rfl ?_)
        refine x_icmp_eq (pc' := 55) rfl rfl (fun h52 => absurd h52 (nI_ne1 (by omega))) (fun h52 => ?_)
        refine x_iconst (pc' := 56) rfl rfl (x_istore5 (pc' := 58) rfl rfl rfl ?_)
        exact l_X9_contestO x hx k hk hr n hnp hn7 no hno hn4 lc hlc hl hg L hL wn hi s hS hs (no + 1) 0 _ (PHi_0 wn x s k) (by omega) (by omega)
    · refine x_iload_n (pc' := 28) rfl rfl rfl (x_iload (pc' := 30) rfl rfl rfl (x_invS2 (pc' := 33) rfl rfl rfl rfl rfl (c_X9_has _ _) ?_))
      rw [has_enc (by omega) (by omega)]
      refine x_if_eq (pc' := 36) rfl rfl (fun h33 => ?_) (fun h33 => ?_)
      · refine x_iinc5 (pc' := 46) rfl rfl rfl (nI_add _ _) (x_goto rfl ?_)
        first | exact ih (n + 1) _ (STm_t hi (bq h33) ht) (by omega) (by omega) | exact ih (n + 1) _ (STm_f hi (bI_eq0.mp h33)) (by omega) (by omega)
      · refine x_aload_n (pc' := 37) rfl rfl rfl (x_iload_n (pc' := 38) rfl rfl rfl (x_iload (pc' := 40) rfl rfl rfl (x_invQ3 (pc' := 43) rfl rfl rfl rfl rfl (c_X9_goOff x hx n (by omega) no (by rw [hi.1 9 0 0 7 (by omega)]; exact hno) hn4) (fun vq Mq hq40 => ?_))))
        obtain ⟨rfl, w2, rfl, ht⟩ := hq40
        rw [hi.1 9 0 0 5 (by omega)] at ht
        show WP l X _ md_X9_contestIn (43, _, [], _) _
        refine x_iinc5 (pc' := 46) rfl rfl rfl (nI_add _ _) (x_goto rfl ?_)
        first | exact ih (n + 1) _ (STm_t hi (bq h33) ht) (by omega) (by omega) | exact ih (n + 1) _ (STm_f hi (bI_eq0.mp h33)) (by omega) (by omega)
set_option maxRecDepth 20000 in
theorem c_X9_contestIn {l : Launch} {X : XT} {d Lz : Nat} {w : Nat → Nat → Nat → Nat → Int32} (x : Nat) (hx : x + 130 ≤ 4420) (k : Nat) (hk : k < 3) (hr : w 9 0 1 (x + 46) = 0 ∨ w 9 0 1 (x + 46) = nI 1) (np : Nat) (hnp : w 9 0 0 6 = nI np) (hn7 : np ≤ 7) (no : Nat) (hno : w 9 0 0 7 = nI no) (hn4 : no ≤ 4) (lc : Nat) (hlc : w 9 0 1 (x + 48) = nI lc) (hl : lc ≤ 20) (hg : ∀ q, q < 21 → ∃ v, v ≤ 9 ∧ w 9 0 1 (x + q) = nI v) (L : Nat) (hL : LDM w x k np = some L) : WP l X (d + 6) md_X9_contestIn (en md_X9_contestIn [.inr (.inr (9, 0, 0)), .inl (nI x), .inl (nI k)] (mk Lz w)) (fun v M' => v = none ∧ ∃ w', M' = mk Lz w' ∧ SEm w x k np no lc (FSM w x k np) (nI L) (oI (SNM w x k np)) (SNM w x k np) w') := by
  show WP l X _ md_X9_contestIn (0, [some (.inr (.inr (9, 0, 0))), some (.inl (nI x)), some (.inl (nI k)), none, none, none], [], _) _
  refine x_aload_n (pc' := 1) rfl rfl rfl (x_iload_n (pc' := 2) rfl rfl rfl (x_iload_n (pc' := 3) rfl rfl rfl (x_invI3 (pc' := 6) rfl rfl rfl rfl rfl (c_X9_firstOnes x hx k hk hr np hnp hn7) ?_)))
  refine x_istore_n3 (pc' := 7) rfl rfl rfl (x_aload_n (pc' := 8) rfl rfl rfl (x_iload_n (pc' := 9) rfl rfl rfl (x_iload_n (pc' := 10) rfl rfl rfl (x_invI3 (pc' := 13) rfl rfl rfl rfl rfl (c_X9_secondOne x hx k hk hr np hnp hn7) ?_))))
  refine x_istore4 (pc' := 15) rfl rfl rfl (x_iconst (pc' := 16) rfl rfl (x_istore5 (pc' := 18) rfl rfl rfl ?_))
  exact wp_mono (by omega) (l_X9_contestP (d := d) x hx k hk hr np hnp hn7 no hno hn4 lc hlc hl hg L hL (np + 1) 0 _ (STm_0 w x _ _ no) (by omega) (by omega))
end
section
/-! the reference: dayIn, rows copied -/
def MIDm (w : WF) (x k np no lc : Nat) (w' : WF) : Prop := fr9 w w' ∧ (∀ q, q < x ∨ x + 129 ≤ q → w' 9 0 1 q = w 9 0 1 q) ∧ (∀ q, q < 7 → w' 9 0 1 (x + 21 + q) = w 9 0 1 (x + 21 + q)) ∧ (∀ q, q < 7 → w' 9 0 1 (x + 28 + q) = if q < np ∧ FSM w x k np q = true then w 9 0 0 5 else w 9 0 1 (x + 28 + q)) ∧ (∀ q, q < 7 → w' 9 0 1 (x + 35 + q) = if SNM w x k np = some q then w 9 0 1 (x + 35 + q) + nI 1 else w 9 0 1 (x + 35 + q)) ∧ (∀ q, q < 21 → w' 9 0 1 (x + q) = gf2 (fun q => w 9 0 1 (x + q)) (SNM w x k np) k q) ∧ (∀ q, q < no → w' 9 0 1 (x + 42 + q) = ho2 (fun q => w 9 0 1 (x + 42 + q)) (w 9 0 3) (FSM w x k np) (SNM w x k np) k np q) ∧ w' 9 0 1 (x + 46) = w 9 0 1 (x + 46) ∧ w' 9 0 1 (x + 47) = w 9 0 1 (x + 47) ∧ (LDM w x k np = none → w' 9 0 1 (x + 48) = w 9 0 1 (x + 48) ∧ ∀ q, q < 80 → w' 9 0 1 (x + 49 + q) = w 9 0 1 (x + 49 + q)) ∧ (∀ L, LDM w x k np = some L → w' 9 0 1 (x + 48) = nI (lcn lc + 1) ∧ (∀ q, q < 4 * lcn lc → w' 9 0 1 (x + 49 + q) = w 9 0 1 (x + 49 + (if lc = 20 then q + 4 else q))) ∧ w' 9 0 1 (x + 49 + 4 * lcn lc) = w 9 0 1 (x + 47) ∧ w' 9 0 1 (x + 49 + (4 * lcn lc + 1)) = nI k ∧ w' 9 0 1 (x + 49 + (4 * lcn lc + 2)) = nI L ∧ w' 9 0 1 (x + 49 + (4 * lcn lc + 3)) = oI (SNM w x k np))
theorem MIDm_none {w : WF} {x k np no lc : Nat} (h : LDM w x k np = none) : MIDm w x k np no lc w := by
  have h1 : ∀ p, FSM w x k np p = false := fun p => fst_none h p
  have h2 : SNM w x k np = none := snd_none h
  refine ⟨fr9.rf w, fun _ _ => rfl, fun _ _ => rfl, fun q _ => ?_, fun q _ => ?_, fun q _ => ?_, fun q _ => ?_, rfl, rfl, fun _ => ⟨rfl, fun _ _ => rfl⟩, fun L z => by rw [h] at z; cases z⟩
  · rw [if_neg (fun y => by rw [h1 q] at y; cases y.2)]
  · rw [h2, if_neg (by intro z; cases z)]
  · rw [h2]; rfl
  · rw [h2]
    exact (ho1_no (h := fun q => w 9 0 1 (x + 42 + q)) h1 np q).symm
theorem MIDm_some {w w2 : WF} {x k np no lc L : Nat} (h : LDM w x k np = some L) (hs : SEm w x k np no lc (FSM w x k np) (nI L) (oI (SNM w x k np)) (SNM w x k np) w2) : MIDm w x k np no lc w2 := by
  obtain ⟨s1, s2, s3, s4, s5, s6, s7, s8, s9, s10⟩ := hs
  refine ⟨s1, s2, s3, s4, s5, s6, s7, s8, s9, ?_, ?_⟩
  · intro z
    rw [h] at z
    cases z
  · intro L' hL
    rw [h] at hL
    cases hL
    exact s10
def DMi (w2 : WF) (x : Nat) (co : Nat → Bool) (n : Nat) (w' : WF) : Prop := fr9 w2 w' ∧ (∀ q, ¬ (x + 28 ≤ q ∧ q < x + 35) → w' 9 0 1 q = w2 9 0 1 q) ∧ (∀ q, q < 7 → w' 9 0 1 (x + 28 + q) = if q < n ∧ co q = false then w2 9 0 1 (x + 28 + q) - nI 1 else w2 9 0 1 (x + 28 + q))
theorem DMi_0 (w : WF) (x : Nat) (co : Nat → Bool) : DMi w x co 0 w := ⟨fr9.rf w, fun _ _ => rfl, fun q _ => by rw [if_neg (by omega)]⟩
theorem DMi_t {w2 w' : WF} {x n : Nat} {co : Nat → Bool} (hn : n < 7) (h : DMi w2 x co n w') (hc : co n = false) : DMi w2 x co (n + 1) (u4 w' 9 0 1 (x + 28 + n) (w' 9 0 1 (x + 28 + n) - nI 1)) := by
  obtain ⟨h1, h2, h3⟩ := h
  refine ⟨h1.u _ _, fun q hq => by rw [u4_k (by omega)]; exact h2 q hq, fun q hq => ?_⟩
  rw [u4_at]
  by_cases z : q = n
  · subst z; rw [if_pos rfl, if_pos ⟨by omega, hc⟩, h3 q hq, if_neg (by omega)]
  · rw [if_neg (by omega), h3 q hq]
    by_cases z2 : q < n ∧ co q = false
    · rw [if_pos z2, if_pos ⟨by omega, z2.2⟩]
    · rw [if_neg z2, if_neg (fun y => z2 ⟨by omega, y.2⟩)]
theorem sub_nI0 (x : Int32) : x - nI 0 = x := Int32.sub_zero x
theorem DMi_f {w2 w' : WF} {x n : Nat} {co : Nat → Bool} (hn : n < 7) (h : DMi w2 x co n w') (hc : co n = true) : DMi w2 x co (n + 1) (u4 w' 9 0 1 (x + 28 + n) (w' 9 0 1 (x + 28 + n) - nI 0)) := by
  obtain ⟨h1, h2, h3⟩ := h
  refine ⟨h1.u _ _, fun q hq => by rw [u4_k (by omega)]; exact h2 q hq, fun q hq => ?_⟩
  rw [u4_at, sub_nI0]
  by_cases z : q = n
  · subst z; rw [if_pos rfl, if_neg (fun y => by rw [hc] at y; cases y.2), h3 q hq, if_neg (by omega)]
  · rw [if_neg (by omega), h3 q hq]
    by_cases z2 : q < n ∧ co q = false
    · rw [if_pos z2, if_pos ⟨by omega, z2.2⟩]
    · rw [if_neg z2, if_neg (fun y => z2 ⟨by omega, y.2⟩)]
/-- what a day leaves in a row -/
def DYm (w : WF) (x k np no lc dd : Nat) (w' : WF) : Prop := ∃ w2, MIDm w x k np no lc w2 ∧ fr9 w2 w' ∧ (∀ q, ¬ (x + 28 ≤ q ∧ q < x + 35) → q ≠ x + 47 → w' 9 0 1 q = w2 9 0 1 q) ∧ w' 9 0 1 (x + 47) = nI (dd + 1) ∧ (∀ q, q < 7 → w' 9 0 1 (x + 28 + q) = if q < np ∧ cM w x q = false then w2 9 0 1 (x + 28 + q) - nI 1 else w2 9 0 1 (x + 28 + q))
theorem DYm_of {w w2 wn : WF} {x k np no lc dd : Nat} (hm : MIDm w x k np no lc w2) (hi : DMi w2 x (cM w x) np wn) : DYm w x k np no lc dd (u4 wn 9 0 1 (x + 47) (nI (dd + 1))) := by
  obtain ⟨h1, h2, h3⟩ := hi
  exact ⟨w2, hm, h1.u _ _, fun q a b => by rw [u4_k b]; exact h2 q a, u4_self _ _ _ _ _ _, fun q hq => by rw [u4_k (by omega)]; exact h3 q hq⟩
set_option maxRecDepth 20000 in
theorem l_X9_dayIn {l : Launch} {X : XT} {d Lz : Nat} {w : Nat → Nat → Nat → Nat → Int32} (x : Nat) (hx : x + 130 ≤ 4420) (k : Nat) (hk : k < 3) (hr : w 9 0 1 (x + 46) = 0 ∨ w 9 0 1 (x + 46) = nI 1) (np : Nat) (hnp : w 9 0 0 6 = nI np) (hn7 : np ≤ 7) (no : Nat) (hno : w 9 0 0 7 = nI no) (hn4 : no ≤ 4) (lc : Nat) (hlc : w 9 0 1 (x + 48) = nI lc) (hl : lc ≤ 20) (hg : ∀ q, q < 21 → ∃ v, v ≤ 9 ∧ w 9 0 1 (x + q) = nI v) (dd : Nat) (hdd : w 9 0 1 (x + 47) = nI dd) (hd : dd < 2 ^ 30) (nt : Nat) (hnt : w 9 0 0 8 = nI nt) (h12 : nt ≤ 12) (hkd : kdV (w 9 0 4) nt dd = nI k) (w2 : WF) (hm : MIDm w x k np no lc w2) : ∀ (kk n : Nat), ∀ (wn : WF), DMi w2 x (cM w x) n wn →  n ≤ np → np + 1 ≤ n + kk → WP l X (d + 2) md_X9_dayIn (36, [some (.inr (.inr (9, 0, 0))), some (.inl (nI x)), some (.inl (enc (cM w x) np ^^^ -1)), some (.inl (nI n))], [], mk Lz wn) (fun v M' => v = none ∧ ∃ w', M' = mk Lz w' ∧ DYm w x k np no lc dd w') := by
  intro kk
  induction kk with
  | zero =>
    intro n wn hi h1 h2
    exact absurd h2 (by omega)
  | succ kk ih =>
    intro n wn hi hi1 hi2
    refine x_iload_n (pc' := 37) rfl rfl rfl (x_aload_n (pc' := 38) rfl rfl rfl (x_getI (pc' := 41) rfl rfl rfl ?_))
    rw [hi.1 9 0 0 6 (by omega), hm.1 9 0 0 6 (by omega), hnp]
    refine x_icmp_geN (pc' := 44) rfl rfl (by omega) (by omega) (fun h41 => ?_) (fun h41 => ?_)
    · refine x_aload_n (pc' := 78) rfl rfl rfl (x_getR (pc' := 81) (t := (9, _, 1)) rfl rfl rfl (x_iload_n (pc' := 82) rfl rfl rfl (x_bipush (pc' := 84) rfl rfl (x_iaddN (pc' := 85) rfl rfl (x_dup2 (pc' := 86) rfl rfl rfl ?_)))))
      refine x_iald (pc' := 87) (N := 4420) rfl rfl rfl rfl (by first | assumption | omega) (by decide) ?_
      rw [hi.2.1 _ (by omega), hm.2.2.2.2.2.2.2.2.1, hdd]
      refine x_iconst (pc' := 88) rfl rfl (x_iaddN (pc' := 89) rfl rfl (x_iast (pc' := 90) (N := 4420) rfl rfl rfl (by decide) rfl (by first | assumption | omega) (by decide) ?_))
      refine x_vret rfl rfl ?_
      have e : n = np := by omega
      subst e
      exact ⟨rfl, _, rfl, DYm_of hm hi⟩
    · refine x_aload_n (pc' := 45) rfl rfl rfl (x_getR (pc' := 48) (t := (9, _, 1)) rfl rfl rfl (x_iload_n (pc' := 49) rfl rfl rfl (x_bipush (pc' := 51) rfl rfl (x_iaddN (pc' := 52) rfl rfl (x_iload_n (pc' := 53) rfl rfl rfl ?_)))))
      refine x_iaddN (pc' := 54) rfl rfl (x_dup2 (pc' := 55) rfl rfl rfl (x_iald (pc' := 56) (N := 4420) rfl rfl rfl rfl (by first | assumption | omega) (by decide) (x_iload_n (pc' := 57) rfl rfl rfl (x_iload_n (pc' := 58) rfl rfl rfl (x_invS2 (pc' := 61) rfl rfl rfl rfl rfl (c_X9_has _ _) ?_)))))
      rw [has_not (by omega), has_enc (by omega) (by omega)]
      refine x_if_eq (pc' := 64) rfl rfl (fun h61 => ?_) (fun h61 => ?_)
      · refine x_iconst (pc' := 69) rfl rfl (x_isub (pc' := 70) rfl rfl (x_iast (pc' := 71) (N := 4420) rfl rfl rfl (by decide) rfl (by first | assumption | omega) (by decide) (x_iinc3 (pc' := 74) rfl rfl rfl (nI_add _ _) (x_goto rfl ?_))))
        first | exact ih (n + 1) _ (DMi_t (by omega) hi (by have z := bq h61; simpa using z)) (by omega) (by omega) | exact ih (n + 1) _ (DMi_f (by omega) hi (by have z := bI_eq0.mp h61; simpa using z)) (by omega) (by omega)
      · refine x_iconst (pc' := 65) rfl rfl (x_goto rfl (x_isub (pc' := 70) rfl rfl (x_iast (pc' := 71) (N := 4420) rfl rfl rfl (by decide) rfl (by first | assumption | omega) (by decide) (x_iinc3 (pc' := 74) rfl rfl rfl (nI_add _ _) (x_goto rfl ?_)))))
        first | exact ih (n + 1) _ (DMi_t (by omega) hi (by have z := bq h61; simpa using z)) (by omega) (by omega) | exact ih (n + 1) _ (DMi_f (by omega) hi (by have z := bI_eq0.mp h61; simpa using z)) (by omega) (by omega)
set_option maxRecDepth 20000 in
theorem c_X9_dayIn {l : Launch} {X : XT} {d Lz : Nat} {w : Nat → Nat → Nat → Nat → Int32} (x : Nat) (hx : x + 130 ≤ 4420) (k : Nat) (hk : k < 3) (hr : w 9 0 1 (x + 46) = 0 ∨ w 9 0 1 (x + 46) = nI 1) (np : Nat) (hnp : w 9 0 0 6 = nI np) (hn7 : np ≤ 7) (no : Nat) (hno : w 9 0 0 7 = nI no) (hn4 : no ≤ 4) (lc : Nat) (hlc : w 9 0 1 (x + 48) = nI lc) (hl : lc ≤ 20) (hg : ∀ q, q < 21 → ∃ v, v ≤ 9 ∧ w 9 0 1 (x + q) = nI v) (dd : Nat) (hdd : w 9 0 1 (x + 47) = nI dd) (hd : dd < 2 ^ 30) (nt : Nat) (hnt : w 9 0 0 8 = nI nt) (h12 : nt ≤ 12) (hkd : kdV (w 9 0 4) nt dd = nI k) : WP l X (d + 7) md_X9_dayIn (en md_X9_dayIn [.inr (.inr (9, 0, 0)), .inl (nI x)] (mk Lz w)) (fun v M' => v = none ∧ ∃ w', M' = mk Lz w' ∧ DYm w x k np no lc dd w') := by
  show WP l X _ md_X9_dayIn (0, [some (.inr (.inr (9, 0, 0))), some (.inl (nI x)), none, none], [], _) _
  refine x_aload_n (pc' := 1) rfl rfl rfl (x_iload_n (pc' := 2) rfl rfl rfl (x_invI2 (pc' := 5) rfl rfl rfl rfl (c_X9_courtIn x hx np hnp hn7) ?_))
  refine x_iconst (pc' := 6) rfl rfl (x_ixor (pc' := 7) rfl rfl (x_istore_n2 (pc' := 8) rfl rfl rfl (x_aload_n (pc' := 9) rfl rfl rfl (x_iload_n (pc' := 10) rfl rfl rfl (x_invI2 (pc' := 13) rfl rfl rfl rfl (c_X9_courtIn x hx np hnp hn7) ?_)))))
  refine x_if_eq (pc' := 16) rfl rfl (fun h13 => ?_) (fun h13 => ?_)
  · refine x_iconst (pc' := 35) rfl rfl (x_istore_n3 (pc' := 36) rfl rfl rfl ?_)
    first | exact wp_mono (by omega) (l_X9_dayIn (d := d) x hx k hk hr np hnp hn7 no hno hn4 lc hlc hl hg dd hdd hd nt hnt h12 hkd _ (MIDm_none (bst_nobody np (fun p hp => (enc_0 (by omega)).mp h13 p hp))) (np + 1) 0 _ (DMi_0 _ x _) (by omega) (by omega)) | exact wp_mono (by omega) (l_X9_dayIn (d := d) x hx k hk hr np hnp hn7 no hno hn4 lc hlc hl hg dd hdd hd nt hnt h12 hkd _ (MIDm_some hL hse) (np + 1) 0 _ (DMi_0 _ x _) (by omega) (by omega))
  · have hcs : ∃ L, LDM w x k np = some L := by
      cases hL : LDM w x k np with
      | none => exact absurd ((enc_0 (by omega)).mpr (fun p hp => bst_some np hL p hp)) h13
      | some L => exact ⟨L, rfl⟩
    obtain ⟨L, hL⟩ := hcs
    refine x_aload_n (pc' := 17) rfl rfl rfl (x_iload_n (pc' := 18) rfl rfl rfl (x_aload_n (pc' := 19) rfl rfl rfl (x_aload_n (pc' := 20) rfl rfl rfl (x_getR (pc' := 23) (t := (9, _, 1)) rfl rfl rfl (x_iload_n (pc' := 24) rfl rfl rfl ?_)))))
    refine x_bipush (pc' := 26) rfl rfl (x_iaddN (pc' := 27) rfl rfl (x_iald (pc' := 28) (N := 4420) rfl rfl rfl rfl (by first | assumption | omega) (by decide) ?_))
    rw [hdd]
    refine x_invI2 (pc' := 31) rfl rfl rfl rfl (c_X9_kindOf nt dd hnt h12 (by omega)) ?_
    rw [hkd]
    refine x_invQ3 (pc' := 34) rfl rfl rfl rfl rfl (c_X9_contestIn x hx k hk hr np hnp hn7 no hno hn4 lc hlc hl hg L hL) (fun vq Mq hq31 => ?_)
    obtain ⟨rfl, w2, rfl, hse⟩ := hq31
    show WP l X _ md_X9_dayIn (34, _, [], _) _
    refine x_iconst (pc' := 35) rfl rfl (x_istore_n3 (pc' := 36) rfl rfl rfl ?_)
    first | exact wp_mono (by omega) (l_X9_dayIn (d := d) x hx k hk hr np hnp hn7 no hno hn4 lc hlc hl hg dd hdd hd nt hnt h12 hkd _ (MIDm_none (bst_nobody np (fun p hp => (enc_0 (by omega)).mp h13 p hp))) (np + 1) 0 _ (DMi_0 _ x _) (by omega) (by omega)) | exact wp_mono (by omega) (l_X9_dayIn (d := d) x hx k hk hr np hnp hn7 no hno hn4 lc hlc hl hg dd hdd hd nt hnt h12 hkd _ (MIDm_some hL hse) (np + 1) 0 _ (DMi_0 _ x _) (by omega) (by omega))
/-- a row is copied -/
def CRi (w : WF) (x y n : Nat) (w' : WF) : Prop := fr9 w w' ∧ (∀ q, ¬ (y ≤ q ∧ q < y + n) → w' 9 0 1 q = w 9 0 1 q) ∧ (∀ q, q < n → w' 9 0 1 (y + q) = w 9 0 1 (x + q))
theorem CRi_0 (w : WF) (x y : Nat) : CRi w x y 0 w := ⟨fr9.rf w, fun _ _ => rfl, fun q hq => absurd hq (by omega)⟩
theorem CRi_s {w w' : WF} {x y n : Nat} (hxy : x + 130 ≤ y ∨ y + 130 ≤ x) (hn : n < 130) (h : CRi w x y n w') : CRi w x y (n + 1) (u4 w' 9 0 1 (y + n) (w' 9 0 1 (x + n))) := by
  obtain ⟨h1, h2, h3⟩ := h
  refine ⟨h1.u _ _, fun q hq => by rw [u4_k (by omega)]; exact h2 q (by omega), fun q hq => ?_⟩
  rw [u4_at]
  by_cases z : q = n
  · subst z; rw [if_pos rfl]; exact h2 _ (by omega)
  · rw [if_neg (by omega)]; exact h3 q (by omega)
set_option maxRecDepth 20000 in
theorem l_X9_copyRow {l : Launch} {X : XT} {d Lz : Nat} {w : Nat → Nat → Nat → Nat → Int32} (x y : Nat) (hx : x + 130 ≤ 4420) (hy : y + 130 ≤ 4420) (hxy : x + 130 ≤ y ∨ y + 130 ≤ x) : ∀ (kk n : Nat), ∀ (wn : WF), CRi w x y n wn →  n ≤ 130 → 130 + 1 ≤ n + kk → WP l X (d + 1) md_X9_copyRow (2, [some (.inr (.inr (9, 0, 0))), some (.inl (nI x)), some (.inl (nI y)), some (.inl (nI n))], [], mk Lz wn) (fun v M' => v = none ∧ ∃ w', M' = mk Lz w' ∧ CRi w x y 130 w') := by
  intro kk
  induction kk with
  | zero =>
    intro n wn hi h1 h2
    exact absurd h2 (by omega)
  | succ kk ih =>
    intro n wn hi hi1 hi2
    refine x_iload_n (pc' := 3) rfl rfl rfl (x_sipush (pc' := 6) rfl rfl ?_)
    refine x_icmp_geN (pc' := 9) rfl rfl (by omega) (by omega) (fun h6 => ?_) (fun h6 => ?_)
    · refine x_vret rfl rfl ?_
      have e : n = 130 := by omega
      subst e
      exact ⟨rfl, _, rfl, hi⟩
    · refine x_aload_n (pc' := 10) rfl rfl rfl (x_getR (pc' := 13) (t := (9, _, 1)) rfl rfl rfl (x_iload_n (pc' := 14) rfl rfl rfl (x_iload_n (pc' := 15) rfl rfl rfl (x_iaddN (pc' := 16) rfl rfl (x_aload_n (pc' := 17) rfl rfl rfl ?_)))))
      refine x_getR (pc' := 20) (t := (9, _, 1)) rfl rfl rfl (x_iload_n (pc' := 21) rfl rfl rfl (x_iload_n (pc' := 22) rfl rfl rfl (x_iaddN (pc' := 23) rfl rfl (x_iald (pc' := 24) (N := 4420) rfl rfl rfl rfl (by first | assumption | omega) (by decide) (x_iast (pc' := 25) (N := 4420) rfl rfl rfl (by decide) rfl (by first | assumption | omega) (by decide) ?_)))))
      refine x_iinc3 (pc' := 28) rfl rfl rfl (nI_add _ _) (x_goto rfl ?_)
      exact ih (n + 1) _ (CRi_s hxy (by omega) hi) (by omega) (by omega)
set_option maxRecDepth 20000 in
theorem c_X9_copyRow {l : Launch} {X : XT} {d Lz : Nat} {w : Nat → Nat → Nat → Nat → Int32} (x y : Nat) (hx : x + 130 ≤ 4420) (hy : y + 130 ≤ 4420) (hxy : x + 130 ≤ y ∨ y + 130 ≤ x) : WP l X (d + 1) md_X9_copyRow (en md_X9_copyRow [.inr (.inr (9, 0, 0)), .inl (nI x), .inl (nI y)] (mk Lz w)) (fun v M' => v = none ∧ ∃ w', M' = mk Lz w' ∧ CRi w x y 130 w') := by
  show WP l X _ md_X9_copyRow (0, [some (.inr (.inr (9, 0, 0))), some (.inl (nI x)), some (.inl (nI y)), none], [], _) _
  refine x_iconst (pc' := 1) rfl rfl (x_istore_n3 (pc' := 2) rfl rfl rfl ?_)
  exact l_X9_copyRow x y hx hy hxy 131 0 _ (CRi_0 w x y) (by omega) (by omega)
end
section
/-! a kingdom and its state, as such -/
abbrev Kg : Type := Int32 × Int32 × Nat × Nat × Nat × (Nat → Int32) × (Nat → Nat) × (Nat → Nat)
def Kg.law (K : Kg) : Int32 := K.1
def Kg.term (K : Kg) : Int32 := K.2.1
def Kg.np (K : Kg) : Nat := K.2.2.1
def Kg.no (K : Kg) : Nat := K.2.2.2.1
def Kg.nt (K : Kg) : Nat := K.2.2.2.2.1
def Kg.dr (K : Kg) : Nat → Int32 := K.2.2.2.2.2.1
def Kg.ok (K : Kg) : Nat → Nat := K.2.2.2.2.2.2.1
def Kg.kd (K : Kg) : Nat → Nat := K.2.2.2.2.2.2.2
abbrev Sa : Type := (Nat → Int32) × (Nat → Int32) × (Nat → Int32) × (Nat → Int32) × (Nat → Int32) × Int32 × Nat × Nat × (Nat → Nat → Int32)
def Sa.g (s : Sa) : Nat → Int32 := s.1
def Sa.e (s : Sa) : Nat → Int32 := s.2.1
def Sa.co (s : Sa) : Nat → Int32 := s.2.2.1
def Sa.ti (s : Sa) : Nat → Int32 := s.2.2.2.1
def Sa.ho (s : Sa) : Nat → Int32 := s.2.2.2.2.1
def Sa.rn (s : Sa) : Int32 := s.2.2.2.2.2.1
def Sa.dd (s : Sa) : Nat := s.2.2.2.2.2.2.1
def Sa.cc (s : Sa) : Nat := s.2.2.2.2.2.2.2.1
def Sa.lg (s : Sa) : Nat → Nat → Int32 := s.2.2.2.2.2.2.2.2
def KV (K : Kg) : Prop := K.np ≤ 7 ∧ K.no ≤ 4 ∧ K.nt ≤ 12 ∧ (∀ q, K.kd q < 3) ∧ (∀ q, K.ok q < 3)
def SV (s : Sa) : Prop := (s.rn = 0 ∨ s.rn = nI 1) ∧ (∀ q, q < 21 → ∃ v, v ≤ 9 ∧ s.g q = nI v) ∧ s.cc ≤ s.dd
/-- the realm j is the kingdom -/
def KC (w : WF) (j : Nat) (K : Kg) : Prop := w 4 j 0 4 = K.law ∧ w 4 j 0 5 = K.term ∧ w 4 j 0 6 = nI K.np ∧ w 4 j 0 7 = nI K.nt ∧ w 4 j 0 8 = nI K.no ∧ (∀ q, q < K.np → w 4 j 2 q = K.dr q) ∧ (∀ q, q < K.nt → w 4 j 3 q = nI (K.kd q)) ∧ (∀ q, q < K.no → w 4 j 4 q = nI (K.ok q))
def KM (w : WF) (K : Kg) : Prop := w 9 0 0 4 = K.law ∧ w 9 0 0 5 = K.term ∧ w 9 0 0 6 = nI K.np ∧ w 9 0 0 8 = nI K.nt ∧ w 9 0 0 7 = nI K.no ∧ (∀ q, q < K.np → w 9 0 2 q = K.dr q) ∧ (∀ q, q < K.nt → w 9 0 4 q = nI (K.kd q)) ∧ (∀ q, q < K.no → w 9 0 3 q = nI (K.ok q))
/-- the state i is s -/
def RC (w : WF) (K : Kg) (i : Nat) (s : Sa) : Prop := (∀ q, q < 3 * K.np → w 6 i 1 q = s.g q) ∧ (∀ q, q < K.np → w 6 i 2 q = s.e q) ∧ (∀ q, q < K.np → w 6 i 3 q = s.co q) ∧ (∀ q, q < K.np → w 6 i 4 q = s.ti q) ∧ (∀ q, q < K.no → w 6 i 5 q = s.ho q) ∧ w 6 i 0 8 = s.rn ∧ w 6 i 0 7 = nI s.dd ∧ w 6 i 0 6 = nI s.cc ∧ (∀ n t, n < s.cc → s.cc ≤ n + 20 → t < 4 → w 6 i 6 (n % 20 * 4 + t) = s.lg n t)
/-- the row at x is s -/
def RR (w : WF) (K : Kg) (x : Nat) (s : Sa) : Prop := (∀ q, q < 21 → w 9 0 1 (x + q) = s.g q) ∧ (∀ q, q < K.np → w 9 0 1 (x + 21 + q) = s.e q) ∧ (∀ q, q < K.np → w 9 0 1 (x + 28 + q) = s.co q) ∧ (∀ q, q < K.np → w 9 0 1 (x + 35 + q) = s.ti q) ∧ (∀ q, q < K.no → w 9 0 1 (x + 42 + q) = s.ho q) ∧ w 9 0 1 (x + 46) = s.rn ∧ w 9 0 1 (x + 47) = nI s.dd ∧ w 9 0 1 (x + 48) = nI (min s.cc 20) ∧ (∀ n t, n < s.cc → s.cc ≤ n + 20 → t < 4 → w 9 0 1 (x + 49 + (4 * (n - (s.cc - 20)) + t)) = s.lg n t)
def coA (s : Sa) : Nat → Bool := fun p => decide (s.co p = 0)
def mkA (K : Kg) (s : Sa) (k : Nat) : Nat → Int32 := mkV s.g s.e K.dr s.rn k
def ldA (K : Kg) (s : Sa) (k : Nat) : Option Nat := ldr (coA s) K.law K.dr (mkA K s k) K.np
def fsA (K : Kg) (s : Sa) (k : Nat) : Nat → Bool := fst' (coA s) K.law K.dr (mkA K s k) K.np
def snA (K : Kg) (s : Sa) (k : Nat) : Option Nat := snd' (coA s) K.law K.dr (mkA K s k) K.np
def kdA (K : Kg) (n : Nat) : Nat := if K.nt = 0 then 0 else K.kd (n % K.nt)
theorem kdA_lt {K : Kg} (h : KV K) (n : Nat) : kdA K n < 3 := by
  unfold kdA
  split
  · decide
  · exact h.2.2.2.1 _
def lgA (K : Kg) (s : Sa) (k t : Nat) : Int32 := if t = 0 then nI s.dd else if t = 1 then nI k else if t = 2 then oI (ldA K s k) else oI (snA K s k)
def dayK (K : Kg) (s : Sa) (k : Nat) : Sa := (gf2 s.g (snA K s k) k, s.e, (fun q => if q < K.np ∧ coA s q = false then (if q < K.np ∧ fsA K s k q = true then K.term else s.co q) - nI 1 else (if q < K.np ∧ fsA K s k q = true then K.term else s.co q)), (fun q => if snA K s k = some q then s.ti q + nI 1 else s.ti q), ho2 s.ho (fun o => nI (K.ok o)) (fsA K s k) (snA K s k) k K.np, s.rn, s.dd + 1, (if ldA K s k = none then s.cc else s.cc + 1), (fun n t => if ldA K s k ≠ none ∧ n = s.cc then lgA K s k t else s.lg n t))
def dayA (K : Kg) (s : Sa) : Sa := dayK K s (kdA K s.dd)
theorem ho1_congr {h h' : Nat → Int32} {F F' : Nat → Bool} {q : Nat} (hh : h q = h' q) : ∀ n, (∀ p, p < n → F p = F' p) → ho1 h F n q = ho1 h' F' n q
  | 0, _ => hh
  | n + 1, hF => by
    show (if F n = true ∧ ho1 h F n q = nI n then -1 else ho1 h F n q) = (if F' n = true ∧ ho1 h' F' n q = nI n then -1 else ho1 h' F' n q)
    rw [ho1_congr hh n (fun p hp => hF p (by omega)), hF n (by omega)]
theorem ho2_congr {h h' ok ok' : Nat → Int32} {F F' : Nat → Bool} {S : Option Nat} {k n q : Nat} (hh : h q = h' q) (hk : ok q = ok' q) (hF : ∀ p, p < n → F p = F' p) : ho2 h ok F S k n q = ho2 h' ok' F' S k n q := by
  cases S with
  | none => exact ho1_congr hh n hF
  | some s =>
    show (if ok q = nI k then nI s else ho1 h F n q) = (if ok' q = nI k then nI s else ho1 h' F' n q)
    rw [hk, ho1_congr hh n hF]
theorem gf2_congr {g g' : Nat → Int32} {S : Option Nat} {k q : Nat} (h : g q = g' q) : gf2 g S k q = gf2 g' S k q := by
  cases S with
  | none => exact h
  | some s =>
    show (if q = s * 3 + k then mxI (nI 0) (g q - nI 1) else g q) = (if q = s * 3 + k then mxI (nI 0) (g' q - nI 1) else g' q)
    rw [h]
section
variable {w : WF} {K : Kg} {s : Sa} {i j x k : Nat}
theorem RC.co (h : RC w K i s) : ∀ p, p < K.np → cC w i p = coA s p := fun p hp => by unfold cC coA; rw [h.2.2.1 p hp]
theorem RC.mk (h : RC w K i s) (hK : KC w j K) (hk : k < 3) : ∀ p, p < K.np → mC w i j k p = mkA K s k p := fun p hp => by
  unfold mC mkA mkV
  rw [h.1 _ (by omega), h.2.1 p hp, hK.2.2.2.2.2.1 p hp, h.2.2.2.2.2.1]
theorem RC.ld (h : RC w K i s) (hK : KC w j K) (hk : k < 3) : LDR w i j k K.np = ldA K s k := by
  unfold LDR ldA; rw [hK.1]; exact ldr_congr h.co hK.2.2.2.2.2.1 (h.mk hK hk)
theorem RC.fs (h : RC w K i s) (hK : KC w j K) (hk : k < 3) : ∀ p, p < K.np → FST w i j k K.np p = fsA K s k p := fun p hp => by
  unfold FST fsA; rw [hK.1]; exact fst_congr hp h.co hK.2.2.2.2.2.1 (h.mk hK hk)
theorem RC.sn (h : RC w K i s) (hK : KC w j K) (hk : k < 3) : SND w i j k K.np = snA K s k := by
  unfold SND snA; rw [hK.1]; exact snd_congr h.co hK.2.2.2.2.2.1 (h.mk hK hk)
theorem RR.co (h : RR w K x s) : ∀ p, p < K.np → cM w x p = coA s p := fun p hp => by unfold cM coA; rw [h.2.2.1 p hp]
theorem RR.mk (hV : KV K) (h : RR w K x s) (hK : KM w K) (hk : k < 3) : ∀ p, p < K.np → mM w x k p = mkA K s k p := fun p hp => by
  have h7 := hV.1
  unfold mM mkA mkV
  show w 9 0 1 (x + (p * 3 + k)) * w 9 0 1 (x + 21 + p) + _ = _
  rw [h.1 (p * 3 + k) (by omega), h.2.1 p hp, hK.2.2.2.2.2.1 p hp, h.2.2.2.2.2.1]
theorem RR.ld (hV : KV K) (h : RR w K x s) (hK : KM w K) (hk : k < 3) : LDM w x k K.np = ldA K s k := by
  unfold LDM ldA; rw [hK.1]; exact ldr_congr h.co hK.2.2.2.2.2.1 (h.mk hV hK hk)
theorem RR.fs (hV : KV K) (h : RR w K x s) (hK : KM w K) (hk : k < 3) : ∀ p, p < K.np → FSM w x k K.np p = fsA K s k p := fun p hp => by
  unfold FSM fsA; rw [hK.1]; exact fst_congr hp h.co hK.2.2.2.2.2.1 (h.mk hV hK hk)
theorem RR.sn (hV : KV K) (h : RR w K x s) (hK : KM w K) (hk : k < 3) : SNM w x k K.np = snA K s k := by
  unfold SNM snA; rw [hK.1]; exact snd_congr h.co hK.2.2.2.2.2.1 (h.mk hV hK hk)
theorem KC.kd (hK : KC w j K) (n : Nat) : kdV (w 4 j 3) K.nt n = nI (kdA K n) := by
  unfold kdV kdA
  split
  · rfl
  · exact hK.2.2.2.2.2.2.1 _ (Nat.mod_lt _ (by omega))
theorem KM.kd (hK : KM w K) (n : Nat) : kdV (w 9 0 4) K.nt n = nI (kdA K n) := by
  unfold kdV kdA
  split
  · rfl
  · exact hK.2.2.2.2.2.2.1 _ (Nat.mod_lt _ (by omega))
end
theorem lg_ring {cc n t : Nat} (hn : n < cc) (h20 : cc + 1 ≤ n + 20) (ht : t < 4) : ∀ u, u < 4 → n % 20 * 4 + t ≠ cc % 20 * 4 + u := by
  intro u hu; omega
theorem RC_day {w w' : WF} {i j : Nat} {K : Kg} {s : Sa} {k : Nat} (hk : k < 3) (hK : KC w j K) (h : RC w K i s) (hd : DY w i j k K.np K.no s.cc s.dd w') : RC w' K i (dayK K s k) := by
  have hL := h.ld hK hk
  have hF := h.fs hK hk
  have hS := h.sn hK hk
  have hC := h.co
  obtain ⟨h1, h2, h3, h4, h5, h6, h7, h8, h9⟩ := h
  obtain ⟨w2, ⟨m1, m2, m3, m4, m5, m6, m7, m8, m9⟩, d1, d2, d3⟩ := hd
  have e5 : w' 6 i 0 6 = w2 6 i 0 6 := d1 6 i 0 6 (by omega)
  refine ⟨fun q hq => ?_, fun q hq => ?_, fun q hq => ?_, fun q hq => ?_, fun q hq => ?_, ?_, d2, ?_, fun n t hn h20 ht => ?_⟩
  · rw [d1 6 i 1 q (by omega), m5, hS]; exact gf2_congr (h1 q hq)
  · rw [d1 6 i 2 q (by omega), m2]; exact h2 q hq
  · rw [d3, m3, hF q hq, hC q hq, h3 q hq, hK.2.1]; rfl
  · rw [d1 6 i 4 q (by omega), m4, hS, h4 q hq]; rfl
  · rw [d1 6 i 5 q (by omega), m6 q hq, hS]; exact ho2_congr (h := w 6 i 5) (h' := s.ho) (ok := w 4 j 4) (ok' := fun o => nI (K.ok o)) (h5 q hq) (hK.2.2.2.2.2.2.2 q hq) hF
  · rw [d1 6 i 0 8 (by omega), m7 8 (by omega)]; exact h6
  · rw [e5]
    show _ = nI (if ldA K s k = none then s.cc else s.cc + 1)
    by_cases z : ldA K s k = none
    · rw [if_pos z]; exact (m8 (hL.trans z)).1
    · rw [if_neg z]; exact (m9 (by rw [hL]; exact z)).1
  · rw [d1 6 i 6 _ (by omega)]
    change n < (if ldA K s k = none then s.cc else s.cc + 1) at hn
    change (if ldA K s k = none then s.cc else s.cc + 1) ≤ n + 20 at h20
    show _ = if ldA K s k ≠ none ∧ n = s.cc then lgA K s k t else s.lg n t
    by_cases z : ldA K s k = none
    · rw [if_pos z] at hn h20
      rw [if_neg (fun y => y.1 z), (m8 (hL.trans z)).2]
      exact h9 n t hn h20 ht
    · rw [if_neg z] at hn h20
      rw [(m9 (by rw [hL]; exact z)).2, hL, hS, h7]
      by_cases y : n = s.cc
      · rw [if_pos ⟨z, y⟩, y]
        unfold lg2 lgA
        have ht4 : t = 0 ∨ t = 1 ∨ t = 2 ∨ t = 3 := by omega
        rcases ht4 with rfl | rfl | rfl | rfl
        · rw [if_neg (by omega), if_neg (by omega), if_neg (by omega), if_pos (by omega), if_pos rfl]
        · rw [if_neg (by omega), if_neg (by omega), if_pos rfl, if_neg (by omega), if_pos rfl]
        · rw [if_neg (by omega), if_pos rfl, if_neg (by omega), if_neg (by omega), if_pos rfl]
        · rw [if_pos rfl, if_neg (by omega), if_neg (by omega), if_neg (by omega)]
      · rw [if_neg (fun z => y z.2)]
        have hr := lg_ring (show n < s.cc by omega) h20 ht
        unfold lg2
        rw [if_neg (hr 3 (by omega)), if_neg (hr 2 (by omega)), if_neg (hr 1 (by omega)), if_neg (fun e => hr 0 (by omega) (by omega))]
        exact h9 n t (by omega) (by omega) ht
theorem RR_day {w w' : WF} {x : Nat} {K : Kg} {s : Sa} {k : Nat} (hV : KV K) (hk : k < 3) (hK : KM w K) (h : RR w K x s) (hd : DYm w x k K.np K.no (min s.cc 20) s.dd w') : RR w' K x (dayK K s k) := by
  have hv7 := hV.1
  have hL := h.ld hV hK hk
  have hF := h.fs hV hK hk
  have hS := h.sn hV hK hk
  have hC := h.co
  have hv4 := hV.2.1
  obtain ⟨h1, h2, h3, h4, h5, h6, h7, h8, h9⟩ := h
  obtain ⟨w2, ⟨m0, m1, m2, m3, m4, m5, m6, m7, m8, m9, m10⟩, d0, d1, d2, d3⟩ := hd
  refine ⟨fun q hq => ?_, fun q hq => ?_, fun q hq => ?_, fun q hq => ?_, fun q hq => ?_, ?_, d2, ?_, fun n t hn h20 ht => ?_⟩
  · rw [d1 _ (by omega) (by omega), m5 q hq, hS]; exact gf2_congr (h1 q hq)
  · rw [d1 _ (by omega) (by omega), m2 q (by omega)]; exact h2 q hq
  · rw [d3 q (by omega), m3 q (by omega), hF q hq, hC q hq, h3 q hq, hK.2.1]; rfl
  · rw [d1 _ (by omega) (by omega), m4 q (by omega), hS, h4 q hq]; rfl
  · rw [d1 _ (by omega) (by omega), m6 q hq, hS]; exact ho2_congr (h := fun q => w 9 0 1 (x + 42 + q)) (h' := s.ho) (ok := w 9 0 3) (ok' := fun o => nI (K.ok o)) (h5 q hq) (hK.2.2.2.2.2.2.2 q hq) hF
  · rw [d1 _ (by omega) (by omega), m7]; exact h6
  · rw [d1 _ (by omega) (by omega)]
    show _ = nI (min (if ldA K s k = none then s.cc else s.cc + 1) 20)
    by_cases z : ldA K s k = none
    · rw [if_pos z, (m9 (hL.trans z)).1]; exact h8
    · rw [if_neg z]
      obtain ⟨L, hL2⟩ : ∃ L, ldA K s k = some L := by
        cases hl : ldA K s k with
        | none => exact absurd hl z
        | some L => exact ⟨L, rfl⟩
      rw [(m10 L (by rw [hL]; exact hL2)).1]
      unfold lcn
      split
      · rw [show min (s.cc + 1) 20 = 19 + 1 by omega]
      · rw [show min (s.cc + 1) 20 = min s.cc 20 + 1 by omega]
  · change n < (if ldA K s k = none then s.cc else s.cc + 1) at hn
    change (if ldA K s k = none then s.cc else s.cc + 1) ≤ n + 20 at h20
    show w' 9 0 1 (x + 49 + (4 * (n - ((if ldA K s k = none then s.cc else s.cc + 1) - 20)) + t)) = if ldA K s k ≠ none ∧ n = s.cc then lgA K s k t else s.lg n t
    by_cases z : ldA K s k = none
    · rw [if_pos z] at hn h20
      rw [if_pos z, if_neg (fun y => y.1 z), d1 _ (by omega) (by omega), (m9 (hL.trans z)).2 _ (by omega)]
      exact h9 n t hn h20 ht
    · rw [if_neg z] at hn h20
      obtain ⟨L, hL2⟩ : ∃ L, ldA K s k = some L := by
        cases hl : ldA K s k with
        | none => exact absurd hl z
        | some L => exact ⟨L, rfl⟩
      obtain ⟨l1, l2, l3, l4, l5, l6⟩ := m10 L (by rw [hL]; exact hL2)
      have hc : lcn (min s.cc 20) = s.cc - (s.cc + 1 - 20) := by unfold lcn; split <;> omega
      rw [if_neg z, d1 _ (by omega) (by omega)]
      by_cases y : n = s.cc
      · rw [if_pos ⟨z, y⟩, y, ← hc]
        unfold lgA
        have ht4 : t = 0 ∨ t = 1 ∨ t = 2 ∨ t = 3 := by omega
        rcases ht4 with rfl | rfl | rfl | rfl
        · rw [if_pos rfl]; exact l3.trans h7
        · rw [if_neg (by omega), if_pos rfl]; exact l4
        · rw [if_neg (by omega), if_neg (by omega), if_pos rfl, hL2]; exact l5
        · rw [if_neg (by omega), if_neg (by omega), if_neg (by omega), ← hS]; exact l6
      · rw [if_neg (fun z => y z.2), l2 _ (by omega), ← h9 n t (by omega) (by omega) ht]
        congr 1
        split <;> omega
theorem SV_day {K : Kg} {s : Sa} {k : Nat} (h : SV s) : SV (dayK K s k) := by
  obtain ⟨h1, h2, h3⟩ := h
  refine ⟨h1, fun q hq => ?_, ?_⟩
  · show ∃ v, v ≤ 9 ∧ gf2 s.g (snA K s k) k q = nI v
    cases snA K s k with
    | none => exact h2 q hq
    | some p =>
      obtain ⟨v, hv, hg⟩ := h2 q hq
      show ∃ v, v ≤ 9 ∧ (if q = p * 3 + k then mxI (nI 0) (s.g q - nI 1) else s.g q) = nI v
      by_cases z : q = p * 3 + k
      · rw [if_pos z, hg, mx_dec hv rfl]
        have hv9 : ∀ v, v ≤ 9 → (if nI v ≤ 0 then nI 0 else nI v - nI 1) = nI (v - 1) := by decide
        exact ⟨v - 1, by omega, hv9 v hv⟩
      · rw [if_neg z]; exact ⟨v, hv, hg⟩
  · show (if ldA K s k = none then s.cc else s.cc + 1) ≤ s.dd + 1
    split <;> omega
/-- days go by -/
def daysA (K : Kg) : Nat → Sa → Sa
  | 0, s => s
  | n + 1, s => dayA K (daysA K n s)
theorem daysA_dd (K : Kg) (s : Sa) : ∀ n, (daysA K n s).dd = s.dd + n
  | 0 => rfl
  | n + 1 => by
    show (daysA K n s).dd + 1 = _
    rw [daysA_dd K s n]; omega
theorem SV_days {K : Kg} {s : Sa} (h : SV s) : ∀ n, SV (daysA K n s)
  | 0 => h
  | n + 1 => SV_day (SV_days h n)
/-- what a day of the state i leaves as it is -/
def frS (i : Nat) (w w' : WF) : Prop := ∀ c i' o q, c ≠ 1 → ¬ (c = 6 ∧ i' = i) → w' c i' o q = w c i' o q
theorem frS.rf (i : Nat) (w : WF) : frS i w w := fun _ _ _ _ _ _ => rfl
theorem frS.tr {i : Nat} {a b c : WF} (h : frS i a b) (h2 : frS i b c) : frS i a c := fun x y o q hx hy => (h2 x y o q hx hy).trans (h x y o q hx hy)
theorem frS.u {i : Nat} {w w' : WF} (h : frS i w w') (o k : Nat) (v : Int32) : frS i w (u4 w' 6 i o k v) := fun c i' o' q h1 h2 => by
  rw [u4_ne (fun e => h2 (by cases e; exact ⟨rfl, rfl⟩))]; exact h c i' o' q h1 h2
theorem frS.of1 {i : Nat} {w w' : WF} (h : fr1 w w') : frS i w w' := fun c i' o q hc _ => h c i' o q hc
theorem KC_fr {w w' : WF} {i j : Nat} {K : Kg} (h : KC w j K) (hf : frS i w w') : KC w' j K := by
  have e : ∀ o q, w' 4 j o q = w 4 j o q := fun o q => hf 4 j o q (by omega) (by omega)
  unfold KC
  simp only [e]
  exact h
/-- what a day of the row at x leaves as it is -/
def frR (x : Nat) (w w' : WF) : Prop := fr9 w w' ∧ ∀ q, q < x ∨ x + 129 ≤ q → w' 9 0 1 q = w 9 0 1 q
theorem frR.rf (x : Nat) (w : WF) : frR x w w := ⟨fr9.rf w, fun _ _ => rfl⟩
theorem frR.tr {x : Nat} {a b c : WF} (h : frR x a b) (h2 : frR x b c) : frR x a c := ⟨h.1.tr h2.1, fun q hq => (h2.2 q hq).trans (h.2 q hq)⟩
theorem KM_fr9 {w w' : WF} {K : Kg} (h : KM w K) (hf : fr9 w w') : KM w' K := by
  have e0 : ∀ q, w' 9 0 0 q = w 9 0 0 q := fun q => hf 9 0 0 q (by omega)
  have e2 : ∀ q, w' 9 0 2 q = w 9 0 2 q := fun q => hf 9 0 2 q (by omega)
  have e3 : ∀ q, w' 9 0 3 q = w 9 0 3 q := fun q => hf 9 0 3 q (by omega)
  have e4 : ∀ q, w' 9 0 4 q = w 9 0 4 q := fun q => hf 9 0 4 q (by omega)
  unfold KM
  simp only [e0, e2, e3, e4]
  exact h
theorem DY_fr {w w' : WF} {i j k np no cc dd : Nat} (h : DY w i j k np no cc dd w') : frS i w w' := by
  obtain ⟨w2, m, d1, d2, d3⟩ := h
  intro c i' o q h1 h2
  rw [d1 c i' o q (fun y => h2 ⟨y.1, y.2.1⟩)]; exact m.1 c i' o q h1 h2
theorem DYm_fr {w w' : WF} {x k np no lc dd : Nat} (h : DYm w x k np no lc dd w') : frR x w w' := by
  obtain ⟨w2, m, d0, d1, d2, d3⟩ := h
  exact ⟨m.1.tr d0, fun q hq => by rw [d1 q (by omega) (by omega)]; exact m.2.1 q hq⟩
/-- a day, for both -/
theorem a_X6_passDay {l : Launch} {X : XT} {d Lz : Nat} {w : WF} (i j : Nat) {K : Kg} {s : Sa} (hV : KV K) (hK : KC w j K) (h : RC w K i s) (hs : SV s) (hd : s.dd < 2 ^ 30) : WP l X (d + 4) md_X6_passDay (en md_X6_passDay [.inr (.inr (6, i, 0)), .inr (.inr (4, j, 0)), .inr (.inr (1, 0, 0))] (mk Lz w)) (fun v M' => v = none ∧ ∃ w', M' = mk Lz w' ∧ RC w' K i (dayA K s) ∧ frS i w w') :=
  wp_cons (c_X6_passDay i j (kdA K s.dd) (kdA_lt hV _) K.np hK.2.2.1 hV.1 K.no hK.2.2.2.2.1 hV.2.1 s.cc h.2.2.2.2.2.2.2.1 (by have := hs.2.2; omega) s.dd h.2.2.2.2.2.2.1 hd K.nt hK.2.2.2.1 hV.2.2.1 (hK.kd _)) (fun v M hq => by
    obtain ⟨rfl, w', rfl, h2⟩ := hq
    exact ⟨rfl, w', rfl, RC_day (kdA_lt hV _) hK h h2, DY_fr h2⟩)
theorem a_X9_dayIn {l : Launch} {X : XT} {d Lz : Nat} {w : WF} (x : Nat) (hx : x + 130 ≤ 4420) {K : Kg} {s : Sa} (hV : KV K) (hK : KM w K) (h : RR w K x s) (hs : SV s) (hd : s.dd < 2 ^ 30) : WP l X (d + 7) md_X9_dayIn (en md_X9_dayIn [.inr (.inr (9, 0, 0)), .inl (nI x)] (mk Lz w)) (fun v M' => v = none ∧ ∃ w', M' = mk Lz w' ∧ RR w' K x (dayA K s) ∧ frR x w w') :=
  wp_cons (c_X9_dayIn x hx (kdA K s.dd) (kdA_lt hV _) (by rw [h.2.2.2.2.2.1]; exact hs.1) K.np hK.2.2.1 hV.1 K.no hK.2.2.2.2.1 hV.2.1 (min s.cc 20) h.2.2.2.2.2.2.2.1 (by omega) (fun q hq => by rw [h.1 q hq]; exact hs.2.1 q hq) s.dd h.2.2.2.2.2.2.1 hd K.nt hK.2.2.2.1 hV.2.2.1 (hK.kd _)) (fun v M hq => by
    obtain ⟨rfl, w', rfl, h2⟩ := hq
    exact ⟨rfl, w', rfl, RR_day hV (kdA_lt hV _) hK h h2, DYm_fr h2⟩)
end
section
/-! more of a state's own -/
theorem x_tswG {l : Launch} {X : XT} {d pc : Nat} {md : MD} {len a b c : Nat} {v : Int32} {lg : Int64} {ks : List (Int32 × Nat)} {L : List (Option AV)} {st : List AV} {M : Mem} {Q : Option AV → Mem → Prop} {x : Int32} {df lo hi : Int} {offs : Array Int} (hr : cRow md.2.2.2.2.2.2 pc = some (.tableswitch df lo hi offs, len, a, b, c, v, lg, ks)) (K : WP l X (d + 1) md (swT x ks a, L, st, M) Q) : WP l X (d + 1) md (pc, L, .inl x :: st, M) Q := x_tsw hr rfl K
theorem x_lswG {l : Launch} {X : XT} {d pc : Nat} {md : MD} {len a b c : Nat} {v : Int32} {lg : Int64} {ks : List (Int32 × Nat)} {L : List (Option AV)} {st : List AV} {M : Mem} {Q : Option AV → Mem → Prop} {x : Int32} {df : Int} {ps : Array (Int × Int)} (hr : cRow md.2.2.2.2.2.2 pc = some (.lookupswitch df ps, len, a, b, c, v, lg, ks)) (K : WP l X (d + 1) md (swT x ks a, L, st, M) Q) : WP l X (d + 1) md (pc, L, .inl x :: st, M) Q := x_lsw hr rfl K
theorem sw_c {l : Launch} {X : XT} {d : Nat} {md : MD} {L : List (Option AV)} {st : List AV} {M : Mem} {Q : Option AV → Mem → Prop} {x k : Int32} {t df : Nat} {r : List (Int32 × Nat)} (h1 : x = k → WP l X d md (t, L, st, M) Q) (h2 : ¬ x = k → WP l X d md (swT x r df, L, st, M) Q) : WP l X d md (swT x ((k, t) :: r) df, L, st, M) Q := by
  by_cases z : x = k
  · have e : swT x ((k, t) :: r) df = t := by simp only [swT, if_pos z]
    rw [e]; exact h1 z
  · have e : swT x ((k, t) :: r) df = swT x r df := by simp only [swT, if_neg z]
    rw [e]; exact h2 z
theorem sw_n {l : Launch} {X : XT} {d : Nat} {md : MD} {L : List (Option AV)} {st : List AV} {M : Mem} {Q : Option AV → Mem → Prop} {x : Int32} {df : Nat} (h : WP l X d md (df, L, st, M) Q) : WP l X d md (swT x [] df, L, st, M) Q := h
/-- one state is made like another -/
def CPY (w : WF) (i i2 : Nat) (w' : WF) : Prop := (∀ o q, (o = 0 → 6 ≤ q ∧ q ≤ 8) → o ≤ 6 → w' 6 i o q = w 6 i2 o q) ∧ ∀ c i' o q, ¬ (c = 6 ∧ i' = i) → w' c i' o q = w c i' o q
theorem RC_cg {w w' : WF} {K : Kg} {i : Nat} {s : Sa} (e : ∀ o q, w' 6 i o q = w 6 i o q) (h : RC w K i s) : RC w' K i s := by
  unfold RC
  simp only [e]
  exact h
theorem RC_cpy {w w' : WF} {K : Kg} {i i2 : Nat} {s : Sa} (h : RC w K i2 s) (hc : CPY w i i2 w') : RC w' K i s := by
  obtain ⟨h1, h2, h3, h4, h5, h6, h7, h8, h9⟩ := h
  have e := hc.1
  exact ⟨fun q hq => (e 1 q (by omega) (by omega)).trans (h1 q hq), fun q hq => (e 2 q (by omega) (by omega)).trans (h2 q hq), fun q hq => (e 3 q (by omega) (by omega)).trans (h3 q hq), fun q hq => (e 4 q (by omega) (by omega)).trans (h4 q hq), fun q hq => (e 5 q (by omega) (by omega)).trans (h5 q hq), (e 0 8 (by omega) (by omega)).trans h6, (e 0 7 (by omega) (by omega)).trans h7, (e 0 6 (by omega) (by omega)).trans h8, fun n t a b c => (e 6 _ (by omega) (by omega)).trans (h9 n t a b c)⟩
theorem RC_fr {w w' : WF} {K : Kg} {i i2 : Nat} {s : Sa} (h : RC w K i2 s) (hc : frS i w w') (hn : ¬ i2 = i) : RC w' K i2 s := RC_cg (fun o q => hc 6 i2 o q (by omega) (fun y => hn y.2)) h
theorem CPY.fr {w w' : WF} {i i2 : Nat} (h : CPY w i i2 w') : frS i w w' := fun c i' o q _ h2 => h.2 c i' o q h2
set_option maxRecDepth 20000 in
theorem c_X6_copyFrom {l : Launch} {X : XT} {d Lz : Nat} {w : Nat → Nat → Nat → Nat → Int32} (i i2 : Nat) (hii : ¬ i2 = i) (hz : w 6 i2 0 8 = 0 ∨ w 6 i2 0 8 = 1) : WP l X (d + 1) md_X6_copyFrom (en md_X6_copyFrom [.inr (.inr (6, i, 0)), .inr (.inr (6, i2, 0))] (mk Lz w)) (fun v M' => v = none ∧ ∃ w', M' = mk Lz w' ∧ CPY w i i2 w') := by
  show WP l X _ md_X6_copyFrom (0, [some (.inr (.inr (6, i, 0))), some (.inr (.inr (6, i2, 0)))], [], _) _
  refine x_aload_n (pc' := 1) rfl rfl rfl (x_getR (pc' := 4) (t := (6, _, 1)) rfl rfl rfl (x_iconst (pc' := 5) rfl rfl (x_aload_n (pc' := 6) rfl rfl rfl (x_getR (pc' := 9) (t := (6, _, 1)) rfl rfl rfl (x_iconst (pc' := 10) rfl rfl ?_)))))
  refine x_bipush (pc' := 12) rfl rfl (x_acopy (pc' := 15) (N := 21) rfl rfl rfl rfl rfl rfl rfl (by decide) (x_aload_n (pc' := 16) rfl rfl rfl (x_getR (pc' := 19) (t := (6, _, 2)) rfl rfl rfl (x_iconst (pc' := 20) rfl rfl (x_aload_n (pc' := 21) rfl rfl rfl ?_)))))
  refine x_getR (pc' := 24) (t := (6, _, 2)) rfl rfl rfl (x_iconst (pc' := 25) rfl rfl (x_bipush (pc' := 27) rfl rfl (x_acopy (pc' := 30) (N := 7) rfl rfl rfl rfl rfl rfl rfl (by decide) (x_aload_n (pc' := 31) rfl rfl rfl (x_getR (pc' := 34) (t := (6, _, 3)) rfl rfl rfl ?_)))))
  refine x_iconst (pc' := 35) rfl rfl (x_aload_n (pc' := 36) rfl rfl rfl (x_getR (pc' := 39) (t := (6, _, 3)) rfl rfl rfl (x_iconst (pc' := 40) rfl rfl (x_bipush (pc' := 42) rfl rfl (x_acopy (pc' := 45) (N := 7) rfl rfl rfl rfl rfl rfl rfl (by decide) ?_)))))
  refine x_aload_n (pc' := 46) rfl rfl rfl (x_getR (pc' := 49) (t := (6, _, 4)) rfl rfl rfl (x_iconst (pc' := 50) rfl rfl (x_aload_n (pc' := 51) rfl rfl rfl (x_getR (pc' := 54) (t := (6, _, 4)) rfl rfl rfl (x_iconst (pc' := 55) rfl rfl ?_)))))
  refine x_bipush (pc' := 57) rfl rfl (x_acopy (pc' := 60) (N := 7) rfl rfl rfl rfl rfl rfl rfl (by decide) (x_aload_n (pc' := 61) rfl rfl rfl (x_getR (pc' := 64) (t := (6, _, 5)) rfl rfl rfl (x_iconst (pc' := 65) rfl rfl (x_aload_n (pc' := 66) rfl rfl rfl ?_)))))
  refine x_getR (pc' := 69) (t := (6, _, 5)) rfl rfl rfl (x_iconst (pc' := 70) rfl rfl (x_iconst (pc' := 71) rfl rfl (x_acopy (pc' := 74) (N := 4) rfl rfl rfl rfl rfl rfl rfl (by decide) (x_aload_n (pc' := 75) rfl rfl rfl (x_getR (pc' := 78) (t := (6, _, 6)) rfl rfl rfl ?_)))))
  refine x_iconst (pc' := 79) rfl rfl (x_aload_n (pc' := 80) rfl rfl rfl (x_getR (pc' := 83) (t := (6, _, 6)) rfl rfl rfl (x_iconst (pc' := 84) rfl rfl (x_bipush (pc' := 86) rfl rfl (x_acopy (pc' := 89) (N := 80) rfl rfl rfl rfl rfl rfl rfl (by decide) ?_)))))
  refine x_aload_n (pc' := 90) rfl rfl rfl (x_aload_n (pc' := 91) rfl rfl rfl (x_getI (pc' := 94) rfl rfl rfl (x_putI (pc' := 97) rfl rfl rfl (x_aload_n (pc' := 98) rfl rfl rfl (x_aload_n (pc' := 99) rfl rfl rfl ?_)))))
  refine x_getI (pc' := 102) rfl rfl rfl (x_putI (pc' := 105) rfl rfl rfl (x_aload_n (pc' := 106) rfl rfl rfl (x_aload_n (pc' := 107) rfl rfl rfl (x_getI (pc' := 110) rfl rfl rfl (x_putZ (pc' := 113) rfl rfl rfl (by simpa [u4, uc, hii] using hz) ?_)))))
  refine x_vret rfl rfl ?_
  refine ⟨rfl, _, rfl, fun o q hq ho => ?_, fun c i' o q hn => ?_⟩
  · have h7 : o = 0 ∨ o = 1 ∨ o = 2 ∨ o = 3 ∨ o = 4 ∨ o = 5 ∨ o = 6 := by omega
    rcases h7 with rfl | rfl | rfl | rfl | rfl | rfl | rfl
    · have h8 := hq rfl
      have h9 : q = 6 ∨ q = 7 ∨ q = 8 := by omega
      rcases h9 with rfl | rfl | rfl <;> simp [u4, uc, hii]
    · simp [u4, uc, hii]
    · simp [u4, uc, hii]
    · simp [u4, uc, hii]
    · simp [u4, uc, hii]
    · simp [u4, uc, hii]
    · simp [u4, uc, hii]
  · have e1 : ∀ P : Prop, ¬ (c = 6 ∧ i' = i ∧ P) := fun P y => hn ⟨y.1, y.2.1⟩
    simp only [u4, uc, e1, if_false]
def psh (n : Nat) (pa : Nat → Sa) (s : Sa) : Nat → Sa := fun m => if n = 30 then (if m = 29 then s else pa (m + 1)) else (if m = n then s else pa m)
/-- what was so ahead -/
def PaC (w : WF) (K : Kg) (n : Nat) (pa : Nat → Sa) : Prop := w 3 0 0 2 = nI n ∧ ∃ t, t < 30 ∧ w 3 0 0 1 = nI t ∧ ∀ m, m < n → RC w K (2 + (t + 30 - n + m) % 30) (pa m)
def frP (w w' : WF) : Prop := ∀ c i o q, ¬ (c = 3 ∧ i = 0 ∧ o = 0) → ¬ (c = 6 ∧ 2 ≤ i ∧ i < 32) → w' c i o q = w c i o q
theorem nI_min {n m : Nat} (hn : n < 2 ^ 31) (hm : m < 2 ^ 31) : mnI (nI n) (nI m) = nI (min n m) := by
  unfold mnI
  by_cases z : m < n
  · rw [if_pos ((nI_ltI hm hn).mpr z), Nat.min_eq_right (by omega)]
  · rw [if_neg (fun y => z ((nI_ltI hm hn).mp y)), Nat.min_eq_left (by omega)]
set_option maxRecDepth 20000 in
theorem c_X3_remember {l : Launch} {X : XT} {d Lz : Nat} {w : Nat → Nat → Nat → Nat → Int32} {K : Kg} {s : Sa} (n : Nat) (pa : Nat → Sa) (h0 : RC w K 0 s) (hs : SV s) (hP : PaC w K n pa) (h30 : n ≤ 30) : WP l X (d + 2) md_X3_remember (en md_X3_remember [.inr (.inr (3, 0, 0)), .inr (.inr (6, 0, 0))] (mk Lz w)) (fun v M' => v = none ∧ ∃ w', M' = mk Lz w' ∧ PaC w' K (min (n + 1) 30) (psh n pa s) ∧ frP w w') := by
  obtain ⟨hn, t, ht3, ht, hp⟩ := hP
  have hz : w 6 0 0 8 = 0 ∨ w 6 0 0 8 = 1 := by rw [h0.2.2.2.2.2.1]; exact hs.1
  show WP l X _ md_X3_remember (0, [some (.inr (.inr (3, 0, 0))), some (.inr (.inr (6, 0, 0)))], [], _) _
  refine x_aload_n (pc' := 1) rfl rfl rfl (x_getR (pc' := 4) (t := (3, _, 1)) rfl rfl rfl (x_aload_n (pc' := 5) rfl rfl rfl (x_getI (pc' := 8) rfl rfl rfl ?_)))
  rw [ht]
  refine x_aald (pc' := 9) (N := 30) rfl rfl rfl (by decide) rfl rfl ht3 (by decide) (x_aload_n (pc' := 10) rfl rfl rfl (x_invQ2 (pc' := 13) rfl rfl rfl rfl (c_X6_copyFrom (2 + t) 0 (by omega) hz) (fun vq Mq hq10 => ?_)))
  obtain ⟨rfl, w1, rfl, hc⟩ := hq10
  show WP l X _ md_X3_remember (13, _, [], _) _
  refine x_aload_n (pc' := 14) rfl rfl rfl (x_aload_n (pc' := 15) rfl rfl rfl (x_getI (pc' := 18) rfl rfl rfl ?_))
  rw [hc.2 3 0 0 1 (by omega), ht]
  refine x_iconst (pc' := 19) rfl rfl (x_iaddN (pc' := 20) rfl rfl (x_bipush (pc' := 22) rfl rfl (x_iremN (pc' := 23) rfl rfl (by decide) (by omega) (by decide) (x_putI (pc' := 26) rfl rfl rfl (x_aload_n (pc' := 27) rfl rfl rfl ?_)))))
  refine x_aload_n (pc' := 28) rfl rfl rfl (x_getI (pc' := 31) rfl rfl rfl ?_)
  rw [u4_k (by omega), hc.2 3 0 0 2 (by omega), hn]
  refine x_iconst (pc' := 32) rfl rfl (x_iaddN (pc' := 33) rfl rfl (x_bipush (pc' := 35) rfl rfl (x_invS2 (pc' := 38) rfl rfl rfl rfl rfl (c_J9_min_7cf53 _ _) ?_)))
  rw [nI_min (by omega) (by omega)]
  refine x_putI (pc' := 41) rfl rfl rfl ?_
  refine x_vret rfl rfl ?_
  refine ⟨rfl, _, rfl, ⟨u4_self _ _ _ _ _ _, (t + 1) % 30, by omega, ?_, fun m hm => ?_⟩, fun c i o q h1 h2 => ?_⟩
  · rw [u4_k (by omega), u4_self]
  · have e : ∀ i o q, u4 (u4 w1 3 0 0 1 (nI ((t + 1) % 30))) 3 0 0 2 (nI (min (n + 1) 30)) 6 i o q = w1 6 i o q := fun i o q => by rw [u4_ne (by intro z; cases z), u4_ne (by intro z; cases z)]
    refine RC_cg (w := w1) (fun o q => e _ o q) ?_
    unfold psh
    by_cases z : n = 30
    · rw [if_pos z]
      subst z
      by_cases y : m = 29
      · rw [if_pos y, show 2 + ((t + 1) % 30 + 30 - min (30 + 1) 30 + m) % 30 = 2 + t by omega]; exact RC_cpy h0 hc
      · rw [if_neg y, show 2 + ((t + 1) % 30 + 30 - min (30 + 1) 30 + m) % 30 = 2 + (t + 30 - 30 + (m + 1)) % 30 by omega]; exact RC_fr (hp (m + 1) (by omega)) hc.fr (by omega)
    · rw [if_neg z]
      by_cases y : m = n
      · rw [if_pos y, show 2 + ((t + 1) % 30 + 30 - min (n + 1) 30 + m) % 30 = 2 + t by omega]; exact RC_cpy h0 hc
      · rw [if_neg y, show 2 + ((t + 1) % 30 + 30 - min (n + 1) 30 + m) % 30 = 2 + (t + 30 - n + m) % 30 by omega]; exact RC_fr (hp m (by omega)) hc.fr (by omega)
  · rw [u4_ne (ne3 h1), u4_ne (ne3 h1)]; exact hc.2 c i o q (by omega)
set_option maxRecDepth 20000 in
theorem c_X3_takeBack {l : Launch} {X : XT} {d Lz : Nat} {w : Nat → Nat → Nat → Nat → Int32} {K : Kg} (n m : Nat) (pa : Nat → Sa) (hs : SV (pa (n - m))) (hP : PaC w K n pa) (h30 : n ≤ 30) (hm1 : 1 ≤ m) (hm : m ≤ n) : WP l X (d + 2) md_X3_takeBack (en md_X3_takeBack [.inr (.inr (3, 0, 0)), .inr (.inr (6, 0, 0)), .inl (nI m)] (mk Lz w)) (fun v M' => v = none ∧ ∃ w', M' = mk Lz w' ∧ RC w' K 0 (pa (n - m)) ∧ PaC w' K (n - m) pa ∧ (∀ c i o q, ¬ (c = 3 ∧ i = 0 ∧ o = 0) → ¬ (c = 6 ∧ i = 0) → w' c i o q = w c i o q)) := by
  obtain ⟨hn, t, ht3, ht, hp⟩ := hP
  have hrc0 := hp (n - m) (by omega)
  rw [show 2 + (t + 30 - n + (n - m)) % 30 = 2 + (t + 30 - m) % 30 by omega] at hrc0
  have hrc : RC (u4 (u4 w 3 0 0 1 (nI ((t + 30 - m) % 30))) 3 0 0 2 (nI (n - m))) K (2 + (t + 30 - m) % 30) (pa (n - m)) := RC_cg (fun o q => by rw [u4_ne (by intro z; cases z), u4_ne (by intro z; cases z)]) hrc0
  have hz2 : u4 (u4 w 3 0 0 1 (nI ((t + 30 - m) % 30))) 3 0 0 2 (nI (n - m)) 6 (2 + (t + 30 - m) % 30) 0 8 = 0 ∨ u4 (u4 w 3 0 0 1 (nI ((t + 30 - m) % 30))) 3 0 0 2 (nI (n - m)) 6 (2 + (t + 30 - m) % 30) 0 8 = 1 := by rw [hrc.2.2.2.2.2.1]; exact hs.1
  show WP l X _ md_X3_takeBack (0, [some (.inr (.inr (3, 0, 0))), some (.inr (.inr (6, 0, 0))), some (.inl (nI m))], [], _) _
  refine x_iload_n (pc' := 1) rfl rfl rfl (x_iconst (pc' := 2) rfl rfl ?_)
  refine x_icmp_ltN (pc' := 5) rfl rfl (by omega) (by omega) (fun h2 => ?_) (fun h2 => ?_)
  · refine x_vret rfl rfl ?_
    exact absurd hm1 (by omega)
  · refine x_iload_n (pc' := 6) rfl rfl rfl (x_aload_n (pc' := 7) rfl rfl rfl (x_getI (pc' := 10) rfl rfl rfl ?_))
    rw [hn]
    refine x_icmp_leN (pc' := 13) rfl rfl (by omega) (by omega) (fun h10 => ?_) (fun h10 => ?_)
    · refine x_aload_n (pc' := 15) rfl rfl rfl (x_aload_n (pc' := 16) rfl rfl rfl (x_getI (pc' := 19) rfl rfl rfl ?_))
      rw [ht]
      refine x_bipush (pc' := 21) rfl rfl (x_iaddN (pc' := 22) rfl rfl (x_iload_n (pc' := 23) rfl rfl rfl (x_isubN (pc' := 24) rfl rfl (by first | assumption | omega) (x_bipush (pc' := 26) rfl rfl (x_iremN (pc' := 27) rfl rfl (by decide) (by omega) (by decide) ?_)))))
      refine x_putI (pc' := 30) rfl rfl rfl (x_aload_n (pc' := 31) rfl rfl rfl (x_dup (pc' := 32) rfl rfl rfl (x_getI (pc' := 35) rfl rfl rfl ?_)))
      rw [u4_k (by omega), hn]
      refine x_iload_n (pc' := 36) rfl rfl rfl (x_isubN (pc' := 37) rfl rfl (by first | assumption | omega) (x_putI (pc' := 40) rfl rfl rfl (x_aload_n (pc' := 41) rfl rfl rfl (x_aload_n (pc' := 42) rfl rfl rfl (x_getR (pc' := 45) (t := (3, _, 1)) rfl rfl rfl ?_)))))
      refine x_aload_n (pc' := 46) rfl rfl rfl (x_getI (pc' := 49) rfl rfl rfl ?_)
      rw [u4_k (by omega), u4_self]
      refine x_aald (pc' := 50) (N := 30) rfl rfl rfl (by decide) rfl rfl (by omega) (by decide) (x_invQ2 (pc' := 53) rfl rfl rfl rfl (c_X6_copyFrom 0 (2 + (t + 30 - m) % 30) (by omega) hz2) (fun vq Mq hq50 => ?_))
      obtain ⟨rfl, w1, rfl, hc⟩ := hq50
      show WP l X _ md_X3_takeBack (53, _, [], _) _
      refine x_vret rfl rfl ?_
      refine ⟨rfl, _, rfl, RC_cpy hrc hc, ⟨?_, (t + 30 - m) % 30, by omega, ?_, fun p hp2 => ?_⟩, fun c i o q h1 h2 => ?_⟩
      · rw [hc.2 3 0 0 2 (by omega), u4_self]
      · rw [hc.2 3 0 0 1 (by omega), u4_k (by omega), u4_self]
      · refine RC_cg (w := w) (fun o q => ?_) ?_
        · rw [hc.2 6 _ o q (by omega), u4_ne (by intro z; cases z), u4_ne (by intro z; cases z)]
        · rw [show 2 + ((t + 30 - m) % 30 + 30 - (n - m) + p) % 30 = 2 + (t + 30 - n + p) % 30 by omega]; exact hp p (by omega)
      · rw [hc.2 c i o q h2, u4_ne (ne3 h1), u4_ne (ne3 h1)]
    · refine x_vret rfl rfl ?_
      exact absurd hm1 (by omega)
end
