section
-- ===== PART A: goes FIRST, ahead of the names: the tables' words, and 'selects' of the private methods out of them =====
/-- a private method of a class that the tables say can be made, by its rows of tables_1 -/
def lw_okq (q : MethodName × Nat) : Prop := (q.1.cls ≠ "java/lang/invoke/MethodHandle" ∧ q.1.cls ≠ "java/lang/invoke/VarHandle") ∧ Cond.instantiable q.1.cls q.2 ∈ tables_1 ∧ Cond.privateMethod q.1 ∈ tables_1 ∧ Cond.instanceMethod q.1 ∈ tables_1
theorem lw_p0 : lw_okq (⟨"WhaleTown$Town", "startOver", "()V"⟩, 13) := ⟨⟨by decide +kernel, by decide +kernel⟩, List.mem_of_getElem? (i := 64) (by decide +kernel), List.mem_of_getElem? (i := 264) (by decide +kernel), List.mem_of_getElem? (i := 265) (by decide +kernel)⟩
theorem lw_p1 : lw_okq (⟨"WhaleTown$ItemReader", "readNumber", "(LWhaleTown$Text;)Z"⟩, 4) := ⟨⟨by decide +kernel, by decide +kernel⟩, List.mem_of_getElem? (i := 43) (by decide +kernel), List.mem_of_getElem? (i := 280) (by decide +kernel), List.mem_of_getElem? (i := 281) (by decide +kernel)⟩
theorem lw_p2 : lw_okq (⟨"WhaleTown$ItemReader", "isTold", "()Z"⟩, 4) := ⟨⟨by decide +kernel, by decide +kernel⟩, List.mem_of_getElem? (i := 43) (by decide +kernel), List.mem_of_getElem? (i := 291) (by decide +kernel), List.mem_of_getElem? (i := 292) (by decide +kernel)⟩
theorem lw_p3 : lw_okq (⟨"WhaleTown$ItemReader", "reaches", "(III)Z"⟩, 4) := ⟨⟨by decide +kernel, by decide +kernel⟩, List.mem_of_getElem? (i := 43) (by decide +kernel), List.mem_of_getElem? (i := 295) (by decide +kernel), List.mem_of_getElem? (i := 296) (by decide +kernel)⟩
theorem lw_p4 : lw_okq (⟨"WhaleTown$Town", "take", "(LWhaleTown$ItemReader;)Z"⟩, 13) := ⟨⟨by decide +kernel, by decide +kernel⟩, List.mem_of_getElem? (i := 64) (by decide +kernel), List.mem_of_getElem? (i := 300) (by decide +kernel), List.mem_of_getElem? (i := 301) (by decide +kernel)⟩
theorem lw_p5 : lw_okq (⟨"WhaleTown$Town", "takeSleeps", "(LWhaleTown$ItemReader;)Z"⟩, 13) := ⟨⟨by decide +kernel, by decide +kernel⟩, List.mem_of_getElem? (i := 64) (by decide +kernel), List.mem_of_getElem? (i := 304) (by decide +kernel), List.mem_of_getElem? (i := 305) (by decide +kernel)⟩
theorem lw_p6 : lw_okq (⟨"WhaleTown$Town", "takeSign", "(LWhaleTown$ItemReader;)Z"⟩, 13) := ⟨⟨by decide +kernel, by decide +kernel⟩, List.mem_of_getElem? (i := 64) (by decide +kernel), List.mem_of_getElem? (i := 312) (by decide +kernel), List.mem_of_getElem? (i := 313) (by decide +kernel)⟩
theorem lw_p7 : lw_okq (⟨"WhaleTown$Town", "takeHouse", "(LWhaleTown$ItemReader;)Z"⟩, 13) := ⟨⟨by decide +kernel, by decide +kernel⟩, List.mem_of_getElem? (i := 64) (by decide +kernel), List.mem_of_getElem? (i := 316) (by decide +kernel), List.mem_of_getElem? (i := 317) (by decide +kernel)⟩
theorem lw_p8 : lw_okq (⟨"WhaleTown$Town", "takeBoat", "(LWhaleTown$ItemReader;)Z"⟩, 13) := ⟨⟨by decide +kernel, by decide +kernel⟩, List.mem_of_getElem? (i := 64) (by decide +kernel), List.mem_of_getElem? (i := 320) (by decide +kernel), List.mem_of_getElem? (i := 321) (by decide +kernel)⟩
theorem lw_p9 : lw_okq (⟨"WhaleTown$Town", "takeWorks", "(LWhaleTown$ItemReader;)Z"⟩, 13) := ⟨⟨by decide +kernel, by decide +kernel⟩, List.mem_of_getElem? (i := 64) (by decide +kernel), List.mem_of_getElem? (i := 324) (by decide +kernel), List.mem_of_getElem? (i := 325) (by decide +kernel)⟩
theorem lw_p10 : lw_okq (⟨"WhaleTown$Town", "takeCosts", "(LWhaleTown$ItemReader;)Z"⟩, 13) := ⟨⟨by decide +kernel, by decide +kernel⟩, List.mem_of_getElem? (i := 64) (by decide +kernel), List.mem_of_getElem? (i := 328) (by decide +kernel), List.mem_of_getElem? (i := 329) (by decide +kernel)⟩
theorem lw_p11 : lw_okq (⟨"WhaleTown", "diaryCanBe", "()Z"⟩, 13) := ⟨⟨by decide +kernel, by decide +kernel⟩, List.mem_of_getElem? (i := 19) (by decide +kernel), List.mem_of_getElem? (i := 458) (by decide +kernel), List.mem_of_getElem? (i := 459) (by decide +kernel)⟩
theorem lw_p12 : lw_okq (⟨"WhaleTown$Sleeper", "lookAt", "(LWhaleTown$Town;I)V"⟩, 3) := ⟨⟨by decide +kernel, by decide +kernel⟩, List.mem_of_getElem? (i := 136) (by decide +kernel), List.mem_of_getElem? (i := 491) (by decide +kernel), List.mem_of_getElem? (i := 492) (by decide +kernel)⟩
theorem lw_p13 : lw_okq (⟨"WhaleTown$Town", "hangsOnOther", "(I)Z"⟩, 13) := ⟨⟨by decide +kernel, by decide +kernel⟩, List.mem_of_getElem? (i := 64) (by decide +kernel), List.mem_of_getElem? (i := 502) (by decide +kernel), List.mem_of_getElem? (i := 503) (by decide +kernel)⟩
theorem lw_p14 : lw_okq (⟨"WhaleTown$Town", "ownChance", "(III)I"⟩, 13) := ⟨⟨by decide +kernel, by decide +kernel⟩, List.mem_of_getElem? (i := 64) (by decide +kernel), List.mem_of_getElem? (i := 507) (by decide +kernel), List.mem_of_getElem? (i := 508) (by decide +kernel)⟩
theorem lw_p15 : lw_okq (⟨"WhaleTown", "lookAhead", "(II)V"⟩, 13) := ⟨⟨by decide +kernel, by decide +kernel⟩, List.mem_of_getElem? (i := 19) (by decide +kernel), List.mem_of_getElem? (i := 527) (by decide +kernel), List.mem_of_getElem? (i := 528) (by decide +kernel)⟩
def lw_privs_1 : List (MethodName × Nat) := [(⟨"WhaleTown$Town", "startOver", "()V"⟩, 13), (⟨"WhaleTown$ItemReader", "readNumber", "(LWhaleTown$Text;)Z"⟩, 4), (⟨"WhaleTown$ItemReader", "isTold", "()Z"⟩, 4), (⟨"WhaleTown$ItemReader", "reaches", "(III)Z"⟩, 4), (⟨"WhaleTown$Town", "take", "(LWhaleTown$ItemReader;)Z"⟩, 13), (⟨"WhaleTown$Town", "takeSleeps", "(LWhaleTown$ItemReader;)Z"⟩, 13), (⟨"WhaleTown$Town", "takeSign", "(LWhaleTown$ItemReader;)Z"⟩, 13), (⟨"WhaleTown$Town", "takeHouse", "(LWhaleTown$ItemReader;)Z"⟩, 13), (⟨"WhaleTown$Town", "takeBoat", "(LWhaleTown$ItemReader;)Z"⟩, 13), (⟨"WhaleTown$Town", "takeWorks", "(LWhaleTown$ItemReader;)Z"⟩, 13), (⟨"WhaleTown$Town", "takeCosts", "(LWhaleTown$ItemReader;)Z"⟩, 13), (⟨"WhaleTown", "diaryCanBe", "()Z"⟩, 13), (⟨"WhaleTown$Sleeper", "lookAt", "(LWhaleTown$Town;I)V"⟩, 3), (⟨"WhaleTown$Town", "hangsOnOther", "(I)Z"⟩, 13), (⟨"WhaleTown$Town", "ownChance", "(III)I"⟩, 13), (⟨"WhaleTown", "lookAhead", "(II)V"⟩, 13)]
theorem lw_r1 : ∀ q ∈ lw_privs_1, lw_okq q := List.forall_mem_cons.mpr ⟨lw_p0, List.forall_mem_cons.mpr ⟨lw_p1, List.forall_mem_cons.mpr ⟨lw_p2, List.forall_mem_cons.mpr ⟨lw_p3, List.forall_mem_cons.mpr ⟨lw_p4, List.forall_mem_cons.mpr ⟨lw_p5, List.forall_mem_cons.mpr ⟨lw_p6, List.forall_mem_cons.mpr ⟨lw_p7, List.forall_mem_cons.mpr ⟨lw_p8, List.forall_mem_cons.mpr ⟨lw_p9, List.forall_mem_cons.mpr ⟨lw_p10, List.forall_mem_cons.mpr ⟨lw_p11, List.forall_mem_cons.mpr ⟨lw_p12, List.forall_mem_cons.mpr ⟨lw_p13, List.forall_mem_cons.mpr ⟨lw_p14, List.forall_mem_cons.mpr ⟨lw_p15, fun _ h => absurd h List.not_mem_nil⟩⟩⟩⟩⟩⟩⟩⟩⟩⟩⟩⟩⟩⟩⟩⟩
theorem lw_p16 : lw_okq (⟨"WhaleTown", "nextDayCanBe", "(I)Z"⟩, 13) := ⟨⟨by decide +kernel, by decide +kernel⟩, List.mem_of_getElem? (i := 19) (by decide +kernel), List.mem_of_getElem? (i := 545) (by decide +kernel), List.mem_of_getElem? (i := 546) (by decide +kernel)⟩
theorem lw_p17 : lw_okq (⟨"WhaleTown", "awayFromHalf", "(I)J"⟩, 13) := ⟨⟨by decide +kernel, by decide +kernel⟩, List.mem_of_getElem? (i := 19) (by decide +kernel), List.mem_of_getElem? (i := 562) (by decide +kernel), List.mem_of_getElem? (i := 563) (by decide +kernel)⟩
theorem lw_p18 : lw_okq (⟨"WhaleTown", "costOfBoarding", "(II)J"⟩, 13) := ⟨⟨by decide +kernel, by decide +kernel⟩, List.mem_of_getElem? (i := 19) (by decide +kernel), List.mem_of_getElem? (i := 574) (by decide +kernel), List.mem_of_getElem? (i := 575) (by decide +kernel)⟩
theorem lw_p19 : lw_okq (⟨"WhaleTown", "isQuiet", "(II)Z"⟩, 13) := ⟨⟨by decide +kernel, by decide +kernel⟩, List.mem_of_getElem? (i := 19) (by decide +kernel), List.mem_of_getElem? (i := 585) (by decide +kernel), List.mem_of_getElem? (i := 586) (by decide +kernel)⟩
theorem lw_p20 : lw_okq (⟨"WhaleTown$Crewing", "findWith", "(LWhaleTown$Town;I)Z"⟩, 3) := ⟨⟨by decide +kernel, by decide +kernel⟩, List.mem_of_getElem? (i := 174) (by decide +kernel), List.mem_of_getElem? (i := 626) (by decide +kernel), List.mem_of_getElem? (i := 627) (by decide +kernel)⟩
theorem lw_p21 : lw_okq (⟨"WhaleTown$Drifting", "passNight", "(II)V"⟩, 2) := ⟨⟨by decide +kernel, by decide +kernel⟩, List.mem_of_getElem? (i := 191) (by decide +kernel), List.mem_of_getElem? (i := 651) (by decide +kernel), List.mem_of_getElem? (i := 652) (by decide +kernel)⟩
theorem lw_p22 : lw_okq (⟨"WhaleTown$Told", "toldAheadOf", "(I)I"⟩, 4) := ⟨⟨by decide +kernel, by decide +kernel⟩, List.mem_of_getElem? (i := 154) (by decide +kernel), List.mem_of_getElem? (i := 684) (by decide +kernel), List.mem_of_getElem? (i := 685) (by decide +kernel)⟩
theorem lw_p23 : lw_okq (⟨"WhaleTownModel", "law", "(IIII)V"⟩, 31) := ⟨⟨by decide +kernel, by decide +kernel⟩, List.mem_of_getElem? (i := 737) (by decide +kernel), List.mem_of_getElem? (i := 743) (by decide +kernel), List.mem_of_getElem? (i := 744) (by decide +kernel)⟩
theorem lw_p24 : lw_okq (⟨"WhaleTownModel", "sign4", "(IIIII)V"⟩, 31) := ⟨⟨by decide +kernel, by decide +kernel⟩, List.mem_of_getElem? (i := 737) (by decide +kernel), List.mem_of_getElem? (i := 747) (by decide +kernel), List.mem_of_getElem? (i := 748) (by decide +kernel)⟩
theorem lw_p25 : lw_okq (⟨"WhaleTownModel", "house2", "(III)V"⟩, 31) := ⟨⟨by decide +kernel, by decide +kernel⟩, List.mem_of_getElem? (i := 737) (by decide +kernel), List.mem_of_getElem? (i := 751) (by decide +kernel), List.mem_of_getElem? (i := 752) (by decide +kernel)⟩
theorem lw_p26 : lw_okq (⟨"WhaleTownModel", "work2", "(III)V"⟩, 31) := ⟨⟨by decide +kernel, by decide +kernel⟩, List.mem_of_getElem? (i := 737) (by decide +kernel), List.mem_of_getElem? (i := 755) (by decide +kernel), List.mem_of_getElem? (i := 756) (by decide +kernel)⟩
theorem lw_p27 : lw_okq (⟨"WhaleTownModel", "readItem", "()V"⟩, 31) := ⟨⟨by decide +kernel, by decide +kernel⟩, List.mem_of_getElem? (i := 737) (by decide +kernel), List.mem_of_getElem? (i := 868) (by decide +kernel), List.mem_of_getElem? (i := 869) (by decide +kernel)⟩
theorem lw_p28 : lw_okq (⟨"WhaleTownModel", "here", "()I"⟩, 31) := ⟨⟨by decide +kernel, by decide +kernel⟩, List.mem_of_getElem? (i := 737) (by decide +kernel), List.mem_of_getElem? (i := 872) (by decide +kernel), List.mem_of_getElem? (i := 873) (by decide +kernel)⟩
theorem lw_p29 : lw_okq (⟨"WhaleTownModel", "number", "(III)I"⟩, 31) := ⟨⟨by decide +kernel, by decide +kernel⟩, List.mem_of_getElem? (i := 737) (by decide +kernel), List.mem_of_getElem? (i := 876) (by decide +kernel), List.mem_of_getElem? (i := 877) (by decide +kernel)⟩
theorem lw_p30 : lw_okq (⟨"WhaleTownModel", "isSign", "(I)Z"⟩, 31) := ⟨⟨by decide +kernel, by decide +kernel⟩, List.mem_of_getElem? (i := 737) (by decide +kernel), List.mem_of_getElem? (i := 889) (by decide +kernel), List.mem_of_getElem? (i := 890) (by decide +kernel)⟩
theorem lw_p31 : lw_okq (⟨"WhaleTownModel", "areWorks", "(I)Z"⟩, 31) := ⟨⟨by decide +kernel, by decide +kernel⟩, List.mem_of_getElem? (i := 737) (by decide +kernel), List.mem_of_getElem? (i := 897) (by decide +kernel), List.mem_of_getElem? (i := 898) (by decide +kernel)⟩
def lw_privs_2 : List (MethodName × Nat) := [(⟨"WhaleTown", "nextDayCanBe", "(I)Z"⟩, 13), (⟨"WhaleTown", "awayFromHalf", "(I)J"⟩, 13), (⟨"WhaleTown", "costOfBoarding", "(II)J"⟩, 13), (⟨"WhaleTown", "isQuiet", "(II)Z"⟩, 13), (⟨"WhaleTown$Crewing", "findWith", "(LWhaleTown$Town;I)Z"⟩, 3), (⟨"WhaleTown$Drifting", "passNight", "(II)V"⟩, 2), (⟨"WhaleTown$Told", "toldAheadOf", "(I)I"⟩, 4), (⟨"WhaleTownModel", "law", "(IIII)V"⟩, 31), (⟨"WhaleTownModel", "sign4", "(IIIII)V"⟩, 31), (⟨"WhaleTownModel", "house2", "(III)V"⟩, 31), (⟨"WhaleTownModel", "work2", "(III)V"⟩, 31), (⟨"WhaleTownModel", "readItem", "()V"⟩, 31), (⟨"WhaleTownModel", "here", "()I"⟩, 31), (⟨"WhaleTownModel", "number", "(III)I"⟩, 31), (⟨"WhaleTownModel", "isSign", "(I)Z"⟩, 31), (⟨"WhaleTownModel", "areWorks", "(I)Z"⟩, 31)]
theorem lw_r2 : ∀ q ∈ lw_privs_2, lw_okq q := List.forall_mem_cons.mpr ⟨lw_p16, List.forall_mem_cons.mpr ⟨lw_p17, List.forall_mem_cons.mpr ⟨lw_p18, List.forall_mem_cons.mpr ⟨lw_p19, List.forall_mem_cons.mpr ⟨lw_p20, List.forall_mem_cons.mpr ⟨lw_p21, List.forall_mem_cons.mpr ⟨lw_p22, List.forall_mem_cons.mpr ⟨lw_p23, List.forall_mem_cons.mpr ⟨lw_p24, List.forall_mem_cons.mpr ⟨lw_p25, List.forall_mem_cons.mpr ⟨lw_p26, List.forall_mem_cons.mpr ⟨lw_p27, List.forall_mem_cons.mpr ⟨lw_p28, List.forall_mem_cons.mpr ⟨lw_p29, List.forall_mem_cons.mpr ⟨lw_p30, List.forall_mem_cons.mpr ⟨lw_p31, fun _ h => absurd h List.not_mem_nil⟩⟩⟩⟩⟩⟩⟩⟩⟩⟩⟩⟩⟩⟩⟩⟩
theorem lw_p32 : lw_okq (⟨"WhaleTownModel", "sumNoise", "(I)I"⟩, 31) := ⟨⟨by decide +kernel, by decide +kernel⟩, List.mem_of_getElem? (i := 737) (by decide +kernel), List.mem_of_getElem? (i := 901) (by decide +kernel), List.mem_of_getElem? (i := 902) (by decide +kernel)⟩
theorem lw_p33 : lw_okq (⟨"WhaleTownModel", "sumBrings", "(I)I"⟩, 31) := ⟨⟨by decide +kernel, by decide +kernel⟩, List.mem_of_getElem? (i := 737) (by decide +kernel), List.mem_of_getElem? (i := 905) (by decide +kernel), List.mem_of_getElem? (i := 906) (by decide +kernel)⟩
theorem lw_p34 : lw_okq (⟨"WhaleTownModel", "find", "()Z"⟩, 31) := ⟨⟨by decide +kernel, by decide +kernel⟩, List.mem_of_getElem? (i := 737) (by decide +kernel), List.mem_of_getElem? (i := 926) (by decide +kernel), List.mem_of_getElem? (i := 927) (by decide +kernel)⟩
theorem lw_p35 : lw_okq (⟨"WhaleTownModel", "readDiary", "(I)V"⟩, 31) := ⟨⟨by decide +kernel, by decide +kernel⟩, List.mem_of_getElem? (i := 737) (by decide +kernel), List.mem_of_getElem? (i := 930) (by decide +kernel), List.mem_of_getElem? (i := 931) (by decide +kernel)⟩
theorem lw_p36 : lw_okq (⟨"WhaleTownModel", "goOn", "(II)V"⟩, 31) := ⟨⟨by decide +kernel, by decide +kernel⟩, List.mem_of_getElem? (i := 737) (by decide +kernel), List.mem_of_getElem? (i := 934) (by decide +kernel), List.mem_of_getElem? (i := 935) (by decide +kernel)⟩
theorem lw_p37 : lw_okq (⟨"WhaleTownModel", "chance", "(II)I"⟩, 31) := ⟨⟨by decide +kernel, by decide +kernel⟩, List.mem_of_getElem? (i := 737) (by decide +kernel), List.mem_of_getElem? (i := 938) (by decide +kernel), List.mem_of_getElem? (i := 939) (by decide +kernel)⟩
theorem lw_p38 : lw_okq (⟨"WhaleTownModel", "likely", "(III)J"⟩, 31) := ⟨⟨by decide +kernel, by decide +kernel⟩, List.mem_of_getElem? (i := 737) (by decide +kernel), List.mem_of_getElem? (i := 942) (by decide +kernel), List.mem_of_getElem? (i := 943) (by decide +kernel)⟩
theorem lw_p39 : lw_okq (⟨"WhaleTownModel", "isPaired", "(I)Z"⟩, 31) := ⟨⟨by decide +kernel, by decide +kernel⟩, List.mem_of_getElem? (i := 737) (by decide +kernel), List.mem_of_getElem? (i := 946) (by decide +kernel), List.mem_of_getElem? (i := 947) (by decide +kernel)⟩
theorem lw_p40 : lw_okq (⟨"WhaleTownModel", "seenBy", "(III)I"⟩, 31) := ⟨⟨by decide +kernel, by decide +kernel⟩, List.mem_of_getElem? (i := 737) (by decide +kernel), List.mem_of_getElem? (i := 950) (by decide +kernel), List.mem_of_getElem? (i := 951) (by decide +kernel)⟩
theorem lw_p41 : lw_okq (⟨"WhaleTownModel", "total", "()J"⟩, 31) := ⟨⟨by decide +kernel, by decide +kernel⟩, List.mem_of_getElem? (i := 737) (by decide +kernel), List.mem_of_getElem? (i := 958) (by decide +kernel), List.mem_of_getElem? (i := 959) (by decide +kernel)⟩
theorem lw_p42 : lw_okq (⟨"WhaleTownModel", "findTurns", "(I)Z"⟩, 31) := ⟨⟨by decide +kernel, by decide +kernel⟩, List.mem_of_getElem? (i := 737) (by decide +kernel), List.mem_of_getElem? (i := 969) (by decide +kernel), List.mem_of_getElem? (i := 970) (by decide +kernel)⟩
theorem lw_p43 : lw_okq (⟨"WhaleTownModel", "sightUp", "(II)J"⟩, 31) := ⟨⟨by decide +kernel, by decide +kernel⟩, List.mem_of_getElem? (i := 737) (by decide +kernel), List.mem_of_getElem? (i := 979) (by decide +kernel), List.mem_of_getElem? (i := 980) (by decide +kernel)⟩
theorem lw_p44 : lw_okq (⟨"WhaleTownModel", "sightOf", "(III)J"⟩, 31) := ⟨⟨by decide +kernel, by decide +kernel⟩, List.mem_of_getElem? (i := 737) (by decide +kernel), List.mem_of_getElem? (i := 983) (by decide +kernel), List.mem_of_getElem? (i := 984) (by decide +kernel)⟩
theorem lw_p45 : lw_okq (⟨"WhaleTownModel", "costOf", "(I)J"⟩, 31) := ⟨⟨by decide +kernel, by decide +kernel⟩, List.mem_of_getElem? (i := 737) (by decide +kernel), List.mem_of_getElem? (i := 997) (by decide +kernel), List.mem_of_getElem? (i := 998) (by decide +kernel)⟩
theorem lw_p46 : lw_okq (⟨"WhaleTownModel", "boatsOf", "(I)I"⟩, 31) := ⟨⟨by decide +kernel, by decide +kernel⟩, List.mem_of_getElem? (i := 737) (by decide +kernel), List.mem_of_getElem? (i := 1014) (by decide +kernel), List.mem_of_getElem? (i := 1015) (by decide +kernel)⟩
theorem lw_p47 : lw_okq (⟨"WhaleTownModel", "copy", "(II)V"⟩, 31) := ⟨⟨by decide +kernel, by decide +kernel⟩, List.mem_of_getElem? (i := 737) (by decide +kernel), List.mem_of_getElem? (i := 1057) (by decide +kernel), List.mem_of_getElem? (i := 1058) (by decide +kernel)⟩
def lw_privs_3 : List (MethodName × Nat) := [(⟨"WhaleTownModel", "sumNoise", "(I)I"⟩, 31), (⟨"WhaleTownModel", "sumBrings", "(I)I"⟩, 31), (⟨"WhaleTownModel", "find", "()Z"⟩, 31), (⟨"WhaleTownModel", "readDiary", "(I)V"⟩, 31), (⟨"WhaleTownModel", "goOn", "(II)V"⟩, 31), (⟨"WhaleTownModel", "chance", "(II)I"⟩, 31), (⟨"WhaleTownModel", "likely", "(III)J"⟩, 31), (⟨"WhaleTownModel", "isPaired", "(I)Z"⟩, 31), (⟨"WhaleTownModel", "seenBy", "(III)I"⟩, 31), (⟨"WhaleTownModel", "total", "()J"⟩, 31), (⟨"WhaleTownModel", "findTurns", "(I)Z"⟩, 31), (⟨"WhaleTownModel", "sightUp", "(II)J"⟩, 31), (⟨"WhaleTownModel", "sightOf", "(III)J"⟩, 31), (⟨"WhaleTownModel", "costOf", "(I)J"⟩, 31), (⟨"WhaleTownModel", "boatsOf", "(I)I"⟩, 31), (⟨"WhaleTownModel", "copy", "(II)V"⟩, 31)]
theorem lw_r3 : ∀ q ∈ lw_privs_3, lw_okq q := List.forall_mem_cons.mpr ⟨lw_p32, List.forall_mem_cons.mpr ⟨lw_p33, List.forall_mem_cons.mpr ⟨lw_p34, List.forall_mem_cons.mpr ⟨lw_p35, List.forall_mem_cons.mpr ⟨lw_p36, List.forall_mem_cons.mpr ⟨lw_p37, List.forall_mem_cons.mpr ⟨lw_p38, List.forall_mem_cons.mpr ⟨lw_p39, List.forall_mem_cons.mpr ⟨lw_p40, List.forall_mem_cons.mpr ⟨lw_p41, List.forall_mem_cons.mpr ⟨lw_p42, List.forall_mem_cons.mpr ⟨lw_p43, List.forall_mem_cons.mpr ⟨lw_p44, List.forall_mem_cons.mpr ⟨lw_p45, List.forall_mem_cons.mpr ⟨lw_p46, List.forall_mem_cons.mpr ⟨lw_p47, fun _ h => absurd h List.not_mem_nil⟩⟩⟩⟩⟩⟩⟩⟩⟩⟩⟩⟩⟩⟩⟩⟩
def lw_privs : List (MethodName × Nat) := lw_privs_1 ++ (lw_privs_2 ++ (lw_privs_3))
def lw_tbl : List Cond := k2_sels lw_privs ++ tables_1
theorem lw_privs_ok : ∀ q ∈ lw_privs, lw_okq q := by
  show ∀ q ∈ lw_privs_1 ++ (lw_privs_2 ++ (lw_privs_3)), lw_okq q
  exact List.forall_mem_append.mpr ⟨lw_r1, List.forall_mem_append.mpr ⟨lw_r2, lw_r3⟩⟩
-- ===== end of PART A; then your names; then what follows =====
end
section
/-! ===== BEGIN printed: names, fields, word lists, decode rows ===== -/
def RX0 : String := "WhaleTown$Crewing"
def TX0 : u_T := fun k => match k with
  | 0 => ("WhaleTown$Crewing", "boatOfHouse", "[I", true)
  | 1 => ("WhaleTown$Crewing", "roomLeft", "[I", true)
  | _ => ("WhaleTown$Crewing", "boats", "I", false)
def tyX0 : Nat → FieldType := fun k => match k with
  | 0 => .array .int
  | 1 => .array .int
  | _ => .int
abbrev wsX00 : List Cond := u_ws RX0 TX0 3
theorem nmX0 : ∀ a, a < 3 → ∀ b, b < 3 → a ≠ b → (TX0 a).2.1 ≠ (TX0 b).2.1 := by decide +kernel
theorem tyX0_ok : ∀ k, k < 3 → parseFieldDescriptor (TX0 k).2.2.1 = some (tyX0 k) := by decide +kernel
abbrev cX0_init : ByteArray := prog_2_method_1_code
def yX0_init : MethodName := ⟨RX0, "<init>", "()V"⟩
abbrev cX0_boatOf : ByteArray := prog_2_method_2_code
def yX0_boatOf : MethodName := ⟨RX0, "boatOf", "(I)I"⟩
abbrev cX0_find : ByteArray := prog_2_method_3_code
def yX0_find : MethodName := ⟨RX0, "find", "(LWhaleTown$Town;)Z"⟩
abbrev cX0_findWith : ByteArray := prog_2_method_4_code
def yX0_findWith : MethodName := ⟨RX0, "findWith", "(LWhaleTown$Town;I)Z"⟩
abbrev cX0_sendFrom : ByteArray := prog_2_method_5_code
def yX0_sendFrom : MethodName := ⟨RX0, "sendFrom", "(LWhaleTown$Crewing;LWhaleTown$Town;I)Z"⟩
def RX1 : String := "WhaleTown$Diary"
def TX1 : u_T := fun k => match k with
  | 0 => ("WhaleTown$Diary", "signs", "[I", true)
  | 1 => ("WhaleTown$Diary", "works", "[I", true)
  | _ => ("WhaleTown$Diary", "days", "I", false)
def tyX1 : Nat → FieldType := fun k => match k with
  | 0 => .array .int
  | 1 => .array .int
  | _ => .int
abbrev wsX10 : List Cond := u_ws RX1 TX1 3
theorem nmX1 : ∀ a, a < 3 → ∀ b, b < 3 → a ≠ b → (TX1 a).2.1 ≠ (TX1 b).2.1 := by decide +kernel
theorem tyX1_ok : ∀ k, k < 3 → parseFieldDescriptor (TX1 k).2.2.1 = some (tyX1 k) := by decide +kernel
abbrev cX1_init : ByteArray := prog_3_method_1_code
def yX1_init : MethodName := ⟨RX1, "<init>", "()V"⟩
abbrev cX1_append : ByteArray := prog_3_method_2_code
def yX1_append : MethodName := ⟨RX1, "append", "(II)V"⟩
abbrev cX1_signsOn : ByteArray := prog_3_method_3_code
def yX1_signsOn : MethodName := ⟨RX1, "signsOn", "(I)I"⟩
abbrev cX1_worksOn : ByteArray := prog_3_method_4_code
def yX1_worksOn : MethodName := ⟨RX1, "worksOn", "(I)I"⟩
abbrev cX1_takeFrom : ByteArray := prog_3_method_5_code
def yX1_takeFrom : MethodName := ⟨RX1, "takeFrom", "(LWhaleTown$Diary;)V"⟩
def RX2 : String := "WhaleTown$Drifting"
def TX2 : u_T := fun k => match k with
  | 0 => ("WhaleTown$Drifting", "ways", "[I", true)
  | _ => ("WhaleTown$Drifting", "waysLater", "[I", true)
def tyX2 : Nat → FieldType := fun k => match k with
  | 0 => .array .int
  | _ => .array .int
abbrev wsX20 : List Cond := u_ws RX2 TX2 2
theorem nmX2 : ∀ a, a < 2 → ∀ b, b < 2 → a ≠ b → (TX2 a).2.1 ≠ (TX2 b).2.1 := by decide +kernel
theorem tyX2_ok : ∀ k, k < 2 → parseFieldDescriptor (TX2 k).2.2.1 = some (tyX2 k) := by decide +kernel
abbrev cX2_init : ByteArray := prog_4_method_1_code
def yX2_init : MethodName := ⟨RX2, "<init>", "()V"⟩
abbrev cX2_waysTo : ByteArray := prog_4_method_2_code
def yX2_waysTo : MethodName := ⟨RX2, "waysTo", "(I)I"⟩
abbrev cX2_pass : ByteArray := prog_4_method_3_code
def yX2_pass : MethodName := ⟨RX2, "pass", "(III)V"⟩
abbrev cX2_passNight : ByteArray := prog_4_method_4_code
def yX2_passNight : MethodName := ⟨RX2, "passNight", "(II)V"⟩
def RX3 : String := "WhaleTown$ItemReader"
def TX3 : u_T := fun k => match k with
  | 0 => ("WhaleTown$ItemReader", "numbers", "[I", true)
  | 1 => ("WhaleTown$ItemReader", "numberCount", "I", false)
  | 2 => ("WhaleTown$ItemReader", "letter", "I", false)
  | _ => ("WhaleTown$ItemReader", "end", "I", false)
def tyX3 : Nat → FieldType := fun k => match k with
  | 0 => .array .int
  | 1 => .int
  | 2 => .int
  | _ => .int
abbrev wsX30 : List Cond := u_ws RX3 TX3 4
theorem nmX3 : ∀ a, a < 4 → ∀ b, b < 4 → a ≠ b → (TX3 a).2.1 ≠ (TX3 b).2.1 := by decide +kernel
theorem tyX3_ok : ∀ k, k < 4 → parseFieldDescriptor (TX3 k).2.2.1 = some (tyX3 k) := by decide +kernel
abbrev cX3_init : ByteArray := prog_5_method_1_code
def yX3_init : MethodName := ⟨RX3, "<init>", "()V"⟩
abbrev cX3_readAt : ByteArray := prog_5_method_2_code
def yX3_readAt : MethodName := ⟨RX3, "readAt", "(LWhaleTown$Text;I)Z"⟩
abbrev cX3_numberAt : ByteArray := prog_5_method_3_code
def yX3_numberAt : MethodName := ⟨RX3, "numberAt", "(I)I"⟩
abbrev cX3_readNumber : ByteArray := prog_5_method_4_code
def yX3_readNumber : MethodName := ⟨RX3, "readNumber", "(LWhaleTown$Text;)Z"⟩
abbrev cX3_figure : ByteArray := prog_5_method_5_code
def yX3_figure : MethodName := ⟨RX3, "figure", "(I)I"⟩
abbrev cX3_isTold : ByteArray := prog_5_method_6_code
def yX3_isTold : MethodName := ⟨RX3, "isTold", "()Z"⟩
abbrev cX3_reaches : ByteArray := prog_5_method_7_code
def yX3_reaches : MethodName := ⟨RX3, "reaches", "(III)Z"⟩
def RX4 : String := "WhaleTown$Rows"
def TX4 : u_T := fun k => match k with
  | _ => ("", "", "", false)
def tyX4 : Nat → FieldType := fun k => match k with
  | _ => .int
abbrev wsX40 : List Cond := u_ws RX4 TX4 0
theorem nmX4 : ∀ a, a < 0 → ∀ b, b < 0 → a ≠ b → (TX4 a).2.1 ≠ (TX4 b).2.1 := by decide +kernel
theorem tyX4_ok : ∀ k, k < 0 → parseFieldDescriptor (TX4 k).2.2.1 = some (tyX4 k) := by decide +kernel
abbrev cX4_at : ByteArray := prog_6_method_2_code
def yX4_at : MethodName := ⟨RX4, "at", "([II)I"⟩
abbrev cX4_put : ByteArray := prog_6_method_3_code
def yX4_put : MethodName := ⟨RX4, "put", "([III)V"⟩
abbrev cX4_longAt : ByteArray := prog_6_method_4_code
def yX4_longAt : MethodName := ⟨RX4, "longAt", "([JI)J"⟩
abbrev cX4_putLong : ByteArray := prog_6_method_5_code
def yX4_putLong : MethodName := ⟨RX4, "putLong", "([JIJ)V"⟩
def RX5 : String := "WhaleTown$Sleeper"
def TX5 : u_T := fun k => match k with
  | 0 => ("WhaleTown$Sleeper", "stayed", "[J", true)
  | 1 => ("WhaleTown$Sleeper", "came", "[J", true)
  | _ => ("WhaleTown$Sleeper", "turned", "J", false)
def tyX5 : Nat → FieldType := fun k => match k with
  | 0 => .array .long
  | 1 => .array .long
  | _ => .long
abbrev wsX50 : List Cond := u_ws RX5 TX5 3
theorem nmX5 : ∀ a, a < 3 → ∀ b, b < 3 → a ≠ b → (TX5 a).2.1 ≠ (TX5 b).2.1 := by decide +kernel
theorem tyX5_ok : ∀ k, k < 3 → parseFieldDescriptor (TX5 k).2.2.1 = some (tyX5 k) := by decide +kernel
abbrev cX5_init : ByteArray := prog_7_method_1_code
def yX5_init : MethodName := ⟨RX5, "<init>", "()V"⟩
abbrev cX5_waysTo : ByteArray := prog_7_method_2_code
def yX5_waysTo : MethodName := ⟨RX5, "waysTo", "(I)J"⟩
abbrev cX5_total : ByteArray := prog_7_method_3_code
def yX5_total : MethodName := ⟨RX5, "total", "()J"⟩
abbrev cX5_all : ByteArray := prog_7_method_4_code
def yX5_all : MethodName := ⟨RX5, "all", "()J"⟩
abbrev cX5_takeFrom : ByteArray := prog_7_method_5_code
def yX5_takeFrom : MethodName := ⟨RX5, "takeFrom", "(LWhaleTown$Sleeper;)V"⟩
abbrev cX5_passDiary : ByteArray := prog_7_method_6_code
def yX5_passDiary : MethodName := ⟨RX5, "passDiary", "(LWhaleTown$Town;LWhaleTown$Diary;I)V"⟩
abbrev cX5_goOn : ByteArray := prog_7_method_7_code
def yX5_goOn : MethodName := ⟨RX5, "goOn", "(LWhaleTown$Town;I)V"⟩
abbrev cX5_lookAt : ByteArray := prog_7_method_8_code
def yX5_lookAt : MethodName := ⟨RX5, "lookAt", "(LWhaleTown$Town;I)V"⟩
abbrev cX5_sightings : ByteArray := prog_7_method_9_code
def yX5_sightings : MethodName := ⟨RX5, "sightings", "(LWhaleTown$Town;I)J"⟩
def RX6 : String := "WhaleTown$Text"
def TX6 : u_T := fun k => match k with
  | 0 => ("WhaleTown$Text", "letters", "[I", true)
  | _ => ("WhaleTown$Text", "length", "I", false)
def tyX6 : Nat → FieldType := fun k => match k with
  | 0 => .array .int
  | _ => .int
abbrev wsX60 : List Cond := u_ws RX6 TX6 2
theorem nmX6 : ∀ a, a < 2 → ∀ b, b < 2 → a ≠ b → (TX6 a).2.1 ≠ (TX6 b).2.1 := by decide +kernel
theorem tyX6_ok : ∀ k, k < 2 → parseFieldDescriptor (TX6 k).2.2.1 = some (tyX6 k) := by decide +kernel
abbrev cX6_init : ByteArray := prog_8_method_1_code
def yX6_init : MethodName := ⟨RX6, "<init>", "()V"⟩
abbrev cX6_append : ByteArray := prog_8_method_2_code
def yX6_append : MethodName := ⟨RX6, "append", "(I)V"⟩
abbrev cX6_empty : ByteArray := prog_8_method_3_code
def yX6_empty : MethodName := ⟨RX6, "empty", "()V"⟩
abbrev cX6_letterAt : ByteArray := prog_8_method_4_code
def yX6_letterAt : MethodName := ⟨RX6, "letterAt", "(I)I"⟩
def RX7 : String := "WhaleTown$Told"
def TX7 : u_T := fun k => match k with
  | 0 => ("WhaleTown$Told", "former", "[I", true)
  | 1 => ("WhaleTown$Told", "latter", "[I", true)
  | 2 => ("WhaleTown$Told", "orderings", "[I", true)
  | _ => ("WhaleTown$Told", "pairs", "I", false)
def tyX7 : Nat → FieldType := fun k => match k with
  | 0 => .array .int
  | 1 => .array .int
  | 2 => .array .int
  | _ => .int
abbrev wsX70 : List Cond := u_ws RX7 TX7 4
theorem nmX7 : ∀ a, a < 4 → ∀ b, b < 4 → a ≠ b → (TX7 a).2.1 ≠ (TX7 b).2.1 := by decide +kernel
theorem tyX7_ok : ∀ k, k < 4 → parseFieldDescriptor (TX7 k).2.2.1 = some (tyX7 k) := by decide +kernel
abbrev cX7_init : ByteArray := prog_9_method_1_code
def yX7_init : MethodName := ⟨RX7, "<init>", "()V"⟩
abbrev cX7_append : ByteArray := prog_9_method_2_code
def yX7_append : MethodName := ⟨RX7, "append", "(II)V"⟩
abbrev cX7_toldAheadOf : ByteArray := prog_9_method_3_code
def yX7_toldAheadOf : MethodName := ⟨RX7, "toldAheadOf", "(I)I"⟩
abbrev cX7_withNoneAhead : ByteArray := prog_9_method_4_code
def yX7_withNoneAhead : MethodName := ⟨RX7, "withNoneAhead", "(I)I"⟩
abbrev cX7_ordersOf : ByteArray := prog_9_method_5_code
def yX7_ordersOf : MethodName := ⟨RX7, "ordersOf", "(I)I"⟩
def RX8 : String := "WhaleTown$Town"
def TX8 : u_T := fun k => match k with
  | 0 => ("WhaleTown$Town", "lighter", "[I", true)
  | 1 => ("WhaleTown$Town", "signNumbers", "[I", true)
  | 2 => ("WhaleTown$Town", "housePeople", "[I", true)
  | 3 => ("WhaleTown$Town", "houseMinutes", "[I", true)
  | 4 => ("WhaleTown$Town", "boatRoom", "[I", true)
  | 5 => ("WhaleTown$Town", "workNoise", "[I", true)
  | 6 => ("WhaleTown$Town", "workGain", "[I", true)
  | 7 => ("WhaleTown$Town", "signCount", "I", false)
  | 8 => ("WhaleTown$Town", "houseCount", "I", false)
  | 9 => ("WhaleTown$Town", "boatCount", "I", false)
  | 10 => ("WhaleTown$Town", "workCount", "I", false)
  | 11 => ("WhaleTown$Town", "turnCost", "I", false)
  | _ => ("WhaleTown$Town", "boatDayCost", "I", false)
def tyX8 : Nat → FieldType := fun k => match k with
  | 0 => .array .int
  | 1 => .array .int
  | 2 => .array .int
  | 3 => .array .int
  | 4 => .array .int
  | 5 => .array .int
  | 6 => .array .int
  | 7 => .int
  | 8 => .int
  | 9 => .int
  | 10 => .int
  | 11 => .int
  | _ => .int
abbrev wsX80 : List Cond := u_ws RX8 TX8 13
theorem nmX8 : ∀ a, a < 13 → ∀ b, b < 13 → a ≠ b → (TX8 a).2.1 ≠ (TX8 b).2.1 := by decide +kernel
theorem tyX8_ok : ∀ k, k < 13 → parseFieldDescriptor (TX8 k).2.2.1 = some (tyX8 k) := by decide +kernel
abbrev cX8_init : ByteArray := prog_10_method_1_code
def yX8_init : MethodName := ⟨RX8, "<init>", "()V"⟩
abbrev cX8_readFrom : ByteArray := prog_10_method_2_code
def yX8_readFrom : MethodName := ⟨RX8, "readFrom", "(LWhaleTown$Text;LWhaleTown$ItemReader;)I"⟩
abbrev cX8_startOver : ByteArray := prog_10_method_3_code
def yX8_startOver : MethodName := ⟨RX8, "startOver", "()V"⟩
abbrev cX8_take : ByteArray := prog_10_method_4_code
def yX8_take : MethodName := ⟨RX8, "take", "(LWhaleTown$ItemReader;)Z"⟩
abbrev cX8_takeSleeps : ByteArray := prog_10_method_5_code
def yX8_takeSleeps : MethodName := ⟨RX8, "takeSleeps", "(LWhaleTown$ItemReader;)Z"⟩
abbrev cX8_takeSign : ByteArray := prog_10_method_6_code
def yX8_takeSign : MethodName := ⟨RX8, "takeSign", "(LWhaleTown$ItemReader;)Z"⟩
abbrev cX8_takeHouse : ByteArray := prog_10_method_7_code
def yX8_takeHouse : MethodName := ⟨RX8, "takeHouse", "(LWhaleTown$ItemReader;)Z"⟩
abbrev cX8_takeBoat : ByteArray := prog_10_method_8_code
def yX8_takeBoat : MethodName := ⟨RX8, "takeBoat", "(LWhaleTown$ItemReader;)Z"⟩
abbrev cX8_takeWorks : ByteArray := prog_10_method_9_code
def yX8_takeWorks : MethodName := ⟨RX8, "takeWorks", "(LWhaleTown$ItemReader;)Z"⟩
abbrev cX8_takeCosts : ByteArray := prog_10_method_10_code
def yX8_takeCosts : MethodName := ⟨RX8, "takeCosts", "(LWhaleTown$ItemReader;)Z"⟩
abbrev cX8_signNumber : ByteArray := prog_10_method_11_code
def yX8_signNumber : MethodName := ⟨RX8, "signNumber", "(II)I"⟩
abbrev cX8_noiseOf : ByteArray := prog_10_method_12_code
def yX8_noiseOf : MethodName := ⟨RX8, "noiseOf", "(I)I"⟩
abbrev cX8_gainOf : ByteArray := prog_10_method_13_code
def yX8_gainOf : MethodName := ⟨RX8, "gainOf", "(I)I"⟩
abbrev cX8_sumOf : ByteArray := prog_10_method_14_code
def yX8_sumOf : MethodName := ⟨RX8, "sumOf", "([III)I"⟩
abbrev cX8_peopleOf : ByteArray := prog_10_method_15_code
def yX8_peopleOf : MethodName := ⟨RX8, "peopleOf", "(I)I"⟩
abbrev cX8_people : ByteArray := prog_10_method_16_code
def yX8_people : MethodName := ⟨RX8, "people", "()I"⟩
abbrev cX8_peopleWithin : ByteArray := prog_10_method_17_code
def yX8_peopleWithin : MethodName := ⟨RX8, "peopleWithin", "(I)I"⟩
abbrev cX8_roomOf : ByteArray := prog_10_method_18_code
def yX8_roomOf : MethodName := ⟨RX8, "roomOf", "(I)I"⟩
abbrev cX8_roomInAll : ByteArray := prog_10_method_19_code
def yX8_roomInAll : MethodName := ⟨RX8, "roomInAll", "()I"⟩
abbrev cX8_chance : ByteArray := prog_10_method_20_code
def yX8_chance : MethodName := ⟨RX8, "chance", "(II)I"⟩
abbrev cX8_ownChance : ByteArray := prog_10_method_21_code
def yX8_ownChance : MethodName := ⟨RX8, "ownChance", "(III)I"⟩
abbrev cX8_hangsOnOther : ByteArray := prog_10_method_22_code
def yX8_hangsOnOther : MethodName := ⟨RX8, "hangsOnOther", "(I)Z"⟩
abbrev cX8_waysToSee : ByteArray := prog_10_method_23_code
def yX8_waysToSee : MethodName := ⟨RX8, "waysToSee", "(III)J"⟩
abbrev cX8_shareOf : ByteArray := prog_10_method_24_code
def yX8_shareOf : MethodName := ⟨RX8, "shareOf", "(III)I"⟩
def RX9 : String := "WhaleTown"
def TX9 : u_T := fun k => match k with
  | 0 => ("WhaleTown", "text", "LWhaleTown$Text;", true)
  | 1 => ("WhaleTown", "reader", "LWhaleTown$ItemReader;", true)
  | 2 => ("WhaleTown", "town", "LWhaleTown$Town;", false)
  | 3 => ("WhaleTown", "draft", "LWhaleTown$Town;", false)
  | 4 => ("WhaleTown", "book", "LWhaleTown$Diary;", true)
  | 5 => ("WhaleTown", "keptFirst", "LWhaleTown$Diary;", true)
  | 6 => ("WhaleTown", "keptSecond", "LWhaleTown$Diary;", true)
  | 7 => ("WhaleTown", "keptCount", "I", false)
  | 8 => ("WhaleTown", "now", "LWhaleTown$Sleeper;", true)
  | 9 => ("WhaleTown", "future", "LWhaleTown$Sleeper;", true)
  | 10 => ("WhaleTown", "told", "LWhaleTown$Told;", true)
  | 11 => ("WhaleTown", "crewing", "LWhaleTown$Crewing;", true)
  | _ => ("WhaleTown", "drifting", "LWhaleTown$Drifting;", true)
def tyX9 : Nat → FieldType := fun k => match k with
  | 0 => .object "WhaleTown$Text"
  | 1 => .object "WhaleTown$ItemReader"
  | 2 => .object "WhaleTown$Town"
  | 3 => .object "WhaleTown$Town"
  | 4 => .object "WhaleTown$Diary"
  | 5 => .object "WhaleTown$Diary"
  | 6 => .object "WhaleTown$Diary"
  | 7 => .int
  | 8 => .object "WhaleTown$Sleeper"
  | 9 => .object "WhaleTown$Sleeper"
  | 10 => .object "WhaleTown$Told"
  | 11 => .object "WhaleTown$Crewing"
  | _ => .object "WhaleTown$Drifting"
abbrev wsX90 : List Cond := u_ws RX9 TX9 13
theorem nmX9 : ∀ a, a < 13 → ∀ b, b < 13 → a ≠ b → (TX9 a).2.1 ≠ (TX9 b).2.1 := by decide +kernel
theorem tyX9_ok : ∀ k, k < 13 → parseFieldDescriptor (TX9 k).2.2.1 = some (tyX9 k) := by decide +kernel
abbrev cX9_init : ByteArray := prog_1_method_1_code
def yX9_init : MethodName := ⟨RX9, "<init>", "()V"⟩
abbrev cX9_write : ByteArray := prog_1_method_2_code
def yX9_write : MethodName := ⟨RX9, "write", "(I)I"⟩
abbrev cX9_wipe : ByteArray := prog_1_method_3_code
def yX9_wipe : MethodName := ⟨RX9, "wipe", "()I"⟩
abbrev cX9_fault : ByteArray := prog_1_method_4_code
def yX9_fault : MethodName := ⟨RX9, "fault", "()I"⟩
abbrev cX9_lay : ByteArray := prog_1_method_5_code
def yX9_lay : MethodName := ⟨RX9, "lay", "()I"⟩
abbrev cX9_sign : ByteArray := prog_1_method_6_code
def yX9_sign : MethodName := ⟨RX9, "sign", "(II)I"⟩
abbrev cX9_works : ByteArray := prog_1_method_7_code
def yX9_works : MethodName := ⟨RX9, "works", "(II)I"⟩
abbrev cX9_day : ByteArray := prog_1_method_8_code
def yX9_day : MethodName := ⟨RX9, "day", "(II)I"⟩
abbrev cX9_diary : ByteArray := prog_1_method_9_code
def yX9_diary : MethodName := ⟨RX9, "diary", "(II)I"⟩
abbrev cX9_undo : ByteArray := prog_1_method_10_code
def yX9_undo : MethodName := ⟨RX9, "undo", "()I"⟩
abbrev cX9_belief : ByteArray := prog_1_method_11_code
def yX9_belief : MethodName := ⟨RX9, "belief", "(II)J"⟩
abbrev cX9_near : ByteArray := prog_1_method_12_code
def yX9_near : MethodName := ⟨RX9, "near", "(III)J"⟩
abbrev cX9_sight : ByteArray := prog_1_method_13_code
def yX9_sight : MethodName := ⟨RX9, "sight", "(III)J"⟩
abbrev cX9_tells : ByteArray := prog_1_method_14_code
def yX9_tells : MethodName := ⟨RX9, "tells", "(I)I"⟩
abbrev cX9_board : ByteArray := prog_1_method_15_code
def yX9_board : MethodName := ⟨RX9, "board", "(II)J"⟩
abbrev cX9_quiet : ByteArray := prog_1_method_16_code
def yX9_quiet : MethodName := ⟨RX9, "quiet", "(II)I"⟩
abbrev cX9_saved : ByteArray := prog_1_method_17_code
def yX9_saved : MethodName := ⟨RX9, "saved", "(I)I"⟩
abbrev cX9_crews : ByteArray := prog_1_method_18_code
def yX9_crews : MethodName := ⟨RX9, "crews", "(I)I"⟩
abbrev cX9_drift : ByteArray := prog_1_method_19_code
def yX9_drift : MethodName := ⟨RX9, "drift", "(IIIII)I"⟩
abbrev cX9_ahead : ByteArray := prog_1_method_20_code
def yX9_ahead : MethodName := ⟨RX9, "ahead", "(II)I"⟩
abbrev cX9_forget : ByteArray := prog_1_method_21_code
def yX9_forget : MethodName := ⟨RX9, "forget", "()I"⟩
abbrev cX9_first : ByteArray := prog_1_method_22_code
def yX9_first : MethodName := ⟨RX9, "first", "()I"⟩
abbrev cX9_orders : ByteArray := prog_1_method_23_code
def yX9_orders : MethodName := ⟨RX9, "orders", "()I"⟩
abbrev cX9_feigned : ByteArray := prog_1_method_24_code
def yX9_feigned : MethodName := ⟨RX9, "feigned", "()I"⟩
abbrev cX9_spring : ByteArray := prog_1_method_25_code
def yX9_spring : MethodName := ⟨RX9, "spring", "(III)I"⟩
abbrev cX9_keep : ByteArray := prog_1_method_26_code
def yX9_keep : MethodName := ⟨RX9, "keep", "()I"⟩
abbrev cX9_back : ByteArray := prog_1_method_27_code
def yX9_back : MethodName := ⟨RX9, "back", "()I"⟩
abbrev cX9_count : ByteArray := prog_1_method_28_code
def yX9_count : MethodName := ⟨RX9, "count", "(I)I"⟩
abbrev cX9_isWithin : ByteArray := prog_1_method_29_code
def yX9_isWithin : MethodName := ⟨RX9, "isWithin", "(III)Z"⟩
abbrev cX9_setsOf : ByteArray := prog_1_method_30_code
def yX9_setsOf : MethodName := ⟨RX9, "setsOf", "(I)I"⟩
abbrev cX9_isSet : ByteArray := prog_1_method_31_code
def yX9_isSet : MethodName := ⟨RX9, "isSet", "(II)Z"⟩
abbrev cX9_holds : ByteArray := prog_1_method_32_code
def yX9_holds : MethodName := ⟨RX9, "holds", "(II)Z"⟩
abbrev cX9_fourTo : ByteArray := prog_1_method_33_code
def yX9_fourTo : MethodName := ⟨RX9, "fourTo", "(I)J"⟩
abbrev cX9_inLowestTerms : ByteArray := prog_1_method_34_code
def yX9_inLowestTerms : MethodName := ⟨RX9, "inLowestTerms", "(JJI)J"⟩
abbrev cX9_commonDivisor : ByteArray := prog_1_method_35_code
def yX9_commonDivisor : MethodName := ⟨RX9, "commonDivisor", "(JJ)J"⟩
abbrev cX9_draw : ByteArray := prog_1_method_36_code
def yX9_draw : MethodName := ⟨RX9, "draw", "(II)I"⟩
abbrev cX9_diaryCanBe : ByteArray := prog_1_method_37_code
def yX9_diaryCanBe : MethodName := ⟨RX9, "diaryCanBe", "()Z"⟩
abbrev cX9_lookAhead : ByteArray := prog_1_method_38_code
def yX9_lookAhead : MethodName := ⟨RX9, "lookAhead", "(II)V"⟩
abbrev cX9_nextDayCanBe : ByteArray := prog_1_method_39_code
def yX9_nextDayCanBe : MethodName := ⟨RX9, "nextDayCanBe", "(I)Z"⟩
abbrev cX9_awayFromHalf : ByteArray := prog_1_method_40_code
def yX9_awayFromHalf : MethodName := ⟨RX9, "awayFromHalf", "(I)J"⟩
abbrev cX9_costOfBoarding : ByteArray := prog_1_method_41_code
def yX9_costOfBoarding : MethodName := ⟨RX9, "costOfBoarding", "(II)J"⟩
abbrev cX9_isQuiet : ByteArray := prog_1_method_42_code
def yX9_isQuiet : MethodName := ⟨RX9, "isQuiet", "(II)Z"⟩
def RX10 : String := "WhaleTownModel"
def TX10 : u_T := fun k => match k with
  | 0 => ("WhaleTownModel", "text", "[B", true)
  | 1 => ("WhaleTownModel", "typed", "I", false)
  | 2 => ("WhaleTownModel", "goes", "[I", true)
  | 3 => ("WhaleTownModel", "signs", "[I", true)
  | 4 => ("WhaleTownModel", "told", "[I", true)
  | 5 => ("WhaleTownModel", "houses", "[I", true)
  | 6 => ("WhaleTownModel", "people", "[I", true)
  | 7 => ("WhaleTownModel", "minutes", "[I", true)
  | 8 => ("WhaleTownModel", "boats", "[I", true)
  | 9 => ("WhaleTownModel", "boat", "[I", true)
  | 10 => ("WhaleTownModel", "works", "[I", true)
  | 11 => ("WhaleTownModel", "noise", "[I", true)
  | 12 => ("WhaleTownModel", "brings", "[I", true)
  | 13 => ("WhaleTownModel", "costs", "[I", true)
  | 14 => ("WhaleTownModel", "at", "I", false)
  | 15 => ("WhaleTownModel", "isSo", "Z", false)
  | 16 => ("WhaleTownModel", "days", "[I", true)
  | 17 => ("WhaleTownModel", "seenSigns", "[I", true)
  | 18 => ("WhaleTownModel", "wentOn", "[I", true)
  | 19 => ("WhaleTownModel", "kept", "I", false)
  | 20 => ("WhaleTownModel", "weight", "[J", true)
  | 21 => ("WhaleTownModel", "then", "[J", true)
  | 22 => ("WhaleTownModel", "all", "J", false)
  | 23 => ("WhaleTownModel", "turns", "[J", true)
  | 24 => ("WhaleTownModel", "sightAll", "J", false)
  | 25 => ("WhaleTownModel", "miles", "[I", true)
  | 26 => ("WhaleTownModel", "next", "[I", true)
  | 27 => ("WhaleTownModel", "aheadA", "[I", true)
  | 28 => ("WhaleTownModel", "aheadB", "[I", true)
  | 29 => ("WhaleTownModel", "aheadMany", "I", false)
  | _ => ("WhaleTownModel", "ways", "[I", true)
def tyX10 : Nat → FieldType := fun k => match k with
  | 0 => .array .byte
  | 1 => .int
  | 2 => .array .int
  | 3 => .array .int
  | 4 => .array .int
  | 5 => .array .int
  | 6 => .array .int
  | 7 => .array .int
  | 8 => .array .int
  | 9 => .array .int
  | 10 => .array .int
  | 11 => .array .int
  | 12 => .array .int
  | 13 => .array .int
  | 14 => .int
  | 15 => .boolean
  | 16 => .array .int
  | 17 => .array .int
  | 18 => .array .int
  | 19 => .int
  | 20 => .array .long
  | 21 => .array .long
  | 22 => .long
  | 23 => .array .long
  | 24 => .long
  | 25 => .array .int
  | 26 => .array .int
  | 27 => .array .int
  | 28 => .array .int
  | 29 => .int
  | _ => .array .int
abbrev wsX100 : List Cond := u_ws RX10 TX10 31
theorem nmX10 : ∀ a, a < 31 → ∀ b, b < 31 → a ≠ b → (TX10 a).2.1 ≠ (TX10 b).2.1 := by decide +kernel
theorem tyX10_ok : ∀ k, k < 31 → parseFieldDescriptor (TX10 k).2.2.1 = some (tyX10 k) := by decide +kernel
abbrev cX10_init : ByteArray := prog_12_method_1_code
def yX10_init : MethodName := ⟨RX10, "<init>", "()V"⟩
abbrev cX10_law : ByteArray := prog_12_method_2_code
def yX10_law : MethodName := ⟨RX10, "law", "(IIII)V"⟩
abbrev cX10_sign4 : ByteArray := prog_12_method_3_code
def yX10_sign4 : MethodName := ⟨RX10, "sign4", "(IIIII)V"⟩
abbrev cX10_house2 : ByteArray := prog_12_method_4_code
def yX10_house2 : MethodName := ⟨RX10, "house2", "(III)V"⟩
abbrev cX10_work2 : ByteArray := prog_12_method_5_code
def yX10_work2 : MethodName := ⟨RX10, "work2", "(III)V"⟩
abbrev cX10_in : ByteArray := prog_12_method_7_code
def yX10_in : MethodName := ⟨RX10, "in", "(III)Z"⟩
abbrev cX10_write : ByteArray := prog_12_method_8_code
def yX10_write : MethodName := ⟨RX10, "write", "(I)I"⟩
abbrev cX10_wipe : ByteArray := prog_12_method_9_code
def yX10_wipe : MethodName := ⟨RX10, "wipe", "()I"⟩
abbrev cX10_here : ByteArray := prog_12_method_10_code
def yX10_here : MethodName := ⟨RX10, "here", "()I"⟩
abbrev cX10_number : ByteArray := prog_12_method_11_code
def yX10_number : MethodName := ⟨RX10, "number", "(III)I"⟩
abbrev cX10_readItem : ByteArray := prog_12_method_12_code
def yX10_readItem : MethodName := ⟨RX10, "readItem", "()V"⟩
abbrev cX10_fault : ByteArray := prog_12_method_13_code
def yX10_fault : MethodName := ⟨RX10, "fault", "()I"⟩
abbrev cX10_lay : ByteArray := prog_12_method_14_code
def yX10_lay : MethodName := ⟨RX10, "lay", "()I"⟩
abbrev cX10_isSign : ByteArray := prog_12_method_15_code
def yX10_isSign : MethodName := ⟨RX10, "isSign", "(I)Z"⟩
abbrev cX10_areWorks : ByteArray := prog_12_method_16_code
def yX10_areWorks : MethodName := ⟨RX10, "areWorks", "(I)Z"⟩
abbrev cX10_sign : ByteArray := prog_12_method_17_code
def yX10_sign : MethodName := ⟨RX10, "sign", "(II)I"⟩
abbrev cX10_sumNoise : ByteArray := prog_12_method_18_code
def yX10_sumNoise : MethodName := ⟨RX10, "sumNoise", "(I)I"⟩
abbrev cX10_sumBrings : ByteArray := prog_12_method_19_code
def yX10_sumBrings : MethodName := ⟨RX10, "sumBrings", "(I)I"⟩
abbrev cX10_works : ByteArray := prog_12_method_20_code
def yX10_works : MethodName := ⟨RX10, "works", "(II)I"⟩
abbrev cX10_day : ByteArray := prog_12_method_21_code
def yX10_day : MethodName := ⟨RX10, "day", "(II)I"⟩
abbrev cX10_diary : ByteArray := prog_12_method_22_code
def yX10_diary : MethodName := ⟨RX10, "diary", "(II)I"⟩
abbrev cX10_undo : ByteArray := prog_12_method_23_code
def yX10_undo : MethodName := ⟨RX10, "undo", "()I"⟩
abbrev cX10_chance : ByteArray := prog_12_method_24_code
def yX10_chance : MethodName := ⟨RX10, "chance", "(II)I"⟩
abbrev cX10_seenBy : ByteArray := prog_12_method_25_code
def yX10_seenBy : MethodName := ⟨RX10, "seenBy", "(III)I"⟩
abbrev cX10_isPaired : ByteArray := prog_12_method_26_code
def yX10_isPaired : MethodName := ⟨RX10, "isPaired", "(I)Z"⟩
abbrev cX10_likely : ByteArray := prog_12_method_27_code
def yX10_likely : MethodName := ⟨RX10, "likely", "(III)J"⟩
abbrev cX10_goOn : ByteArray := prog_12_method_28_code
def yX10_goOn : MethodName := ⟨RX10, "goOn", "(II)V"⟩
abbrev cX10_total : ByteArray := prog_12_method_29_code
def yX10_total : MethodName := ⟨RX10, "total", "()J"⟩
abbrev cX10_common : ByteArray := prog_12_method_30_code
def yX10_common : MethodName := ⟨RX10, "common", "(JJ)J"⟩
abbrev cX10_readDiary : ByteArray := prog_12_method_31_code
def yX10_readDiary : MethodName := ⟨RX10, "readDiary", "(I)V"⟩
abbrev cX10_find : ByteArray := prog_12_method_32_code
def yX10_find : MethodName := ⟨RX10, "find", "()Z"⟩
abbrev cX10_part : ByteArray := prog_12_method_33_code
def yX10_part : MethodName := ⟨RX10, "part", "(JJI)J"⟩
abbrev cX10_belief : ByteArray := prog_12_method_34_code
def yX10_belief : MethodName := ⟨RX10, "belief", "(II)J"⟩
abbrev cX10_findTurns : ByteArray := prog_12_method_35_code
def yX10_findTurns : MethodName := ⟨RX10, "findTurns", "(I)Z"⟩
abbrev cX10_near : ByteArray := prog_12_method_36_code
def yX10_near : MethodName := ⟨RX10, "near", "(III)J"⟩
abbrev cX10_sightOf : ByteArray := prog_12_method_37_code
def yX10_sightOf : MethodName := ⟨RX10, "sightOf", "(III)J"⟩
abbrev cX10_sightUp : ByteArray := prog_12_method_38_code
def yX10_sightUp : MethodName := ⟨RX10, "sightUp", "(II)J"⟩
abbrev cX10_sight : ByteArray := prog_12_method_39_code
def yX10_sight : MethodName := ⟨RX10, "sight", "(III)J"⟩
abbrev cX10_tells : ByteArray := prog_12_method_40_code
def yX10_tells : MethodName := ⟨RX10, "tells", "(I)I"⟩
abbrev cX10_costOf : ByteArray := prog_12_method_41_code
def yX10_costOf : MethodName := ⟨RX10, "costOf", "(I)J"⟩
abbrev cX10_board : ByteArray := prog_12_method_42_code
def yX10_board : MethodName := ⟨RX10, "board", "(II)J"⟩
abbrev cX10_quiet : ByteArray := prog_12_method_43_code
def yX10_quiet : MethodName := ⟨RX10, "quiet", "(II)I"⟩
abbrev cX10_saved : ByteArray := prog_12_method_44_code
def yX10_saved : MethodName := ⟨RX10, "saved", "(I)I"⟩
abbrev cX10_manyOf : ByteArray := prog_12_method_45_code
def yX10_manyOf : MethodName := ⟨RX10, "manyOf", "(I)I"⟩
abbrev cX10_boatsOf : ByteArray := prog_12_method_46_code
def yX10_boatsOf : MethodName := ⟨RX10, "boatsOf", "(I)I"⟩
abbrev cX10_crews : ByteArray := prog_12_method_47_code
def yX10_crews : MethodName := ⟨RX10, "crews", "(I)I"⟩
abbrev cX10_drift : ByteArray := prog_12_method_48_code
def yX10_drift : MethodName := ⟨RX10, "drift", "(IIIII)I"⟩
abbrev cX10_ahead : ByteArray := prog_12_method_49_code
def yX10_ahead : MethodName := ⟨RX10, "ahead", "(II)I"⟩
abbrev cX10_forget : ByteArray := prog_12_method_50_code
def yX10_forget : MethodName := ⟨RX10, "forget", "()I"⟩
abbrev cX10_orders : ByteArray := prog_12_method_51_code
def yX10_orders : MethodName := ⟨RX10, "orders", "()I"⟩
abbrev cX10_first : ByteArray := prog_12_method_52_code
def yX10_first : MethodName := ⟨RX10, "first", "()I"⟩
abbrev cX10_feigned : ByteArray := prog_12_method_53_code
def yX10_feigned : MethodName := ⟨RX10, "feigned", "()I"⟩
abbrev cX10_spring : ByteArray := prog_12_method_54_code
def yX10_spring : MethodName := ⟨RX10, "spring", "(III)I"⟩
abbrev cX10_copy : ByteArray := prog_12_method_55_code
def yX10_copy : MethodName := ⟨RX10, "copy", "(II)V"⟩
abbrev cX10_keep : ByteArray := prog_12_method_56_code
def yX10_keep : MethodName := ⟨RX10, "keep", "()I"⟩
abbrev cX10_back : ByteArray := prog_12_method_57_code
def yX10_back : MethodName := ⟨RX10, "back", "()I"⟩
abbrev cX10_count : ByteArray := prog_12_method_58_code
def yX10_count : MethodName := ⟨RX10, "count", "(I)I"⟩
def RJ6 : String := "java/lang/Integer"
def TJ6 : u_T := fun k => match k with
  | _ => ("", "", "", false)
def tyJ6 : Nat → FieldType := fun k => match k with
  | _ => .int
abbrev wsJ60 : List Cond := u_ws RJ6 TJ6 0
theorem nmJ6 : ∀ a, a < 0 → ∀ b, b < 0 → a ≠ b → (TJ6 a).2.1 ≠ (TJ6 b).2.1 := by decide +kernel
theorem tyJ6_ok : ∀ k, k < 0 → parseFieldDescriptor (TJ6 k).2.2.1 = some (tyJ6 k) := by decide +kernel
abbrev cJ6_bitCount_0f7a4 : ByteArray := prog_13_method_49_code
def yJ6_bitCount_0f7a4 : MethodName := ⟨RJ6, "bitCount", "(I)I"⟩
def RJ9 : String := "java/lang/Math"
def TJ9 : u_T := fun k => match k with
  | _ => ("", "", "", false)
def tyJ9 : Nat → FieldType := fun k => match k with
  | _ => .int
abbrev wsJ90 : List Cond := u_ws RJ9 TJ9 0
theorem nmJ9 : ∀ a, a < 0 → ∀ b, b < 0 → a ≠ b → (TJ9 a).2.1 ≠ (TJ9 b).2.1 := by decide +kernel
theorem tyJ9_ok : ∀ k, k < 0 → parseFieldDescriptor (TJ9 k).2.2.1 = some (tyJ9 k) := by decide +kernel
abbrev cJ9_abs_067f4 : ByteArray := prog_14_method_61_code
def yJ9_abs_067f4 : MethodName := ⟨RJ9, "abs", "(J)J"⟩
abbrev cJ9_max_7cf53 : ByteArray := prog_14_method_65_code
def yJ9_max_7cf53 : MethodName := ⟨RJ9, "max", "(II)I"⟩
abbrev cJ9_min_7cf53 : ByteArray := prog_14_method_69_code
def yJ9_min_7cf53 : MethodName := ⟨RJ9, "min", "(II)I"⟩
def RJ0 : String := "java/lang/String"
def TJ0 : u_T := fun k => match k with
  | _ => ("", "", "", false)
def tyJ0 : Nat → FieldType := fun k => match k with
  | _ => .int
abbrev wsJ00 : List Cond := u_ws RJ0 TJ0 0
theorem nmJ0 : ∀ a, a < 0 → ∀ b, b < 0 → a ≠ b → (TJ0 a).2.1 ≠ (TJ0 b).2.1 := by decide +kernel
theorem tyJ0_ok : ∀ k, k < 0 → parseFieldDescriptor (TJ0 k).2.2.1 = some (tyJ0 k) := by decide +kernel
abbrev cJ0_length_8abf5 : ByteArray := prog_15_method_54_code
def yJ0_length_8abf5 : MethodName := ⟨RJ0, "length", "()I"⟩
abbrev cJ0_charAt_5068e : ByteArray := prog_15_method_56_code
def yJ0_charAt_5068e : MethodName := ⟨RJ0, "charAt", "(I)C"⟩
abbrev cJ0_coder_7d493 : ByteArray := prog_15_method_152_code
def yJ0_coder_7d493 : MethodName := ⟨RJ0, "coder", "()B"⟩
abbrev cJ0_isLatin1_aae02 : ByteArray := prog_15_method_154_code
def yJ0_isLatin1_aae02 : MethodName := ⟨RJ0, "isLatin1", "()Z"⟩
abbrev cJ0_checkIndex_df160 : ByteArray := prog_15_method_155_code
def yJ0_checkIndex_df160 : MethodName := ⟨RJ0, "checkIndex", "(II)V"⟩
def RJ1 : String := "java/lang/StringLatin1"
def TJ1 : u_T := fun k => match k with
  | _ => ("", "", "", false)
def tyJ1 : Nat → FieldType := fun k => match k with
  | _ => .int
abbrev wsJ10 : List Cond := u_ws RJ1 TJ1 0
theorem nmJ1 : ∀ a, a < 0 → ∀ b, b < 0 → a ≠ b → (TJ1 a).2.1 ≠ (TJ1 b).2.1 := by decide +kernel
theorem tyJ1_ok : ∀ k, k < 0 → parseFieldDescriptor (TJ1 k).2.2.1 = some (tyJ1 k) := by decide +kernel
abbrev cJ1_charAt_3b067 : ByteArray := prog_16_method_2_code
def yJ1_charAt_3b067 : MethodName := ⟨RJ1, "charAt", "([BI)C"⟩
def RJ2 : String := "java/lang/StringUTF16"
def TJ2 : u_T := fun k => match k with
  | _ => ("", "", "", false)
def tyJ2 : Nat → FieldType := fun k => match k with
  | _ => .int
abbrev wsJ20 : List Cond := u_ws RJ2 TJ2 0
theorem nmJ2 : ∀ a, a < 0 → ∀ b, b < 0 → a ≠ b → (TJ2 a).2.1 ≠ (TJ2 b).2.1 := by decide +kernel
theorem tyJ2_ok : ∀ k, k < 0 → parseFieldDescriptor (TJ2 k).2.2.1 = some (tyJ2 k) := by decide +kernel
abbrev cJ2_getChar_3b067 : ByteArray := prog_17_method_5_code
def yJ2_getChar_3b067 : MethodName := ⟨RJ2, "getChar", "([BI)C"⟩
abbrev cJ2_length_9d52b : ByteArray := prog_17_method_6_code
def yJ2_length_9d52b : MethodName := ⟨RJ2, "length", "([B)I"⟩
abbrev cJ2_charAt_3b067 : ByteArray := prog_17_method_83_code
def yJ2_charAt_3b067 : MethodName := ⟨RJ2, "charAt", "([BI)C"⟩
abbrev cJ2_checkIndex_2214a : ByteArray := prog_17_method_91_code
def yJ2_checkIndex_2214a : MethodName := ⟨RJ2, "checkIndex", "(I[B)V"⟩
def RJ3 : String := "jdk/internal/util/Preconditions"
def TJ3 : u_T := fun k => match k with
  | _ => ("", "", "", false)
def tyJ3 : Nat → FieldType := fun k => match k with
  | _ => .int
abbrev wsJ30 : List Cond := u_ws RJ3 TJ3 0
theorem nmJ3 : ∀ a, a < 0 → ∀ b, b < 0 → a ≠ b → (TJ3 a).2.1 ≠ (TJ3 b).2.1 := by decide +kernel
theorem tyJ3_ok : ∀ k, k < 0 → parseFieldDescriptor (TJ3 k).2.2.1 = some (tyJ3 k) := by decide +kernel
abbrev cJ3_checkIndex_8e157 : ByteArray := prog_18_method_11_code
def yJ3_checkIndex_8e157 : MethodName := ⟨RJ3, "checkIndex", "(IILjava/util/function/BiFunction;)I"⟩
def RL : String := "WhaleTownLaw"
abbrev cL_law : ByteArray := code
def yL_law : MethodName := ⟨RL, "law", "([I)Z"⟩
abbrev vwCl : List vw_C := [(RX0, TX0, 3), (RX1, TX1, 3), (RX2, TX2, 2), (RX3, TX3, 4), (RX5, TX5, 3), (RX6, TX6, 2), (RX7, TX7, 4), (RX8, TX8, 13), (RX9, TX9, 13), (RX10, TX10, 31)]
end
section
/-! the words of the tables that keep, by their places -/
def GOODS : List Cond := lw_tbl.filter goodWord
abbrev WS (y : MethodName) (c : ByteArray) (n : Nat) (r : Option FieldType) : List Cond := .code y c n r :: GOODS
theorem mg_ (w : Cond) (h : w ∈ lw_tbl) (g : goodWord w = true) : w ∈ GOODS := List.mem_filter.mpr ⟨h, g⟩
theorem mgt {w : Cond} (h : w ∈ tables_1) (g : goodWord w = true) : w ∈ GOODS := mg_ w (List.mem_append_right _ h) g
theorem mg0 {w : Cond} (i : Nat) (h : (k2_sels lw_privs)[i]? = some w) (g : goodWord w = true) : w ∈ GOODS := mg_ w (List.mem_append_left _ (List.mem_of_getElem? h)) g
theorem mg1 {w : Cond} (i : Nat) (h : tables_1_1[i]? = some w) (g : goodWord w = true) : w ∈ GOODS := mgt (List.mem_append_left _ (List.mem_of_getElem? h)) g
theorem mg2 {w : Cond} (i : Nat) (h : tables_1_2[i]? = some w) (g : goodWord w = true) : w ∈ GOODS := mgt (List.mem_append_right _ (List.mem_append_left _ (List.mem_of_getElem? h))) g
theorem mg3 {w : Cond} (i : Nat) (h : tables_1_3[i]? = some w) (g : goodWord w = true) : w ∈ GOODS := mgt (List.mem_append_right _ (List.mem_append_right _ (List.mem_append_left _ (List.mem_of_getElem? h)))) g
theorem mg4 {w : Cond} (i : Nat) (h : tables_1_4[i]? = some w) (g : goodWord w = true) : w ∈ GOODS := mgt (List.mem_append_right _ (List.mem_append_right _ (List.mem_append_right _ (List.mem_append_left _ (List.mem_of_getElem? h))))) g
theorem mg5 {w : Cond} (i : Nat) (h : tables_1_5[i]? = some w) (g : goodWord w = true) : w ∈ GOODS := mgt (List.mem_append_right _ (List.mem_append_right _ (List.mem_append_right _ (List.mem_append_right _ (List.mem_of_getElem? h))))) g
theorem goodsIn {ws : List Cond} (h : ∀ w ∈ ws, w ∈ GOODS) : GoodIn GOODS ws := fun w hw => ⟨h w hw, good_of_word (List.mem_filter.mp (h w hw)).2⟩
theorem uws_in {C : String} {T : u_T} {N : Nat} (h : ∀ k, k < N → u_lay C T k ∈ GOODS) : ∀ w ∈ u_ws C T N, w ∈ GOODS := fun w hw => by
  obtain ⟨k, hk, rfl⟩ := List.mem_map.mp hw
  exact h k (List.mem_range.mp hk)
theorem gN {y : MethodName} {cc : ByteArray} {n : Nat} {r : Option FieldType} (h5 : Cond.code y cc n r ∈ GOODS) : GoodIn GOODS (WS y cc n r) := goodsIn (fun w hw => by
  rcases List.mem_cons.mp hw with h | h
  · rw [h]; exact h5
  · exact h)
theorem gV {own C : String} {i : Nat} {y : MethodName} {cc : ByteArray} {n : Nat} {r : Option FieldType} (h1 : Cond.methodLink own i y ∈ GOODS) (h2 : Cond.instanceMethod y ∈ GOODS) (h3 : Cond.selects C y y ∈ GOODS) (h4 : Cond.initialized C ∈ GOODS) (h5 : Cond.code y cc n r ∈ GOODS) : GoodIn GOODS (wsV own i C y (WS y cc n r)) := goodsIn (fun w hw => by
  rcases List.mem_append.mp hw with h | h
  · simp only [List.mem_cons, List.not_mem_nil, or_false] at h
    rcases h with h | h | h | h <;> rw [h] <;> assumption
  · rcases List.mem_cons.mp h with h | h
    · rw [h]; exact h5
    · exact h)
theorem gS {own : String} {i : Nat} {y : MethodName} {cc : ByteArray} {n : Nat} {r : Option FieldType} (h1 : Cond.methodLink own i y ∈ GOODS) (h2 : Cond.static y ∈ GOODS) (h4 : Cond.initialized y.cls ∈ GOODS) (h5 : Cond.code y cc n r ∈ GOODS) : GoodIn GOODS (va_wsS own i y (WS y cc n r)) := goodsIn (fun w hw => by
  rcases List.mem_append.mp hw with h | h
  · simp only [List.mem_cons, List.not_mem_nil, or_false] at h
    rcases h with h | h | h <;> rw [h] <;> assumption
  · rcases List.mem_cons.mp h with h | h
    · rw [h]; exact h5
    · exact h)
theorem wd_0_0 : Cond.selects RX8 yX8_startOver yX8_startOver ∈ GOODS := mg0 0 rfl rfl
theorem wd_0_1 : Cond.selects RX3 yX3_readNumber yX3_readNumber ∈ GOODS := mg0 1 rfl rfl
theorem wd_0_2 : Cond.selects RX3 yX3_isTold yX3_isTold ∈ GOODS := mg0 2 rfl rfl
theorem wd_0_3 : Cond.selects RX3 yX3_reaches yX3_reaches ∈ GOODS := mg0 3 rfl rfl
theorem wd_0_4 : Cond.selects RX8 yX8_take yX8_take ∈ GOODS := mg0 4 rfl rfl
theorem wd_0_5 : Cond.selects RX8 yX8_takeSleeps yX8_takeSleeps ∈ GOODS := mg0 5 rfl rfl
theorem wd_0_6 : Cond.selects RX8 yX8_takeSign yX8_takeSign ∈ GOODS := mg0 6 rfl rfl
theorem wd_0_7 : Cond.selects RX8 yX8_takeHouse yX8_takeHouse ∈ GOODS := mg0 7 rfl rfl
theorem wd_0_8 : Cond.selects RX8 yX8_takeBoat yX8_takeBoat ∈ GOODS := mg0 8 rfl rfl
theorem wd_0_9 : Cond.selects RX8 yX8_takeWorks yX8_takeWorks ∈ GOODS := mg0 9 rfl rfl
theorem wd_0_10 : Cond.selects RX8 yX8_takeCosts yX8_takeCosts ∈ GOODS := mg0 10 rfl rfl
theorem wd_0_11 : Cond.selects RX9 yX9_diaryCanBe yX9_diaryCanBe ∈ GOODS := mg0 11 rfl rfl
theorem wd_0_12 : Cond.selects RX5 yX5_lookAt yX5_lookAt ∈ GOODS := mg0 12 rfl rfl
theorem wd_0_13 : Cond.selects RX8 yX8_hangsOnOther yX8_hangsOnOther ∈ GOODS := mg0 13 rfl rfl
theorem wd_0_14 : Cond.selects RX8 yX8_ownChance yX8_ownChance ∈ GOODS := mg0 14 rfl rfl
theorem wd_0_15 : Cond.selects RX9 yX9_lookAhead yX9_lookAhead ∈ GOODS := mg0 15 rfl rfl
theorem wd_0_16 : Cond.selects RX9 yX9_nextDayCanBe yX9_nextDayCanBe ∈ GOODS := mg0 16 rfl rfl
theorem wd_0_17 : Cond.selects RX9 yX9_awayFromHalf yX9_awayFromHalf ∈ GOODS := mg0 17 rfl rfl
theorem wd_0_18 : Cond.selects RX9 yX9_costOfBoarding yX9_costOfBoarding ∈ GOODS := mg0 18 rfl rfl
theorem wd_0_19 : Cond.selects RX9 yX9_isQuiet yX9_isQuiet ∈ GOODS := mg0 19 rfl rfl
theorem wd_0_20 : Cond.selects RX0 yX0_findWith yX0_findWith ∈ GOODS := mg0 20 rfl rfl
theorem wd_0_21 : Cond.selects RX2 yX2_passNight yX2_passNight ∈ GOODS := mg0 21 rfl rfl
theorem wd_0_22 : Cond.selects RX7 yX7_toldAheadOf yX7_toldAheadOf ∈ GOODS := mg0 22 rfl rfl
theorem wd_0_23 : Cond.selects RX10 yX10_law yX10_law ∈ GOODS := mg0 23 rfl rfl
theorem wd_0_24 : Cond.selects RX10 yX10_sign4 yX10_sign4 ∈ GOODS := mg0 24 rfl rfl
theorem wd_0_25 : Cond.selects RX10 yX10_house2 yX10_house2 ∈ GOODS := mg0 25 rfl rfl
theorem wd_0_26 : Cond.selects RX10 yX10_work2 yX10_work2 ∈ GOODS := mg0 26 rfl rfl
theorem wd_0_27 : Cond.selects RX10 yX10_readItem yX10_readItem ∈ GOODS := mg0 27 rfl rfl
theorem wd_0_28 : Cond.selects RX10 yX10_here yX10_here ∈ GOODS := mg0 28 rfl rfl
theorem wd_0_29 : Cond.selects RX10 yX10_number yX10_number ∈ GOODS := mg0 29 rfl rfl
theorem wd_0_30 : Cond.selects RX10 yX10_isSign yX10_isSign ∈ GOODS := mg0 30 rfl rfl
theorem wd_0_31 : Cond.selects RX10 yX10_areWorks yX10_areWorks ∈ GOODS := mg0 31 rfl rfl
theorem wd_0_32 : Cond.selects RX10 yX10_sumNoise yX10_sumNoise ∈ GOODS := mg0 32 rfl rfl
theorem wd_0_33 : Cond.selects RX10 yX10_sumBrings yX10_sumBrings ∈ GOODS := mg0 33 rfl rfl
theorem wd_0_34 : Cond.selects RX10 yX10_find yX10_find ∈ GOODS := mg0 34 rfl rfl
theorem wd_0_35 : Cond.selects RX10 yX10_readDiary yX10_readDiary ∈ GOODS := mg0 35 rfl rfl
theorem wd_0_36 : Cond.selects RX10 yX10_goOn yX10_goOn ∈ GOODS := mg0 36 rfl rfl
theorem wd_0_37 : Cond.selects RX10 yX10_chance yX10_chance ∈ GOODS := mg0 37 rfl rfl
theorem wd_0_38 : Cond.selects RX10 yX10_likely yX10_likely ∈ GOODS := mg0 38 rfl rfl
theorem wd_0_39 : Cond.selects RX10 yX10_isPaired yX10_isPaired ∈ GOODS := mg0 39 rfl rfl
theorem wd_0_40 : Cond.selects RX10 yX10_seenBy yX10_seenBy ∈ GOODS := mg0 40 rfl rfl
theorem wd_0_41 : Cond.selects RX10 yX10_total yX10_total ∈ GOODS := mg0 41 rfl rfl
theorem wd_0_42 : Cond.selects RX10 yX10_findTurns yX10_findTurns ∈ GOODS := mg0 42 rfl rfl
theorem wd_0_43 : Cond.selects RX10 yX10_sightUp yX10_sightUp ∈ GOODS := mg0 43 rfl rfl
theorem wd_0_44 : Cond.selects RX10 yX10_sightOf yX10_sightOf ∈ GOODS := mg0 44 rfl rfl
theorem wd_0_45 : Cond.selects RX10 yX10_costOf yX10_costOf ∈ GOODS := mg0 45 rfl rfl
theorem wd_0_46 : Cond.selects RX10 yX10_boatsOf yX10_boatsOf ∈ GOODS := mg0 46 rfl rfl
theorem wd_0_47 : Cond.selects RX10 yX10_copy yX10_copy ∈ GOODS := mg0 47 rfl rfl
theorem wd_1_1 : Cond.initialized RX9 ∈ GOODS := mg1 1 rfl rfl
theorem wd_1_2 : Cond.initialized RX6 ∈ GOODS := mg1 2 rfl rfl
theorem wd_1_3 : Cond.initialized RX3 ∈ GOODS := mg1 3 rfl rfl
theorem wd_1_4 : Cond.initialized RX8 ∈ GOODS := mg1 4 rfl rfl
theorem wd_1_5 : Cond.initialized RX1 ∈ GOODS := mg1 5 rfl rfl
theorem wd_1_6 : Cond.initialized RX5 ∈ GOODS := mg1 6 rfl rfl
theorem wd_1_7 : Cond.initialized RX7 ∈ GOODS := mg1 7 rfl rfl
theorem wd_1_8 : Cond.initialized RX0 ∈ GOODS := mg1 8 rfl rfl
theorem wd_1_9 : Cond.initialized RX2 ∈ GOODS := mg1 9 rfl rfl
theorem wd_1_14 : Cond.initialized RX4 ∈ GOODS := mg1 14 rfl rfl
theorem wd_1_15 : Cond.initialized RX10 ∈ GOODS := mg1 15 rfl rfl
theorem wd_1_16 : Cond.initialized "java/lang/Math" ∈ GOODS := mg1 16 rfl rfl
theorem wd_1_17 : Cond.initialized RJ6 ∈ GOODS := mg1 17 rfl rfl
theorem wd_1_32 : Cond.fieldLink RX6 9 "WhaleTown$Text" "letters" "[I" ∈ GOODS := mg1 32 rfl rfl
theorem wd_1_33 : Cond.fieldLink RX6 13 "WhaleTown$Text" "length" "I" ∈ GOODS := mg1 33 rfl rfl
theorem wd_1_34 : Cond.fieldLink RX9 108 "WhaleTown$Text" "length" "I" ∈ GOODS := mg1 34 rfl rfl
theorem wd_1_35 : Cond.fieldLink RX8 38 "WhaleTown$Text" "length" "I" ∈ GOODS := mg1 35 rfl rfl
theorem wd_1_48 : Cond.fieldLink RX3 11 "WhaleTown$ItemReader" "numbers" "[I" ∈ GOODS := mg1 48 rfl rfl
theorem wd_1_49 : Cond.fieldLink RX3 28 "WhaleTown$ItemReader" "numberCount" "I" ∈ GOODS := mg1 49 rfl rfl
theorem wd_1_50 : Cond.fieldLink RX3 21 "WhaleTown$ItemReader" "letter" "I" ∈ GOODS := mg1 50 rfl rfl
theorem wd_1_51 : Cond.fieldLink RX8 79 "WhaleTown$ItemReader" "letter" "I" ∈ GOODS := mg1 51 rfl rfl
theorem wd_1_52 : Cond.fieldLink RX3 25 "WhaleTown$ItemReader" "end" "I" ∈ GOODS := mg1 52 rfl rfl
theorem wd_1_53 : Cond.fieldLink RX8 52 "WhaleTown$ItemReader" "end" "I" ∈ GOODS := mg1 53 rfl rfl
theorem wd_1_69 : Cond.fieldLink RX8 9 "WhaleTown$Town" "lighter" "[I" ∈ GOODS := mg1 69 rfl rfl
theorem wd_1_70 : Cond.fieldLink RX8 15 "WhaleTown$Town" "signNumbers" "[I" ∈ GOODS := mg1 70 rfl rfl
theorem wd_1_71 : Cond.fieldLink RX8 18 "WhaleTown$Town" "housePeople" "[I" ∈ GOODS := mg1 71 rfl rfl
theorem wd_1_72 : Cond.fieldLink RX8 21 "WhaleTown$Town" "houseMinutes" "[I" ∈ GOODS := mg1 72 rfl rfl
theorem wd_1_73 : Cond.fieldLink RX8 24 "WhaleTown$Town" "boatRoom" "[I" ∈ GOODS := mg1 73 rfl rfl
theorem wd_1_74 : Cond.fieldLink RX8 27 "WhaleTown$Town" "workNoise" "[I" ∈ GOODS := mg1 74 rfl rfl
theorem wd_1_75 : Cond.fieldLink RX8 30 "WhaleTown$Town" "workGain" "[I" ∈ GOODS := mg1 75 rfl rfl
theorem wd_1_76 : Cond.fieldLink RX8 67 "WhaleTown$Town" "signCount" "I" ∈ GOODS := mg1 76 rfl rfl
theorem wd_1_77 : Cond.fieldLink RX9 110 "WhaleTown$Town" "signCount" "I" ∈ GOODS := mg1 77 rfl rfl
theorem wd_1_78 : Cond.fieldLink RX8 70 "WhaleTown$Town" "houseCount" "I" ∈ GOODS := mg1 78 rfl rfl
theorem wd_1_79 : Cond.fieldLink RX0 57 "WhaleTown$Town" "houseCount" "I" ∈ GOODS := mg1 79 rfl rfl
theorem wd_1_80 : Cond.fieldLink RX9 213 "WhaleTown$Town" "houseCount" "I" ∈ GOODS := mg1 80 rfl rfl
theorem wd_1_81 : Cond.fieldLink RX0 24 "WhaleTown$Town" "boatCount" "I" ∈ GOODS := mg1 81 rfl rfl
theorem wd_1_82 : Cond.fieldLink RX8 73 "WhaleTown$Town" "boatCount" "I" ∈ GOODS := mg1 82 rfl rfl
theorem wd_1_83 : Cond.fieldLink RX9 253 "WhaleTown$Town" "boatCount" "I" ∈ GOODS := mg1 83 rfl rfl
theorem wd_1_84 : Cond.fieldLink RX8 76 "WhaleTown$Town" "workCount" "I" ∈ GOODS := mg1 84 rfl rfl
theorem wd_1_85 : Cond.fieldLink RX9 123 "WhaleTown$Town" "workCount" "I" ∈ GOODS := mg1 85 rfl rfl
theorem wd_1_86 : Cond.fieldLink RX8 61 "WhaleTown$Town" "turnCost" "I" ∈ GOODS := mg1 86 rfl rfl
theorem wd_1_87 : Cond.fieldLink RX9 284 "WhaleTown$Town" "turnCost" "I" ∈ GOODS := mg1 87 rfl rfl
theorem wd_1_88 : Cond.fieldLink RX8 64 "WhaleTown$Town" "boatDayCost" "I" ∈ GOODS := mg1 88 rfl rfl
theorem wd_1_89 : Cond.fieldLink RX9 287 "WhaleTown$Town" "boatDayCost" "I" ∈ GOODS := mg1 89 rfl rfl
theorem wd_1_123 : Cond.fieldLink RX1 9 "WhaleTown$Diary" "signs" "[I" ∈ GOODS := mg1 123 rfl rfl
theorem wd_1_124 : Cond.fieldLink RX1 13 "WhaleTown$Diary" "works" "[I" ∈ GOODS := mg1 124 rfl rfl
theorem wd_1_125 : Cond.fieldLink RX1 16 "WhaleTown$Diary" "days" "I" ∈ GOODS := mg1 125 rfl rfl
theorem wd_1_126 : Cond.fieldLink RX9 113 "WhaleTown$Diary" "days" "I" ∈ GOODS := mg1 126 rfl rfl
theorem wd_1_127 : Cond.fieldLink RX5 40 "WhaleTown$Diary" "days" "I" ∈ GOODS := mg1 127 rfl rfl
theorem wd_1_141 : Cond.fieldLink RX5 9 "WhaleTown$Sleeper" "stayed" "[J" ∈ GOODS := mg1 141 rfl rfl
theorem wd_1_142 : Cond.fieldLink RX5 15 "WhaleTown$Sleeper" "came" "[J" ∈ GOODS := mg1 142 rfl rfl
theorem wd_1_143 : Cond.fieldLink RX5 32 "WhaleTown$Sleeper" "turned" "J" ∈ GOODS := mg1 143 rfl rfl
theorem wd_1_144 : Cond.fieldLink RX9 169 "WhaleTown$Sleeper" "turned" "J" ∈ GOODS := mg1 144 rfl rfl
theorem wd_1_159 : Cond.fieldLink RX7 9 "WhaleTown$Told" "former" "[I" ∈ GOODS := mg1 159 rfl rfl
theorem wd_1_160 : Cond.fieldLink RX7 13 "WhaleTown$Told" "latter" "[I" ∈ GOODS := mg1 160 rfl rfl
theorem wd_1_161 : Cond.fieldLink RX7 18 "WhaleTown$Told" "orderings" "[I" ∈ GOODS := mg1 161 rfl rfl
theorem wd_1_162 : Cond.fieldLink RX7 21 "WhaleTown$Told" "pairs" "I" ∈ GOODS := mg1 162 rfl rfl
theorem wd_1_163 : Cond.fieldLink RX9 116 "WhaleTown$Told" "pairs" "I" ∈ GOODS := mg1 163 rfl rfl
theorem wd_1_179 : Cond.fieldLink RX0 9 "WhaleTown$Crewing" "boatOfHouse" "[I" ∈ GOODS := mg1 179 rfl rfl
theorem wd_1_180 : Cond.fieldLink RX0 15 "WhaleTown$Crewing" "roomLeft" "[I" ∈ GOODS := mg1 180 rfl rfl
theorem wd_1_181 : Cond.fieldLink RX0 43 "WhaleTown$Crewing" "boats" "I" ∈ GOODS := mg1 181 rfl rfl
theorem wd_1_182 : Cond.fieldLink RX9 220 "WhaleTown$Crewing" "boats" "I" ∈ GOODS := mg1 182 rfl rfl
theorem wd_1_196 : Cond.fieldLink RX2 9 "WhaleTown$Drifting" "ways" "[I" ∈ GOODS := mg1 196 rfl rfl
theorem wd_1_197 : Cond.fieldLink RX2 13 "WhaleTown$Drifting" "waysLater" "[I" ∈ GOODS := mg1 197 rfl rfl
theorem wd_2_12 : Cond.methodLink RX9 93 yX6_append ∈ GOODS := mg2 12 rfl rfl
theorem wd_2_13 : Cond.instanceMethod yX6_append ∈ GOODS := mg2 13 rfl rfl
theorem wd_2_14 : Cond.selects RX6 yX6_append yX6_append ∈ GOODS := mg2 14 rfl rfl
theorem wd_2_15 : Cond.code yX6_append cX6_append 2 none ∈ GOODS := mg2 15 rfl rfl
theorem wd_2_16 : Cond.methodLink RX6 17 yX4_put ∈ GOODS := mg2 16 rfl rfl
theorem wd_2_17 : Cond.static yX4_put ∈ GOODS := mg2 17 rfl rfl
theorem wd_2_18 : Cond.code yX4_put cX4_put 3 none ∈ GOODS := mg2 18 rfl rfl
theorem wd_2_19 : Cond.methodLink RX9 97 yX8_readFrom ∈ GOODS := mg2 19 rfl rfl
theorem wd_2_20 : Cond.instanceMethod yX8_readFrom ∈ GOODS := mg2 20 rfl rfl
theorem wd_2_21 : Cond.selects RX8 yX8_readFrom yX8_readFrom ∈ GOODS := mg2 21 rfl rfl
theorem wd_2_22 : Cond.code yX8_readFrom cX8_readFrom 5 (some .int) ∈ GOODS := mg2 22 rfl rfl
theorem wd_2_23 : Cond.methodLink RX8 33 yX8_startOver ∈ GOODS := mg2 23 rfl rfl
theorem wd_2_25 : Cond.instanceMethod yX8_startOver ∈ GOODS := mg2 25 rfl rfl
theorem wd_2_26 : Cond.code yX8_startOver cX8_startOver 2 none ∈ GOODS := mg2 26 rfl rfl
theorem wd_2_27 : Cond.methodLink RX8 55 yX4_put ∈ GOODS := mg2 27 rfl rfl
theorem wd_2_28 : Cond.methodLink RX8 42 yX3_readAt ∈ GOODS := mg2 28 rfl rfl
theorem wd_2_29 : Cond.instanceMethod yX3_readAt ∈ GOODS := mg2 29 rfl rfl
theorem wd_2_30 : Cond.selects RX3 yX3_readAt yX3_readAt ∈ GOODS := mg2 30 rfl rfl
theorem wd_2_31 : Cond.code yX3_readAt cX3_readAt 6 (some .boolean) ∈ GOODS := mg2 31 rfl rfl
theorem wd_2_32 : Cond.methodLink RX3 15 yX6_letterAt ∈ GOODS := mg2 32 rfl rfl
theorem wd_2_33 : Cond.instanceMethod yX6_letterAt ∈ GOODS := mg2 33 rfl rfl
theorem wd_2_34 : Cond.selects RX6 yX6_letterAt yX6_letterAt ∈ GOODS := mg2 34 rfl rfl
theorem wd_2_35 : Cond.code yX6_letterAt cX6_letterAt 2 (some .int) ∈ GOODS := mg2 35 rfl rfl
theorem wd_2_36 : Cond.methodLink RX6 23 yX4_at ∈ GOODS := mg2 36 rfl rfl
theorem wd_2_37 : Cond.static yX4_at ∈ GOODS := mg2 37 rfl rfl
theorem wd_2_38 : Cond.code yX4_at cX4_at 2 (some .int) ∈ GOODS := mg2 38 rfl rfl
theorem wd_2_39 : Cond.methodLink RX3 31 yX3_readNumber ∈ GOODS := mg2 39 rfl rfl
theorem wd_2_41 : Cond.instanceMethod yX3_readNumber ∈ GOODS := mg2 41 rfl rfl
theorem wd_2_42 : Cond.code yX3_readNumber cX3_readNumber 5 (some .boolean) ∈ GOODS := mg2 42 rfl rfl
theorem wd_2_43 : Cond.methodLink RX3 45 yX3_figure ∈ GOODS := mg2 43 rfl rfl
theorem wd_2_44 : Cond.static yX3_figure ∈ GOODS := mg2 44 rfl rfl
theorem wd_2_45 : Cond.code yX3_figure cX3_figure 1 (some .int) ∈ GOODS := mg2 45 rfl rfl
theorem wd_2_47 : Cond.static yX9_isWithin ∈ GOODS := mg2 47 rfl rfl
theorem wd_2_48 : Cond.code yX9_isWithin cX9_isWithin 3 (some .boolean) ∈ GOODS := mg2 48 rfl rfl
theorem wd_2_49 : Cond.methodLink RX3 48 yX4_put ∈ GOODS := mg2 49 rfl rfl
theorem wd_2_50 : Cond.methodLink RX3 35 yX3_isTold ∈ GOODS := mg2 50 rfl rfl
theorem wd_2_52 : Cond.instanceMethod yX3_isTold ∈ GOODS := mg2 52 rfl rfl
theorem wd_2_53 : Cond.code yX3_isTold cX3_isTold 1 (some .boolean) ∈ GOODS := mg2 53 rfl rfl
theorem wd_2_54 : Cond.methodLink RX3 56 yX3_reaches ∈ GOODS := mg2 54 rfl rfl
theorem wd_2_56 : Cond.instanceMethod yX3_reaches ∈ GOODS := mg2 56 rfl rfl
theorem wd_2_57 : Cond.code yX3_reaches cX3_reaches 4 (some .boolean) ∈ GOODS := mg2 57 rfl rfl
theorem wd_2_58 : Cond.methodLink RX3 39 yX4_at ∈ GOODS := mg2 58 rfl rfl
theorem wd_2_59 : Cond.methodLink RX8 48 yX8_take ∈ GOODS := mg2 59 rfl rfl
theorem wd_2_61 : Cond.instanceMethod yX8_take ∈ GOODS := mg2 61 rfl rfl
theorem wd_2_62 : Cond.code yX8_take cX8_take 2 (some .boolean) ∈ GOODS := mg2 62 rfl rfl
theorem wd_2_63 : Cond.methodLink RX8 82 yX8_takeSleeps ∈ GOODS := mg2 63 rfl rfl
theorem wd_2_65 : Cond.instanceMethod yX8_takeSleeps ∈ GOODS := mg2 65 rfl rfl
theorem wd_2_66 : Cond.code yX8_takeSleeps cX8_takeSleeps 3 (some .boolean) ∈ GOODS := mg2 66 rfl rfl
theorem wd_2_67 : Cond.methodLink RX8 100 yX3_numberAt ∈ GOODS := mg2 67 rfl rfl
theorem wd_2_68 : Cond.instanceMethod yX3_numberAt ∈ GOODS := mg2 68 rfl rfl
theorem wd_2_69 : Cond.selects RX3 yX3_numberAt yX3_numberAt ∈ GOODS := mg2 69 rfl rfl
theorem wd_2_70 : Cond.code yX3_numberAt cX3_numberAt 2 (some .int) ∈ GOODS := mg2 70 rfl rfl
theorem wd_2_71 : Cond.methodLink RX8 85 yX8_takeSign ∈ GOODS := mg2 71 rfl rfl
theorem wd_2_73 : Cond.instanceMethod yX8_takeSign ∈ GOODS := mg2 73 rfl rfl
theorem wd_2_74 : Cond.code yX8_takeSign cX8_takeSign 3 (some .boolean) ∈ GOODS := mg2 74 rfl rfl
theorem wd_2_75 : Cond.methodLink RX8 88 yX8_takeHouse ∈ GOODS := mg2 75 rfl rfl
theorem wd_2_77 : Cond.instanceMethod yX8_takeHouse ∈ GOODS := mg2 77 rfl rfl
theorem wd_2_78 : Cond.code yX8_takeHouse cX8_takeHouse 2 (some .boolean) ∈ GOODS := mg2 78 rfl rfl
theorem wd_2_79 : Cond.methodLink RX8 91 yX8_takeBoat ∈ GOODS := mg2 79 rfl rfl
theorem wd_2_81 : Cond.instanceMethod yX8_takeBoat ∈ GOODS := mg2 81 rfl rfl
theorem wd_2_82 : Cond.code yX8_takeBoat cX8_takeBoat 2 (some .boolean) ∈ GOODS := mg2 82 rfl rfl
theorem wd_2_83 : Cond.methodLink RX8 94 yX8_takeWorks ∈ GOODS := mg2 83 rfl rfl
theorem wd_2_85 : Cond.instanceMethod yX8_takeWorks ∈ GOODS := mg2 85 rfl rfl
theorem wd_2_86 : Cond.code yX8_takeWorks cX8_takeWorks 2 (some .boolean) ∈ GOODS := mg2 86 rfl rfl
theorem wd_2_87 : Cond.methodLink RX8 97 yX8_takeCosts ∈ GOODS := mg2 87 rfl rfl
theorem wd_2_89 : Cond.instanceMethod yX8_takeCosts ∈ GOODS := mg2 89 rfl rfl
theorem wd_2_90 : Cond.code yX8_takeCosts cX8_takeCosts 2 (some .boolean) ∈ GOODS := mg2 90 rfl rfl
theorem wd_2_91 : Cond.methodLink RX9 101 yX6_empty ∈ GOODS := mg2 91 rfl rfl
theorem wd_2_92 : Cond.instanceMethod yX6_empty ∈ GOODS := mg2 92 rfl rfl
theorem wd_2_93 : Cond.selects RX6 yX6_empty yX6_empty ∈ GOODS := mg2 93 rfl rfl
theorem wd_2_94 : Cond.code yX6_empty cX6_empty 1 none ∈ GOODS := mg2 94 rfl rfl
theorem wd_2_95 : Cond.fieldLink RX9 10 "WhaleTown" "text" "LWhaleTown$Text;" ∈ GOODS := mg2 95 rfl rfl
theorem wd_2_96 : Cond.fieldLink RX9 19 "WhaleTown" "reader" "LWhaleTown$ItemReader;" ∈ GOODS := mg2 96 rfl rfl
theorem wd_2_97 : Cond.fieldLink RX9 26 "WhaleTown" "town" "LWhaleTown$Town;" ∈ GOODS := mg2 97 rfl rfl
theorem wd_2_98 : Cond.fieldLink RX9 30 "WhaleTown" "draft" "LWhaleTown$Town;" ∈ GOODS := mg2 98 rfl rfl
theorem wd_2_99 : Cond.fieldLink RX9 36 "WhaleTown" "book" "LWhaleTown$Diary;" ∈ GOODS := mg2 99 rfl rfl
theorem wd_2_100 : Cond.fieldLink RX9 40 "WhaleTown" "keptFirst" "LWhaleTown$Diary;" ∈ GOODS := mg2 100 rfl rfl
theorem wd_2_101 : Cond.fieldLink RX9 43 "WhaleTown" "keptSecond" "LWhaleTown$Diary;" ∈ GOODS := mg2 101 rfl rfl
theorem wd_2_102 : Cond.fieldLink RX9 46 "WhaleTown" "keptCount" "I" ∈ GOODS := mg2 102 rfl rfl
theorem wd_2_103 : Cond.fieldLink RX9 53 "WhaleTown" "now" "LWhaleTown$Sleeper;" ∈ GOODS := mg2 103 rfl rfl
theorem wd_2_104 : Cond.fieldLink RX9 57 "WhaleTown" "future" "LWhaleTown$Sleeper;" ∈ GOODS := mg2 104 rfl rfl
theorem wd_2_105 : Cond.fieldLink RX9 63 "WhaleTown" "told" "LWhaleTown$Told;" ∈ GOODS := mg2 105 rfl rfl
theorem wd_2_106 : Cond.fieldLink RX9 70 "WhaleTown" "crewing" "LWhaleTown$Crewing;" ∈ GOODS := mg2 106 rfl rfl
theorem wd_2_107 : Cond.fieldLink RX9 77 "WhaleTown" "drifting" "LWhaleTown$Drifting;" ∈ GOODS := mg2 107 rfl rfl
theorem wd_2_140 : Cond.methodLink RX9 104 yX9_isWithin ∈ GOODS := mg2 140 rfl rfl
theorem wd_2_157 : Cond.methodLink RX9 119 yX8_signNumber ∈ GOODS := mg2 157 rfl rfl
theorem wd_2_158 : Cond.instanceMethod yX8_signNumber ∈ GOODS := mg2 158 rfl rfl
theorem wd_2_159 : Cond.selects RX8 yX8_signNumber yX8_signNumber ∈ GOODS := mg2 159 rfl rfl
theorem wd_2_160 : Cond.code yX8_signNumber cX8_signNumber 3 (some .int) ∈ GOODS := mg2 160 rfl rfl
theorem wd_2_161 : Cond.methodLink RX8 104 yX4_at ∈ GOODS := mg2 161 rfl rfl
theorem wd_2_166 : Cond.methodLink RX9 126 yX9_isSet ∈ GOODS := mg2 166 rfl rfl
theorem wd_2_167 : Cond.static yX9_isSet ∈ GOODS := mg2 167 rfl rfl
theorem wd_2_168 : Cond.code yX9_isSet cX9_isSet 2 (some .boolean) ∈ GOODS := mg2 168 rfl rfl
theorem wd_2_169 : Cond.methodLink RX9 196 yX9_setsOf ∈ GOODS := mg2 169 rfl rfl
theorem wd_2_170 : Cond.static yX9_setsOf ∈ GOODS := mg2 170 rfl rfl
theorem wd_2_171 : Cond.code yX9_setsOf cX9_setsOf 1 (some .int) ∈ GOODS := mg2 171 rfl rfl
theorem wd_2_172 : Cond.methodLink RX9 130 yX8_noiseOf ∈ GOODS := mg2 172 rfl rfl
theorem wd_2_173 : Cond.instanceMethod yX8_noiseOf ∈ GOODS := mg2 173 rfl rfl
theorem wd_2_174 : Cond.selects RX8 yX8_noiseOf yX8_noiseOf ∈ GOODS := mg2 174 rfl rfl
theorem wd_2_175 : Cond.code yX8_noiseOf cX8_noiseOf 2 (some .int) ∈ GOODS := mg2 175 rfl rfl
theorem wd_2_176 : Cond.methodLink RX8 108 yX8_sumOf ∈ GOODS := mg2 176 rfl rfl
theorem wd_2_177 : Cond.static yX8_sumOf ∈ GOODS := mg2 177 rfl rfl
theorem wd_2_178 : Cond.code yX8_sumOf cX8_sumOf 5 (some .int) ∈ GOODS := mg2 178 rfl rfl
theorem wd_2_180 : Cond.static yX9_holds ∈ GOODS := mg2 180 rfl rfl
theorem wd_2_181 : Cond.code yX9_holds cX9_holds 2 (some .boolean) ∈ GOODS := mg2 181 rfl rfl
theorem wd_2_182 : Cond.methodLink RX9 134 yX8_gainOf ∈ GOODS := mg2 182 rfl rfl
theorem wd_2_183 : Cond.instanceMethod yX8_gainOf ∈ GOODS := mg2 183 rfl rfl
theorem wd_2_184 : Cond.selects RX8 yX8_gainOf yX8_gainOf ∈ GOODS := mg2 184 rfl rfl
theorem wd_2_185 : Cond.code yX8_gainOf cX8_gainOf 2 (some .int) ∈ GOODS := mg2 185 rfl rfl
theorem wd_2_190 : Cond.methodLink RX9 137 yX1_append ∈ GOODS := mg2 190 rfl rfl
theorem wd_2_191 : Cond.instanceMethod yX1_append ∈ GOODS := mg2 191 rfl rfl
theorem wd_2_192 : Cond.selects RX1 yX1_append yX1_append ∈ GOODS := mg2 192 rfl rfl
theorem wd_2_193 : Cond.code yX1_append cX1_append 3 none ∈ GOODS := mg2 193 rfl rfl
theorem wd_2_194 : Cond.methodLink RX1 20 yX4_put ∈ GOODS := mg2 194 rfl rfl
theorem wd_2_199 : Cond.methodLink RX9 140 yX1_signsOn ∈ GOODS := mg2 199 rfl rfl
theorem wd_2_200 : Cond.instanceMethod yX1_signsOn ∈ GOODS := mg2 200 rfl rfl
theorem wd_2_201 : Cond.selects RX1 yX1_signsOn yX1_signsOn ∈ GOODS := mg2 201 rfl rfl
theorem wd_2_202 : Cond.code yX1_signsOn cX1_signsOn 2 (some .int) ∈ GOODS := mg2 202 rfl rfl
theorem wd_2_203 : Cond.methodLink RX1 26 yX4_at ∈ GOODS := mg2 203 rfl rfl
theorem wd_2_204 : Cond.methodLink RX9 143 yX1_worksOn ∈ GOODS := mg2 204 rfl rfl
theorem wd_2_205 : Cond.instanceMethod yX1_worksOn ∈ GOODS := mg2 205 rfl rfl
theorem wd_2_206 : Cond.selects RX1 yX1_worksOn yX1_worksOn ∈ GOODS := mg2 206 rfl rfl
theorem wd_2_207 : Cond.code yX1_worksOn cX1_worksOn 2 (some .int) ∈ GOODS := mg2 207 rfl rfl
theorem wd_2_216 : Cond.constantLong RX9 146 (-1) ∈ GOODS := mg2 216 rfl rfl
theorem wd_2_217 : Cond.methodLink RX9 148 yX9_diaryCanBe ∈ GOODS := mg2 217 rfl rfl
theorem wd_2_219 : Cond.instanceMethod yX9_diaryCanBe ∈ GOODS := mg2 219 rfl rfl
theorem wd_2_220 : Cond.code yX9_diaryCanBe cX9_diaryCanBe 1 (some .boolean) ∈ GOODS := mg2 220 rfl rfl
theorem wd_2_221 : Cond.methodLink RX9 239 yX5_passDiary ∈ GOODS := mg2 221 rfl rfl
theorem wd_2_222 : Cond.instanceMethod yX5_passDiary ∈ GOODS := mg2 222 rfl rfl
theorem wd_2_223 : Cond.selects RX5 yX5_passDiary yX5_passDiary ∈ GOODS := mg2 223 rfl rfl
theorem wd_2_224 : Cond.code yX5_passDiary cX5_passDiary 5 none ∈ GOODS := mg2 224 rfl rfl
theorem wd_2_225 : Cond.methodLink RX5 36 yX4_putLong ∈ GOODS := mg2 225 rfl rfl
theorem wd_2_226 : Cond.static yX4_putLong ∈ GOODS := mg2 226 rfl rfl
theorem wd_2_227 : Cond.code yX4_putLong cX4_putLong 4 none ∈ GOODS := mg2 227 rfl rfl
theorem wd_2_228 : Cond.methodLink RX5 46 yX1_worksOn ∈ GOODS := mg2 228 rfl rfl
theorem wd_2_229 : Cond.methodLink RX5 50 yX8_noiseOf ∈ GOODS := mg2 229 rfl rfl
theorem wd_2_230 : Cond.methodLink RX5 55 yX5_goOn ∈ GOODS := mg2 230 rfl rfl
theorem wd_2_231 : Cond.instanceMethod yX5_goOn ∈ GOODS := mg2 231 rfl rfl
theorem wd_2_232 : Cond.selects RX5 yX5_goOn yX5_goOn ∈ GOODS := mg2 232 rfl rfl
theorem wd_2_233 : Cond.code yX5_goOn cX5_goOn 7 none ∈ GOODS := mg2 233 rfl rfl
theorem wd_2_234 : Cond.constantLong RX5 65 4 ∈ GOODS := mg2 234 rfl rfl
theorem wd_2_235 : Cond.methodLink RX5 67 yX8_chance ∈ GOODS := mg2 235 rfl rfl
theorem wd_2_236 : Cond.instanceMethod yX8_chance ∈ GOODS := mg2 236 rfl rfl
theorem wd_2_237 : Cond.selects RX8 yX8_chance yX8_chance ∈ GOODS := mg2 237 rfl rfl
theorem wd_2_238 : Cond.code yX8_chance cX8_chance 3 (some .int) ∈ GOODS := mg2 238 rfl rfl
theorem wd_2_239 : Cond.methodLink RX8 125 Lib.Math.min.name ∈ GOODS := mg2 239 rfl rfl
theorem wd_3_0 : Cond.static Lib.Math.min.name ∈ GOODS := mg3 0 rfl rfl
theorem wd_3_1 : Cond.code Lib.Math.min.name Lib.Math.min.code 2 (some .int) ∈ GOODS := mg3 1 rfl rfl
theorem wd_3_2 : Cond.methodLink RX5 24 yX5_waysTo ∈ GOODS := mg3 2 rfl rfl
theorem wd_3_3 : Cond.instanceMethod yX5_waysTo ∈ GOODS := mg3 3 rfl rfl
theorem wd_3_4 : Cond.selects RX5 yX5_waysTo yX5_waysTo ∈ GOODS := mg3 4 rfl rfl
theorem wd_3_5 : Cond.code yX5_waysTo cX5_waysTo 2 (some .long) ∈ GOODS := mg3 5 rfl rfl
theorem wd_3_6 : Cond.methodLink RX5 18 yX4_longAt ∈ GOODS := mg3 6 rfl rfl
theorem wd_3_7 : Cond.static yX4_longAt ∈ GOODS := mg3 7 rfl rfl
theorem wd_3_8 : Cond.code yX4_longAt cX4_longAt 2 (some .long) ∈ GOODS := mg3 8 rfl rfl
theorem wd_3_9 : Cond.methodLink RX5 59 yX1_signsOn ∈ GOODS := mg3 9 rfl rfl
theorem wd_3_10 : Cond.methodLink RX5 62 yX5_lookAt ∈ GOODS := mg3 10 rfl rfl
theorem wd_3_12 : Cond.instanceMethod yX5_lookAt ∈ GOODS := mg3 12 rfl rfl
theorem wd_3_13 : Cond.code yX5_lookAt cX5_lookAt 5 none ∈ GOODS := mg3 13 rfl rfl
theorem wd_3_14 : Cond.methodLink RX5 71 Lib.Math.max.name ∈ GOODS := mg3 14 rfl rfl
theorem wd_3_15 : Cond.static Lib.Math.max.name ∈ GOODS := mg3 15 rfl rfl
theorem wd_3_16 : Cond.code Lib.Math.max.name Lib.Math.max.code 2 (some .int) ∈ GOODS := mg3 16 rfl rfl
theorem wd_3_17 : Cond.methodLink RX5 76 yX8_waysToSee ∈ GOODS := mg3 17 rfl rfl
theorem wd_3_18 : Cond.instanceMethod yX8_waysToSee ∈ GOODS := mg3 18 rfl rfl
theorem wd_3_19 : Cond.selects RX8 yX8_waysToSee yX8_waysToSee ∈ GOODS := mg3 19 rfl rfl
theorem wd_3_20 : Cond.code yX8_waysToSee cX8_waysToSee 9 (some .long) ∈ GOODS := mg3 20 rfl rfl
theorem wd_3_21 : Cond.methodLink RX8 134 yX8_hangsOnOther ∈ GOODS := mg3 21 rfl rfl
theorem wd_3_23 : Cond.instanceMethod yX8_hangsOnOther ∈ GOODS := mg3 23 rfl rfl
theorem wd_3_24 : Cond.code yX8_hangsOnOther cX8_hangsOnOther 2 (some .boolean) ∈ GOODS := mg3 24 rfl rfl
theorem wd_3_25 : Cond.methodLink RX8 131 yX8_signNumber ∈ GOODS := mg3 25 rfl rfl
theorem wd_3_26 : Cond.methodLink RX8 138 yX8_ownChance ∈ GOODS := mg3 26 rfl rfl
theorem wd_3_28 : Cond.instanceMethod yX8_ownChance ∈ GOODS := mg3 28 rfl rfl
theorem wd_3_29 : Cond.code yX8_ownChance cX8_ownChance 7 (some .int) ∈ GOODS := mg3 29 rfl rfl
theorem wd_3_30 : Cond.methodLink RX9 158 yX5_total ∈ GOODS := mg3 30 rfl rfl
theorem wd_3_31 : Cond.instanceMethod yX5_total ∈ GOODS := mg3 31 rfl rfl
theorem wd_3_32 : Cond.selects RX5 yX5_total yX5_total ∈ GOODS := mg3 32 rfl rfl
theorem wd_3_33 : Cond.code yX5_total cX5_total 4 (some .long) ∈ GOODS := mg3 33 rfl rfl
theorem wd_3_34 : Cond.constantLong RX9 152 (-4) ∈ GOODS := mg3 34 rfl rfl
theorem wd_3_35 : Cond.methodLink RX9 154 yX5_waysTo ∈ GOODS := mg3 35 rfl rfl
theorem wd_3_36 : Cond.methodLink RX9 162 yX9_inLowestTerms ∈ GOODS := mg3 36 rfl rfl
theorem wd_3_37 : Cond.static yX9_inLowestTerms ∈ GOODS := mg3 37 rfl rfl
theorem wd_3_38 : Cond.code yX9_inLowestTerms cX9_inLowestTerms 7 (some .long) ∈ GOODS := mg3 38 rfl rfl
theorem wd_3_39 : Cond.methodLink RX9 259 yX9_commonDivisor ∈ GOODS := mg3 39 rfl rfl
theorem wd_3_40 : Cond.static yX9_commonDivisor ∈ GOODS := mg3 40 rfl rfl
theorem wd_3_41 : Cond.code yX9_commonDivisor cX9_commonDivisor 11 (some .long) ∈ GOODS := mg3 41 rfl rfl
theorem wd_3_46 : Cond.methodLink RX9 166 yX9_lookAhead ∈ GOODS := mg3 46 rfl rfl
theorem wd_3_48 : Cond.instanceMethod yX9_lookAhead ∈ GOODS := mg3 48 rfl rfl
theorem wd_3_49 : Cond.code yX9_lookAhead cX9_lookAhead 5 none ∈ GOODS := mg3 49 rfl rfl
theorem wd_3_50 : Cond.methodLink RX9 271 yX5_takeFrom ∈ GOODS := mg3 50 rfl rfl
theorem wd_3_51 : Cond.instanceMethod yX5_takeFrom ∈ GOODS := mg3 51 rfl rfl
theorem wd_3_52 : Cond.selects RX5 yX5_takeFrom yX5_takeFrom ∈ GOODS := mg3 52 rfl rfl
theorem wd_3_53 : Cond.code yX5_takeFrom cX5_takeFrom 3 none ∈ GOODS := mg3 53 rfl rfl
theorem wd_3_54 : Cond.methodLink RX9 274 yX5_goOn ∈ GOODS := mg3 54 rfl rfl
theorem wd_3_55 : Cond.methodLink RX9 173 yX5_all ∈ GOODS := mg3 55 rfl rfl
theorem wd_3_56 : Cond.instanceMethod yX5_all ∈ GOODS := mg3 56 rfl rfl
theorem wd_3_57 : Cond.selects RX5 yX5_all yX5_all ∈ GOODS := mg3 57 rfl rfl
theorem wd_3_58 : Cond.code yX5_all cX5_all 1 (some .long) ∈ GOODS := mg3 58 rfl rfl
theorem wd_3_59 : Cond.methodLink RX5 28 yX5_total ∈ GOODS := mg3 59 rfl rfl
theorem wd_3_64 : Cond.methodLink RX9 176 yX9_nextDayCanBe ∈ GOODS := mg3 64 rfl rfl
theorem wd_3_66 : Cond.instanceMethod yX9_nextDayCanBe ∈ GOODS := mg3 66 rfl rfl
theorem wd_3_67 : Cond.code yX9_nextDayCanBe cX9_nextDayCanBe 2 (some .boolean) ∈ GOODS := mg3 67 rfl rfl
theorem wd_3_68 : Cond.methodLink RX9 180 yX5_sightings ∈ GOODS := mg3 68 rfl rfl
theorem wd_3_69 : Cond.instanceMethod yX5_sightings ∈ GOODS := mg3 69 rfl rfl
theorem wd_3_70 : Cond.selects RX5 yX5_sightings yX5_sightings ∈ GOODS := mg3 70 rfl rfl
theorem wd_3_71 : Cond.code yX5_sightings cX5_sightings 7 (some .long) ∈ GOODS := mg3 71 rfl rfl
theorem wd_3_72 : Cond.methodLink RX5 80 yX8_shareOf ∈ GOODS := mg3 72 rfl rfl
theorem wd_3_73 : Cond.instanceMethod yX8_shareOf ∈ GOODS := mg3 73 rfl rfl
theorem wd_3_74 : Cond.selects RX8 yX8_shareOf yX8_shareOf ∈ GOODS := mg3 74 rfl rfl
theorem wd_3_75 : Cond.code yX8_shareOf cX8_shareOf 7 (some .int) ∈ GOODS := mg3 75 rfl rfl
theorem wd_3_76 : Cond.constantLong RX9 184 256 ∈ GOODS := mg3 76 rfl rfl
theorem wd_3_81 : Cond.methodLink RX9 186 yX9_awayFromHalf ∈ GOODS := mg3 81 rfl rfl
theorem wd_3_83 : Cond.instanceMethod yX9_awayFromHalf ∈ GOODS := mg3 83 rfl rfl
theorem wd_3_84 : Cond.code yX9_awayFromHalf cX9_awayFromHalf 2 (some .long) ∈ GOODS := mg3 84 rfl rfl
theorem wd_3_85 : Cond.constantLong RX9 278 2 ∈ GOODS := mg3 85 rfl rfl
theorem wd_3_86 : Cond.methodLink RX9 280 Lib.MathLoose.abs_long.x ∈ GOODS := mg3 86 rfl rfl
theorem wd_3_87 : Cond.static Lib.MathLoose.abs_long.x ∈ GOODS := mg3 87 rfl rfl
theorem wd_3_88 : Cond.code Lib.MathLoose.abs_long.x Lib.MathLoose.abs_long.code 2 (some .long) ∈ GOODS := mg3 88 rfl rfl
theorem wd_3_93 : Cond.methodLink RX9 189 yX9_costOfBoarding ∈ GOODS := mg3 93 rfl rfl
theorem wd_3_95 : Cond.instanceMethod yX9_costOfBoarding ∈ GOODS := mg3 95 rfl rfl
theorem wd_3_96 : Cond.code yX9_costOfBoarding cX9_costOfBoarding 7 (some .long) ∈ GOODS := mg3 96 rfl rfl
theorem wd_3_97 : Cond.methodLink RX9 193 yX9_fourTo ∈ GOODS := mg3 97 rfl rfl
theorem wd_3_98 : Cond.static yX9_fourTo ∈ GOODS := mg3 98 rfl rfl
theorem wd_3_99 : Cond.code yX9_fourTo cX9_fourTo 1 (some .long) ∈ GOODS := mg3 99 rfl rfl
theorem wd_3_104 : Cond.methodLink RX9 199 yX9_isQuiet ∈ GOODS := mg3 104 rfl rfl
theorem wd_3_106 : Cond.instanceMethod yX9_isQuiet ∈ GOODS := mg3 106 rfl rfl
theorem wd_3_107 : Cond.code yX9_isQuiet cX9_isQuiet 3 (some .boolean) ∈ GOODS := mg3 107 rfl rfl
theorem wd_3_108 : Cond.constantLong RX9 290 100 ∈ GOODS := mg3 108 rfl rfl
theorem wd_3_113 : Cond.methodLink RX9 202 yX8_peopleWithin ∈ GOODS := mg3 113 rfl rfl
theorem wd_3_114 : Cond.instanceMethod yX8_peopleWithin ∈ GOODS := mg3 114 rfl rfl
theorem wd_3_115 : Cond.selects RX8 yX8_peopleWithin yX8_peopleWithin ∈ GOODS := mg3 115 rfl rfl
theorem wd_3_116 : Cond.code yX8_peopleWithin cX8_peopleWithin 4 (some .int) ∈ GOODS := mg3 116 rfl rfl
theorem wd_3_117 : Cond.methodLink RX8 119 yX8_peopleOf ∈ GOODS := mg3 117 rfl rfl
theorem wd_3_118 : Cond.instanceMethod yX8_peopleOf ∈ GOODS := mg3 118 rfl rfl
theorem wd_3_119 : Cond.selects RX8 yX8_peopleOf yX8_peopleOf ∈ GOODS := mg3 119 rfl rfl
theorem wd_3_120 : Cond.code yX8_peopleOf cX8_peopleOf 2 (some .int) ∈ GOODS := mg3 120 rfl rfl
theorem wd_3_121 : Cond.methodLink RX9 205 yX8_roomInAll ∈ GOODS := mg3 121 rfl rfl
theorem wd_3_122 : Cond.instanceMethod yX8_roomInAll ∈ GOODS := mg3 122 rfl rfl
theorem wd_3_123 : Cond.selects RX8 yX8_roomInAll yX8_roomInAll ∈ GOODS := mg3 123 rfl rfl
theorem wd_3_124 : Cond.code yX8_roomInAll cX8_roomInAll 3 (some .int) ∈ GOODS := mg3 124 rfl rfl
theorem wd_3_125 : Cond.methodLink RX8 122 yX8_roomOf ∈ GOODS := mg3 125 rfl rfl
theorem wd_3_126 : Cond.instanceMethod yX8_roomOf ∈ GOODS := mg3 126 rfl rfl
theorem wd_3_127 : Cond.selects RX8 yX8_roomOf yX8_roomOf ∈ GOODS := mg3 127 rfl rfl
theorem wd_3_128 : Cond.code yX8_roomOf cX8_roomOf 2 (some .int) ∈ GOODS := mg3 128 rfl rfl
theorem wd_3_129 : Cond.methodLink RX9 208 Lib.Math.min.name ∈ GOODS := mg3 129 rfl rfl
theorem wd_3_134 : Cond.methodLink RX9 216 yX0_find ∈ GOODS := mg3 134 rfl rfl
theorem wd_3_135 : Cond.instanceMethod yX0_find ∈ GOODS := mg3 135 rfl rfl
theorem wd_3_136 : Cond.selects RX0 yX0_find yX0_find ∈ GOODS := mg3 136 rfl rfl
theorem wd_3_137 : Cond.code yX0_find cX0_find 4 (some .boolean) ∈ GOODS := mg3 137 rfl rfl
theorem wd_3_139 : Cond.methodLink RX0 34 yJ6_bitCount_0f7a4 ∈ GOODS := mg3 139 rfl rfl
theorem wd_3_140 : Cond.static yJ6_bitCount_0f7a4 ∈ GOODS := mg3 140 rfl rfl
theorem wd_3_141 : Cond.code yJ6_bitCount_0f7a4 cJ6_bitCount_0f7a4 1 (some .int) ∈ GOODS := mg3 141 rfl rfl
theorem wd_3_142 : Cond.constant RJ6 265 1431655765 ∈ GOODS := mg3 142 rfl rfl
theorem wd_3_143 : Cond.constant RJ6 266 858993459 ∈ GOODS := mg3 143 rfl rfl
theorem wd_3_144 : Cond.constant RJ6 267 252645135 ∈ GOODS := mg3 144 rfl rfl
theorem wd_3_145 : Cond.methodLink RX0 39 yX0_findWith ∈ GOODS := mg3 145 rfl rfl
theorem wd_3_147 : Cond.instanceMethod yX0_findWith ∈ GOODS := mg3 147 rfl rfl
theorem wd_3_148 : Cond.code yX0_findWith cX0_findWith 4 (some .boolean) ∈ GOODS := mg3 148 rfl rfl
theorem wd_3_149 : Cond.methodLink RX0 46 yX8_roomOf ∈ GOODS := mg3 149 rfl rfl
theorem wd_3_150 : Cond.methodLink RX0 49 yX4_put ∈ GOODS := mg3 150 rfl rfl
theorem wd_3_151 : Cond.methodLink RX0 53 yX0_sendFrom ∈ GOODS := mg3 151 rfl rfl
theorem wd_3_152 : Cond.static yX0_sendFrom ∈ GOODS := mg3 152 rfl rfl
theorem wd_3_153 : Cond.code yX0_sendFrom cX0_sendFrom 6 (some .boolean) ∈ GOODS := mg3 153 rfl rfl
theorem wd_3_154 : Cond.methodLink RX0 60 yX8_peopleOf ∈ GOODS := mg3 154 rfl rfl
theorem wd_3_155 : Cond.methodLink RX0 18 yX4_at ∈ GOODS := mg3 155 rfl rfl
theorem wd_3_157 : Cond.methodLink RX9 223 yX0_boatOf ∈ GOODS := mg3 157 rfl rfl
theorem wd_3_158 : Cond.instanceMethod yX0_boatOf ∈ GOODS := mg3 158 rfl rfl
theorem wd_3_159 : Cond.selects RX0 yX0_boatOf yX0_boatOf ∈ GOODS := mg3 159 rfl rfl
theorem wd_3_160 : Cond.code yX0_boatOf cX0_boatOf 2 (some .int) ∈ GOODS := mg3 160 rfl rfl
theorem wd_3_165 : Cond.methodLink RX9 226 yX2_pass ∈ GOODS := mg3 165 rfl rfl
theorem wd_3_166 : Cond.instanceMethod yX2_pass ∈ GOODS := mg3 166 rfl rfl
theorem wd_3_167 : Cond.selects RX2 yX2_pass yX2_pass ∈ GOODS := mg3 167 rfl rfl
theorem wd_3_168 : Cond.code yX2_pass cX2_pass 5 none ∈ GOODS := mg3 168 rfl rfl
theorem wd_3_169 : Cond.methodLink RX2 22 yX4_put ∈ GOODS := mg3 169 rfl rfl
theorem wd_3_170 : Cond.methodLink RX2 26 yX2_passNight ∈ GOODS := mg3 170 rfl rfl
theorem wd_3_172 : Cond.instanceMethod yX2_passNight ∈ GOODS := mg3 172 rfl rfl
theorem wd_3_173 : Cond.code yX2_passNight cX2_passNight 5 none ∈ GOODS := mg3 173 rfl rfl
theorem wd_3_174 : Cond.methodLink RX2 30 yX2_waysTo ∈ GOODS := mg3 174 rfl rfl
theorem wd_3_175 : Cond.instanceMethod yX2_waysTo ∈ GOODS := mg3 175 rfl rfl
theorem wd_3_176 : Cond.selects RX2 yX2_waysTo yX2_waysTo ∈ GOODS := mg3 176 rfl rfl
theorem wd_3_177 : Cond.code yX2_waysTo cX2_waysTo 2 (some .int) ∈ GOODS := mg3 177 rfl rfl
theorem wd_3_178 : Cond.methodLink RX2 16 yX4_at ∈ GOODS := mg3 178 rfl rfl
theorem wd_3_179 : Cond.methodLink RX9 230 yX2_waysTo ∈ GOODS := mg3 179 rfl rfl
theorem wd_3_184 : Cond.methodLink RX9 232 yX7_append ∈ GOODS := mg3 184 rfl rfl
theorem wd_3_185 : Cond.instanceMethod yX7_append ∈ GOODS := mg3 185 rfl rfl
theorem wd_3_186 : Cond.selects RX7 yX7_append yX7_append ∈ GOODS := mg3 186 rfl rfl
theorem wd_3_187 : Cond.code yX7_append cX7_append 3 none ∈ GOODS := mg3 187 rfl rfl
theorem wd_3_188 : Cond.methodLink RX7 25 yX4_put ∈ GOODS := mg3 188 rfl rfl
theorem wd_3_197 : Cond.methodLink RX9 233 yX7_ordersOf ∈ GOODS := mg3 197 rfl rfl
theorem wd_3_198 : Cond.instanceMethod yX7_ordersOf ∈ GOODS := mg3 198 rfl rfl
theorem wd_3_199 : Cond.selects RX7 yX7_ordersOf yX7_ordersOf ∈ GOODS := mg3 199 rfl rfl
theorem wd_3_200 : Cond.code yX7_ordersOf cX7_ordersOf 5 (some .int) ∈ GOODS := mg3 200 rfl rfl
theorem wd_3_203 : Cond.methodLink RX7 35 yX7_toldAheadOf ∈ GOODS := mg3 203 rfl rfl
theorem wd_3_205 : Cond.instanceMethod yX7_toldAheadOf ∈ GOODS := mg3 205 rfl rfl
theorem wd_3_206 : Cond.code yX7_toldAheadOf cX7_toldAheadOf 4 (some .int) ∈ GOODS := mg3 206 rfl rfl
theorem wd_3_207 : Cond.methodLink RX7 31 yX4_at ∈ GOODS := mg3 207 rfl rfl
theorem wd_3_208 : Cond.methodLink RX9 236 yX7_withNoneAhead ∈ GOODS := mg3 208 rfl rfl
theorem wd_3_209 : Cond.instanceMethod yX7_withNoneAhead ∈ GOODS := mg3 209 rfl rfl
theorem wd_3_210 : Cond.selects RX7 yX7_withNoneAhead yX7_withNoneAhead ∈ GOODS := mg3 210 rfl rfl
theorem wd_3_211 : Cond.code yX7_withNoneAhead cX7_withNoneAhead 4 (some .int) ∈ GOODS := mg3 211 rfl rfl
theorem wd_3_224 : Cond.methodLink RX9 243 yX9_draw ∈ GOODS := mg3 224 rfl rfl
theorem wd_3_225 : Cond.static yX9_draw ∈ GOODS := mg3 225 rfl rfl
theorem wd_3_226 : Cond.code yX9_draw cX9_draw 4 (some .int) ∈ GOODS := mg3 226 rfl rfl
theorem wd_3_227 : Cond.constantLong RX9 263 7919 ∈ GOODS := mg3 227 rfl rfl
theorem wd_3_228 : Cond.constantLong RX9 265 6151 ∈ GOODS := mg3 228 rfl rfl
theorem wd_3_229 : Cond.constantLong RX9 267 65521 ∈ GOODS := mg3 229 rfl rfl
theorem wd_3_230 : Cond.constantLong RX9 269 8 ∈ GOODS := mg3 230 rfl rfl
theorem wd_3_231 : Cond.methodLink RX9 246 yX8_chance ∈ GOODS := mg3 231 rfl rfl
theorem wd_3_236 : Cond.methodLink RX9 249 yX1_takeFrom ∈ GOODS := mg3 236 rfl rfl
theorem wd_3_237 : Cond.instanceMethod yX1_takeFrom ∈ GOODS := mg3 237 rfl rfl
theorem wd_3_238 : Cond.selects RX1 yX1_takeFrom yX1_takeFrom ∈ GOODS := mg3 238 rfl rfl
theorem wd_3_239 : Cond.code yX1_takeFrom cX1_takeFrom 3 none ∈ GOODS := mg3 239 rfl rfl
theorem wd_4_0 : Cond.methodLink RX1 30 yX1_signsOn ∈ GOODS := mg4 0 rfl rfl
theorem wd_4_1 : Cond.methodLink RX1 34 yX1_worksOn ∈ GOODS := mg4 1 rfl rfl
theorem wd_4_2 : Cond.methodLink RX1 37 yX1_append ∈ GOODS := mg4 2 rfl rfl
theorem wd_4_11 : Cond.methodLink RX9 256 yX8_people ∈ GOODS := mg4 11 rfl rfl
theorem wd_4_12 : Cond.instanceMethod yX8_people ∈ GOODS := mg4 12 rfl rfl
theorem wd_4_13 : Cond.selects RX8 yX8_people yX8_people ∈ GOODS := mg4 13 rfl rfl
theorem wd_4_14 : Cond.code yX8_people cX8_people 1 (some .int) ∈ GOODS := mg4 14 rfl rfl
theorem wd_4_15 : Cond.methodLink RX8 116 yX8_peopleWithin ∈ GOODS := mg4 15 rfl rfl
theorem wd_4_22 : Cond.methodLink RX10 84 yX10_law ∈ GOODS := mg4 22 rfl rfl
theorem wd_4_24 : Cond.instanceMethod yX10_law ∈ GOODS := mg4 24 rfl rfl
theorem wd_4_25 : Cond.code yX10_law cX10_law 5 none ∈ GOODS := mg4 25 rfl rfl
theorem wd_4_26 : Cond.methodLink RX10 88 yX10_sign4 ∈ GOODS := mg4 26 rfl rfl
theorem wd_4_28 : Cond.instanceMethod yX10_sign4 ∈ GOODS := mg4 28 rfl rfl
theorem wd_4_29 : Cond.code yX10_sign4 cX10_sign4 6 none ∈ GOODS := mg4 29 rfl rfl
theorem wd_4_30 : Cond.methodLink RX10 92 yX10_house2 ∈ GOODS := mg4 30 rfl rfl
theorem wd_4_32 : Cond.instanceMethod yX10_house2 ∈ GOODS := mg4 32 rfl rfl
theorem wd_4_33 : Cond.code yX10_house2 cX10_house2 4 none ∈ GOODS := mg4 33 rfl rfl
theorem wd_4_34 : Cond.methodLink RX10 96 yX10_work2 ∈ GOODS := mg4 34 rfl rfl
theorem wd_4_36 : Cond.instanceMethod yX10_work2 ∈ GOODS := mg4 36 rfl rfl
theorem wd_4_37 : Cond.code yX10_work2 cX10_work2 4 none ∈ GOODS := mg4 37 rfl rfl
theorem wd_4_38 : Cond.fieldLink RX10 7 "WhaleTownModel" "text" "[B" ∈ GOODS := mg4 38 rfl rfl
theorem wd_4_39 : Cond.fieldLink RX10 103 "WhaleTownModel" "typed" "I" ∈ GOODS := mg4 39 rfl rfl
theorem wd_4_40 : Cond.fieldLink RX10 13 "WhaleTownModel" "goes" "[I" ∈ GOODS := mg4 40 rfl rfl
theorem wd_4_41 : Cond.fieldLink RX10 17 "WhaleTownModel" "signs" "[I" ∈ GOODS := mg4 41 rfl rfl
theorem wd_4_42 : Cond.fieldLink RX10 20 "WhaleTownModel" "told" "[I" ∈ GOODS := mg4 42 rfl rfl
theorem wd_4_43 : Cond.fieldLink RX10 23 "WhaleTownModel" "houses" "[I" ∈ GOODS := mg4 43 rfl rfl
theorem wd_4_44 : Cond.fieldLink RX10 26 "WhaleTownModel" "people" "[I" ∈ GOODS := mg4 44 rfl rfl
theorem wd_4_45 : Cond.fieldLink RX10 29 "WhaleTownModel" "minutes" "[I" ∈ GOODS := mg4 45 rfl rfl
theorem wd_4_46 : Cond.fieldLink RX10 32 "WhaleTownModel" "boats" "[I" ∈ GOODS := mg4 46 rfl rfl
theorem wd_4_47 : Cond.fieldLink RX10 35 "WhaleTownModel" "boat" "[I" ∈ GOODS := mg4 47 rfl rfl
theorem wd_4_48 : Cond.fieldLink RX10 38 "WhaleTownModel" "works" "[I" ∈ GOODS := mg4 48 rfl rfl
theorem wd_4_49 : Cond.fieldLink RX10 41 "WhaleTownModel" "noise" "[I" ∈ GOODS := mg4 49 rfl rfl
theorem wd_4_50 : Cond.fieldLink RX10 44 "WhaleTownModel" "brings" "[I" ∈ GOODS := mg4 50 rfl rfl
theorem wd_4_51 : Cond.fieldLink RX10 47 "WhaleTownModel" "costs" "[I" ∈ GOODS := mg4 51 rfl rfl
theorem wd_4_52 : Cond.fieldLink RX10 107 "WhaleTownModel" "at" "I" ∈ GOODS := mg4 52 rfl rfl
theorem wd_4_53 : Cond.fieldLink RX10 114 "WhaleTownModel" "isSo" "Z" ∈ GOODS := mg4 53 rfl rfl
theorem wd_4_54 : Cond.fieldLink RX10 50 "WhaleTownModel" "days" "[I" ∈ GOODS := mg4 54 rfl rfl
theorem wd_4_55 : Cond.fieldLink RX10 53 "WhaleTownModel" "seenSigns" "[I" ∈ GOODS := mg4 55 rfl rfl
theorem wd_4_56 : Cond.fieldLink RX10 56 "WhaleTownModel" "wentOn" "[I" ∈ GOODS := mg4 56 rfl rfl
theorem wd_4_57 : Cond.fieldLink RX10 131 "WhaleTownModel" "kept" "I" ∈ GOODS := mg4 57 rfl rfl
theorem wd_4_58 : Cond.fieldLink RX10 59 "WhaleTownModel" "weight" "[J" ∈ GOODS := mg4 58 rfl rfl
theorem wd_4_59 : Cond.fieldLink RX10 63 "WhaleTownModel" "then" "[J" ∈ GOODS := mg4 59 rfl rfl
theorem wd_4_60 : Cond.fieldLink RX10 192 "WhaleTownModel" "all" "J" ∈ GOODS := mg4 60 rfl rfl
theorem wd_4_61 : Cond.fieldLink RX10 66 "WhaleTownModel" "turns" "[J" ∈ GOODS := mg4 61 rfl rfl
theorem wd_4_62 : Cond.fieldLink RX10 201 "WhaleTownModel" "sightAll" "J" ∈ GOODS := mg4 62 rfl rfl
theorem wd_4_63 : Cond.fieldLink RX10 69 "WhaleTownModel" "miles" "[I" ∈ GOODS := mg4 63 rfl rfl
theorem wd_4_64 : Cond.fieldLink RX10 72 "WhaleTownModel" "next" "[I" ∈ GOODS := mg4 64 rfl rfl
theorem wd_4_65 : Cond.fieldLink RX10 75 "WhaleTownModel" "aheadA" "[I" ∈ GOODS := mg4 65 rfl rfl
theorem wd_4_66 : Cond.fieldLink RX10 78 "WhaleTownModel" "aheadB" "[I" ∈ GOODS := mg4 66 rfl rfl
theorem wd_4_67 : Cond.fieldLink RX10 128 "WhaleTownModel" "aheadMany" "I" ∈ GOODS := mg4 67 rfl rfl
theorem wd_4_68 : Cond.fieldLink RX10 81 "WhaleTownModel" "ways" "[I" ∈ GOODS := mg4 68 rfl rfl
theorem wd_4_136 : Cond.methodLink RX10 99 yX10_in ∈ GOODS := mg4 136 rfl rfl
theorem wd_4_137 : Cond.static yX10_in ∈ GOODS := mg4 137 rfl rfl
theorem wd_4_138 : Cond.code yX10_in cX10_in 3 (some .boolean) ∈ GOODS := mg4 138 rfl rfl
theorem wd_4_144 : Cond.instanceMethod yX10_fault ∈ GOODS := mg4 144 rfl rfl
theorem wd_4_145 : Cond.selects RX10 yX10_fault yX10_fault ∈ GOODS := mg4 145 rfl rfl
theorem wd_4_146 : Cond.code yX10_fault cX10_fault 2 (some .int) ∈ GOODS := mg4 146 rfl rfl
theorem wd_4_147 : Cond.methodLink RX10 122 yX10_readItem ∈ GOODS := mg4 147 rfl rfl
theorem wd_4_149 : Cond.instanceMethod yX10_readItem ∈ GOODS := mg4 149 rfl rfl
theorem wd_4_150 : Cond.code yX10_readItem cX10_readItem 6 none ∈ GOODS := mg4 150 rfl rfl
theorem wd_4_151 : Cond.methodLink RX10 110 yX10_here ∈ GOODS := mg4 151 rfl rfl
theorem wd_4_153 : Cond.instanceMethod yX10_here ∈ GOODS := mg4 153 rfl rfl
theorem wd_4_154 : Cond.code yX10_here cX10_here 1 (some .int) ∈ GOODS := mg4 154 rfl rfl
theorem wd_4_155 : Cond.methodLink RX10 118 yX10_number ∈ GOODS := mg4 155 rfl rfl
theorem wd_4_157 : Cond.instanceMethod yX10_number ∈ GOODS := mg4 157 rfl rfl
theorem wd_4_158 : Cond.code yX10_number cX10_number 6 (some .int) ∈ GOODS := mg4 158 rfl rfl
theorem wd_4_163 : Cond.methodLink RX10 125 yX10_fault ∈ GOODS := mg4 163 rfl rfl
theorem wd_4_168 : Cond.methodLink RX10 134 yX10_isSign ∈ GOODS := mg4 168 rfl rfl
theorem wd_4_170 : Cond.instanceMethod yX10_isSign ∈ GOODS := mg4 170 rfl rfl
theorem wd_4_171 : Cond.code yX10_isSign cX10_isSign 2 (some .boolean) ∈ GOODS := mg4 171 rfl rfl
theorem wd_4_176 : Cond.methodLink RX10 138 yX10_areWorks ∈ GOODS := mg4 176 rfl rfl
theorem wd_4_178 : Cond.instanceMethod yX10_areWorks ∈ GOODS := mg4 178 rfl rfl
theorem wd_4_179 : Cond.code yX10_areWorks cX10_areWorks 2 (some .boolean) ∈ GOODS := mg4 179 rfl rfl
theorem wd_4_180 : Cond.methodLink RX10 141 yX10_sumNoise ∈ GOODS := mg4 180 rfl rfl
theorem wd_4_182 : Cond.instanceMethod yX10_sumNoise ∈ GOODS := mg4 182 rfl rfl
theorem wd_4_183 : Cond.code yX10_sumNoise cX10_sumNoise 4 (some .int) ∈ GOODS := mg4 183 rfl rfl
theorem wd_4_184 : Cond.methodLink RX10 145 yX10_sumBrings ∈ GOODS := mg4 184 rfl rfl
theorem wd_4_186 : Cond.instanceMethod yX10_sumBrings ∈ GOODS := mg4 186 rfl rfl
theorem wd_4_187 : Cond.code yX10_sumBrings cX10_sumBrings 4 (some .int) ∈ GOODS := mg4 187 rfl rfl
theorem wd_4_204 : Cond.constantLong RX10 174 (-1) ∈ GOODS := mg4 204 rfl rfl
theorem wd_4_205 : Cond.methodLink RX10 176 yX10_find ∈ GOODS := mg4 205 rfl rfl
theorem wd_4_207 : Cond.instanceMethod yX10_find ∈ GOODS := mg4 207 rfl rfl
theorem wd_4_208 : Cond.code yX10_find cX10_find 4 (some .boolean) ∈ GOODS := mg4 208 rfl rfl
theorem wd_4_209 : Cond.methodLink RX10 166 yX10_readDiary ∈ GOODS := mg4 209 rfl rfl
theorem wd_4_211 : Cond.instanceMethod yX10_readDiary ∈ GOODS := mg4 211 rfl rfl
theorem wd_4_212 : Cond.code yX10_readDiary cX10_readDiary 3 none ∈ GOODS := mg4 212 rfl rfl
theorem wd_4_213 : Cond.methodLink RX10 162 yX10_goOn ∈ GOODS := mg4 213 rfl rfl
theorem wd_4_215 : Cond.instanceMethod yX10_goOn ∈ GOODS := mg4 215 rfl rfl
theorem wd_4_216 : Cond.code yX10_goOn cX10_goOn 5 none ∈ GOODS := mg4 216 rfl rfl
theorem wd_4_217 : Cond.methodLink RX10 154 yX10_chance ∈ GOODS := mg4 217 rfl rfl
theorem wd_4_219 : Cond.instanceMethod yX10_chance ∈ GOODS := mg4 219 rfl rfl
theorem wd_4_220 : Cond.code yX10_chance cX10_chance 4 (some .int) ∈ GOODS := mg4 220 rfl rfl
theorem wd_4_221 : Cond.methodLink RX10 158 yX10_likely ∈ GOODS := mg4 221 rfl rfl
theorem wd_4_223 : Cond.instanceMethod yX10_likely ∈ GOODS := mg4 223 rfl rfl
theorem wd_4_224 : Cond.code yX10_likely cX10_likely 8 (some .long) ∈ GOODS := mg4 224 rfl rfl
theorem wd_4_225 : Cond.methodLink RX10 148 yX10_isPaired ∈ GOODS := mg4 225 rfl rfl
theorem wd_4_227 : Cond.instanceMethod yX10_isPaired ∈ GOODS := mg4 227 rfl rfl
theorem wd_4_228 : Cond.code yX10_isPaired cX10_isPaired 2 (some .boolean) ∈ GOODS := mg4 228 rfl rfl
theorem wd_4_229 : Cond.methodLink RX10 151 yX10_seenBy ∈ GOODS := mg4 229 rfl rfl
theorem wd_4_231 : Cond.instanceMethod yX10_seenBy ∈ GOODS := mg4 231 rfl rfl
theorem wd_4_232 : Cond.code yX10_seenBy cX10_seenBy 5 (some .int) ∈ GOODS := mg4 232 rfl rfl
theorem wd_4_233 : Cond.methodLink RX10 170 yX10_common ∈ GOODS := mg4 233 rfl rfl
theorem wd_4_234 : Cond.static yX10_common ∈ GOODS := mg4 234 rfl rfl
theorem wd_4_235 : Cond.code yX10_common cX10_common 10 (some .long) ∈ GOODS := mg4 235 rfl rfl
theorem wd_4_236 : Cond.constantLong RX10 180 (-4) ∈ GOODS := mg4 236 rfl rfl
theorem wd_4_237 : Cond.methodLink RX10 182 yX10_total ∈ GOODS := mg4 237 rfl rfl
theorem wd_4_239 : Cond.instanceMethod yX10_total ∈ GOODS := mg4 239 rfl rfl
theorem wd_5_0 : Cond.code yX10_total cX10_total 1 (some .long) ∈ GOODS := mg5 0 rfl rfl
theorem wd_5_1 : Cond.methodLink RX10 186 yX10_part ∈ GOODS := mg5 1 rfl rfl
theorem wd_5_2 : Cond.static yX10_part ∈ GOODS := mg5 2 rfl rfl
theorem wd_5_3 : Cond.code yX10_part cX10_part 7 (some .long) ∈ GOODS := mg5 3 rfl rfl
theorem wd_5_8 : Cond.methodLink RX10 198 yX10_findTurns ∈ GOODS := mg5 8 rfl rfl
theorem wd_5_10 : Cond.instanceMethod yX10_findTurns ∈ GOODS := mg5 10 rfl rfl
theorem wd_5_11 : Cond.code yX10_findTurns cX10_findTurns 5 (some .boolean) ∈ GOODS := mg5 11 rfl rfl
theorem wd_5_12 : Cond.constantLong RX10 190 64 ∈ GOODS := mg5 12 rfl rfl
theorem wd_5_13 : Cond.constantLong RX10 196 4 ∈ GOODS := mg5 13 rfl rfl
theorem wd_5_18 : Cond.methodLink RX10 209 yX10_sightUp ∈ GOODS := mg5 18 rfl rfl
theorem wd_5_20 : Cond.instanceMethod yX10_sightUp ∈ GOODS := mg5 20 rfl rfl
theorem wd_5_21 : Cond.code yX10_sightUp cX10_sightUp 7 (some .long) ∈ GOODS := mg5 21 rfl rfl
theorem wd_5_22 : Cond.methodLink RX10 204 yX10_sightOf ∈ GOODS := mg5 22 rfl rfl
theorem wd_5_24 : Cond.instanceMethod yX10_sightOf ∈ GOODS := mg5 24 rfl rfl
theorem wd_5_25 : Cond.code yX10_sightOf cX10_sightOf 10 (some .long) ∈ GOODS := mg5 25 rfl rfl
theorem wd_5_26 : Cond.constantLong RX10 207 256 ∈ GOODS := mg5 26 rfl rfl
theorem wd_5_31 : Cond.constantLong RX10 213 2 ∈ GOODS := mg5 31 rfl rfl
theorem wd_5_36 : Cond.methodLink RX10 215 yX10_costOf ∈ GOODS := mg5 36 rfl rfl
theorem wd_5_38 : Cond.instanceMethod yX10_costOf ∈ GOODS := mg5 38 rfl rfl
theorem wd_5_39 : Cond.code yX10_costOf cX10_costOf 2 (some .long) ∈ GOODS := mg5 39 rfl rfl
theorem wd_5_44 : Cond.constantLong RX10 219 100 ∈ GOODS := mg5 44 rfl rfl
theorem wd_5_53 : Cond.methodLink RX10 221 yX10_boatsOf ∈ GOODS := mg5 53 rfl rfl
theorem wd_5_55 : Cond.instanceMethod yX10_boatsOf ∈ GOODS := mg5 55 rfl rfl
theorem wd_5_56 : Cond.code yX10_boatsOf cX10_boatsOf 8 (some .int) ∈ GOODS := mg5 56 rfl rfl
theorem wd_5_57 : Cond.methodLink RX10 224 yX10_manyOf ∈ GOODS := mg5 57 rfl rfl
theorem wd_5_58 : Cond.static yX10_manyOf ∈ GOODS := mg5 58 rfl rfl
theorem wd_5_59 : Cond.code yX10_manyOf cX10_manyOf 3 (some .int) ∈ GOODS := mg5 59 rfl rfl
theorem wd_5_73 : Cond.instanceMethod yX10_orders ∈ GOODS := mg5 73 rfl rfl
theorem wd_5_74 : Cond.selects RX10 yX10_orders yX10_orders ∈ GOODS := mg5 74 rfl rfl
theorem wd_5_75 : Cond.code yX10_orders cX10_orders 5 (some .int) ∈ GOODS := mg5 75 rfl rfl
theorem wd_5_80 : Cond.methodLink RX10 227 yX10_orders ∈ GOODS := mg5 80 rfl rfl
theorem wd_5_89 : Cond.constantLong RX10 230 7919 ∈ GOODS := mg5 89 rfl rfl
theorem wd_5_90 : Cond.constantLong RX10 232 6151 ∈ GOODS := mg5 90 rfl rfl
theorem wd_5_91 : Cond.constantLong RX10 234 65521 ∈ GOODS := mg5 91 rfl rfl
theorem wd_5_96 : Cond.methodLink RX10 236 yX10_copy ∈ GOODS := mg5 96 rfl rfl
theorem wd_5_98 : Cond.instanceMethod yX10_copy ∈ GOODS := mg5 98 rfl rfl
theorem wd_5_99 : Cond.code yX10_copy cX10_copy 4 none ∈ GOODS := mg5 99 rfl rfl
theorem hu_X0 : ∀ w ∈ u_ws RX0 TX0 3, w ∈ GOODS := uws_in (fun k hk => by
  match k, hk with
  | 0, _ => exact mg1 183 rfl rfl
  | 1, _ => exact mg1 185 rfl rfl
  | 2, _ => exact mg1 187 rfl rfl
  | k + 3, h => omega)
theorem hu_X1 : ∀ w ∈ u_ws RX1 TX1 3, w ∈ GOODS := uws_in (fun k hk => by
  match k, hk with
  | 0, _ => exact mg1 128 rfl rfl
  | 1, _ => exact mg1 130 rfl rfl
  | 2, _ => exact mg1 132 rfl rfl
  | k + 3, h => omega)
theorem hu_X2 : ∀ w ∈ u_ws RX2 TX2 2, w ∈ GOODS := uws_in (fun k hk => by
  match k, hk with
  | 0, _ => exact mg1 198 rfl rfl
  | 1, _ => exact mg1 200 rfl rfl
  | k + 2, h => omega)
theorem hu_X3 : ∀ w ∈ u_ws RX3 TX3 4, w ∈ GOODS := uws_in (fun k hk => by
  match k, hk with
  | 0, _ => exact mg1 54 rfl rfl
  | 1, _ => exact mg1 56 rfl rfl
  | 2, _ => exact mg1 58 rfl rfl
  | 3, _ => exact mg1 60 rfl rfl
  | k + 4, h => omega)
theorem hu_X5 : ∀ w ∈ u_ws RX5 TX5 3, w ∈ GOODS := uws_in (fun k hk => by
  match k, hk with
  | 0, _ => exact mg1 145 rfl rfl
  | 1, _ => exact mg1 147 rfl rfl
  | 2, _ => exact mg1 149 rfl rfl
  | k + 3, h => omega)
theorem hu_X6 : ∀ w ∈ u_ws RX6 TX6 2, w ∈ GOODS := uws_in (fun k hk => by
  match k, hk with
  | 0, _ => exact mg1 36 rfl rfl
  | 1, _ => exact mg1 38 rfl rfl
  | k + 2, h => omega)
theorem hu_X7 : ∀ w ∈ u_ws RX7 TX7 4, w ∈ GOODS := uws_in (fun k hk => by
  match k, hk with
  | 0, _ => exact mg1 164 rfl rfl
  | 1, _ => exact mg1 166 rfl rfl
  | 2, _ => exact mg1 168 rfl rfl
  | 3, _ => exact mg1 170 rfl rfl
  | k + 4, h => omega)
theorem hu_X8 : ∀ w ∈ u_ws RX8 TX8 13, w ∈ GOODS := uws_in (fun k hk => by
  match k, hk with
  | 0, _ => exact mg1 90 rfl rfl
  | 1, _ => exact mg1 92 rfl rfl
  | 2, _ => exact mg1 94 rfl rfl
  | 3, _ => exact mg1 96 rfl rfl
  | 4, _ => exact mg1 98 rfl rfl
  | 5, _ => exact mg1 100 rfl rfl
  | 6, _ => exact mg1 102 rfl rfl
  | 7, _ => exact mg1 104 rfl rfl
  | 8, _ => exact mg1 106 rfl rfl
  | 9, _ => exact mg1 108 rfl rfl
  | 10, _ => exact mg1 110 rfl rfl
  | 11, _ => exact mg1 112 rfl rfl
  | 12, _ => exact mg1 114 rfl rfl
  | k + 13, h => omega)
theorem hu_X9 : ∀ w ∈ u_ws RX9 TX9 13, w ∈ GOODS := uws_in (fun k hk => by
  match k, hk with
  | 0, _ => exact mg2 108 rfl rfl
  | 1, _ => exact mg2 110 rfl rfl
  | 2, _ => exact mg2 112 rfl rfl
  | 3, _ => exact mg2 114 rfl rfl
  | 4, _ => exact mg2 116 rfl rfl
  | 5, _ => exact mg2 118 rfl rfl
  | 6, _ => exact mg2 120 rfl rfl
  | 7, _ => exact mg2 122 rfl rfl
  | 8, _ => exact mg2 124 rfl rfl
  | 9, _ => exact mg2 126 rfl rfl
  | 10, _ => exact mg2 128 rfl rfl
  | 11, _ => exact mg2 130 rfl rfl
  | 12, _ => exact mg2 132 rfl rfl
  | k + 13, h => omega)
theorem hu_X10 : ∀ w ∈ u_ws RX10 TX10 31, w ∈ GOODS := uws_in (fun k hk => by
  match k, hk with
  | 0, _ => exact mg4 69 rfl rfl
  | 1, _ => exact mg4 71 rfl rfl
  | 2, _ => exact mg4 73 rfl rfl
  | 3, _ => exact mg4 75 rfl rfl
  | 4, _ => exact mg4 77 rfl rfl
  | 5, _ => exact mg4 79 rfl rfl
  | 6, _ => exact mg4 81 rfl rfl
  | 7, _ => exact mg4 83 rfl rfl
  | 8, _ => exact mg4 85 rfl rfl
  | 9, _ => exact mg4 87 rfl rfl
  | 10, _ => exact mg4 89 rfl rfl
  | 11, _ => exact mg4 91 rfl rfl
  | 12, _ => exact mg4 93 rfl rfl
  | 13, _ => exact mg4 95 rfl rfl
  | 14, _ => exact mg4 97 rfl rfl
  | 15, _ => exact mg4 99 rfl rfl
  | 16, _ => exact mg4 101 rfl rfl
  | 17, _ => exact mg4 103 rfl rfl
  | 18, _ => exact mg4 105 rfl rfl
  | 19, _ => exact mg4 107 rfl rfl
  | 20, _ => exact mg4 109 rfl rfl
  | 21, _ => exact mg4 111 rfl rfl
  | 22, _ => exact mg4 113 rfl rfl
  | 23, _ => exact mg4 115 rfl rfl
  | 24, _ => exact mg4 117 rfl rfl
  | 25, _ => exact mg4 119 rfl rfl
  | 26, _ => exact mg4 121 rfl rfl
  | 27, _ => exact mg4 123 rfl rfl
  | 28, _ => exact mg4 125 rfl rfl
  | 29, _ => exact mg4 127 rfl rfl
  | 30, _ => exact mg4 129 rfl rfl
  | k + 31, h => omega)
end
section
/-! own kit: the world of a method in one word, a contract in one word, a call and a start in one row -/
abbrev GG : Type := va_G × (ClassId × ClassId × ClassId)
def TY (G : GG) : List (ClassId × FieldType) := [(G.2.1, .int), (G.2.2.1, .long), (G.2.2.2, .byte)]
def nwL : List (String × Nat × MethodName) := [(RX0, 28, yX9_setsOf), (RX0, 63, yX9_holds), (RX3, 52, yX9_isWithin), (RX7, 39, yX9_setsOf), (RX7, 44, yX9_holds), (RX8, 112, yX9_holds), (RX9, 9, yX6_init), (RX9, 18, yX3_init), (RX9, 25, yX8_init), (RX9, 35, yX1_init), (RX9, 52, yX5_init), (RX9, 62, yX7_init), (RX9, 69, yX0_init), (RX9, 76, yX2_init)]
def nwAll (U : State) : Prop := ∀ q ∈ nwL, va_Nw (.methodLinkNest q.1 q.2.1 q.2.2 "WhaleTown") U
def ctx (G : GG) (U : State) : Prop := va_K G.1 vwCl (TY G) U ∧ nwAll U
theorem ctx.warm {G : GG} {s U : State} (h : ctx G s) (hW : s.WarmedH U.vm) : ctx G U := ⟨va_K.moved hW.alike h.1, fun q hq => va_Nw.warmM hW (h.2 q hq)⟩
theorem ctx.calling {G : GG} {U : State} {g : JFrame} {mk : MethodId} {a : Array Value} (h : ctx G U) : ctx G (U.calling g mk a) := ⟨va_K.moved (u := U) (U := U.calling g mk a) (Vm.Alike.refl U.vm) h.1, fun q hq => va_Nw.same rfl (rfl : U.vm = (U.calling g mk a).vm) (h.2 q hq)⟩
def Wd (G : GG) (A : Nat → Prop) (H0 : Heap) (ws : va_W) (H : Heap) (locs : List Loc) : Prop := va_P G.1 vwCl ws H ∧ va_D A ws ∧ va_S A H0 H locs
abbrev cI (G : GG) (n : Nat) (f : Nat → Int32) : va_E := .inl (G.2.1, n, .inl f)
abbrev cJ (G : GG) (n : Nat) (f : Nat → Int64) : va_E := .inl (G.2.2.1, n, .inr (.inl f))
abbrev cB (G : GG) (n : Nat) (f : Nat → Int32) : va_E := .inl (G.2.2.2, n, .inl f)
abbrev PcW (G : GG) (av : List Value) (ws : va_W) (sz : Nat) : Array Value → State → Prop := va_Pc av (fun U => U.heap.size = sz ∧ va_P G.1 vwCl ws U.heap ∧ ctx G U ∧ va_D (fun _ => True) ws)
abbrev QcI (G : GG) (wc w1 : va_W) (sz : Nat) (v : Int32) : Array Value → State → Outcome → State → Prop := va_Qi (fun (r : Int32) (_ : Unit) => r = v) (fun _ t => va_P G.1 vwCl w1 t.heap ∧ va_D (va_A wc sz) w1) (va_A wc sz)
abbrev QcZ (G : GG) (wc w1 : va_W) (sz : Nat) (v : Int32) : Array Value → State → Outcome → State → Prop := va_Qi (fun (r : Int32) (_ : Unit) => r = v ∧ (v = 0 ∨ v = 1)) (fun _ t => va_P G.1 vwCl w1 t.heap ∧ va_D (va_A wc sz) w1) (va_A wc sz)
abbrev QcJ (G : GG) (wc w1 : va_W) (sz : Nat) (v : Int64) : Array Value → State → Outcome → State → Prop := va_Ql (fun (r : Int64) (_ : Unit) => r = v) (fun _ t => va_P G.1 vwCl w1 t.heap ∧ va_D (va_A wc sz) w1) (va_A wc sz)
abbrev QcV (G : GG) (wc w1 : va_W) (sz : Nat) : Array Value → State → Outcome → State → Prop := va_Qv (fun (_ : Unit) => True) (fun _ t => va_P G.1 vwCl w1 t.heap ∧ va_D (va_A wc sz) w1) (va_A wc sz)
def CtrI (l : Launch) (y : MethodName) (ws : List Cond) (rm : Room) (G : GG) (av : List Value) (wc w1 : va_W) (v : Int32) : Prop := ∀ sz : Nat, Met l y ws rm (PcW G av wc sz) (QcI G wc w1 sz v) 0 0 (va_A wc sz)
def CtrZ (l : Launch) (y : MethodName) (ws : List Cond) (rm : Room) (G : GG) (av : List Value) (wc w1 : va_W) (v : Int32) : Prop := ∀ sz : Nat, Met l y ws rm (PcW G av wc sz) (QcZ G wc w1 sz v) 0 0 (va_A wc sz)
def CtrJ (l : Launch) (y : MethodName) (ws : List Cond) (rm : Room) (G : GG) (av : List Value) (wc w1 : va_W) (v : Int64) : Prop := ∀ sz : Nat, Met l y ws rm (PcW G av wc sz) (QcJ G wc w1 sz v) 0 0 (va_A wc sz)
def CtrV (l : Launch) (y : MethodName) (ws : List Cond) (rm : Room) (G : GG) (av : List Value) (wc w1 : va_W) : Prop := ∀ sz : Nat, Met l y ws rm (PcW G av wc sz) (QcV G wc w1 sz) 0 0 (va_A wc sz)
section KCALL
variable {p : Program} {l : Launch} {e : Env} {R : Room} {s : State} {m : MethodId} {args : Array Value} {below : List Frame} {meth : Method} {c : Code} {H : Heap} {locs : List Loc} {cells slots : Nat} {Q : State → Prop}
variable {cc : ByteArray} {pc : Nat} {ls : Array Slot} {rest : List Value} {A : Nat → Prop} {G : GG} {ws wc wr w1 ws' : va_W} {H0 : Heap} {st0 : List Value} {a : Array Value}
theorem Wd.back {H1 : Heap} {locs1 : List Loc} (hA : ∀ q, H0.size ≤ q → A q) (hW : Wd G A H0 ws H locs) (isC isR perm : List Nat) (hC : isC.map (fun i => ws[i]?) = wc.map some) (hR : isR.map (fun i => ws[i]?) = wr.map some) (hn : va_nd isR = true) (hdis : ∀ i ∈ isR, i ∉ isC) (hp : perm.map (fun i => (wr ++ w1)[i]?) = ws'.map some) (hpn : va_nd perm = true)
    (hk : ∀ q : Nat, q < H.size → ¬ va_A wc H.size q → H1[q]? = H[q]?) (hP1 : va_P G.1 vwCl w1 H1) (hD1 : va_D (va_A wc H.size) w1) (hS1 : va_S A H0 H1 locs1) : Wd G A H0 ws' H1 locs1 := by
  have hF := va_free (wc := wc) hW.2.1 hW.2.2 hA isC hC
  obtain ⟨hP, hD⟩ := va_join (wr := wr) (w1 := w1) hW.1 hW.2.1 isC isR hC hR hn hdis hk hF hP1 hD1
  have hp2 : perm.filterMap (fun i => (wr ++ w1)[i]?) = ws' := by
    have h3 : ∀ (l : List Nat) (w : va_W), l.map (fun i => (wr ++ w1)[i]?) = w.map some → l.filterMap (fun i => (wr ++ w1)[i]?) = w := by
      intro l
      induction l with
      | nil => intro w h; cases w with
        | nil => rfl
        | cons x xs => simp at h
      | cons i is ih => intro w h; cases w with
        | nil => simp at h
        | cons x xs =>
          simp only [List.map_cons, List.cons.injEq] at h
          simp only [List.filterMap_cons, h.1, ih xs h.2]
    exact h3 perm ws' hp
  exact ⟨hP.sub perm hp2, hD.sub perm hpn hp, hS1⟩
theorem wcI {v : Int32} (hr : va_Run p l e R s m args below meth c H locs cells slots 0 0 (F0 m pc ls st0) rest (QcI G wc w1 H.size v a) (va_A wc H.size)) (hA : ∀ q, H0.size ≤ q → A q) (hW : Wd G A H0 ws H locs) (isC isR perm : List Nat) (hC : isC.map (fun i => ws[i]?) = wc.map some) (hR : isR.map (fun i => ws[i]?) = wr.map some) (hn : va_nd isR = true) (hdis : ∀ i ∈ isR, i ∉ isC) (hp : perm.map (fun i => (wr ++ w1)[i]?) = ws'.map some) (hpn : va_nd perm = true)
    (kk : ∀ (H1 : Heap) (locs1 : List Loc), Wd G A H0 ws' H1 locs1 → W p l e R s m args below meth c H1 locs1 cells slots Q (F0 m (pc + 3) ls (.int v :: rest))) : W p l e R s m args below meth c H locs cells slots Q (F0 m pc ls st0) := by
  have hF := va_free (wc := wc) hW.2.1 hW.2.2 hA isC hC
  refine va_calli hr hW.2.2 (fun q _ h => hF q h) hF (fun r u t H1 locs1 ht hvm hw hB hz hk hS => ?_)
  subst hw
  exact kk H1 locs1 (Wd.back hA hW isC isR perm hC hR hn hdis hp hpn hk (by rw [← ht]; exact hB.1) hB.2 hS)
theorem wcZ {v : Int32} (hr : va_Run p l e R s m args below meth c H locs cells slots 0 0 (F0 m pc ls st0) rest (QcZ G wc w1 H.size v a) (va_A wc H.size)) (hA : ∀ q, H0.size ≤ q → A q) (hW : Wd G A H0 ws H locs) (isC isR perm : List Nat) (hC : isC.map (fun i => ws[i]?) = wc.map some) (hR : isR.map (fun i => ws[i]?) = wr.map some) (hn : va_nd isR = true) (hdis : ∀ i ∈ isR, i ∉ isC) (hp : perm.map (fun i => (wr ++ w1)[i]?) = ws'.map some) (hpn : va_nd perm = true)
    (kk : (v = 0 ∨ v = 1) → ∀ (H1 : Heap) (locs1 : List Loc), Wd G A H0 ws' H1 locs1 → W p l e R s m args below meth c H1 locs1 cells slots Q (F0 m (pc + 3) ls (.int v :: rest))) : W p l e R s m args below meth c H locs cells slots Q (F0 m pc ls st0) := by
  have hF := va_free (wc := wc) hW.2.1 hW.2.2 hA isC hC
  refine va_calli hr hW.2.2 (fun q _ h => hF q h) hF (fun r u t H1 locs1 ht hvm hw hB hz hk hS => ?_)
  obtain ⟨hw, hz01⟩ := hw
  subst hw
  exact kk hz01 H1 locs1 (Wd.back hA hW isC isR perm hC hR hn hdis hp hpn hk (by rw [← ht]; exact hB.1) hB.2 hS)
theorem wcJ {v : Int64} (hr : va_Run p l e R s m args below meth c H locs cells slots 0 0 (F0 m pc ls st0) rest (QcJ G wc w1 H.size v a) (va_A wc H.size)) (hA : ∀ q, H0.size ≤ q → A q) (hW : Wd G A H0 ws H locs) (isC isR perm : List Nat) (hC : isC.map (fun i => ws[i]?) = wc.map some) (hR : isR.map (fun i => ws[i]?) = wr.map some) (hn : va_nd isR = true) (hdis : ∀ i ∈ isR, i ∉ isC) (hp : perm.map (fun i => (wr ++ w1)[i]?) = ws'.map some) (hpn : va_nd perm = true)
    (kk : ∀ (H1 : Heap) (locs1 : List Loc), Wd G A H0 ws' H1 locs1 → W p l e R s m args below meth c H1 locs1 cells slots Q (F0 m (pc + 3) ls (.long v :: rest))) : W p l e R s m args below meth c H locs cells slots Q (F0 m pc ls st0) := by
  have hF := va_free (wc := wc) hW.2.1 hW.2.2 hA isC hC
  refine va_calll hr hW.2.2 (fun q _ h => hF q h) hF (fun r u t H1 locs1 ht hvm hw hB hz hk hS => ?_)
  subst hw
  exact kk H1 locs1 (Wd.back hA hW isC isR perm hC hR hn hdis hp hpn hk (by rw [← ht]; exact hB.1) hB.2 hS)
theorem wcV (hr : va_Run p l e R s m args below meth c H locs cells slots 0 0 (F0 m pc ls st0) rest (QcV G wc w1 H.size a) (va_A wc H.size)) (hA : ∀ q, H0.size ≤ q → A q) (hW : Wd G A H0 ws H locs) (isC isR perm : List Nat) (hC : isC.map (fun i => ws[i]?) = wc.map some) (hR : isR.map (fun i => ws[i]?) = wr.map some) (hn : va_nd isR = true) (hdis : ∀ i ∈ isR, i ∉ isC) (hp : perm.map (fun i => (wr ++ w1)[i]?) = ws'.map some) (hpn : va_nd perm = true)
    (kk : ∀ (H1 : Heap) (locs1 : List Loc), Wd G A H0 ws' H1 locs1 → W p l e R s m args below meth c H1 locs1 cells slots Q (F0 m (pc + 3) ls rest)) : W p l e R s m args below meth c H locs cells slots Q (F0 m pc ls st0) := by
  have hF := va_free (wc := wc) hW.2.1 hW.2.2 hA isC hC
  refine va_callv hr hW.2.2 (fun q _ h => hF q h) hF (fun u t H1 locs1 ht hvm hw hB hz hk hS => ?_)
  exact kk H1 locs1 (Wd.back hA hW isC isR perm hC hR hn hdis hp hpn hk (by rw [← ht]; exact hB.1) hB.2 hS)
theorem sub_fm {ws wc : va_W} {isC : List Nat} (hC : isC.map (fun i => ws[i]?) = wc.map some) : isC.filterMap (fun i => ws[i]?) = wc := by
  have h3 : ∀ (l : List Nat) (w : va_W), l.map (fun i => ws[i]?) = w.map some → l.filterMap (fun i => ws[i]?) = w := by
    intro l
    induction l with
    | nil => intro w h; cases w with
      | nil => rfl
      | cons x xs => simp at h
    | cons i is ih => intro w h; cases w with
      | nil => simp at h
      | cons x xs =>
        simp only [List.map_cons, List.cons.injEq] at h
        simp only [List.filterMap_cons, h.1, ih xs h.2]
  exact h3 isC wc hC
theorem fblind (av : List Value) (sz : Nat) : FrameBlind (PcW G av wc sz) := fun a U g mk q => by
  obtain ⟨q0, q1, qP, qK, qD⟩ := q
  exact ⟨q0, q1, qP, qK.calling, qD⟩
theorem preS {As : List Value} (hc : ctx G s) (hW : Wd G A H0 ws H locs) (isC : List Nat) (hC : isC.map (fun i => ws[i]?) = wc.map some) (hn : va_nd isC = true) : PreS s H (PcW G As wc H.size) As :=
  ⟨fblind As H.size, fun U hU hW' => ⟨rfl, by rw [hU], by rw [hU]; exact hW.1.sub isC (sub_fm hC), hc.warm hW', (hW.2.1.sub isC hn hC).weaken (fun _ _ _ _ => trivial)⟩⟩
theorem preV {C : String} {b : Addr} {As : List Value} {T : u_T} {N ci : Nat} {fs : List Value} (hc : ctx G s) (hW : Wd G A H0 ws H locs) (isC : List Nat) (hC : isC.map (fun i => ws[i]?) = wc.map some) (hn : va_nd isC = true) (hb : wc[0]? = some (b, .inr (ci, fs))) (hci : vwCl[ci]? = some (C, T, N)) : PreV s H C b (PcW G (.ref b :: As) wc H.size) As :=
  ⟨fblind (.ref b :: As) H.size, va_recv (q := (C, T, N)) hc.1 (hW.1.sub isC (sub_fm hC)) hci (q0 := 0) hb, fun U hU hW' => ⟨rfl, by rw [hU], by rw [hU]; exact hW.1.sub isC (sub_fm hC), hc.warm hW', (hW.2.1.sub isC hn hC).weaken (fun _ _ _ _ => trivial)⟩⟩
end KCALL
section KSTART
variable {l : Launch} {y : MethodName} {ws ws' : List Cond} {cc : ByteArray} {maxL : Nat} {G : GG} {av : List Value} {wc w1 : va_W} {rm : Room}
theorem startI {v : Int32} (hy : plainName y.cls = true) (hw : ws = Cond.code y cc maxL (some .int) :: ws') (hlen : (lg_sl av).length ≤ maxL)
    (body : ∀ (p : Program) (e : Env) (s : State) (m : MethodId) (args : Array Value) (below : List Frame) (meth : Method) (c : Code) (A : Nat → Prop) (Q : State → Prop), p.tables.exec = Jvm.exec → c.code = cc → c.maxLocals = maxL → (∀ w ∈ ws, w.before args s = true) → s.vm.findClass y.cls = some m.cls → ctx G s → (∀ q, s.heap.size ≤ q → A q) →
      (∀ (pc : Nat) (ls : Array Slot) (H : Heap) (locs : List Loc), Wd G A s.heap w1 H locs → decode cc pc = .ok (.ireturn, 1) → W p l e rm s m args below meth c H locs 0 0 Q (F0 m pc ls [.int v])) →
      ∀ (ls : Array Slot) (H : Heap) (locs : List Loc), lv_has ls maxL (lv_args 0 av) → Wd G A s.heap wc H locs → W p l e rm s m args below meth c H locs 0 0 Q (F0 m 0 ls [])) : CtrI l y ws rm G av wc w1 v := by
  intro sz
  refine Met.ofW (cc := cc) (maxL := maxL) (ret := some .int) hy hw ?_
  intro p e s m args below meth c s₁ B hml hv
  obtain ⟨rfl, hsz, hP, hK, hD0⟩ := hv
  subst hsz
  have hlocks := B.notSynchronized
  have hr := B.returns
  rw [lg_entry_eq]
  refine body p e s m av.toArray below meth c (va_A wc s.heap.size) _ B.exec B.bytes hml (atoms_spec (ws := ws) B.pre) (findClass_of_methodNamed B.named) hK (fun q h => Or.inr h) ?_ _ _ _ (lv_entry av hlen) ⟨hP, hD0.self, va_S.rf⟩
  intro pc ls H locs hW hdg
  exact W.iret B.exec B.bytes hr (fun t ht hWm => ⟨⟨v, (), rfl, rfl, by rw [ht]; exact hW.1, hW.2.1⟩, hW.2.2.F ht⟩) hW.2.2.2.2 hdg
theorem startZ {v : Int32} (hy : plainName y.cls = true) (hw : ws = Cond.code y cc maxL (some .boolean) :: ws') (hlen : (lg_sl av).length ≤ maxL)
    (body : ∀ (p : Program) (e : Env) (s : State) (m : MethodId) (args : Array Value) (below : List Frame) (meth : Method) (c : Code) (A : Nat → Prop) (Q : State → Prop), p.tables.exec = Jvm.exec → c.code = cc → c.maxLocals = maxL → (∀ w ∈ ws, w.before args s = true) → s.vm.findClass y.cls = some m.cls → ctx G s → (∀ q, s.heap.size ≤ q → A q) →
      (∀ (pc : Nat) (ls : Array Slot) (H : Heap) (locs : List Loc), Wd G A s.heap w1 H locs → (v = 0 ∨ v = 1) → decode cc pc = .ok (.ireturn, 1) → W p l e rm s m args below meth c H locs 0 0 Q (F0 m pc ls [.int v])) →
      ∀ (ls : Array Slot) (H : Heap) (locs : List Loc), lv_has ls maxL (lv_args 0 av) → Wd G A s.heap wc H locs → W p l e rm s m args below meth c H locs 0 0 Q (F0 m 0 ls [])) : CtrZ l y ws rm G av wc w1 v := by
  intro sz
  refine Met.ofW (cc := cc) (maxL := maxL) (ret := some .boolean) hy hw ?_
  intro p e s m args below meth c s₁ B hml hv
  obtain ⟨rfl, hsz, hP, hK, hD0⟩ := hv
  subst hsz
  have hlocks := B.notSynchronized
  have hr := B.returns
  rw [lg_entry_eq]
  refine body p e s m av.toArray below meth c (va_A wc s.heap.size) _ B.exec B.bytes hml (atoms_spec (ws := ws) B.pre) (findClass_of_methodNamed B.named) hK (fun q h => Or.inr h) ?_ _ _ _ (lv_entry av hlen) ⟨hP, hD0.self, va_S.rf⟩
  intro pc ls H locs hW h01 hdg
  exact W.zret (ty := .boolean) B.exec B.bytes hr (by rcases h01 with h | h <;> rw [h] <;> rfl) (fun t ht hWm => ⟨⟨v, (), rfl, ⟨rfl, h01⟩, by rw [ht]; exact hW.1, hW.2.1⟩, hW.2.2.F ht⟩) hW.2.2.2.2 hdg
theorem startJ {v : Int64} (hy : plainName y.cls = true) (hw : ws = Cond.code y cc maxL (some .long) :: ws') (hlen : (lg_sl av).length ≤ maxL)
    (body : ∀ (p : Program) (e : Env) (s : State) (m : MethodId) (args : Array Value) (below : List Frame) (meth : Method) (c : Code) (A : Nat → Prop) (Q : State → Prop), p.tables.exec = Jvm.exec → c.code = cc → c.maxLocals = maxL → (∀ w ∈ ws, w.before args s = true) → s.vm.findClass y.cls = some m.cls → ctx G s → (∀ q, s.heap.size ≤ q → A q) →
      (∀ (pc : Nat) (ls : Array Slot) (H : Heap) (locs : List Loc), Wd G A s.heap w1 H locs → decode cc pc = .ok (.lreturn, 1) → W p l e rm s m args below meth c H locs 0 0 Q (F0 m pc ls [.long v])) →
      ∀ (ls : Array Slot) (H : Heap) (locs : List Loc), lv_has ls maxL (lv_args 0 av) → Wd G A s.heap wc H locs → W p l e rm s m args below meth c H locs 0 0 Q (F0 m 0 ls [])) : CtrJ l y ws rm G av wc w1 v := by
  intro sz
  refine Met.ofW (cc := cc) (maxL := maxL) (ret := some .long) hy hw ?_
  intro p e s m args below meth c s₁ B hml hv
  obtain ⟨rfl, hsz, hP, hK, hD0⟩ := hv
  subst hsz
  have hlocks := B.notSynchronized
  have hr := B.returns
  rw [lg_entry_eq]
  refine body p e s m av.toArray below meth c (va_A wc s.heap.size) _ B.exec B.bytes hml (atoms_spec (ws := ws) B.pre) (findClass_of_methodNamed B.named) hK (fun q h => Or.inr h) ?_ _ _ _ (lv_entry av hlen) ⟨hP, hD0.self, va_S.rf⟩
  intro pc ls H locs hW hdg
  exact W.lret B.exec B.bytes hr (fun t ht hWm => ⟨⟨v, (), rfl, rfl, by rw [ht]; exact hW.1, hW.2.1⟩, hW.2.2.F ht⟩) hW.2.2.2.2 hdg
theorem startV (hy : plainName y.cls = true) (hw : ws = Cond.code y cc maxL none :: ws') (hlen : (lg_sl av).length ≤ maxL)
    (body : ∀ (p : Program) (e : Env) (s : State) (m : MethodId) (args : Array Value) (below : List Frame) (meth : Method) (c : Code) (A : Nat → Prop) (Q : State → Prop), p.tables.exec = Jvm.exec → c.code = cc → c.maxLocals = maxL → (∀ w ∈ ws, w.before args s = true) → s.vm.findClass y.cls = some m.cls → ctx G s → (∀ q, s.heap.size ≤ q → A q) →
      (∀ (pc : Nat) (ls : Array Slot) (H : Heap) (locs : List Loc), Wd G A s.heap w1 H locs → decode cc pc = .ok (.return_, 1) → W p l e rm s m args below meth c H locs 0 0 Q (F0 m pc ls [])) →
      ∀ (ls : Array Slot) (H : Heap) (locs : List Loc), lv_has ls maxL (lv_args 0 av) → Wd G A s.heap wc H locs → W p l e rm s m args below meth c H locs 0 0 Q (F0 m 0 ls [])) : CtrV l y ws rm G av wc w1 := by
  intro sz
  refine Met.ofW (cc := cc) (maxL := maxL) (ret := none) hy hw ?_
  intro p e s m args below meth c s₁ B hml hv
  obtain ⟨rfl, hsz, hP, hK, hD0⟩ := hv
  subst hsz
  have hlocks := B.notSynchronized
  have hr := B.returns
  rw [lg_entry_eq]
  refine body p e s m av.toArray below meth c (va_A wc s.heap.size) _ B.exec B.bytes hml (atoms_spec (ws := ws) B.pre) (findClass_of_methodNamed B.named) hK (fun q h => Or.inr h) ?_ _ _ _ (lv_entry av hlen) ⟨hP, hD0.self, va_S.rf⟩
  intro pc ls H locs hW hdg
  exact W.vret B.exec B.bytes hr (fun t ht hWm => ⟨⟨(), rfl, trivial, by rw [ht]; exact hW.1, hW.2.1⟩, hW.2.2.F ht⟩) hW.2.2.2.2 hdg
end KSTART
/-! the pure words of the walked programs: a check, a join -/
def inb (i : Int32) (n : Nat) : Bool := decide (¬ (i < 0 ∨ n ≤ i.toNatClampNeg))
theorem inb_el {O : Type} {i : Int32} {n : Nat} {e : Option O} {o : O} (h : (if inb i n = true then e else none) = some o) : vp_in i n ∧ e = some o := by
  by_cases hi : inb i n = true
  · rw [if_pos hi] at h; exact ⟨(of_decide_eq_true (p := ¬ (i < 0 ∨ n ≤ i.toNatClampNeg)) hi : _), h⟩
  · rw [if_neg hi] at h; cases h
theorem nz_el {O : Type} {y : Int32} {e : Option O} {o : O} (h : (if y = 0 then none else e) = some o) : ¬ y = 0 ∧ e = some o := by
  by_cases hi : y = 0
  · rw [if_pos hi] at h; cases h
  · rw [if_neg hi] at h; exact ⟨hi, h⟩
theorem nzl_el {O : Type} {y : Int64} {e : Option O} {o : O} (h : (if y = 0 then none else e) = some o) : ¬ y = 0 ∧ e = some o := by
  by_cases hi : y = 0
  · rw [if_pos hi] at h; cases h
  · rw [if_neg hi] at h; exact ⟨hi, h⟩
theorem bd_el {B O : Type} {x : Option B} {f : B → Option O} {o : O} (h : x.bind f = some o) : ∃ q, x = some q ∧ f q = some o := by
  cases x with
  | none => cases h
  | some q => exact ⟨q, rfl, h⟩
def jn {α O : Type} (k : α) (f : α → O) : O := f k
theorem jn_el {α O : Type} {k : α} {f : α → O} {o : O} (h : jn k f = o) : ∃ k', k' = k ∧ f k' = o := ⟨k, rfl, h⟩
theorem ite_t {O : Type} {c : Prop} [Decidable c] {a b : Option O} {o : O} (h : (if c then a else b) = some o) (hc : c) : a = some o := by rw [if_pos hc] at h; exact h
theorem ite_f {O : Type} {c : Prop} [Decidable c] {a b : Option O} {o : O} (h : (if c then a else b) = some o) (hc : ¬ c) : b = some o := by rw [if_neg hc] at h; exact h
theorem bool_nar {v : Int32} (h : v = 0 ∨ v = 1) : narrow .boolean (.int v) = .int v := by rcases h with h | h <;> rw [h] <;> rfl
theorem bool_fit {v : Int32} (h : v = 0 ∨ v = 1) : fits .boolean (.int v) = true := by rcases h with h | h <;> rw [h] <;> rfl
theorem i32_ne {x c : Int32} {k : Int} (hc : c.toInt = k) (h : ¬ x = c) : ¬ (k = x.toInt) := fun e => h (Int32.toInt_inj.mp (by rw [hc]; exact e.symm))
abbrev oX0 (ad : Nat → Nat) (v_boats : Int32) : va_E := .inr (0, [.ref (ad 0), .ref (ad 1), .int v_boats])
abbrev oX1 (ad : Nat → Nat) (v_days : Int32) : va_E := .inr (1, [.ref (ad 0), .ref (ad 1), .int v_days])
abbrev oX2 (ad : Nat → Nat)  : va_E := .inr (2, [.ref (ad 0), .ref (ad 1)])
abbrev oX3 (ad : Nat → Nat) (v_numberCount : Int32) (v_letter : Int32) (v_end : Int32) : va_E := .inr (3, [.ref (ad 0), .int v_numberCount, .int v_letter, .int v_end])
abbrev oX5 (ad : Nat → Nat) (v_turned : Int64) : va_E := .inr (4, [.ref (ad 0), .ref (ad 1), .long v_turned])
abbrev oX6 (ad : Nat → Nat) (v_length : Int32) : va_E := .inr (5, [.ref (ad 0), .int v_length])
abbrev oX7 (ad : Nat → Nat) (v_pairs : Int32) : va_E := .inr (6, [.ref (ad 0), .ref (ad 1), .ref (ad 2), .int v_pairs])
abbrev oX8 (ad : Nat → Nat) (v_signCount : Int32) (v_houseCount : Int32) (v_boatCount : Int32) (v_workCount : Int32) (v_turnCost : Int32) (v_boatDayCost : Int32) : va_E := .inr (7, [.ref (ad 0), .ref (ad 1), .ref (ad 2), .ref (ad 3), .ref (ad 4), .ref (ad 5), .ref (ad 6), .int v_signCount, .int v_houseCount, .int v_boatCount, .int v_workCount, .int v_turnCost, .int v_boatDayCost])
abbrev oX9 (ad : Nat → Nat) (v_keptCount : Int32) : va_E := .inr (8, [.ref (ad 0), .ref (ad 1), .ref (ad 2), .ref (ad 3), .ref (ad 4), .ref (ad 5), .ref (ad 6), .int v_keptCount, .ref (ad 8), .ref (ad 9), .ref (ad 10), .ref (ad 11), .ref (ad 12)])
abbrev oX9h (ad : Nat → Nat) (v_keptCount : Int32) : va_E := .inr (8, [.ref (ad 0), .ref (ad 1), .ref (ad 3), .ref (ad 3), .ref (ad 4), .ref (ad 5), .ref (ad 6), .int v_keptCount, .ref (ad 8), .ref (ad 9), .ref (ad 10), .ref (ad 11), .ref (ad 12)])
abbrev oX9w (ad : Nat → Nat) (sw : Bool) (v_keptCount : Int32) : va_E := .inr (8, [.ref (ad 0), .ref (ad 1), .ref (bif sw then ad 3 else ad 2), .ref (bif sw then ad 2 else ad 3), .ref (ad 4), .ref (ad 5), .ref (ad 6), .int v_keptCount, .ref (ad 8), .ref (ad 9), .ref (ad 10), .ref (ad 11), .ref (ad 12)])
abbrev oX10 (ad : Nat → Nat) (v_typed : Int32) (v_at : Int32) (v_isSo : Int32) (v_kept : Int32) (v_all : Int64) (v_sightAll : Int64) (v_aheadMany : Int32) : va_E := .inr (9, [.ref (ad 0), .int v_typed, .ref (ad 2), .ref (ad 3), .ref (ad 4), .ref (ad 5), .ref (ad 6), .ref (ad 7), .ref (ad 8), .ref (ad 9), .ref (ad 10), .ref (ad 11), .ref (ad 12), .ref (ad 13), .int v_at, .int v_isSo, .ref (ad 16), .ref (ad 17), .ref (ad 18), .int v_kept, .ref (ad 20), .ref (ad 21), .long v_all, .ref (ad 23), .long v_sightAll, .ref (ad 25), .ref (ad 26), .ref (ad 27), .ref (ad 28), .int v_aheadMany, .ref (ad 30)])
end
section
theorem dX4_at_0 : decode cX4_at 0 = .ok (.aload_n 0, 1) := by decide +kernel
theorem dX4_at_1 : decode cX4_at 1 = .ok (.ifnull 19, 3) := by decide +kernel
theorem dX4_at_4 : decode cX4_at 4 = .ok (.iload_n 1, 1) := by decide +kernel
theorem dX4_at_5 : decode cX4_at 5 = .ok (.ifCond .lt 15, 3) := by decide +kernel
theorem dX4_at_8 : decode cX4_at 8 = .ok (.iload_n 1, 1) := by decide +kernel
theorem dX4_at_9 : decode cX4_at 9 = .ok (.aload_n 0, 1) := by decide +kernel
theorem dX4_at_10 : decode cX4_at 10 = .ok (.arraylength, 1) := by decide +kernel
theorem dX4_at_11 : decode cX4_at 11 = .ok (.if_icmp .ge 9, 3) := by decide +kernel
theorem dX4_at_14 : decode cX4_at 14 = .ok (.aload_n 0, 1) := by decide +kernel
theorem dX4_at_15 : decode cX4_at 15 = .ok (.iload_n 1, 1) := by decide +kernel
theorem dX4_at_16 : decode cX4_at 16 = .ok (.iaload, 1) := by decide +kernel
theorem dX4_at_17 : decode cX4_at 17 = .ok (.goto 4, 3) := by decide +kernel
theorem dX4_at_20 : decode cX4_at 20 = .ok (.iconst 0, 1) := by decide +kernel
theorem dX4_at_21 : decode cX4_at 21 = .ok (.ireturn, 1) := by decide +kernel
def F_X4_at (x1 : Int32) (n_p0 : Nat) (a_p0 : Nat → Int32) : Option (Int32) := (if x1 < 0 then some (0) else (if (nI n_p0) ≤ x1 then some (0) else (if inb x1 n_p0 = true then some ((a_p0 (Int32.toNatClampNeg x1))) else none)))
theorem hdS_X4_at : yX4_at.cls ≠ "java/lang/invoke/MethodHandle" ∧ yX4_at.cls ≠ "java/lang/invoke/VarHandle" ∧ (parseMethodDescriptor yX4_at.desc).map (fun d => d.parameters.length) = some 2 := by decide +kernel
set_option maxHeartbeats 4000000 in
set_option maxRecDepth 100000 in
theorem c_X4_at (l : Launch) (G : GG) (x1 : Int32) (n_p0 : Nat) (h_p0 : Nat) (a_p0 : Nat → Int32) (out : Int32) (hF : F_X4_at x1 n_p0 a_p0 = some out) : CtrI l yX4_at (WS yX4_at cX4_at 2 (some .int)) { frames := 0, cells := 0, slots := 0, locals := 0 } G [.ref h_p0, .int x1] [(h_p0, cI G n_p0 a_p0)] [(h_p0, cI G n_p0 a_p0)] out := by
  refine startI (cc := cX4_at) (maxL := 2) (by decide) rfl (Nat.le_of_ble_eq_true rfl) ?_
  intro p e s m args below meth c A Q hx hb hml hts hown hc hA hret ls H locs hl hW
  have hown : s.vm.findClass RX4 = some m.cls := hown
  have hg : ∀ w ∈ GOODS, w.before _ s = true := fun w h => hts w (List.mem_cons_of_mem _ h)
  have hl : lv_has ls 2 [(0, .ref h_p0), (1, .int x1)] := hl
  rw [F_X4_at] at hF
  refine lv_aload_n hx hb dX4_at_0 rfl (lv_at hl 0 rfl) ?_
  refine lv_ifnull hx hb dX4_at_1 ?_
  refine lv_iload_n hx hb dX4_at_4 rfl (lv_at hl 1 rfl) ?_
  refine lv_if_lt (tgt := 20) hx hb dX4_at_5 (by decide) (fun c_5 => ?_) (fun c_5 => ?_)
  · have hF := ite_t hF c_5
    refine lv_iconst (v := 0) hx hb dX4_at_20 (by decide) ?_
    obtain rfl := Option.some.inj hF
    exact hret _ _ _ _ hW dX4_at_21
  · have hF := ite_f hF c_5
    refine lv_iload_n hx hb dX4_at_8 rfl (lv_at hl 1 rfl) ?_
    refine lv_aload_n hx hb dX4_at_9 rfl (lv_at hl 0 rfl) ?_
    refine va_alen (v := (nI n_p0)) hx hb hc.1 hW.1 0 0 rfl rfl rfl dX4_at_10 ?_
    refine lv_icmp_ge (tgt := 20) hx hb dX4_at_11 (by decide) (fun c_11 => ?_) (fun c_11 => ?_)
    · have hF := ite_t hF c_11
      refine lv_iconst (v := 0) hx hb dX4_at_20 (by decide) ?_
      obtain rfl := Option.some.inj hF
      exact hret _ _ _ _ hW dX4_at_21
    · have hF := ite_f hF c_11
      refine lv_aload_n hx hb dX4_at_14 rfl (lv_at hl 0 rfl) ?_
      refine lv_iload_n hx hb dX4_at_15 rfl (lv_at hl 1 rfl) ?_
      obtain ⟨b_16, hF⟩ := inb_el hF
      refine va_iald hx hb hc.1 hW.1 0 0 rfl rfl b_16 dX4_at_16 ?_
      refine lv_goto (tgt := 21) hx hb dX4_at_17 (by decide) ?_
      obtain rfl := Option.some.inj hF
      exact hret _ _ _ _ hW dX4_at_21
theorem dX4_put_0 : decode cX4_put 0 = .ok (.aload_n 0, 1) := by decide +kernel
theorem dX4_put_1 : decode cX4_put 1 = .ok (.ifnull 17, 3) := by decide +kernel
theorem dX4_put_4 : decode cX4_put 4 = .ok (.iload_n 1, 1) := by decide +kernel
theorem dX4_put_5 : decode cX4_put 5 = .ok (.ifCond .lt 13, 3) := by decide +kernel
theorem dX4_put_8 : decode cX4_put 8 = .ok (.iload_n 1, 1) := by decide +kernel
theorem dX4_put_9 : decode cX4_put 9 = .ok (.aload_n 0, 1) := by decide +kernel
theorem dX4_put_10 : decode cX4_put 10 = .ok (.arraylength, 1) := by decide +kernel
theorem dX4_put_11 : decode cX4_put 11 = .ok (.if_icmp .ge 7, 3) := by decide +kernel
theorem dX4_put_14 : decode cX4_put 14 = .ok (.aload_n 0, 1) := by decide +kernel
theorem dX4_put_15 : decode cX4_put 15 = .ok (.iload_n 1, 1) := by decide +kernel
theorem dX4_put_16 : decode cX4_put 16 = .ok (.iload_n 2, 1) := by decide +kernel
theorem dX4_put_17 : decode cX4_put 17 = .ok (.iastore, 1) := by decide +kernel
theorem dX4_put_18 : decode cX4_put 18 = .ok (.return_, 1) := by decide +kernel
def F_X4_put (x1 : Int32) (x2 : Int32) (n_p0 : Nat) (a_p0 : Nat → Int32) : Option ((Nat → Int32)) := (if x1 < 0 then some (a_p0) else (if (nI n_p0) ≤ x1 then some (a_p0) else (if inb x1 n_p0 = true then some ((upd a_p0 (Int32.toNatClampNeg x1) x2)) else none)))
theorem hdS_X4_put : yX4_put.cls ≠ "java/lang/invoke/MethodHandle" ∧ yX4_put.cls ≠ "java/lang/invoke/VarHandle" ∧ (parseMethodDescriptor yX4_put.desc).map (fun d => d.parameters.length) = some 3 := by decide +kernel
set_option maxHeartbeats 4000000 in
set_option maxRecDepth 100000 in
theorem c_X4_put (l : Launch) (G : GG) (x1 : Int32) (x2 : Int32) (n_p0 : Nat) (h_p0 : Nat) (a_p0 : Nat → Int32) (out : (Nat → Int32)) (hF : F_X4_put x1 x2 n_p0 a_p0 = some out) : CtrV l yX4_put (WS yX4_put cX4_put 3 none) { frames := 0, cells := 0, slots := 0, locals := 0 } G [.ref h_p0, .int x1, .int x2] [(h_p0, cI G n_p0 a_p0)] [(h_p0, cI G n_p0 out)] := by
  refine startV (cc := cX4_put) (maxL := 3) (by decide) rfl (Nat.le_of_ble_eq_true rfl) ?_
  intro p e s m args below meth c A Q hx hb hml hts hown hc hA hret ls H locs hl hW
  have hown : s.vm.findClass RX4 = some m.cls := hown
  have hg : ∀ w ∈ GOODS, w.before _ s = true := fun w h => hts w (List.mem_cons_of_mem _ h)
  have hl : lv_has ls 3 [(0, .ref h_p0), (1, .int x1), (2, .int x2)] := hl
  rw [F_X4_put] at hF
  refine lv_aload_n hx hb dX4_put_0 rfl (lv_at hl 0 rfl) ?_
  refine lv_ifnull hx hb dX4_put_1 ?_
  refine lv_iload_n hx hb dX4_put_4 rfl (lv_at hl 1 rfl) ?_
  refine lv_if_lt (tgt := 18) hx hb dX4_put_5 (by decide) (fun c_5 => ?_) (fun c_5 => ?_)
  · have hF := ite_t hF c_5
    obtain rfl := Option.some.inj hF
    exact hret _ _ _ _ hW dX4_put_18
  · have hF := ite_f hF c_5
    refine lv_iload_n hx hb dX4_put_8 rfl (lv_at hl 1 rfl) ?_
    refine lv_aload_n hx hb dX4_put_9 rfl (lv_at hl 0 rfl) ?_
    refine va_alen (v := (nI n_p0)) hx hb hc.1 hW.1 0 0 rfl rfl rfl dX4_put_10 ?_
    refine lv_icmp_ge (tgt := 18) hx hb dX4_put_11 (by decide) (fun c_11 => ?_) (fun c_11 => ?_)
    · have hF := ite_t hF c_11
      obtain rfl := Option.some.inj hF
      exact hret _ _ _ _ hW dX4_put_18
    · have hF := ite_f hF c_11
      refine lv_aload_n hx hb dX4_put_14 rfl (lv_at hl 0 rfl) ?_
      refine lv_iload_n hx hb dX4_put_15 rfl (lv_at hl 1 rfl) ?_
      refine lv_iload_n hx hb dX4_put_16 rfl (lv_at hl 2 rfl) ?_
      obtain ⟨b_17, hF⟩ := inb_el hF
      refine va_iast hx hb hc.1 hW.1 hW.2.1 hW.2.2 0 0 rfl rfl b_17 dX4_put_17 (fun H locs hP hD hS => ?_)
      have hW : Wd G A s.heap [(h_p0, cI G n_p0 ((upd a_p0 (Int32.toNatClampNeg x1) x2)))] H locs := ⟨hP, hD, hS⟩
      obtain rfl := Option.some.inj hF
      exact hret _ _ _ _ hW dX4_put_18
theorem dX4_longAt_0 : decode cX4_longAt 0 = .ok (.aload_n 0, 1) := by decide +kernel
theorem dX4_longAt_1 : decode cX4_longAt 1 = .ok (.ifnull 19, 3) := by decide +kernel
theorem dX4_longAt_4 : decode cX4_longAt 4 = .ok (.iload_n 1, 1) := by decide +kernel
theorem dX4_longAt_5 : decode cX4_longAt 5 = .ok (.ifCond .lt 15, 3) := by decide +kernel
theorem dX4_longAt_8 : decode cX4_longAt 8 = .ok (.iload_n 1, 1) := by decide +kernel
theorem dX4_longAt_9 : decode cX4_longAt 9 = .ok (.aload_n 0, 1) := by decide +kernel
theorem dX4_longAt_10 : decode cX4_longAt 10 = .ok (.arraylength, 1) := by decide +kernel
theorem dX4_longAt_11 : decode cX4_longAt 11 = .ok (.if_icmp .ge 9, 3) := by decide +kernel
theorem dX4_longAt_14 : decode cX4_longAt 14 = .ok (.aload_n 0, 1) := by decide +kernel
theorem dX4_longAt_15 : decode cX4_longAt 15 = .ok (.iload_n 1, 1) := by decide +kernel
theorem dX4_longAt_16 : decode cX4_longAt 16 = .ok (.laload, 1) := by decide +kernel
theorem dX4_longAt_17 : decode cX4_longAt 17 = .ok (.goto 4, 3) := by decide +kernel
theorem dX4_longAt_20 : decode cX4_longAt 20 = .ok (.lconst 0, 1) := by decide +kernel
theorem dX4_longAt_21 : decode cX4_longAt 21 = .ok (.lreturn, 1) := by decide +kernel
def F_X4_longAt (x1 : Int32) (n_p0 : Nat) (a_p0 : Nat → Int64) : Option (Int64) := (if x1 < 0 then some (0) else (if (nI n_p0) ≤ x1 then some (0) else (if inb x1 n_p0 = true then some ((a_p0 (Int32.toNatClampNeg x1))) else none)))
theorem hdS_X4_longAt : yX4_longAt.cls ≠ "java/lang/invoke/MethodHandle" ∧ yX4_longAt.cls ≠ "java/lang/invoke/VarHandle" ∧ (parseMethodDescriptor yX4_longAt.desc).map (fun d => d.parameters.length) = some 2 := by decide +kernel
set_option maxHeartbeats 4000000 in
set_option maxRecDepth 100000 in
theorem c_X4_longAt (l : Launch) (G : GG) (x1 : Int32) (n_p0 : Nat) (h_p0 : Nat) (a_p0 : Nat → Int64) (out : Int64) (hF : F_X4_longAt x1 n_p0 a_p0 = some out) : CtrJ l yX4_longAt (WS yX4_longAt cX4_longAt 2 (some .long)) { frames := 0, cells := 0, slots := 0, locals := 0 } G [.ref h_p0, .int x1] [(h_p0, cJ G n_p0 a_p0)] [(h_p0, cJ G n_p0 a_p0)] out := by
  refine startJ (cc := cX4_longAt) (maxL := 2) (by decide) rfl (Nat.le_of_ble_eq_true rfl) ?_
  intro p e s m args below meth c A Q hx hb hml hts hown hc hA hret ls H locs hl hW
  have hown : s.vm.findClass RX4 = some m.cls := hown
  have hg : ∀ w ∈ GOODS, w.before _ s = true := fun w h => hts w (List.mem_cons_of_mem _ h)
  have hl : lv_has ls 2 [(0, .ref h_p0), (1, .int x1)] := hl
  rw [F_X4_longAt] at hF
  refine lv_aload_n hx hb dX4_longAt_0 rfl (lv_at hl 0 rfl) ?_
  refine lv_ifnull hx hb dX4_longAt_1 ?_
  refine lv_iload_n hx hb dX4_longAt_4 rfl (lv_at hl 1 rfl) ?_
  refine lv_if_lt (tgt := 20) hx hb dX4_longAt_5 (by decide) (fun c_5 => ?_) (fun c_5 => ?_)
  · have hF := ite_t hF c_5
    refine lv_lconst (v := 0) hx hb dX4_longAt_20 (by decide) ?_
    obtain rfl := Option.some.inj hF
    exact hret _ _ _ _ hW dX4_longAt_21
  · have hF := ite_f hF c_5
    refine lv_iload_n hx hb dX4_longAt_8 rfl (lv_at hl 1 rfl) ?_
    refine lv_aload_n hx hb dX4_longAt_9 rfl (lv_at hl 0 rfl) ?_
    refine va_alen (v := (nI n_p0)) hx hb hc.1 hW.1 0 1 rfl rfl rfl dX4_longAt_10 ?_
    refine lv_icmp_ge (tgt := 20) hx hb dX4_longAt_11 (by decide) (fun c_11 => ?_) (fun c_11 => ?_)
    · have hF := ite_t hF c_11
      refine lv_lconst (v := 0) hx hb dX4_longAt_20 (by decide) ?_
      obtain rfl := Option.some.inj hF
      exact hret _ _ _ _ hW dX4_longAt_21
    · have hF := ite_f hF c_11
      refine lv_aload_n hx hb dX4_longAt_14 rfl (lv_at hl 0 rfl) ?_
      refine lv_iload_n hx hb dX4_longAt_15 rfl (lv_at hl 1 rfl) ?_
      obtain ⟨b_16, hF⟩ := inb_el hF
      refine va_lald hx hb hc.1 hW.1 0 1 rfl rfl b_16 dX4_longAt_16 ?_
      refine lv_goto (tgt := 21) hx hb dX4_longAt_17 (by decide) ?_
      obtain rfl := Option.some.inj hF
      exact hret _ _ _ _ hW dX4_longAt_21
theorem dX4_putLong_0 : decode cX4_putLong 0 = .ok (.aload_n 0, 1) := by decide +kernel
theorem dX4_putLong_1 : decode cX4_putLong 1 = .ok (.ifnull 17, 3) := by decide +kernel
theorem dX4_putLong_4 : decode cX4_putLong 4 = .ok (.iload_n 1, 1) := by decide +kernel
theorem dX4_putLong_5 : decode cX4_putLong 5 = .ok (.ifCond .lt 13, 3) := by decide +kernel
theorem dX4_putLong_8 : decode cX4_putLong 8 = .ok (.iload_n 1, 1) := by decide +kernel
theorem dX4_putLong_9 : decode cX4_putLong 9 = .ok (.aload_n 0, 1) := by decide +kernel
theorem dX4_putLong_10 : decode cX4_putLong 10 = .ok (.arraylength, 1) := by decide +kernel
theorem dX4_putLong_11 : decode cX4_putLong 11 = .ok (.if_icmp .ge 7, 3) := by decide +kernel
theorem dX4_putLong_14 : decode cX4_putLong 14 = .ok (.aload_n 0, 1) := by decide +kernel
theorem dX4_putLong_15 : decode cX4_putLong 15 = .ok (.iload_n 1, 1) := by decide +kernel
theorem dX4_putLong_16 : decode cX4_putLong 16 = .ok (.lload_n 2, 1) := by decide +kernel
theorem dX4_putLong_17 : decode cX4_putLong 17 = .ok (.lastore, 1) := by decide +kernel
theorem dX4_putLong_18 : decode cX4_putLong 18 = .ok (.return_, 1) := by decide +kernel
def F_X4_putLong (x1 : Int32) (x2 : Int64) (n_p0 : Nat) (a_p0 : Nat → Int64) : Option ((Nat → Int64)) := (if x1 < 0 then some (a_p0) else (if (nI n_p0) ≤ x1 then some (a_p0) else (if inb x1 n_p0 = true then some ((vp_updL a_p0 (Int32.toNatClampNeg x1) x2)) else none)))
theorem hdS_X4_putLong : yX4_putLong.cls ≠ "java/lang/invoke/MethodHandle" ∧ yX4_putLong.cls ≠ "java/lang/invoke/VarHandle" ∧ (parseMethodDescriptor yX4_putLong.desc).map (fun d => d.parameters.length) = some 3 := by decide +kernel
set_option maxHeartbeats 4000000 in
set_option maxRecDepth 100000 in
theorem c_X4_putLong (l : Launch) (G : GG) (x1 : Int32) (x2 : Int64) (n_p0 : Nat) (h_p0 : Nat) (a_p0 : Nat → Int64) (out : (Nat → Int64)) (hF : F_X4_putLong x1 x2 n_p0 a_p0 = some out) : CtrV l yX4_putLong (WS yX4_putLong cX4_putLong 4 none) { frames := 0, cells := 0, slots := 0, locals := 0 } G [.ref h_p0, .int x1, .long x2] [(h_p0, cJ G n_p0 a_p0)] [(h_p0, cJ G n_p0 out)] := by
  refine startV (cc := cX4_putLong) (maxL := 4) (by decide) rfl (Nat.le_of_ble_eq_true rfl) ?_
  intro p e s m args below meth c A Q hx hb hml hts hown hc hA hret ls H locs hl hW
  have hown : s.vm.findClass RX4 = some m.cls := hown
  have hg : ∀ w ∈ GOODS, w.before _ s = true := fun w h => hts w (List.mem_cons_of_mem _ h)
  have hl : lv_has ls 4 [(0, .ref h_p0), (1, .int x1), (2, .long x2)] := hl
  rw [F_X4_putLong] at hF
  refine lv_aload_n hx hb dX4_putLong_0 rfl (lv_at hl 0 rfl) ?_
  refine lv_ifnull hx hb dX4_putLong_1 ?_
  refine lv_iload_n hx hb dX4_putLong_4 rfl (lv_at hl 1 rfl) ?_
  refine lv_if_lt (tgt := 18) hx hb dX4_putLong_5 (by decide) (fun c_5 => ?_) (fun c_5 => ?_)
  · have hF := ite_t hF c_5
    obtain rfl := Option.some.inj hF
    exact hret _ _ _ _ hW dX4_putLong_18
  · have hF := ite_f hF c_5
    refine lv_iload_n hx hb dX4_putLong_8 rfl (lv_at hl 1 rfl) ?_
    refine lv_aload_n hx hb dX4_putLong_9 rfl (lv_at hl 0 rfl) ?_
    refine va_alen (v := (nI n_p0)) hx hb hc.1 hW.1 0 1 rfl rfl rfl dX4_putLong_10 ?_
    refine lv_icmp_ge (tgt := 18) hx hb dX4_putLong_11 (by decide) (fun c_11 => ?_) (fun c_11 => ?_)
    · have hF := ite_t hF c_11
      obtain rfl := Option.some.inj hF
      exact hret _ _ _ _ hW dX4_putLong_18
    · have hF := ite_f hF c_11
      refine lv_aload_n hx hb dX4_putLong_14 rfl (lv_at hl 0 rfl) ?_
      refine lv_iload_n hx hb dX4_putLong_15 rfl (lv_at hl 1 rfl) ?_
      refine lv_lload_n hx hb dX4_putLong_16 rfl (lv_at hl 2 rfl) ?_
      obtain ⟨b_17, hF⟩ := inb_el hF
      refine va_last hx hb hc.1 hW.1 hW.2.1 hW.2.2 0 1 rfl rfl b_17 dX4_putLong_17 (fun H locs hP hD hS => ?_)
      have hW : Wd G A s.heap [(h_p0, cJ G n_p0 ((vp_updL a_p0 (Int32.toNatClampNeg x1) x2)))] H locs := ⟨hP, hD, hS⟩
      obtain rfl := Option.some.inj hF
      exact hret _ _ _ _ hW dX4_putLong_18
theorem dX9_isWithin_0 : decode cX9_isWithin 0 = .ok (.iload_n 0, 1) := by decide +kernel
theorem dX9_isWithin_1 : decode cX9_isWithin 1 = .ok (.iload_n 1, 1) := by decide +kernel
theorem dX9_isWithin_2 : decode cX9_isWithin 2 = .ok (.if_icmp .lt 12, 3) := by decide +kernel
theorem dX9_isWithin_5 : decode cX9_isWithin 5 = .ok (.iload_n 0, 1) := by decide +kernel
theorem dX9_isWithin_6 : decode cX9_isWithin 6 = .ok (.iload_n 2, 1) := by decide +kernel
theorem dX9_isWithin_7 : decode cX9_isWithin 7 = .ok (.if_icmp .gt 7, 3) := by decide +kernel
theorem dX9_isWithin_10 : decode cX9_isWithin 10 = .ok (.iconst 1, 1) := by decide +kernel
theorem dX9_isWithin_11 : decode cX9_isWithin 11 = .ok (.goto 4, 3) := by decide +kernel
theorem dX9_isWithin_14 : decode cX9_isWithin 14 = .ok (.iconst 0, 1) := by decide +kernel
theorem dX9_isWithin_15 : decode cX9_isWithin 15 = .ok (.ireturn, 1) := by decide +kernel
def F_X9_isWithin (x0 : Int32) (x1 : Int32) (x2 : Int32) : Option (Int32) := (if x0 < x1 then some (0) else (if x2 < x0 then some (0) else some (1)))
theorem hdS_X9_isWithin : yX9_isWithin.cls ≠ "java/lang/invoke/MethodHandle" ∧ yX9_isWithin.cls ≠ "java/lang/invoke/VarHandle" ∧ (parseMethodDescriptor yX9_isWithin.desc).map (fun d => d.parameters.length) = some 3 := by decide +kernel
set_option maxHeartbeats 4000000 in
set_option maxRecDepth 100000 in
theorem c_X9_isWithin (l : Launch) (G : GG) (x0 : Int32) (x1 : Int32) (x2 : Int32) (out : Int32) (hF : F_X9_isWithin x0 x1 x2 = some out) : CtrZ l yX9_isWithin (WS yX9_isWithin cX9_isWithin 3 (some .boolean)) { frames := 0, cells := 0, slots := 0, locals := 0 } G [.int x0, .int x1, .int x2] [] [] out := by
  refine startZ (cc := cX9_isWithin) (maxL := 3) (by decide) rfl (Nat.le_of_ble_eq_true rfl) ?_
  intro p e s m args below meth c A Q hx hb hml hts hown hc hA hret ls H locs hl hW
  have hown : s.vm.findClass RX9 = some m.cls := hown
  have hg : ∀ w ∈ GOODS, w.before _ s = true := fun w h => hts w (List.mem_cons_of_mem _ h)
  have hl : lv_has ls 3 [(0, .int x0), (1, .int x1), (2, .int x2)] := hl
  rw [F_X9_isWithin] at hF
  refine lv_iload_n hx hb dX9_isWithin_0 rfl (lv_at hl 0 rfl) ?_
  refine lv_iload_n hx hb dX9_isWithin_1 rfl (lv_at hl 1 rfl) ?_
  refine lv_icmp_lt (tgt := 14) hx hb dX9_isWithin_2 (by decide) (fun c_2 => ?_) (fun c_2 => ?_)
  · have hF := ite_t hF c_2
    refine lv_iconst (v := 0) hx hb dX9_isWithin_14 (by decide) ?_
    obtain rfl := Option.some.inj hF
    exact hret _ _ _ _ hW (Or.inl rfl) dX9_isWithin_15
  · have hF := ite_f hF c_2
    refine lv_iload_n hx hb dX9_isWithin_5 rfl (lv_at hl 0 rfl) ?_
    refine lv_iload_n hx hb dX9_isWithin_6 rfl (lv_at hl 2 rfl) ?_
    refine lv_icmp_gt (tgt := 14) hx hb dX9_isWithin_7 (by decide) (fun c_7 => ?_) (fun c_7 => ?_)
    · have hF := ite_t hF c_7
      refine lv_iconst (v := 0) hx hb dX9_isWithin_14 (by decide) ?_
      obtain rfl := Option.some.inj hF
      exact hret _ _ _ _ hW (Or.inl rfl) dX9_isWithin_15
    · have hF := ite_f hF c_7
      refine lv_iconst (v := 1) hx hb dX9_isWithin_10 (by decide) ?_
      refine lv_goto (tgt := 15) hx hb dX9_isWithin_11 (by decide) ?_
      obtain rfl := Option.some.inj hF
      exact hret _ _ _ _ hW (Or.inr rfl) dX9_isWithin_15
theorem dX9_holds_0 : decode cX9_holds 0 = .ok (.iload_n 0, 1) := by decide +kernel
theorem dX9_holds_1 : decode cX9_holds 1 = .ok (.iload_n 1, 1) := by decide +kernel
theorem dX9_holds_2 : decode cX9_holds 2 = .ok (.ishr, 1) := by decide +kernel
theorem dX9_holds_3 : decode cX9_holds 3 = .ok (.iconst 1, 1) := by decide +kernel
theorem dX9_holds_4 : decode cX9_holds 4 = .ok (.iand, 1) := by decide +kernel
theorem dX9_holds_5 : decode cX9_holds 5 = .ok (.iconst 1, 1) := by decide +kernel
theorem dX9_holds_6 : decode cX9_holds 6 = .ok (.if_icmp .ne 7, 3) := by decide +kernel
theorem dX9_holds_9 : decode cX9_holds 9 = .ok (.iconst 1, 1) := by decide +kernel
theorem dX9_holds_10 : decode cX9_holds 10 = .ok (.goto 4, 3) := by decide +kernel
theorem dX9_holds_13 : decode cX9_holds 13 = .ok (.iconst 0, 1) := by decide +kernel
theorem dX9_holds_14 : decode cX9_holds 14 = .ok (.ireturn, 1) := by decide +kernel
def F_X9_holds (x0 : Int32) (x1 : Int32) : Option (Int32) := (if ((x0 >>> (x1 &&& 31)) &&& 1) = 1 then some (1) else some (0))
theorem hdS_X9_holds : yX9_holds.cls ≠ "java/lang/invoke/MethodHandle" ∧ yX9_holds.cls ≠ "java/lang/invoke/VarHandle" ∧ (parseMethodDescriptor yX9_holds.desc).map (fun d => d.parameters.length) = some 2 := by decide +kernel
set_option maxHeartbeats 4000000 in
set_option maxRecDepth 100000 in
theorem c_X9_holds (l : Launch) (G : GG) (x0 : Int32) (x1 : Int32) (out : Int32) (hF : F_X9_holds x0 x1 = some out) : CtrZ l yX9_holds (WS yX9_holds cX9_holds 2 (some .boolean)) { frames := 0, cells := 0, slots := 0, locals := 0 } G [.int x0, .int x1] [] [] out := by
  refine startZ (cc := cX9_holds) (maxL := 2) (by decide) rfl (Nat.le_of_ble_eq_true rfl) ?_
  intro p e s m args below meth c A Q hx hb hml hts hown hc hA hret ls H locs hl hW
  have hown : s.vm.findClass RX9 = some m.cls := hown
  have hg : ∀ w ∈ GOODS, w.before _ s = true := fun w h => hts w (List.mem_cons_of_mem _ h)
  have hl : lv_has ls 2 [(0, .int x0), (1, .int x1)] := hl
  rw [F_X9_holds] at hF
  refine lv_iload_n hx hb dX9_holds_0 rfl (lv_at hl 0 rfl) ?_
  refine lv_iload_n hx hb dX9_holds_1 rfl (lv_at hl 1 rfl) ?_
  refine lv_ishr hx hb dX9_holds_2 ?_
  refine lv_iconst (v := 1) hx hb dX9_holds_3 (by decide) ?_
  refine lv_iand hx hb dX9_holds_4 ?_
  refine lv_iconst (v := 1) hx hb dX9_holds_5 (by decide) ?_
  refine lv_icmp_ne (tgt := 13) hx hb dX9_holds_6 (by decide) (fun c_6 => ?_) (fun c_6 => ?_)
  · have hF := ite_f hF c_6
    refine lv_iconst (v := 0) hx hb dX9_holds_13 (by decide) ?_
    obtain rfl := Option.some.inj hF
    exact hret _ _ _ _ hW (Or.inl rfl) dX9_holds_14
  · have hF := ite_t hF c_6
    refine lv_iconst (v := 1) hx hb dX9_holds_9 (by decide) ?_
    refine lv_goto (tgt := 14) hx hb dX9_holds_10 (by decide) ?_
    obtain rfl := Option.some.inj hF
    exact hret _ _ _ _ hW (Or.inr rfl) dX9_holds_14
theorem dX9_setsOf_0 : decode cX9_setsOf 0 = .ok (.iconst 1, 1) := by decide +kernel
theorem dX9_setsOf_1 : decode cX9_setsOf 1 = .ok (.iload_n 0, 1) := by decide +kernel
theorem dX9_setsOf_2 : decode cX9_setsOf 2 = .ok (.ishl, 1) := by decide +kernel
theorem dX9_setsOf_3 : decode cX9_setsOf 3 = .ok (.ireturn, 1) := by decide +kernel
def F_X9_setsOf (x0 : Int32) : Option (Int32) := some (((1 : Int32) <<< (x0 &&& 31)))
theorem hdS_X9_setsOf : yX9_setsOf.cls ≠ "java/lang/invoke/MethodHandle" ∧ yX9_setsOf.cls ≠ "java/lang/invoke/VarHandle" ∧ (parseMethodDescriptor yX9_setsOf.desc).map (fun d => d.parameters.length) = some 1 := by decide +kernel
set_option maxHeartbeats 4000000 in
set_option maxRecDepth 100000 in
theorem c_X9_setsOf (l : Launch) (G : GG) (x0 : Int32) (out : Int32) (hF : F_X9_setsOf x0 = some out) : CtrI l yX9_setsOf (WS yX9_setsOf cX9_setsOf 1 (some .int)) { frames := 0, cells := 0, slots := 0, locals := 0 } G [.int x0] [] [] out := by
  refine startI (cc := cX9_setsOf) (maxL := 1) (by decide) rfl (Nat.le_of_ble_eq_true rfl) ?_
  intro p e s m args below meth c A Q hx hb hml hts hown hc hA hret ls H locs hl hW
  have hown : s.vm.findClass RX9 = some m.cls := hown
  have hg : ∀ w ∈ GOODS, w.before _ s = true := fun w h => hts w (List.mem_cons_of_mem _ h)
  have hl : lv_has ls 1 [(0, .int x0)] := hl
  rw [F_X9_setsOf] at hF
  refine lv_iconst (v := 1) hx hb dX9_setsOf_0 (by decide) ?_
  refine lv_iload_n hx hb dX9_setsOf_1 rfl (lv_at hl 0 rfl) ?_
  refine lv_ishl hx hb dX9_setsOf_2 ?_
  obtain rfl := Option.some.inj hF
  exact hret _ _ _ _ hW dX9_setsOf_3
theorem dX9_isSet_0 : decode cX9_isSet 0 = .ok (.iload_n 0, 1) := by decide +kernel
theorem dX9_isSet_1 : decode cX9_isSet 1 = .ok (.iconst 0, 1) := by decide +kernel
theorem dX9_isSet_2 : decode cX9_isSet 2 = .ok (.iload_n 1, 1) := by decide +kernel
theorem dX9_isSet_3 : decode cX9_isSet 3 = .ok (.invokestatic 196, 3) := by decide +kernel
theorem dX9_isSet_6 : decode cX9_isSet 6 = .ok (.iconst 1, 1) := by decide +kernel
theorem dX9_isSet_7 : decode cX9_isSet 7 = .ok (.isub, 1) := by decide +kernel
theorem dX9_isSet_8 : decode cX9_isSet 8 = .ok (.invokestatic 104, 3) := by decide +kernel
theorem dX9_isSet_11 : decode cX9_isSet 11 = .ok (.ireturn, 1) := by decide +kernel
def F_X9_isSet (x0 : Int32) (x1 : Int32) : Option (Int32) := (F_X9_setsOf x1).bind (fun q3 => (F_X9_isWithin x0 0 ((q3 - 1))).bind (fun q8 => some (q8)))
theorem hdS_X9_isSet : yX9_isSet.cls ≠ "java/lang/invoke/MethodHandle" ∧ yX9_isSet.cls ≠ "java/lang/invoke/VarHandle" ∧ (parseMethodDescriptor yX9_isSet.desc).map (fun d => d.parameters.length) = some 2 := by decide +kernel
set_option maxHeartbeats 4000000 in
set_option maxRecDepth 100000 in
theorem c_X9_isSet (l : Launch) (G : GG) (x0 : Int32) (x1 : Int32) (out : Int32) (hF : F_X9_isSet x0 x1 = some out) : CtrZ l yX9_isSet (WS yX9_isSet cX9_isSet 2 (some .boolean)) { frames := 1, cells := 0, slots := 0, locals := 22 } G [.int x0, .int x1] [] [] out := by
  refine startZ (cc := cX9_isSet) (maxL := 2) (by decide) rfl (Nat.le_of_ble_eq_true rfl) ?_
  intro p e s m args below meth c A Q hx hb hml hts hown hc hA hret ls H locs hl hW
  have hown : s.vm.findClass RX9 = some m.cls := hown
  have hg : ∀ w ∈ GOODS, w.before _ s = true := fun w h => hts w (List.mem_cons_of_mem _ h)
  have hl : lv_has ls 2 [(0, .int x0), (1, .int x1)] := hl
  rw [F_X9_isSet] at hF
  refine lv_iload_n hx hb dX9_isSet_0 rfl (lv_at hl 0 rfl) ?_
  refine lv_iconst (v := 0) hx hb dX9_isSet_1 (by decide) ?_
  refine lv_iload_n hx hb dX9_isSet_2 rfl (lv_at hl 1 rfl) ?_
  obtain ⟨q3, c_3, hF⟩ := bd_el hF
  refine wcI (ws' := []) (wc := []) (wr := []) (w1 := []) (va_runS (As := [.int x1]) (rest := [.int 0, .int x0]) ⟨hx, hb, hml, hown, hg⟩ (c_X9_setsOf l G x1 q3 c_3 H.size) (va_cwS 1 hg (gS wd_2_169 wd_2_170 wd_1_1 wd_2_171) rfl rfl rfl hdS_X9_setsOf ⟨(Nat.le_of_ble_eq_true rfl), (Nat.le_of_ble_eq_true rfl)⟩) (preS hc hW [] rfl (by decide)) rfl rfl hl.1 rfl (lv_room (Nat.le_of_ble_eq_true rfl)) dX9_isSet_3 ⟨Nat.zero_le _, Nat.zero_le _⟩) hA hW [] [] [] rfl rfl (by decide) (by decide) rfl (by decide) (fun H locs hW => ?_)
  refine lv_iconst (v := 1) hx hb dX9_isSet_6 (by decide) ?_
  refine lv_isub hx hb dX9_isSet_7 ?_
  obtain ⟨q8, c_8, hF⟩ := bd_el hF
  refine wcZ (ws' := []) (wc := []) (wr := []) (w1 := []) (va_runS (As := [.int x0, .int 0, .int ((q3 - 1))]) (rest := []) ⟨hx, hb, hml, hown, hg⟩ (c_X9_isWithin l G x0 0 ((q3 - 1)) q8 c_8 H.size) (va_cwS 3 hg (gS wd_2_140 wd_2_47 wd_1_1 wd_2_48) rfl rfl rfl hdS_X9_isWithin ⟨(Nat.le_of_ble_eq_true rfl), (Nat.le_of_ble_eq_true rfl)⟩) (preS hc hW [] rfl (by decide)) rfl rfl hl.1 rfl (lv_room (Nat.le_of_ble_eq_true rfl)) dX9_isSet_8 ⟨Nat.zero_le _, Nat.zero_le _⟩) hA hW [] [] [] rfl rfl (by decide) (by decide) rfl (by decide) (fun z_8 H locs hW => ?_)
  obtain rfl := Option.some.inj hF
  exact hret _ _ _ _ hW z_8 dX9_isSet_11
theorem dX9_fourTo_0 : decode cX9_fourTo 0 = .ok (.lconst 1, 1) := by decide +kernel
theorem dX9_fourTo_1 : decode cX9_fourTo 1 = .ok (.iconst 2, 1) := by decide +kernel
theorem dX9_fourTo_2 : decode cX9_fourTo 2 = .ok (.iload_n 0, 1) := by decide +kernel
theorem dX9_fourTo_3 : decode cX9_fourTo 3 = .ok (.imul, 1) := by decide +kernel
theorem dX9_fourTo_4 : decode cX9_fourTo 4 = .ok (.lshl, 1) := by decide +kernel
theorem dX9_fourTo_5 : decode cX9_fourTo 5 = .ok (.lreturn, 1) := by decide +kernel
def F_X9_fourTo (x0 : Int32) : Option (Int64) := some (((1 : Int64) <<< (Int32.toInt64 ((2 * x0)) &&& 63)))
theorem hdS_X9_fourTo : yX9_fourTo.cls ≠ "java/lang/invoke/MethodHandle" ∧ yX9_fourTo.cls ≠ "java/lang/invoke/VarHandle" ∧ (parseMethodDescriptor yX9_fourTo.desc).map (fun d => d.parameters.length) = some 1 := by decide +kernel
set_option maxHeartbeats 4000000 in
set_option maxRecDepth 100000 in
theorem c_X9_fourTo (l : Launch) (G : GG) (x0 : Int32) (out : Int64) (hF : F_X9_fourTo x0 = some out) : CtrJ l yX9_fourTo (WS yX9_fourTo cX9_fourTo 1 (some .long)) { frames := 0, cells := 0, slots := 0, locals := 0 } G [.int x0] [] [] out := by
  refine startJ (cc := cX9_fourTo) (maxL := 1) (by decide) rfl (Nat.le_of_ble_eq_true rfl) ?_
  intro p e s m args below meth c A Q hx hb hml hts hown hc hA hret ls H locs hl hW
  have hown : s.vm.findClass RX9 = some m.cls := hown
  have hg : ∀ w ∈ GOODS, w.before _ s = true := fun w h => hts w (List.mem_cons_of_mem _ h)
  have hl : lv_has ls 1 [(0, .int x0)] := hl
  rw [F_X9_fourTo] at hF
  refine lv_lconst (v := 1) hx hb dX9_fourTo_0 (by decide) ?_
  refine lv_iconst (v := 2) hx hb dX9_fourTo_1 (by decide) ?_
  refine lv_iload_n hx hb dX9_fourTo_2 rfl (lv_at hl 0 rfl) ?_
  refine lv_imul hx hb dX9_fourTo_3 ?_
  refine lv_lshl hx hb dX9_fourTo_4 rfl ?_
  obtain rfl := Option.some.inj hF
  exact hret _ _ _ _ hW dX9_fourTo_5
theorem dX9_commonDivisor_0 : decode cX9_commonDivisor 0 = .ok (.lload_n 0, 1) := by decide +kernel
theorem dX9_commonDivisor_1 : decode cX9_commonDivisor 1 = .ok (.lstore 4, 2) := by decide +kernel
theorem dX9_commonDivisor_3 : decode cX9_commonDivisor 3 = .ok (.lload_n 2, 1) := by decide +kernel
theorem dX9_commonDivisor_4 : decode cX9_commonDivisor 4 = .ok (.lstore 6, 2) := by decide +kernel
theorem dX9_commonDivisor_6 : decode cX9_commonDivisor 6 = .ok (.iconst 0, 1) := by decide +kernel
theorem dX9_commonDivisor_7 : decode cX9_commonDivisor 7 = .ok (.istore 8, 2) := by decide +kernel
theorem dX9_commonDivisor_9 : decode cX9_commonDivisor 9 = .ok (.iload 8, 2) := by decide +kernel
theorem dX9_commonDivisor_11 : decode cX9_commonDivisor 11 = .ok (.bipush 100, 2) := by decide +kernel
theorem dX9_commonDivisor_13 : decode cX9_commonDivisor 13 = .ok (.if_icmp .ge 31, 3) := by decide +kernel
theorem dX9_commonDivisor_16 : decode cX9_commonDivisor 16 = .ok (.lload 6, 2) := by decide +kernel
theorem dX9_commonDivisor_18 : decode cX9_commonDivisor 18 = .ok (.lconst 0, 1) := by decide +kernel
theorem dX9_commonDivisor_19 : decode cX9_commonDivisor 19 = .ok (.lcmp, 1) := by decide +kernel
theorem dX9_commonDivisor_20 : decode cX9_commonDivisor 20 = .ok (.ifCond .eq 24, 3) := by decide +kernel
theorem dX9_commonDivisor_23 : decode cX9_commonDivisor 23 = .ok (.lload 4, 2) := by decide +kernel
theorem dX9_commonDivisor_25 : decode cX9_commonDivisor 25 = .ok (.lload 6, 2) := by decide +kernel
theorem dX9_commonDivisor_27 : decode cX9_commonDivisor 27 = .ok (.lrem, 1) := by decide +kernel
theorem dX9_commonDivisor_28 : decode cX9_commonDivisor 28 = .ok (.lstore 9, 2) := by decide +kernel
theorem dX9_commonDivisor_30 : decode cX9_commonDivisor 30 = .ok (.lload 6, 2) := by decide +kernel
theorem dX9_commonDivisor_32 : decode cX9_commonDivisor 32 = .ok (.lstore 4, 2) := by decide +kernel
theorem dX9_commonDivisor_34 : decode cX9_commonDivisor 34 = .ok (.lload 9, 2) := by decide +kernel
theorem dX9_commonDivisor_36 : decode cX9_commonDivisor 36 = .ok (.lstore 6, 2) := by decide +kernel
theorem dX9_commonDivisor_38 : decode cX9_commonDivisor 38 = .ok (.iinc 8 1, 3) := by decide +kernel
theorem dX9_commonDivisor_41 : decode cX9_commonDivisor 41 = .ok (.goto (-32), 3) := by decide +kernel
theorem dX9_commonDivisor_44 : decode cX9_commonDivisor 44 = .ok (.lload 4, 2) := by decide +kernel
theorem dX9_commonDivisor_46 : decode cX9_commonDivisor 46 = .ok (.lreturn, 1) := by decide +kernel
def L_X9_commonDivisor_9  : Nat → Int64 → Int64 → Int32 → Option (Int64)
  | 0, _, _, _ => none
  | n + 1, x4_9, x6_9, x8_9 => (if 100 ≤ x8_9 then some (x4_9) else (if (lg_cmp x6_9 0) = 0 then some (x4_9) else (if x6_9 = 0 then none else L_X9_commonDivisor_9 n x6_9 ((x4_9 - x4_9 / x6_9 * x6_9)) ((x8_9 + 1)))))
def F_X9_commonDivisor (x0 : Int64) (x2 : Int64) : Option (Int64) := L_X9_commonDivisor_9 5000 x0 x2 0
theorem hdS_X9_commonDivisor : yX9_commonDivisor.cls ≠ "java/lang/invoke/MethodHandle" ∧ yX9_commonDivisor.cls ≠ "java/lang/invoke/VarHandle" ∧ (parseMethodDescriptor yX9_commonDivisor.desc).map (fun d => d.parameters.length) = some 2 := by decide +kernel
set_option maxHeartbeats 4000000 in
set_option maxRecDepth 100000 in
theorem c_X9_commonDivisor (l : Launch) (G : GG) (x0 : Int64) (x2 : Int64) (out : Int64) (hF : F_X9_commonDivisor x0 x2 = some out) : CtrJ l yX9_commonDivisor (WS yX9_commonDivisor cX9_commonDivisor 11 (some .long)) { frames := 0, cells := 0, slots := 0, locals := 0 } G [.long x0, .long x2] [] [] out := by
  refine startJ (cc := cX9_commonDivisor) (maxL := 11) (by decide) rfl (Nat.le_of_ble_eq_true rfl) ?_
  intro p e s m args below meth c A Q hx hb hml hts hown hc hA hret ls H locs hl hW
  have hown : s.vm.findClass RX9 = some m.cls := hown
  have hg : ∀ w ∈ GOODS, w.before _ s = true := fun w h => hts w (List.mem_cons_of_mem _ h)
  have hl : lv_has ls 11 [(0, .long x0), (2, .long x2)] := hl
  rw [F_X9_commonDivisor] at hF
  refine lv_lload_n hx hb dX9_commonDivisor_0 rfl (lv_at hl 0 rfl) ?_
  refine lv_lstore (lv' := [(4, .long x0), (0, .long x0), (2, .long x2)]) hx hb dX9_commonDivisor_1 hl (by decide) rfl (fun ls hl => ?_)
  refine lv_lload_n hx hb dX9_commonDivisor_3 rfl (lv_at hl 2 rfl) ?_
  refine lv_lstore (lv' := [(6, .long x2), (4, .long x0), (0, .long x0), (2, .long x2)]) hx hb dX9_commonDivisor_4 hl (by decide) rfl (fun ls hl => ?_)
  refine lv_iconst (v := 0) hx hb dX9_commonDivisor_6 (by decide) ?_
  refine lv_istore (lv' := [(8, .int 0), (6, .long x2), (4, .long x0), (0, .long x0), (2, .long x2)]) hx hb dX9_commonDivisor_7 hl (by decide) rfl (fun ls hl => ?_)
  have L_9 : ∀ (n : Nat) (x4_9 : Int64) (x6_9 : Int64) (x8_9 : Int32) (ls : Array Slot) (H : Heap) (locs : List Loc), L_X9_commonDivisor_9 n x4_9 x6_9 x8_9 = some out → lv_has ls 11 [(4, .long x4_9), (6, .long x6_9), (8, .int x8_9)] → Wd G A s.heap [] H locs → W p l e ({ frames := 0, cells := 0, slots := 0, locals := 0 } : Room) s m args below meth c H locs 0 0 Q (F0 m 9 ls []) := by
    intro n
    induction n with
    | zero => intro x4_9 x6_9 x8_9 ls H locs hF hl hW; have h0 : none = some out := hF; cases h0
    | succ n ih =>
      intro x4_9 x6_9 x8_9 ls H locs hF hl hW
      rw [L_X9_commonDivisor_9] at hF
      refine lv_iload hx hb dX9_commonDivisor_9 (lv_at hl 2 rfl) ?_
      refine lv_bipush (v := 100) hx hb dX9_commonDivisor_11 (by decide) ?_
      refine lv_icmp_ge (tgt := 44) hx hb dX9_commonDivisor_13 (by decide) (fun c_13 => ?_) (fun c_13 => ?_)
      · have hF := ite_t hF c_13
        refine lv_lload hx hb dX9_commonDivisor_44 (lv_at hl 0 rfl) ?_
        obtain rfl := Option.some.inj hF
        exact hret _ _ _ _ hW dX9_commonDivisor_46
      · have hF := ite_f hF c_13
        refine lv_lload hx hb dX9_commonDivisor_16 (lv_at hl 1 rfl) ?_
        refine lv_lconst (v := 0) hx hb dX9_commonDivisor_18 (by decide) ?_
        refine W.lcmp hx hb dX9_commonDivisor_19 ?_
        refine lv_if_eq (tgt := 44) hx hb dX9_commonDivisor_20 (by decide) (fun c_20 => ?_) (fun c_20 => ?_)
        · have hF := ite_t hF c_20
          refine lv_lload hx hb dX9_commonDivisor_44 (lv_at hl 0 rfl) ?_
          obtain rfl := Option.some.inj hF
          exact hret _ _ _ _ hW dX9_commonDivisor_46
        · have hF := ite_f hF c_20
          refine lv_lload hx hb dX9_commonDivisor_23 (lv_at hl 0 rfl) ?_
          refine lv_lload hx hb dX9_commonDivisor_25 (lv_at hl 1 rfl) ?_
          obtain ⟨z_27, hF⟩ := nzl_el hF
          refine lv_lrem hx hb dX9_commonDivisor_27 z_27 ?_
          refine lv_lstore (lv' := [(9, .long ((x4_9 - x4_9 / x6_9 * x6_9))), (4, .long x4_9), (6, .long x6_9), (8, .int x8_9)]) hx hb dX9_commonDivisor_28 hl (by decide) rfl (fun ls hl => ?_)
          refine lv_lload hx hb dX9_commonDivisor_30 (lv_at hl 2 rfl) ?_
          refine lv_lstore (lv' := [(4, .long x6_9), (9, .long ((x4_9 - x4_9 / x6_9 * x6_9))), (6, .long x6_9), (8, .int x8_9)]) hx hb dX9_commonDivisor_32 hl (by decide) rfl (fun ls hl => ?_)
          refine lv_lload hx hb dX9_commonDivisor_34 (lv_at hl 1 rfl) ?_
          refine lv_lstore (lv' := [(6, .long ((x4_9 - x4_9 / x6_9 * x6_9))), (4, .long x6_9), (9, .long ((x4_9 - x4_9 / x6_9 * x6_9))), (8, .int x8_9)]) hx hb dX9_commonDivisor_36 hl (by decide) rfl (fun ls hl => ?_)
          refine lv_iinc (v := (x8_9 + 1)) (lv' := [(8, .int ((x8_9 + 1))), (6, .long ((x4_9 - x4_9 / x6_9 * x6_9))), (4, .long x6_9), (9, .long ((x4_9 - x4_9 / x6_9 * x6_9)))]) hx hb dX9_commonDivisor_38 hl (k := 3) rfl rfl (by decide) rfl (fun ls hl => ?_)
          refine lv_goto (tgt := 9) hx hb dX9_commonDivisor_41 (by decide) ?_
          exact ih x6_9 ((x4_9 - x4_9 / x6_9 * x6_9)) ((x8_9 + 1)) _ _ _ hF (lv_sub hl [2, 1, 0] rfl) hW
  exact L_9 5000 x0 x2 0 _ _ _ hF (lv_sub hl [2, 1, 0] rfl) hW
theorem dX9_inLowestTerms_0 : decode cX9_inLowestTerms 0 = .ok (.lload_n 0, 1) := by decide +kernel
theorem dX9_inLowestTerms_1 : decode cX9_inLowestTerms 1 = .ok (.lload_n 2, 1) := by decide +kernel
theorem dX9_inLowestTerms_2 : decode cX9_inLowestTerms 2 = .ok (.invokestatic 259, 3) := by decide +kernel
theorem dX9_inLowestTerms_5 : decode cX9_inLowestTerms 5 = .ok (.lstore 5, 2) := by decide +kernel
theorem dX9_inLowestTerms_7 : decode cX9_inLowestTerms 7 = .ok (.lload 5, 2) := by decide +kernel
theorem dX9_inLowestTerms_9 : decode cX9_inLowestTerms 9 = .ok (.lconst 0, 1) := by decide +kernel
theorem dX9_inLowestTerms_10 : decode cX9_inLowestTerms 10 = .ok (.lcmp, 1) := by decide +kernel
theorem dX9_inLowestTerms_11 : decode cX9_inLowestTerms 11 = .ok (.ifCond .ne 5, 3) := by decide +kernel
theorem dX9_inLowestTerms_14 : decode cX9_inLowestTerms 14 = .ok (.lconst 0, 1) := by decide +kernel
theorem dX9_inLowestTerms_15 : decode cX9_inLowestTerms 15 = .ok (.lreturn, 1) := by decide +kernel
theorem dX9_inLowestTerms_16 : decode cX9_inLowestTerms 16 = .ok (.iload 4, 2) := by decide +kernel
theorem dX9_inLowestTerms_18 : decode cX9_inLowestTerms 18 = .ok (.ifCond .ne 7, 3) := by decide +kernel
theorem dX9_inLowestTerms_21 : decode cX9_inLowestTerms 21 = .ok (.lload_n 0, 1) := by decide +kernel
theorem dX9_inLowestTerms_22 : decode cX9_inLowestTerms 22 = .ok (.goto 4, 3) := by decide +kernel
theorem dX9_inLowestTerms_25 : decode cX9_inLowestTerms 25 = .ok (.lload_n 2, 1) := by decide +kernel
theorem dX9_inLowestTerms_26 : decode cX9_inLowestTerms 26 = .ok (.lload 5, 2) := by decide +kernel
theorem dX9_inLowestTerms_28 : decode cX9_inLowestTerms 28 = .ok (.ldiv, 1) := by decide +kernel
theorem dX9_inLowestTerms_29 : decode cX9_inLowestTerms 29 = .ok (.lreturn, 1) := by decide +kernel
def F_X9_inLowestTerms (x0 : Int64) (x2 : Int64) (x4 : Int32) : Option (Int64) := (F_X9_commonDivisor x0 x2).bind (fun q2 => (if (lg_cmp q2 0) = 0 then some (0) else jn (fun j0_26 => (if q2 = 0 then none else some ((j0_26 / q2)))) (fun k_26 => (if x4 = 0 then k_26 x0 else k_26 x2))))
theorem hdS_X9_inLowestTerms : yX9_inLowestTerms.cls ≠ "java/lang/invoke/MethodHandle" ∧ yX9_inLowestTerms.cls ≠ "java/lang/invoke/VarHandle" ∧ (parseMethodDescriptor yX9_inLowestTerms.desc).map (fun d => d.parameters.length) = some 3 := by decide +kernel
set_option maxHeartbeats 4000000 in
set_option maxRecDepth 100000 in
theorem c_X9_inLowestTerms (l : Launch) (G : GG) (x0 : Int64) (x2 : Int64) (x4 : Int32) (out : Int64) (hF : F_X9_inLowestTerms x0 x2 x4 = some out) : CtrJ l yX9_inLowestTerms (WS yX9_inLowestTerms cX9_inLowestTerms 7 (some .long)) { frames := 1, cells := 0, slots := 0, locals := 30 } G [.long x0, .long x2, .int x4] [] [] out := by
  refine startJ (cc := cX9_inLowestTerms) (maxL := 7) (by decide) rfl (Nat.le_of_ble_eq_true rfl) ?_
  intro p e s m args below meth c A Q hx hb hml hts hown hc hA hret ls H locs hl hW
  have hown : s.vm.findClass RX9 = some m.cls := hown
  have hg : ∀ w ∈ GOODS, w.before _ s = true := fun w h => hts w (List.mem_cons_of_mem _ h)
  have hl : lv_has ls 7 [(0, .long x0), (2, .long x2), (4, .int x4)] := hl
  rw [F_X9_inLowestTerms] at hF
  refine lv_lload_n hx hb dX9_inLowestTerms_0 rfl (lv_at hl 0 rfl) ?_
  refine lv_lload_n hx hb dX9_inLowestTerms_1 rfl (lv_at hl 1 rfl) ?_
  obtain ⟨q2, c_2, hF⟩ := bd_el hF
  refine wcJ (ws' := []) (wc := []) (wr := []) (w1 := []) (va_runS (As := [.long x0, .long x2]) (rest := []) ⟨hx, hb, hml, hown, hg⟩ (c_X9_commonDivisor l G x0 x2 q2 c_2 H.size) (va_cwS 2 hg (gS wd_3_39 wd_3_40 wd_1_1 wd_3_41) rfl rfl rfl hdS_X9_commonDivisor ⟨(Nat.le_of_ble_eq_true rfl), (Nat.le_of_ble_eq_true rfl)⟩) (preS hc hW [] rfl (by decide)) rfl rfl hl.1 rfl (lv_room (Nat.le_of_ble_eq_true rfl)) dX9_inLowestTerms_2 ⟨Nat.zero_le _, Nat.zero_le _⟩) hA hW [] [] [] rfl rfl (by decide) (by decide) rfl (by decide) (fun H locs hW => ?_)
  refine lv_lstore (lv' := [(5, .long q2), (0, .long x0), (2, .long x2), (4, .int x4)]) hx hb dX9_inLowestTerms_5 hl (by decide) rfl (fun ls hl => ?_)
  refine lv_lload hx hb dX9_inLowestTerms_7 (lv_at hl 0 rfl) ?_
  refine lv_lconst (v := 0) hx hb dX9_inLowestTerms_9 (by decide) ?_
  refine W.lcmp hx hb dX9_inLowestTerms_10 ?_
  refine lv_if_ne (tgt := 16) hx hb dX9_inLowestTerms_11 (by decide) (fun c_11 => ?_) (fun c_11 => ?_)
  · have hF := ite_f hF c_11
    refine lv_iload hx hb dX9_inLowestTerms_16 (lv_at hl 3 rfl) ?_
    obtain ⟨k_26, e_26, hF⟩ := jn_el hF
    have J_26 : ∀ (j0_26 : Int64) (ls : Array Slot) (H : Heap) (locs : List Loc), k_26 j0_26 = some out → lv_has ls 7 [(5, .long q2)] → Wd G A s.heap [] H locs → W p l e ({ frames := 1, cells := 0, slots := 0, locals := 30 } : Room) s m args below meth c H locs 0 0 Q (F0 m 26 ls [.long j0_26]) := by
      intro j0_26 ls H locs hF hl hW
      rw [e_26] at hF
      dsimp only at hF
      refine lv_lload hx hb dX9_inLowestTerms_26 (lv_at hl 0 rfl) ?_
      obtain ⟨z_28, hF⟩ := nzl_el hF
      refine lv_ldiv hx hb dX9_inLowestTerms_28 z_28 ?_
      obtain rfl := Option.some.inj hF
      exact hret _ _ _ _ hW dX9_inLowestTerms_29
    refine lv_if_ne (tgt := 25) hx hb dX9_inLowestTerms_18 (by decide) (fun c_18 => ?_) (fun c_18 => ?_)
    · have hF := ite_f hF c_18
      refine lv_lload_n hx hb dX9_inLowestTerms_25 rfl (lv_at hl 2 rfl) ?_
      exact J_26 x2 _ _ _ hF (lv_sub hl [0] rfl) hW
    · have hF := ite_t hF c_18
      refine lv_lload_n hx hb dX9_inLowestTerms_21 rfl (lv_at hl 1 rfl) ?_
      refine lv_goto (tgt := 26) hx hb dX9_inLowestTerms_22 (by decide) ?_
      exact J_26 x0 _ _ _ hF (lv_sub hl [0] rfl) hW
  · have hF := ite_t hF c_11
    refine lv_lconst (v := 0) hx hb dX9_inLowestTerms_14 (by decide) ?_
    obtain rfl := Option.some.inj hF
    exact hret _ _ _ _ hW dX9_inLowestTerms_15
theorem dX9_draw_0 : decode cX9_draw 0 = .ok (.ldc2_w 263, 3) := by decide +kernel
theorem dX9_draw_3 : decode cX9_draw 3 = .ok (.iload_n 0, 1) := by decide +kernel
theorem dX9_draw_4 : decode cX9_draw 4 = .ok (.i2l, 1) := by decide +kernel
theorem dX9_draw_5 : decode cX9_draw 5 = .ok (.lmul, 1) := by decide +kernel
theorem dX9_draw_6 : decode cX9_draw 6 = .ok (.ldc2_w 265, 3) := by decide +kernel
theorem dX9_draw_9 : decode cX9_draw 9 = .ok (.iload_n 1, 1) := by decide +kernel
theorem dX9_draw_10 : decode cX9_draw 10 = .ok (.i2l, 1) := by decide +kernel
theorem dX9_draw_11 : decode cX9_draw 11 = .ok (.lmul, 1) := by decide +kernel
theorem dX9_draw_12 : decode cX9_draw 12 = .ok (.ladd, 1) := by decide +kernel
theorem dX9_draw_13 : decode cX9_draw 13 = .ok (.lconst 1, 1) := by decide +kernel
theorem dX9_draw_14 : decode cX9_draw 14 = .ok (.ladd, 1) := by decide +kernel
theorem dX9_draw_15 : decode cX9_draw 15 = .ok (.lstore_n 2, 1) := by decide +kernel
theorem dX9_draw_16 : decode cX9_draw 16 = .ok (.lload_n 2, 1) := by decide +kernel
theorem dX9_draw_17 : decode cX9_draw 17 = .ok (.lload_n 2, 1) := by decide +kernel
theorem dX9_draw_18 : decode cX9_draw 18 = .ok (.lmul, 1) := by decide +kernel
theorem dX9_draw_19 : decode cX9_draw 19 = .ok (.ldc2_w 267, 3) := by decide +kernel
theorem dX9_draw_22 : decode cX9_draw 22 = .ok (.lrem, 1) := by decide +kernel
theorem dX9_draw_23 : decode cX9_draw 23 = .ok (.ldc2_w 269, 3) := by decide +kernel
theorem dX9_draw_26 : decode cX9_draw 26 = .ok (.ldiv, 1) := by decide +kernel
theorem dX9_draw_27 : decode cX9_draw 27 = .ok (.l2i, 1) := by decide +kernel
theorem dX9_draw_28 : decode cX9_draw 28 = .ok (.ireturn, 1) := by decide +kernel
def F_X9_draw (x0 : Int32) (x1 : Int32) : Option (Int32) := some ((Int64.toInt32 (((((((7919 * (Int32.toInt64 x0)) + (6151 * (Int32.toInt64 x1))) + 1) * (((7919 * (Int32.toInt64 x0)) + (6151 * (Int32.toInt64 x1))) + 1)) - ((((7919 * (Int32.toInt64 x0)) + (6151 * (Int32.toInt64 x1))) + 1) * (((7919 * (Int32.toInt64 x0)) + (6151 * (Int32.toInt64 x1))) + 1)) / 65521 * 65521) / 8))))
theorem hdS_X9_draw : yX9_draw.cls ≠ "java/lang/invoke/MethodHandle" ∧ yX9_draw.cls ≠ "java/lang/invoke/VarHandle" ∧ (parseMethodDescriptor yX9_draw.desc).map (fun d => d.parameters.length) = some 2 := by decide +kernel
set_option maxHeartbeats 4000000 in
set_option maxRecDepth 100000 in
theorem c_X9_draw (l : Launch) (G : GG) (x0 : Int32) (x1 : Int32) (out : Int32) (hF : F_X9_draw x0 x1 = some out) : CtrI l yX9_draw (WS yX9_draw cX9_draw 4 (some .int)) { frames := 0, cells := 0, slots := 0, locals := 0 } G [.int x0, .int x1] [] [] out := by
  refine startI (cc := cX9_draw) (maxL := 4) (by decide) rfl (Nat.le_of_ble_eq_true rfl) ?_
  intro p e s m args below meth c A Q hx hb hml hts hown hc hA hret ls H locs hl hW
  have hown : s.vm.findClass RX9 = some m.cls := hown
  have hg : ∀ w ∈ GOODS, w.before _ s = true := fun w h => hts w (List.mem_cons_of_mem _ h)
  have hl : lv_has ls 4 [(0, .int x0), (1, .int x1)] := hl
  rw [F_X9_draw] at hF
  refine lv_ldc2 (v := 7919) hx hb hown (hg _ wd_3_227) dX9_draw_0 ?_
  refine lv_iload_n hx hb dX9_draw_3 rfl (lv_at hl 0 rfl) ?_
  refine lv_i2l (v := (Int32.toInt64 x0)) hx hb dX9_draw_4 rfl ?_
  refine lv_lmul hx hb dX9_draw_5 ?_
  refine lv_ldc2 (v := 6151) hx hb hown (hg _ wd_3_228) dX9_draw_6 ?_
  refine lv_iload_n hx hb dX9_draw_9 rfl (lv_at hl 1 rfl) ?_
  refine lv_i2l (v := (Int32.toInt64 x1)) hx hb dX9_draw_10 rfl ?_
  refine lv_lmul hx hb dX9_draw_11 ?_
  refine lv_ladd hx hb dX9_draw_12 ?_
  refine lv_lconst (v := 1) hx hb dX9_draw_13 (by decide) ?_
  refine lv_ladd hx hb dX9_draw_14 ?_
  refine lv_lstore_n (lv' := [(2, .long ((((7919 * (Int32.toInt64 x0)) + (6151 * (Int32.toInt64 x1))) + 1))), (0, .int x0), (1, .int x1)]) hx hb dX9_draw_15 rfl hl (by decide) rfl (fun ls hl => ?_)
  refine lv_lload_n hx hb dX9_draw_16 rfl (lv_at hl 0 rfl) ?_
  refine lv_lload_n hx hb dX9_draw_17 rfl (lv_at hl 0 rfl) ?_
  refine lv_lmul hx hb dX9_draw_18 ?_
  refine lv_ldc2 (v := 65521) hx hb hown (hg _ wd_3_229) dX9_draw_19 ?_
  refine lv_lrem hx hb dX9_draw_22 (by decide) ?_
  refine lv_ldc2 (v := 8) hx hb hown (hg _ wd_3_230) dX9_draw_23 ?_
  refine lv_ldiv hx hb dX9_draw_26 (by decide) ?_
  refine lv_l2i (v := (Int64.toInt32 (((((((7919 * (Int32.toInt64 x0)) + (6151 * (Int32.toInt64 x1))) + 1) * (((7919 * (Int32.toInt64 x0)) + (6151 * (Int32.toInt64 x1))) + 1)) - ((((7919 * (Int32.toInt64 x0)) + (6151 * (Int32.toInt64 x1))) + 1) * (((7919 * (Int32.toInt64 x0)) + (6151 * (Int32.toInt64 x1))) + 1)) / 65521 * 65521) / 8)))) hx hb dX9_draw_27 rfl ?_
  obtain rfl := Option.some.inj hF
  exact hret _ _ _ _ hW dX9_draw_28
end
section
theorem dX6_append_0 : decode cX6_append 0 = .ok (.aload_n 0, 1) := by decide +kernel
theorem dX6_append_1 : decode cX6_append 1 = .ok (.getfield 13, 3) := by decide +kernel
theorem dX6_append_4 : decode cX6_append 4 = .ok (.sipush 200, 3) := by decide +kernel
theorem dX6_append_7 : decode cX6_append 7 = .ok (.if_icmp .ge 25, 3) := by decide +kernel
theorem dX6_append_10 : decode cX6_append 10 = .ok (.aload_n 0, 1) := by decide +kernel
theorem dX6_append_11 : decode cX6_append 11 = .ok (.getfield 9, 3) := by decide +kernel
theorem dX6_append_14 : decode cX6_append 14 = .ok (.aload_n 0, 1) := by decide +kernel
theorem dX6_append_15 : decode cX6_append 15 = .ok (.getfield 13, 3) := by decide +kernel
theorem dX6_append_18 : decode cX6_append 18 = .ok (.iload_n 1, 1) := by decide +kernel
theorem dX6_append_19 : decode cX6_append 19 = .ok (.invokestatic 17, 3) := by decide +kernel
theorem dX6_append_22 : decode cX6_append 22 = .ok (.aload_n 0, 1) := by decide +kernel
theorem dX6_append_23 : decode cX6_append 23 = .ok (.dup, 1) := by decide +kernel
theorem dX6_append_24 : decode cX6_append 24 = .ok (.getfield 13, 3) := by decide +kernel
theorem dX6_append_27 : decode cX6_append 27 = .ok (.iconst 1, 1) := by decide +kernel
theorem dX6_append_28 : decode cX6_append 28 = .ok (.iadd, 1) := by decide +kernel
theorem dX6_append_29 : decode cX6_append 29 = .ok (.putfield 13, 3) := by decide +kernel
theorem dX6_append_32 : decode cX6_append 32 = .ok (.return_, 1) := by decide +kernel
def F_X6_append (x1 : Int32) (v_length : Int32) (a_letters : Nat → Int32) : Option (Int32 × (Nat → Int32)) := (if 200 ≤ v_length then some (v_length, a_letters) else (F_X4_put v_length x1 200 a_letters).bind (fun q19 => some ((v_length + 1), q19)))
theorem hdV_X6_append : yX6_append.cls = RX6 ∧ yX6_append.cls ≠ "java/lang/invoke/MethodHandle" ∧ yX6_append.cls ≠ "java/lang/invoke/VarHandle" ∧ (parseMethodDescriptor yX6_append.desc).map (fun d => d.parameters.length) = some 1 := by decide +kernel
set_option maxHeartbeats 4000000 in
set_option maxRecDepth 100000 in
theorem c_X6_append (l : Launch) (G : GG) (x1 : Int32) (h_this : Nat) (ad_this : Nat → Nat) (v_length : Int32) (a_letters : Nat → Int32) (out : Int32 × (Nat → Int32)) (hF : F_X6_append x1 v_length a_letters = some out) : CtrV l yX6_append (WS yX6_append cX6_append 2 none) { frames := 1, cells := 0, slots := 0, locals := 22 } G [.ref h_this, .int x1] [(h_this, oX6 ad_this v_length), ((ad_this 0), cI G 200 a_letters)] [(h_this, oX6 ad_this out.1), ((ad_this 0), cI G 200 out.2)] := by
  refine startV (cc := cX6_append) (maxL := 2) (by decide) rfl (Nat.le_of_ble_eq_true rfl) ?_
  intro p e s m args below meth c A Q hx hb hml hts hown hc hA hret ls H locs hl hW
  have hown : s.vm.findClass RX6 = some m.cls := hown
  have hg : ∀ w ∈ GOODS, w.before _ s = true := fun w h => hts w (List.mem_cons_of_mem _ h)
  have hl : lv_has ls 2 [(0, .ref h_this), (1, .int x1)] := hl
  rw [F_X6_append] at hF
  refine lv_aload_n hx hb dX6_append_0 rfl (lv_at hl 0 rfl) ?_
  refine va_get (D := G.1) (ci := 5) (v := .int v_length) (C := RX6) (T := TX6) (N := 2) hx hb hg hu_X6 hown hc.1 hW.1 0 rfl rfl 1 (by decide) (hg _ wd_1_33) (fun _ h9 => h9) rfl dX6_append_1 ?_
  refine lv_sipush (v := 200) hx hb dX6_append_4 (by decide) ?_
  refine lv_icmp_ge (tgt := 32) hx hb dX6_append_7 (by decide) (fun c_7 => ?_) (fun c_7 => ?_)
  · have hF := ite_t hF c_7
    obtain rfl := Option.some.inj hF
    exact hret _ _ _ _ hW dX6_append_32
  · have hF := ite_f hF c_7
    refine lv_aload_n hx hb dX6_append_10 rfl (lv_at hl 0 rfl) ?_
    refine va_get (D := G.1) (ci := 5) (v := .ref ((ad_this 0))) (C := RX6) (T := TX6) (N := 2) hx hb hg hu_X6 hown hc.1 hW.1 0 rfl rfl 0 (by decide) (hg _ wd_1_32) (fun _ h9 => h9) rfl dX6_append_11 ?_
    refine lv_aload_n hx hb dX6_append_14 rfl (lv_at hl 0 rfl) ?_
    refine va_get (D := G.1) (ci := 5) (v := .int v_length) (C := RX6) (T := TX6) (N := 2) hx hb hg hu_X6 hown hc.1 hW.1 0 rfl rfl 1 (by decide) (hg _ wd_1_33) (fun _ h9 => h9) rfl dX6_append_15 ?_
    refine lv_iload_n hx hb dX6_append_18 rfl (lv_at hl 1 rfl) ?_
    obtain ⟨q19, c_19, hF⟩ := bd_el hF
    refine wcV (ws' := [(h_this, oX6 ad_this v_length), ((ad_this 0), cI G 200 q19)]) (wc := [((ad_this 0), cI G 200 a_letters)]) (wr := [(h_this, oX6 ad_this v_length)]) (w1 := [((ad_this 0), cI G 200 q19)]) (va_runS (As := [.ref ((ad_this 0)), .int v_length, .int x1]) (rest := []) ⟨hx, hb, hml, hown, hg⟩ (c_X4_put l G v_length x1 200 ((ad_this 0)) a_letters q19 c_19 H.size) (va_cwS 3 hg (gS wd_2_16 wd_2_17 wd_1_14 wd_2_18) rfl rfl rfl hdS_X4_put ⟨(Nat.le_of_ble_eq_true rfl), (Nat.le_of_ble_eq_true rfl)⟩) (preS hc hW [1] rfl (by decide)) rfl rfl hl.1 rfl (lv_room (Nat.le_of_ble_eq_true rfl)) dX6_append_19 ⟨Nat.zero_le _, Nat.zero_le _⟩) hA hW [1] [0] [0, 1] rfl rfl (by decide) (by decide) rfl (by decide) (fun H locs hW => ?_)
    refine lv_aload_n hx hb dX6_append_22 rfl (lv_at hl 0 rfl) ?_
    refine lv_dup hx hb dX6_append_23 rfl ?_
    refine va_get (D := G.1) (ci := 5) (v := .int v_length) (C := RX6) (T := TX6) (N := 2) hx hb hg hu_X6 hown hc.1 hW.1 0 rfl rfl 1 (by decide) (hg _ wd_1_33) (fun _ h9 => h9) rfl dX6_append_24 ?_
    refine lv_iconst (v := 1) hx hb dX6_append_27 (by decide) ?_
    refine lv_iadd hx hb dX6_append_28 ?_
    refine va_put (D := G.1) (ci := 5) (v := .int ((v_length + 1))) (ty := .int) (C := RX6) (T := TX6) (N := 2) hx hb hg hu_X6 tyX6 tyX6_ok nmX6 hown hc.1 hW.1 hW.2.1 hW.2.2 0 rfl rfl 1 (by decide) (hg _ wd_1_33) (fun _ h9 => h9) rfl (by decide +kernel) rfl rfl (Nat.le_of_ble_eq_true rfl) dX6_append_29 (fun H locs hP hD hS => ?_)
    have hW : Wd G A s.heap [(h_this, oX6 ad_this ((v_length + 1))), ((ad_this 0), cI G 200 q19)] H locs := ⟨hP, hD, hS⟩
    obtain rfl := Option.some.inj hF
    exact hret _ _ _ _ hW dX6_append_32
theorem dX6_empty_0 : decode cX6_empty 0 = .ok (.aload_n 0, 1) := by decide +kernel
theorem dX6_empty_1 : decode cX6_empty 1 = .ok (.iconst 0, 1) := by decide +kernel
theorem dX6_empty_2 : decode cX6_empty 2 = .ok (.putfield 13, 3) := by decide +kernel
theorem dX6_empty_5 : decode cX6_empty 5 = .ok (.return_, 1) := by decide +kernel
def F_X6_empty (v_length : Int32) : Option (Int32) := some (0)
theorem hdV_X6_empty : yX6_empty.cls = RX6 ∧ yX6_empty.cls ≠ "java/lang/invoke/MethodHandle" ∧ yX6_empty.cls ≠ "java/lang/invoke/VarHandle" ∧ (parseMethodDescriptor yX6_empty.desc).map (fun d => d.parameters.length) = some 0 := by decide +kernel
set_option maxHeartbeats 4000000 in
set_option maxRecDepth 100000 in
theorem c_X6_empty (l : Launch) (G : GG) (h_this : Nat) (ad_this : Nat → Nat) (v_length : Int32) (out : Int32) (hF : F_X6_empty v_length = some out) : CtrV l yX6_empty (WS yX6_empty cX6_empty 1 none) { frames := 0, cells := 0, slots := 0, locals := 0 } G [.ref h_this] [(h_this, oX6 ad_this v_length)] [(h_this, oX6 ad_this out)] := by
  refine startV (cc := cX6_empty) (maxL := 1) (by decide) rfl (Nat.le_of_ble_eq_true rfl) ?_
  intro p e s m args below meth c A Q hx hb hml hts hown hc hA hret ls H locs hl hW
  have hown : s.vm.findClass RX6 = some m.cls := hown
  have hg : ∀ w ∈ GOODS, w.before _ s = true := fun w h => hts w (List.mem_cons_of_mem _ h)
  have hl : lv_has ls 1 [(0, .ref h_this)] := hl
  rw [F_X6_empty] at hF
  refine lv_aload_n hx hb dX6_empty_0 rfl (lv_at hl 0 rfl) ?_
  refine lv_iconst (v := 0) hx hb dX6_empty_1 (by decide) ?_
  refine va_put (D := G.1) (ci := 5) (v := .int 0) (ty := .int) (C := RX6) (T := TX6) (N := 2) hx hb hg hu_X6 tyX6 tyX6_ok nmX6 hown hc.1 hW.1 hW.2.1 hW.2.2 0 rfl rfl 1 (by decide) (hg _ wd_1_33) (fun _ h9 => h9) rfl (by decide +kernel) rfl rfl (Nat.le_of_ble_eq_true rfl) dX6_empty_2 (fun H locs hP hD hS => ?_)
  have hW : Wd G A s.heap [(h_this, oX6 ad_this 0)] H locs := ⟨hP, hD, hS⟩
  obtain rfl := Option.some.inj hF
  exact hret _ _ _ _ hW dX6_empty_5
theorem dX6_letterAt_0 : decode cX6_letterAt 0 = .ok (.iload_n 1, 1) := by decide +kernel
theorem dX6_letterAt_1 : decode cX6_letterAt 1 = .ok (.aload_n 0, 1) := by decide +kernel
theorem dX6_letterAt_2 : decode cX6_letterAt 2 = .ok (.getfield 13, 3) := by decide +kernel
theorem dX6_letterAt_5 : decode cX6_letterAt 5 = .ok (.if_icmp .ge 14, 3) := by decide +kernel
theorem dX6_letterAt_8 : decode cX6_letterAt 8 = .ok (.aload_n 0, 1) := by decide +kernel
theorem dX6_letterAt_9 : decode cX6_letterAt 9 = .ok (.getfield 9, 3) := by decide +kernel
theorem dX6_letterAt_12 : decode cX6_letterAt 12 = .ok (.iload_n 1, 1) := by decide +kernel
theorem dX6_letterAt_13 : decode cX6_letterAt 13 = .ok (.invokestatic 23, 3) := by decide +kernel
theorem dX6_letterAt_16 : decode cX6_letterAt 16 = .ok (.goto 4, 3) := by decide +kernel
theorem dX6_letterAt_19 : decode cX6_letterAt 19 = .ok (.iconst 0, 1) := by decide +kernel
theorem dX6_letterAt_20 : decode cX6_letterAt 20 = .ok (.ireturn, 1) := by decide +kernel
def F_X6_letterAt (x1 : Int32) (v_length : Int32) (a_letters : Nat → Int32) : Option (Int32) := (if v_length ≤ x1 then some (0) else (F_X4_at x1 200 a_letters).bind (fun q13 => some (q13)))
theorem hdV_X6_letterAt : yX6_letterAt.cls = RX6 ∧ yX6_letterAt.cls ≠ "java/lang/invoke/MethodHandle" ∧ yX6_letterAt.cls ≠ "java/lang/invoke/VarHandle" ∧ (parseMethodDescriptor yX6_letterAt.desc).map (fun d => d.parameters.length) = some 1 := by decide +kernel
set_option maxHeartbeats 4000000 in
set_option maxRecDepth 100000 in
theorem c_X6_letterAt (l : Launch) (G : GG) (x1 : Int32) (h_this : Nat) (ad_this : Nat → Nat) (v_length : Int32) (a_letters : Nat → Int32) (out : Int32) (hF : F_X6_letterAt x1 v_length a_letters = some out) : CtrI l yX6_letterAt (WS yX6_letterAt cX6_letterAt 2 (some .int)) { frames := 1, cells := 0, slots := 0, locals := 21 } G [.ref h_this, .int x1] [(h_this, oX6 ad_this v_length), ((ad_this 0), cI G 200 a_letters)] [(h_this, oX6 ad_this v_length), ((ad_this 0), cI G 200 a_letters)] out := by
  refine startI (cc := cX6_letterAt) (maxL := 2) (by decide) rfl (Nat.le_of_ble_eq_true rfl) ?_
  intro p e s m args below meth c A Q hx hb hml hts hown hc hA hret ls H locs hl hW
  have hown : s.vm.findClass RX6 = some m.cls := hown
  have hg : ∀ w ∈ GOODS, w.before _ s = true := fun w h => hts w (List.mem_cons_of_mem _ h)
  have hl : lv_has ls 2 [(0, .ref h_this), (1, .int x1)] := hl
  rw [F_X6_letterAt] at hF
  refine lv_iload_n hx hb dX6_letterAt_0 rfl (lv_at hl 1 rfl) ?_
  refine lv_aload_n hx hb dX6_letterAt_1 rfl (lv_at hl 0 rfl) ?_
  refine va_get (D := G.1) (ci := 5) (v := .int v_length) (C := RX6) (T := TX6) (N := 2) hx hb hg hu_X6 hown hc.1 hW.1 0 rfl rfl 1 (by decide) (hg _ wd_1_33) (fun _ h9 => h9) rfl dX6_letterAt_2 ?_
  refine lv_icmp_ge (tgt := 19) hx hb dX6_letterAt_5 (by decide) (fun c_5 => ?_) (fun c_5 => ?_)
  · have hF := ite_t hF c_5
    refine lv_iconst (v := 0) hx hb dX6_letterAt_19 (by decide) ?_
    obtain rfl := Option.some.inj hF
    exact hret _ _ _ _ hW dX6_letterAt_20
  · have hF := ite_f hF c_5
    refine lv_aload_n hx hb dX6_letterAt_8 rfl (lv_at hl 0 rfl) ?_
    refine va_get (D := G.1) (ci := 5) (v := .ref ((ad_this 0))) (C := RX6) (T := TX6) (N := 2) hx hb hg hu_X6 hown hc.1 hW.1 0 rfl rfl 0 (by decide) (hg _ wd_1_32) (fun _ h9 => h9) rfl dX6_letterAt_9 ?_
    refine lv_iload_n hx hb dX6_letterAt_12 rfl (lv_at hl 1 rfl) ?_
    obtain ⟨q13, c_13, hF⟩ := bd_el hF
    refine wcI (ws' := [(h_this, oX6 ad_this v_length), ((ad_this 0), cI G 200 a_letters)]) (wc := [((ad_this 0), cI G 200 a_letters)]) (wr := [(h_this, oX6 ad_this v_length)]) (w1 := [((ad_this 0), cI G 200 a_letters)]) (va_runS (As := [.ref ((ad_this 0)), .int x1]) (rest := []) ⟨hx, hb, hml, hown, hg⟩ (c_X4_at l G x1 200 ((ad_this 0)) a_letters q13 c_13 H.size) (va_cwS 2 hg (gS wd_2_36 wd_2_37 wd_1_14 wd_2_38) rfl rfl rfl hdS_X4_at ⟨(Nat.le_of_ble_eq_true rfl), (Nat.le_of_ble_eq_true rfl)⟩) (preS hc hW [1] rfl (by decide)) rfl rfl hl.1 rfl (lv_room (Nat.le_of_ble_eq_true rfl)) dX6_letterAt_13 ⟨Nat.zero_le _, Nat.zero_le _⟩) hA hW [1] [0] [0, 1] rfl rfl (by decide) (by decide) rfl (by decide) (fun H locs hW => ?_)
    refine lv_goto (tgt := 20) hx hb dX6_letterAt_16 (by decide) ?_
    obtain rfl := Option.some.inj hF
    exact hret _ _ _ _ hW dX6_letterAt_20
theorem dX3_figure_0 : decode cX3_figure 0 = .ok (.iload_n 0, 1) := by decide +kernel
theorem dX3_figure_1 : decode cX3_figure 1 = .ok (.bipush 48, 2) := by decide +kernel
theorem dX3_figure_3 : decode cX3_figure 3 = .ok (.bipush 57, 2) := by decide +kernel
theorem dX3_figure_5 : decode cX3_figure 5 = .ok (.invokestatic 52, 3) := by decide +kernel
theorem dX3_figure_8 : decode cX3_figure 8 = .ok (.ifCond .eq 10, 3) := by decide +kernel
theorem dX3_figure_11 : decode cX3_figure 11 = .ok (.iload_n 0, 1) := by decide +kernel
theorem dX3_figure_12 : decode cX3_figure 12 = .ok (.bipush 48, 2) := by decide +kernel
theorem dX3_figure_14 : decode cX3_figure 14 = .ok (.isub, 1) := by decide +kernel
theorem dX3_figure_15 : decode cX3_figure 15 = .ok (.goto 4, 3) := by decide +kernel
theorem dX3_figure_18 : decode cX3_figure 18 = .ok (.iconst (-1), 1) := by decide +kernel
theorem dX3_figure_19 : decode cX3_figure 19 = .ok (.ireturn, 1) := by decide +kernel
def F_X3_figure (x0 : Int32) : Option (Int32) := (F_X9_isWithin x0 48 57).bind (fun q5 => (if q5 = 0 then some ((-1)) else some ((x0 - 48))))
theorem hdS_X3_figure : yX3_figure.cls ≠ "java/lang/invoke/MethodHandle" ∧ yX3_figure.cls ≠ "java/lang/invoke/VarHandle" ∧ (parseMethodDescriptor yX3_figure.desc).map (fun d => d.parameters.length) = some 1 := by decide +kernel
set_option maxHeartbeats 4000000 in
set_option maxRecDepth 100000 in
theorem c_X3_figure (l : Launch) (G : GG) (x0 : Int32) (out : Int32) (hF : F_X3_figure x0 = some out) : CtrI l yX3_figure (WS yX3_figure cX3_figure 1 (some .int)) { frames := 1, cells := 0, slots := 0, locals := 22 } G [.int x0] [] [] out := by
  refine startI (cc := cX3_figure) (maxL := 1) (by decide) rfl (Nat.le_of_ble_eq_true rfl) ?_
  intro p e s m args below meth c A Q hx hb hml hts hown hc hA hret ls H locs hl hW
  have hown : s.vm.findClass RX3 = some m.cls := hown
  have hg : ∀ w ∈ GOODS, w.before _ s = true := fun w h => hts w (List.mem_cons_of_mem _ h)
  have hl : lv_has ls 1 [(0, .int x0)] := hl
  rw [F_X3_figure] at hF
  refine lv_iload_n hx hb dX3_figure_0 rfl (lv_at hl 0 rfl) ?_
  refine lv_bipush (v := 48) hx hb dX3_figure_1 (by decide) ?_
  refine lv_bipush (v := 57) hx hb dX3_figure_3 (by decide) ?_
  obtain ⟨q5, c_5, hF⟩ := bd_el hF
  refine wcZ (ws' := []) (wc := []) (wr := []) (w1 := []) (va_runSN (As := [.int x0, .int 48, .int 57]) (rest := []) ⟨hx, hb, hml, hown, hg⟩ (c_X9_isWithin l G x0 48 57 q5 c_5 H.size) ⟨va_cnB 3 hg (gN wd_2_48) rfl rfl rfl (hc.2 (RX3, 52, yX9_isWithin) (by decide +kernel)) (hg _ wd_1_1) hdS_X9_isWithin ⟨(Nat.le_of_ble_eq_true rfl), (Nat.le_of_ble_eq_true rfl)⟩, (hg _ wd_2_47), trivial⟩ (preS hc hW [] rfl (by decide)) rfl rfl hl.1 rfl (lv_room (Nat.le_of_ble_eq_true rfl)) dX3_figure_5 ⟨Nat.zero_le _, Nat.zero_le _⟩) hA hW [] [] [] rfl rfl (by decide) (by decide) rfl (by decide) (fun z_5 H locs hW => ?_)
  refine lv_if_eq (tgt := 18) hx hb dX3_figure_8 (by decide) (fun c_8 => ?_) (fun c_8 => ?_)
  · have hF := ite_t hF c_8
    refine lv_iconst (v := (-1)) hx hb dX3_figure_18 (by decide) ?_
    obtain rfl := Option.some.inj hF
    exact hret _ _ _ _ hW dX3_figure_19
  · have hF := ite_f hF c_8
    refine lv_iload_n hx hb dX3_figure_11 rfl (lv_at hl 0 rfl) ?_
    refine lv_bipush (v := 48) hx hb dX3_figure_12 (by decide) ?_
    refine lv_isub hx hb dX3_figure_14 ?_
    refine lv_goto (tgt := 19) hx hb dX3_figure_15 (by decide) ?_
    obtain rfl := Option.some.inj hF
    exact hret _ _ _ _ hW dX3_figure_19
theorem dX3_numberAt_0 : decode cX3_numberAt 0 = .ok (.aload_n 0, 1) := by decide +kernel
theorem dX3_numberAt_1 : decode cX3_numberAt 1 = .ok (.getfield 11, 3) := by decide +kernel
theorem dX3_numberAt_4 : decode cX3_numberAt 4 = .ok (.iload_n 1, 1) := by decide +kernel
theorem dX3_numberAt_5 : decode cX3_numberAt 5 = .ok (.invokestatic 39, 3) := by decide +kernel
theorem dX3_numberAt_8 : decode cX3_numberAt 8 = .ok (.ireturn, 1) := by decide +kernel
def F_X3_numberAt (x1 : Int32) (a_numbers : Nat → Int32) : Option (Int32) := (F_X4_at x1 4 a_numbers).bind (fun q5 => some (q5))
theorem hdV_X3_numberAt : yX3_numberAt.cls = RX3 ∧ yX3_numberAt.cls ≠ "java/lang/invoke/MethodHandle" ∧ yX3_numberAt.cls ≠ "java/lang/invoke/VarHandle" ∧ (parseMethodDescriptor yX3_numberAt.desc).map (fun d => d.parameters.length) = some 1 := by decide +kernel
set_option maxHeartbeats 4000000 in
set_option maxRecDepth 100000 in
theorem c_X3_numberAt (l : Launch) (G : GG) (x1 : Int32) (h_this : Nat) (ad_this : Nat → Nat) (v_numberCount : Int32) (v_letter : Int32) (v_end : Int32) (a_numbers : Nat → Int32) (out : Int32) (hF : F_X3_numberAt x1 a_numbers = some out) : CtrI l yX3_numberAt (WS yX3_numberAt cX3_numberAt 2 (some .int)) { frames := 1, cells := 0, slots := 0, locals := 21 } G [.ref h_this, .int x1] [(h_this, oX3 ad_this v_numberCount v_letter v_end), ((ad_this 0), cI G 4 a_numbers)] [(h_this, oX3 ad_this v_numberCount v_letter v_end), ((ad_this 0), cI G 4 a_numbers)] out := by
  refine startI (cc := cX3_numberAt) (maxL := 2) (by decide) rfl (Nat.le_of_ble_eq_true rfl) ?_
  intro p e s m args below meth c A Q hx hb hml hts hown hc hA hret ls H locs hl hW
  have hown : s.vm.findClass RX3 = some m.cls := hown
  have hg : ∀ w ∈ GOODS, w.before _ s = true := fun w h => hts w (List.mem_cons_of_mem _ h)
  have hl : lv_has ls 2 [(0, .ref h_this), (1, .int x1)] := hl
  rw [F_X3_numberAt] at hF
  refine lv_aload_n hx hb dX3_numberAt_0 rfl (lv_at hl 0 rfl) ?_
  refine va_get (D := G.1) (ci := 3) (v := .ref ((ad_this 0))) (C := RX3) (T := TX3) (N := 4) hx hb hg hu_X3 hown hc.1 hW.1 0 rfl rfl 0 (by decide) (hg _ wd_1_48) (fun _ h9 => h9) rfl dX3_numberAt_1 ?_
  refine lv_iload_n hx hb dX3_numberAt_4 rfl (lv_at hl 1 rfl) ?_
  obtain ⟨q5, c_5, hF⟩ := bd_el hF
  refine wcI (ws' := [(h_this, oX3 ad_this v_numberCount v_letter v_end), ((ad_this 0), cI G 4 a_numbers)]) (wc := [((ad_this 0), cI G 4 a_numbers)]) (wr := [(h_this, oX3 ad_this v_numberCount v_letter v_end)]) (w1 := [((ad_this 0), cI G 4 a_numbers)]) (va_runS (As := [.ref ((ad_this 0)), .int x1]) (rest := []) ⟨hx, hb, hml, hown, hg⟩ (c_X4_at l G x1 4 ((ad_this 0)) a_numbers q5 c_5 H.size) (va_cwS 2 hg (gS wd_2_58 wd_2_37 wd_1_14 wd_2_38) rfl rfl rfl hdS_X4_at ⟨(Nat.le_of_ble_eq_true rfl), (Nat.le_of_ble_eq_true rfl)⟩) (preS hc hW [1] rfl (by decide)) rfl rfl hl.1 rfl (lv_room (Nat.le_of_ble_eq_true rfl)) dX3_numberAt_5 ⟨Nat.zero_le _, Nat.zero_le _⟩) hA hW [1] [0] [0, 1] rfl rfl (by decide) (by decide) rfl (by decide) (fun H locs hW => ?_)
  obtain rfl := Option.some.inj hF
  exact hret _ _ _ _ hW dX3_numberAt_8
theorem dX3_readNumber_0 : decode cX3_readNumber 0 = .ok (.aload_n 1, 1) := by decide +kernel
theorem dX3_readNumber_1 : decode cX3_readNumber 1 = .ok (.aload_n 0, 1) := by decide +kernel
theorem dX3_readNumber_2 : decode cX3_readNumber 2 = .ok (.getfield 25, 3) := by decide +kernel
theorem dX3_readNumber_5 : decode cX3_readNumber 5 = .ok (.invokevirtual 15, 3) := by decide +kernel
theorem dX3_readNumber_8 : decode cX3_readNumber 8 = .ok (.invokestatic 45, 3) := by decide +kernel
theorem dX3_readNumber_11 : decode cX3_readNumber 11 = .ok (.istore_n 2, 1) := by decide +kernel
theorem dX3_readNumber_12 : decode cX3_readNumber 12 = .ok (.iload_n 2, 1) := by decide +kernel
theorem dX3_readNumber_13 : decode cX3_readNumber 13 = .ok (.ifCond .ge 5, 3) := by decide +kernel
theorem dX3_readNumber_16 : decode cX3_readNumber 16 = .ok (.iconst 0, 1) := by decide +kernel
theorem dX3_readNumber_17 : decode cX3_readNumber 17 = .ok (.ireturn, 1) := by decide +kernel
theorem dX3_readNumber_18 : decode cX3_readNumber 18 = .ok (.aload_n 0, 1) := by decide +kernel
theorem dX3_readNumber_19 : decode cX3_readNumber 19 = .ok (.dup, 1) := by decide +kernel
theorem dX3_readNumber_20 : decode cX3_readNumber 20 = .ok (.getfield 25, 3) := by decide +kernel
theorem dX3_readNumber_23 : decode cX3_readNumber 23 = .ok (.iconst 1, 1) := by decide +kernel
theorem dX3_readNumber_24 : decode cX3_readNumber 24 = .ok (.iadd, 1) := by decide +kernel
theorem dX3_readNumber_25 : decode cX3_readNumber 25 = .ok (.putfield 25, 3) := by decide +kernel
theorem dX3_readNumber_28 : decode cX3_readNumber 28 = .ok (.iload_n 2, 1) := by decide +kernel
theorem dX3_readNumber_29 : decode cX3_readNumber 29 = .ok (.istore_n 3, 1) := by decide +kernel
theorem dX3_readNumber_30 : decode cX3_readNumber 30 = .ok (.aload_n 1, 1) := by decide +kernel
theorem dX3_readNumber_31 : decode cX3_readNumber 31 = .ok (.aload_n 0, 1) := by decide +kernel
theorem dX3_readNumber_32 : decode cX3_readNumber 32 = .ok (.getfield 25, 3) := by decide +kernel
theorem dX3_readNumber_35 : decode cX3_readNumber 35 = .ok (.invokevirtual 15, 3) := by decide +kernel
theorem dX3_readNumber_38 : decode cX3_readNumber 38 = .ok (.invokestatic 45, 3) := by decide +kernel
theorem dX3_readNumber_41 : decode cX3_readNumber 41 = .ok (.istore 4, 2) := by decide +kernel
theorem dX3_readNumber_43 : decode cX3_readNumber 43 = .ok (.iload 4, 2) := by decide +kernel
theorem dX3_readNumber_45 : decode cX3_readNumber 45 = .ok (.ifCond .lt 21, 3) := by decide +kernel
theorem dX3_readNumber_48 : decode cX3_readNumber 48 = .ok (.aload_n 0, 1) := by decide +kernel
theorem dX3_readNumber_49 : decode cX3_readNumber 49 = .ok (.dup, 1) := by decide +kernel
theorem dX3_readNumber_50 : decode cX3_readNumber 50 = .ok (.getfield 25, 3) := by decide +kernel
theorem dX3_readNumber_53 : decode cX3_readNumber 53 = .ok (.iconst 1, 1) := by decide +kernel
theorem dX3_readNumber_54 : decode cX3_readNumber 54 = .ok (.iadd, 1) := by decide +kernel
theorem dX3_readNumber_55 : decode cX3_readNumber 55 = .ok (.putfield 25, 3) := by decide +kernel
theorem dX3_readNumber_58 : decode cX3_readNumber 58 = .ok (.bipush 10, 2) := by decide +kernel
theorem dX3_readNumber_60 : decode cX3_readNumber 60 = .ok (.iload_n 2, 1) := by decide +kernel
theorem dX3_readNumber_61 : decode cX3_readNumber 61 = .ok (.imul, 1) := by decide +kernel
theorem dX3_readNumber_62 : decode cX3_readNumber 62 = .ok (.iload 4, 2) := by decide +kernel
theorem dX3_readNumber_64 : decode cX3_readNumber 64 = .ok (.iadd, 1) := by decide +kernel
theorem dX3_readNumber_65 : decode cX3_readNumber 65 = .ok (.istore_n 3, 1) := by decide +kernel
theorem dX3_readNumber_66 : decode cX3_readNumber 66 = .ok (.aload_n 0, 1) := by decide +kernel
theorem dX3_readNumber_67 : decode cX3_readNumber 67 = .ok (.getfield 11, 3) := by decide +kernel
theorem dX3_readNumber_70 : decode cX3_readNumber 70 = .ok (.aload_n 0, 1) := by decide +kernel
theorem dX3_readNumber_71 : decode cX3_readNumber 71 = .ok (.getfield 28, 3) := by decide +kernel
theorem dX3_readNumber_74 : decode cX3_readNumber 74 = .ok (.iload_n 3, 1) := by decide +kernel
theorem dX3_readNumber_75 : decode cX3_readNumber 75 = .ok (.invokestatic 48, 3) := by decide +kernel
theorem dX3_readNumber_78 : decode cX3_readNumber 78 = .ok (.aload_n 0, 1) := by decide +kernel
theorem dX3_readNumber_79 : decode cX3_readNumber 79 = .ok (.dup, 1) := by decide +kernel
theorem dX3_readNumber_80 : decode cX3_readNumber 80 = .ok (.getfield 28, 3) := by decide +kernel
theorem dX3_readNumber_83 : decode cX3_readNumber 83 = .ok (.iconst 1, 1) := by decide +kernel
theorem dX3_readNumber_84 : decode cX3_readNumber 84 = .ok (.iadd, 1) := by decide +kernel
theorem dX3_readNumber_85 : decode cX3_readNumber 85 = .ok (.putfield 28, 3) := by decide +kernel
theorem dX3_readNumber_88 : decode cX3_readNumber 88 = .ok (.iconst 1, 1) := by decide +kernel
theorem dX3_readNumber_89 : decode cX3_readNumber 89 = .ok (.ireturn, 1) := by decide +kernel
def F_X3_readNumber (v_end : Int32) (v_numberCount : Int32) (v_p1_length : Int32) (a_p1_letters : Nat → Int32) (a_numbers : Nat → Int32) : Option (Int32 × Int32 × Int32 × (Nat → Int32)) := (F_X6_letterAt v_end v_p1_length a_p1_letters).bind (fun q5 => (F_X3_figure q5).bind (fun q8 => (if 0 ≤ q8 then (F_X6_letterAt ((v_end + 1)) v_p1_length a_p1_letters).bind (fun q35 => (F_X3_figure q35).bind (fun q38 => jn (fun x3_66 v_end_66 => (F_X4_put v_numberCount x3_66 4 a_numbers).bind (fun q75 => some (1, v_end_66, (v_numberCount + 1), q75))) (fun k_66 => (if q38 < 0 then k_66 q8 ((v_end + 1)) else k_66 (((10 * q8) + q38)) (((v_end + 1) + 1)))))) else some (0, v_end, v_numberCount, a_numbers))))
theorem hdV_X3_readNumber : yX3_readNumber.cls = RX3 ∧ yX3_readNumber.cls ≠ "java/lang/invoke/MethodHandle" ∧ yX3_readNumber.cls ≠ "java/lang/invoke/VarHandle" ∧ (parseMethodDescriptor yX3_readNumber.desc).map (fun d => d.parameters.length) = some 1 := by decide +kernel
set_option maxHeartbeats 4000000 in
set_option maxRecDepth 100000 in
theorem c_X3_readNumber (l : Launch) (G : GG) (h_this : Nat) (h_p1 : Nat) (ad_this : Nat → Nat) (ad_p1 : Nat → Nat) (v_numberCount : Int32) (v_letter : Int32) (v_end : Int32) (v_p1_length : Int32) (a_p1_letters : Nat → Int32) (a_numbers : Nat → Int32) (out : Int32 × Int32 × Int32 × (Nat → Int32)) (hF : F_X3_readNumber v_end v_numberCount v_p1_length a_p1_letters a_numbers = some out) : CtrZ l yX3_readNumber (WS yX3_readNumber cX3_readNumber 5 (some .boolean)) { frames := 2, cells := 0, slots := 0, locals := 42 } G [.ref h_this, .ref h_p1] [(h_this, oX3 ad_this v_numberCount v_letter v_end), (h_p1, oX6 ad_p1 v_p1_length), ((ad_p1 0), cI G 200 a_p1_letters), ((ad_this 0), cI G 4 a_numbers)] [(h_this, oX3 ad_this out.2.2.1 v_letter out.2.1), (h_p1, oX6 ad_p1 v_p1_length), ((ad_p1 0), cI G 200 a_p1_letters), ((ad_this 0), cI G 4 out.2.2.2)] out.1 := by
  refine startZ (cc := cX3_readNumber) (maxL := 5) (by decide) rfl (Nat.le_of_ble_eq_true rfl) ?_
  intro p e s m args below meth c A Q hx hb hml hts hown hc hA hret ls H locs hl hW
  have hown : s.vm.findClass RX3 = some m.cls := hown
  have hg : ∀ w ∈ GOODS, w.before _ s = true := fun w h => hts w (List.mem_cons_of_mem _ h)
  have hl : lv_has ls 5 [(0, .ref h_this), (1, .ref h_p1)] := hl
  rw [F_X3_readNumber] at hF
  refine lv_aload_n hx hb dX3_readNumber_0 rfl (lv_at hl 1 rfl) ?_
  refine lv_aload_n hx hb dX3_readNumber_1 rfl (lv_at hl 0 rfl) ?_
  refine va_get (D := G.1) (ci := 3) (v := .int v_end) (C := RX3) (T := TX3) (N := 4) hx hb hg hu_X3 hown hc.1 hW.1 0 rfl rfl 3 (by decide) (hg _ wd_1_52) (fun _ h9 => h9) rfl dX3_readNumber_2 ?_
  obtain ⟨q5, c_5, hF⟩ := bd_el hF
  refine wcI (ws' := [(h_this, oX3 ad_this v_numberCount v_letter v_end), (h_p1, oX6 ad_p1 v_p1_length), ((ad_p1 0), cI G 200 a_p1_letters), ((ad_this 0), cI G 4 a_numbers)]) (wc := [(h_p1, oX6 ad_p1 v_p1_length), ((ad_p1 0), cI G 200 a_p1_letters)]) (wr := [(h_this, oX3 ad_this v_numberCount v_letter v_end), ((ad_this 0), cI G 4 a_numbers)]) (w1 := [(h_p1, oX6 ad_p1 v_p1_length), ((ad_p1 0), cI G 200 a_p1_letters)]) (va_runV (As := [.int v_end]) (rest := []) ⟨hx, hb, hml, hown, hg⟩ (c_X6_letterAt l G v_end h_p1 ad_p1 v_p1_length a_p1_letters q5 c_5 H.size) (cwV 1 hg (gV wd_2_32 wd_2_33 wd_2_34 wd_1_2 wd_2_35) rfl rfl rfl hdV_X6_letterAt ⟨(Nat.le_of_ble_eq_true rfl), (Nat.le_of_ble_eq_true rfl)⟩) (preV hc hW [1, 2] rfl (by decide) rfl rfl) rfl rfl hl.1 rfl (lv_room (Nat.le_of_ble_eq_true rfl)) dX3_readNumber_5 ⟨Nat.zero_le _, Nat.zero_le _⟩) hA hW [1, 2] [0, 3] [0, 2, 3, 1] rfl rfl (by decide) (by decide) rfl (by decide) (fun H locs hW => ?_)
  obtain ⟨q8, c_8, hF⟩ := bd_el hF
  refine wcI (ws' := [(h_this, oX3 ad_this v_numberCount v_letter v_end), (h_p1, oX6 ad_p1 v_p1_length), ((ad_p1 0), cI G 200 a_p1_letters), ((ad_this 0), cI G 4 a_numbers)]) (wc := []) (wr := [(h_this, oX3 ad_this v_numberCount v_letter v_end), (h_p1, oX6 ad_p1 v_p1_length), ((ad_p1 0), cI G 200 a_p1_letters), ((ad_this 0), cI G 4 a_numbers)]) (w1 := []) (va_runS (As := [.int q5]) (rest := []) ⟨hx, hb, hml, hown, hg⟩ (c_X3_figure l G q5 q8 c_8 H.size) (va_cwS 1 hg (gS wd_2_43 wd_2_44 wd_1_3 wd_2_45) rfl rfl rfl hdS_X3_figure ⟨(Nat.le_of_ble_eq_true rfl), (Nat.le_of_ble_eq_true rfl)⟩) (preS hc hW [] rfl (by decide)) rfl rfl hl.1 rfl (lv_room (Nat.le_of_ble_eq_true rfl)) dX3_readNumber_8 ⟨Nat.zero_le _, Nat.zero_le _⟩) hA hW [] [0, 1, 2, 3] [0, 1, 2, 3] rfl rfl (by decide) (by decide) rfl (by decide) (fun H locs hW => ?_)
  refine lv_istore_n (lv' := [(2, .int q8), (0, .ref h_this), (1, .ref h_p1)]) hx hb dX3_readNumber_11 rfl hl (by decide) rfl (fun ls hl => ?_)
  refine lv_iload_n hx hb dX3_readNumber_12 rfl (lv_at hl 0 rfl) ?_
  refine lv_if_ge (tgt := 18) hx hb dX3_readNumber_13 (by decide) (fun c_13 => ?_) (fun c_13 => ?_)
  · have hF := ite_t hF c_13
    refine lv_aload_n hx hb dX3_readNumber_18 rfl (lv_at hl 1 rfl) ?_
    refine lv_dup hx hb dX3_readNumber_19 rfl ?_
    refine va_get (D := G.1) (ci := 3) (v := .int v_end) (C := RX3) (T := TX3) (N := 4) hx hb hg hu_X3 hown hc.1 hW.1 0 rfl rfl 3 (by decide) (hg _ wd_1_52) (fun _ h9 => h9) rfl dX3_readNumber_20 ?_
    refine lv_iconst (v := 1) hx hb dX3_readNumber_23 (by decide) ?_
    refine lv_iadd hx hb dX3_readNumber_24 ?_
    refine va_put (D := G.1) (ci := 3) (v := .int ((v_end + 1))) (ty := .int) (C := RX3) (T := TX3) (N := 4) hx hb hg hu_X3 tyX3 tyX3_ok nmX3 hown hc.1 hW.1 hW.2.1 hW.2.2 0 rfl rfl 3 (by decide) (hg _ wd_1_52) (fun _ h9 => h9) rfl (by decide +kernel) rfl rfl (Nat.le_of_ble_eq_true rfl) dX3_readNumber_25 (fun H locs hP hD hS => ?_)
    have hW : Wd G A s.heap [(h_this, oX3 ad_this v_numberCount v_letter ((v_end + 1))), (h_p1, oX6 ad_p1 v_p1_length), ((ad_p1 0), cI G 200 a_p1_letters), ((ad_this 0), cI G 4 a_numbers)] H locs := ⟨hP, hD, hS⟩
    refine lv_iload_n hx hb dX3_readNumber_28 rfl (lv_at hl 0 rfl) ?_
    refine lv_istore_n (lv' := [(3, .int q8), (2, .int q8), (0, .ref h_this), (1, .ref h_p1)]) hx hb dX3_readNumber_29 rfl hl (by decide) rfl (fun ls hl => ?_)
    refine lv_aload_n hx hb dX3_readNumber_30 rfl (lv_at hl 3 rfl) ?_
    refine lv_aload_n hx hb dX3_readNumber_31 rfl (lv_at hl 2 rfl) ?_
    refine va_get (D := G.1) (ci := 3) (v := .int ((v_end + 1))) (C := RX3) (T := TX3) (N := 4) hx hb hg hu_X3 hown hc.1 hW.1 0 rfl rfl 3 (by decide) (hg _ wd_1_52) (fun _ h9 => h9) rfl dX3_readNumber_32 ?_
    obtain ⟨q35, c_35, hF⟩ := bd_el hF
    refine wcI (ws' := [(h_this, oX3 ad_this v_numberCount v_letter ((v_end + 1))), (h_p1, oX6 ad_p1 v_p1_length), ((ad_p1 0), cI G 200 a_p1_letters), ((ad_this 0), cI G 4 a_numbers)]) (wc := [(h_p1, oX6 ad_p1 v_p1_length), ((ad_p1 0), cI G 200 a_p1_letters)]) (wr := [(h_this, oX3 ad_this v_numberCount v_letter ((v_end + 1))), ((ad_this 0), cI G 4 a_numbers)]) (w1 := [(h_p1, oX6 ad_p1 v_p1_length), ((ad_p1 0), cI G 200 a_p1_letters)]) (va_runV (As := [.int ((v_end + 1))]) (rest := []) ⟨hx, hb, hml, hown, hg⟩ (c_X6_letterAt l G ((v_end + 1)) h_p1 ad_p1 v_p1_length a_p1_letters q35 c_35 H.size) (cwV 1 hg (gV wd_2_32 wd_2_33 wd_2_34 wd_1_2 wd_2_35) rfl rfl rfl hdV_X6_letterAt ⟨(Nat.le_of_ble_eq_true rfl), (Nat.le_of_ble_eq_true rfl)⟩) (preV hc hW [1, 2] rfl (by decide) rfl rfl) rfl rfl hl.1 rfl (lv_room (Nat.le_of_ble_eq_true rfl)) dX3_readNumber_35 ⟨Nat.zero_le _, Nat.zero_le _⟩) hA hW [1, 2] [0, 3] [0, 2, 3, 1] rfl rfl (by decide) (by decide) rfl (by decide) (fun H locs hW => ?_)
    obtain ⟨q38, c_38, hF⟩ := bd_el hF
    refine wcI (ws' := [(h_this, oX3 ad_this v_numberCount v_letter ((v_end + 1))), (h_p1, oX6 ad_p1 v_p1_length), ((ad_p1 0), cI G 200 a_p1_letters), ((ad_this 0), cI G 4 a_numbers)]) (wc := []) (wr := [(h_this, oX3 ad_this v_numberCount v_letter ((v_end + 1))), (h_p1, oX6 ad_p1 v_p1_length), ((ad_p1 0), cI G 200 a_p1_letters), ((ad_this 0), cI G 4 a_numbers)]) (w1 := []) (va_runS (As := [.int q35]) (rest := []) ⟨hx, hb, hml, hown, hg⟩ (c_X3_figure l G q35 q38 c_38 H.size) (va_cwS 1 hg (gS wd_2_43 wd_2_44 wd_1_3 wd_2_45) rfl rfl rfl hdS_X3_figure ⟨(Nat.le_of_ble_eq_true rfl), (Nat.le_of_ble_eq_true rfl)⟩) (preS hc hW [] rfl (by decide)) rfl rfl hl.1 rfl (lv_room (Nat.le_of_ble_eq_true rfl)) dX3_readNumber_38 ⟨Nat.zero_le _, Nat.zero_le _⟩) hA hW [] [0, 1, 2, 3] [0, 1, 2, 3] rfl rfl (by decide) (by decide) rfl (by decide) (fun H locs hW => ?_)
    refine lv_istore (lv' := [(4, .int q38), (3, .int q8), (2, .int q8), (0, .ref h_this), (1, .ref h_p1)]) hx hb dX3_readNumber_41 hl (by decide) rfl (fun ls hl => ?_)
    refine lv_iload hx hb dX3_readNumber_43 (lv_at hl 0 rfl) ?_
    obtain ⟨k_66, e_66, hF⟩ := jn_el hF
    have J_66 : ∀ (x3_66 : Int32) (v_end_66 : Int32) (ls : Array Slot) (H : Heap) (locs : List Loc), k_66 x3_66 v_end_66 = some out → lv_has ls 5 [(0, .ref h_this), (3, .int x3_66)] → Wd G A s.heap [(h_this, oX3 ad_this v_numberCount v_letter v_end_66), (h_p1, oX6 ad_p1 v_p1_length), ((ad_p1 0), cI G 200 a_p1_letters), ((ad_this 0), cI G 4 a_numbers)] H locs → W p l e ({ frames := 2, cells := 0, slots := 0, locals := 42 } : Room) s m args below meth c H locs 0 0 Q (F0 m 66 ls []) := by
      intro x3_66 v_end_66 ls H locs hF hl hW
      rw [e_66] at hF
      dsimp only at hF
      refine lv_aload_n hx hb dX3_readNumber_66 rfl (lv_at hl 0 rfl) ?_
      refine va_get (D := G.1) (ci := 3) (v := .ref ((ad_this 0))) (C := RX3) (T := TX3) (N := 4) hx hb hg hu_X3 hown hc.1 hW.1 0 rfl rfl 0 (by decide) (hg _ wd_1_48) (fun _ h9 => h9) rfl dX3_readNumber_67 ?_
      refine lv_aload_n hx hb dX3_readNumber_70 rfl (lv_at hl 0 rfl) ?_
      refine va_get (D := G.1) (ci := 3) (v := .int v_numberCount) (C := RX3) (T := TX3) (N := 4) hx hb hg hu_X3 hown hc.1 hW.1 0 rfl rfl 1 (by decide) (hg _ wd_1_49) (fun _ h9 => h9) rfl dX3_readNumber_71 ?_
      refine lv_iload_n hx hb dX3_readNumber_74 rfl (lv_at hl 1 rfl) ?_
      obtain ⟨q75, c_75, hF⟩ := bd_el hF
      refine wcV (ws' := [(h_this, oX3 ad_this v_numberCount v_letter v_end_66), (h_p1, oX6 ad_p1 v_p1_length), ((ad_p1 0), cI G 200 a_p1_letters), ((ad_this 0), cI G 4 q75)]) (wc := [((ad_this 0), cI G 4 a_numbers)]) (wr := [(h_this, oX3 ad_this v_numberCount v_letter v_end_66), (h_p1, oX6 ad_p1 v_p1_length), ((ad_p1 0), cI G 200 a_p1_letters)]) (w1 := [((ad_this 0), cI G 4 q75)]) (va_runS (As := [.ref ((ad_this 0)), .int v_numberCount, .int x3_66]) (rest := []) ⟨hx, hb, hml, hown, hg⟩ (c_X4_put l G v_numberCount x3_66 4 ((ad_this 0)) a_numbers q75 c_75 H.size) (va_cwS 3 hg (gS wd_2_49 wd_2_17 wd_1_14 wd_2_18) rfl rfl rfl hdS_X4_put ⟨(Nat.le_of_ble_eq_true rfl), (Nat.le_of_ble_eq_true rfl)⟩) (preS hc hW [3] rfl (by decide)) rfl rfl hl.1 rfl (lv_room (Nat.le_of_ble_eq_true rfl)) dX3_readNumber_75 ⟨Nat.zero_le _, Nat.zero_le _⟩) hA hW [3] [0, 1, 2] [0, 1, 2, 3] rfl rfl (by decide) (by decide) rfl (by decide) (fun H locs hW => ?_)
      refine lv_aload_n hx hb dX3_readNumber_78 rfl (lv_at hl 0 rfl) ?_
      refine lv_dup hx hb dX3_readNumber_79 rfl ?_
      refine va_get (D := G.1) (ci := 3) (v := .int v_numberCount) (C := RX3) (T := TX3) (N := 4) hx hb hg hu_X3 hown hc.1 hW.1 0 rfl rfl 1 (by decide) (hg _ wd_1_49) (fun _ h9 => h9) rfl dX3_readNumber_80 ?_
      refine lv_iconst (v := 1) hx hb dX3_readNumber_83 (by decide) ?_
      refine lv_iadd hx hb dX3_readNumber_84 ?_
      refine va_put (D := G.1) (ci := 3) (v := .int ((v_numberCount + 1))) (ty := .int) (C := RX3) (T := TX3) (N := 4) hx hb hg hu_X3 tyX3 tyX3_ok nmX3 hown hc.1 hW.1 hW.2.1 hW.2.2 0 rfl rfl 1 (by decide) (hg _ wd_1_49) (fun _ h9 => h9) rfl (by decide +kernel) rfl rfl (Nat.le_of_ble_eq_true rfl) dX3_readNumber_85 (fun H locs hP hD hS => ?_)
      have hW : Wd G A s.heap [(h_this, oX3 ad_this ((v_numberCount + 1)) v_letter v_end_66), (h_p1, oX6 ad_p1 v_p1_length), ((ad_p1 0), cI G 200 a_p1_letters), ((ad_this 0), cI G 4 q75)] H locs := ⟨hP, hD, hS⟩
      refine lv_iconst (v := 1) hx hb dX3_readNumber_88 (by decide) ?_
      obtain rfl := Option.some.inj hF
      exact hret _ _ _ _ hW (Or.inr rfl) dX3_readNumber_89
    refine lv_if_lt (tgt := 66) hx hb dX3_readNumber_45 (by decide) (fun c_45 => ?_) (fun c_45 => ?_)
    · have hF := ite_t hF c_45
      exact J_66 q8 ((v_end + 1)) _ _ _ hF (lv_sub hl [3, 1] rfl) hW
    · have hF := ite_f hF c_45
      refine lv_aload_n hx hb dX3_readNumber_48 rfl (lv_at hl 3 rfl) ?_
      refine lv_dup hx hb dX3_readNumber_49 rfl ?_
      refine va_get (D := G.1) (ci := 3) (v := .int ((v_end + 1))) (C := RX3) (T := TX3) (N := 4) hx hb hg hu_X3 hown hc.1 hW.1 0 rfl rfl 3 (by decide) (hg _ wd_1_52) (fun _ h9 => h9) rfl dX3_readNumber_50 ?_
      refine lv_iconst (v := 1) hx hb dX3_readNumber_53 (by decide) ?_
      refine lv_iadd hx hb dX3_readNumber_54 ?_
      refine va_put (D := G.1) (ci := 3) (v := .int (((v_end + 1) + 1))) (ty := .int) (C := RX3) (T := TX3) (N := 4) hx hb hg hu_X3 tyX3 tyX3_ok nmX3 hown hc.1 hW.1 hW.2.1 hW.2.2 0 rfl rfl 3 (by decide) (hg _ wd_1_52) (fun _ h9 => h9) rfl (by decide +kernel) rfl rfl (Nat.le_of_ble_eq_true rfl) dX3_readNumber_55 (fun H locs hP hD hS => ?_)
      have hW : Wd G A s.heap [(h_this, oX3 ad_this v_numberCount v_letter (((v_end + 1) + 1))), (h_p1, oX6 ad_p1 v_p1_length), ((ad_p1 0), cI G 200 a_p1_letters), ((ad_this 0), cI G 4 a_numbers)] H locs := ⟨hP, hD, hS⟩
      refine lv_bipush (v := 10) hx hb dX3_readNumber_58 (by decide) ?_
      refine lv_iload_n hx hb dX3_readNumber_60 rfl (lv_at hl 2 rfl) ?_
      refine lv_imul hx hb dX3_readNumber_61 ?_
      refine lv_iload hx hb dX3_readNumber_62 (lv_at hl 0 rfl) ?_
      refine lv_iadd hx hb dX3_readNumber_64 ?_
      refine lv_istore_n (lv' := [(3, .int (((10 * q8) + q38))), (4, .int q38), (2, .int q8), (0, .ref h_this), (1, .ref h_p1)]) hx hb dX3_readNumber_65 rfl hl (by decide) rfl (fun ls hl => ?_)
      exact J_66 (((10 * q8) + q38)) (((v_end + 1) + 1)) _ _ _ hF (lv_sub hl [3, 0] rfl) hW
  · have hF := ite_f hF c_13
    refine lv_iconst (v := 0) hx hb dX3_readNumber_16 (by decide) ?_
    obtain rfl := Option.some.inj hF
    exact hret _ _ _ _ hW (Or.inl rfl) dX3_readNumber_17
theorem dX3_reaches_0 : decode cX3_reaches 0 = .ok (.aload_n 0, 1) := by decide +kernel
theorem dX3_reaches_1 : decode cX3_reaches 1 = .ok (.getfield 11, 3) := by decide +kernel
theorem dX3_reaches_4 : decode cX3_reaches 4 = .ok (.iload_n 1, 1) := by decide +kernel
theorem dX3_reaches_5 : decode cX3_reaches 5 = .ok (.invokestatic 39, 3) := by decide +kernel
theorem dX3_reaches_8 : decode cX3_reaches 8 = .ok (.iload_n 2, 1) := by decide +kernel
theorem dX3_reaches_9 : decode cX3_reaches 9 = .ok (.iload_n 3, 1) := by decide +kernel
theorem dX3_reaches_10 : decode cX3_reaches 10 = .ok (.invokestatic 52, 3) := by decide +kernel
theorem dX3_reaches_13 : decode cX3_reaches 13 = .ok (.ireturn, 1) := by decide +kernel
def F_X3_reaches (x1 : Int32) (x2 : Int32) (x3 : Int32) (a_numbers : Nat → Int32) : Option (Int32) := (F_X4_at x1 4 a_numbers).bind (fun q5 => (F_X9_isWithin q5 x2 x3).bind (fun q10 => some (q10)))
theorem hdV_X3_reaches : yX3_reaches.cls = RX3 ∧ yX3_reaches.cls ≠ "java/lang/invoke/MethodHandle" ∧ yX3_reaches.cls ≠ "java/lang/invoke/VarHandle" ∧ (parseMethodDescriptor yX3_reaches.desc).map (fun d => d.parameters.length) = some 3 := by decide +kernel
set_option maxHeartbeats 4000000 in
set_option maxRecDepth 100000 in
theorem c_X3_reaches (l : Launch) (G : GG) (x1 : Int32) (x2 : Int32) (x3 : Int32) (h_this : Nat) (ad_this : Nat → Nat) (v_numberCount : Int32) (v_letter : Int32) (v_end : Int32) (a_numbers : Nat → Int32) (out : Int32) (hF : F_X3_reaches x1 x2 x3 a_numbers = some out) : CtrZ l yX3_reaches (WS yX3_reaches cX3_reaches 4 (some .boolean)) { frames := 1, cells := 0, slots := 0, locals := 22 } G [.ref h_this, .int x1, .int x2, .int x3] [(h_this, oX3 ad_this v_numberCount v_letter v_end), ((ad_this 0), cI G 4 a_numbers)] [(h_this, oX3 ad_this v_numberCount v_letter v_end), ((ad_this 0), cI G 4 a_numbers)] out := by
  refine startZ (cc := cX3_reaches) (maxL := 4) (by decide) rfl (Nat.le_of_ble_eq_true rfl) ?_
  intro p e s m args below meth c A Q hx hb hml hts hown hc hA hret ls H locs hl hW
  have hown : s.vm.findClass RX3 = some m.cls := hown
  have hg : ∀ w ∈ GOODS, w.before _ s = true := fun w h => hts w (List.mem_cons_of_mem _ h)
  have hl : lv_has ls 4 [(0, .ref h_this), (1, .int x1), (2, .int x2), (3, .int x3)] := hl
  rw [F_X3_reaches] at hF
  refine lv_aload_n hx hb dX3_reaches_0 rfl (lv_at hl 0 rfl) ?_
  refine va_get (D := G.1) (ci := 3) (v := .ref ((ad_this 0))) (C := RX3) (T := TX3) (N := 4) hx hb hg hu_X3 hown hc.1 hW.1 0 rfl rfl 0 (by decide) (hg _ wd_1_48) (fun _ h9 => h9) rfl dX3_reaches_1 ?_
  refine lv_iload_n hx hb dX3_reaches_4 rfl (lv_at hl 1 rfl) ?_
  obtain ⟨q5, c_5, hF⟩ := bd_el hF
  refine wcI (ws' := [(h_this, oX3 ad_this v_numberCount v_letter v_end), ((ad_this 0), cI G 4 a_numbers)]) (wc := [((ad_this 0), cI G 4 a_numbers)]) (wr := [(h_this, oX3 ad_this v_numberCount v_letter v_end)]) (w1 := [((ad_this 0), cI G 4 a_numbers)]) (va_runS (As := [.ref ((ad_this 0)), .int x1]) (rest := []) ⟨hx, hb, hml, hown, hg⟩ (c_X4_at l G x1 4 ((ad_this 0)) a_numbers q5 c_5 H.size) (va_cwS 2 hg (gS wd_2_58 wd_2_37 wd_1_14 wd_2_38) rfl rfl rfl hdS_X4_at ⟨(Nat.le_of_ble_eq_true rfl), (Nat.le_of_ble_eq_true rfl)⟩) (preS hc hW [1] rfl (by decide)) rfl rfl hl.1 rfl (lv_room (Nat.le_of_ble_eq_true rfl)) dX3_reaches_5 ⟨Nat.zero_le _, Nat.zero_le _⟩) hA hW [1] [0] [0, 1] rfl rfl (by decide) (by decide) rfl (by decide) (fun H locs hW => ?_)
  refine lv_iload_n hx hb dX3_reaches_8 rfl (lv_at hl 2 rfl) ?_
  refine lv_iload_n hx hb dX3_reaches_9 rfl (lv_at hl 3 rfl) ?_
  obtain ⟨q10, c_10, hF⟩ := bd_el hF
  refine wcZ (ws' := [(h_this, oX3 ad_this v_numberCount v_letter v_end), ((ad_this 0), cI G 4 a_numbers)]) (wc := []) (wr := [(h_this, oX3 ad_this v_numberCount v_letter v_end), ((ad_this 0), cI G 4 a_numbers)]) (w1 := []) (va_runSN (As := [.int q5, .int x2, .int x3]) (rest := []) ⟨hx, hb, hml, hown, hg⟩ (c_X9_isWithin l G q5 x2 x3 q10 c_10 H.size) ⟨va_cnB 3 hg (gN wd_2_48) rfl rfl rfl (hc.2 (RX3, 52, yX9_isWithin) (by decide +kernel)) (hg _ wd_1_1) hdS_X9_isWithin ⟨(Nat.le_of_ble_eq_true rfl), (Nat.le_of_ble_eq_true rfl)⟩, (hg _ wd_2_47), trivial⟩ (preS hc hW [] rfl (by decide)) rfl rfl hl.1 rfl (lv_room (Nat.le_of_ble_eq_true rfl)) dX3_reaches_10 ⟨Nat.zero_le _, Nat.zero_le _⟩) hA hW [] [0, 1] [0, 1] rfl rfl (by decide) (by decide) rfl (by decide) (fun z_10 H locs hW => ?_)
  obtain rfl := Option.some.inj hF
  exact hret _ _ _ _ hW z_10 dX3_reaches_13
theorem dX3_isTold_0 : decode cX3_isTold 0 = .ok (.aload_n 0, 1) := by decide +kernel
theorem dX3_isTold_1 : decode cX3_isTold 1 = .ok (.getfield 21, 3) := by decide +kernel
theorem dX3_isTold_4 : decode cX3_isTold 4 = .ok (.lookupswitch 290 #[(97, 60), (98, 194), (104, 158), (108, 254), (115, 104), (119, 219)], 60) := by decide +kernel
theorem dX3_isTold_64 : decode cX3_isTold 64 = .ok (.aload_n 0, 1) := by decide +kernel
theorem dX3_isTold_65 : decode cX3_isTold 65 = .ok (.getfield 28, 3) := by decide +kernel
theorem dX3_isTold_68 : decode cX3_isTold 68 = .ok (.iconst 3, 1) := by decide +kernel
theorem dX3_isTold_69 : decode cX3_isTold 69 = .ok (.if_icmp .ne 37, 3) := by decide +kernel
theorem dX3_isTold_72 : decode cX3_isTold 72 = .ok (.aload_n 0, 1) := by decide +kernel
theorem dX3_isTold_73 : decode cX3_isTold 73 = .ok (.iconst 0, 1) := by decide +kernel
theorem dX3_isTold_74 : decode cX3_isTold 74 = .ok (.iconst 0, 1) := by decide +kernel
theorem dX3_isTold_75 : decode cX3_isTold 75 = .ok (.iconst 4, 1) := by decide +kernel
theorem dX3_isTold_76 : decode cX3_isTold 76 = .ok (.invokevirtual 56, 3) := by decide +kernel
theorem dX3_isTold_79 : decode cX3_isTold 79 = .ok (.ifCond .eq 27, 3) := by decide +kernel
theorem dX3_isTold_82 : decode cX3_isTold 82 = .ok (.aload_n 0, 1) := by decide +kernel
theorem dX3_isTold_83 : decode cX3_isTold 83 = .ok (.iconst 1, 1) := by decide +kernel
theorem dX3_isTold_84 : decode cX3_isTold 84 = .ok (.iconst 0, 1) := by decide +kernel
theorem dX3_isTold_85 : decode cX3_isTold 85 = .ok (.iconst 4, 1) := by decide +kernel
theorem dX3_isTold_86 : decode cX3_isTold 86 = .ok (.invokevirtual 56, 3) := by decide +kernel
theorem dX3_isTold_89 : decode cX3_isTold 89 = .ok (.ifCond .eq 17, 3) := by decide +kernel
theorem dX3_isTold_92 : decode cX3_isTold 92 = .ok (.aload_n 0, 1) := by decide +kernel
theorem dX3_isTold_93 : decode cX3_isTold 93 = .ok (.iconst 2, 1) := by decide +kernel
theorem dX3_isTold_94 : decode cX3_isTold 94 = .ok (.iconst 0, 1) := by decide +kernel
theorem dX3_isTold_95 : decode cX3_isTold 95 = .ok (.iconst 4, 1) := by decide +kernel
theorem dX3_isTold_96 : decode cX3_isTold 96 = .ok (.invokevirtual 56, 3) := by decide +kernel
theorem dX3_isTold_99 : decode cX3_isTold 99 = .ok (.ifCond .eq 7, 3) := by decide +kernel
theorem dX3_isTold_102 : decode cX3_isTold 102 = .ok (.iconst 1, 1) := by decide +kernel
theorem dX3_isTold_103 : decode cX3_isTold 103 = .ok (.goto 4, 3) := by decide +kernel
theorem dX3_isTold_106 : decode cX3_isTold 106 = .ok (.iconst 0, 1) := by decide +kernel
theorem dX3_isTold_107 : decode cX3_isTold 107 = .ok (.ireturn, 1) := by decide +kernel
theorem dX3_isTold_108 : decode cX3_isTold 108 = .ok (.aload_n 0, 1) := by decide +kernel
theorem dX3_isTold_109 : decode cX3_isTold 109 = .ok (.getfield 28, 3) := by decide +kernel
theorem dX3_isTold_112 : decode cX3_isTold 112 = .ok (.iconst 4, 1) := by decide +kernel
theorem dX3_isTold_113 : decode cX3_isTold 113 = .ok (.if_icmp .ne 47, 3) := by decide +kernel
theorem dX3_isTold_116 : decode cX3_isTold 116 = .ok (.aload_n 0, 1) := by decide +kernel
theorem dX3_isTold_117 : decode cX3_isTold 117 = .ok (.iconst 0, 1) := by decide +kernel
theorem dX3_isTold_118 : decode cX3_isTold 118 = .ok (.iconst 0, 1) := by decide +kernel
theorem dX3_isTold_119 : decode cX3_isTold 119 = .ok (.iconst 3, 1) := by decide +kernel
theorem dX3_isTold_120 : decode cX3_isTold 120 = .ok (.invokevirtual 56, 3) := by decide +kernel
theorem dX3_isTold_123 : decode cX3_isTold 123 = .ok (.ifCond .eq 37, 3) := by decide +kernel
theorem dX3_isTold_126 : decode cX3_isTold 126 = .ok (.aload_n 0, 1) := by decide +kernel
theorem dX3_isTold_127 : decode cX3_isTold 127 = .ok (.iconst 1, 1) := by decide +kernel
theorem dX3_isTold_128 : decode cX3_isTold 128 = .ok (.iconst 0, 1) := by decide +kernel
theorem dX3_isTold_129 : decode cX3_isTold 129 = .ok (.iconst 4, 1) := by decide +kernel
theorem dX3_isTold_130 : decode cX3_isTold 130 = .ok (.invokevirtual 56, 3) := by decide +kernel
theorem dX3_isTold_133 : decode cX3_isTold 133 = .ok (.ifCond .eq 27, 3) := by decide +kernel
theorem dX3_isTold_136 : decode cX3_isTold 136 = .ok (.aload_n 0, 1) := by decide +kernel
theorem dX3_isTold_137 : decode cX3_isTold 137 = .ok (.iconst 2, 1) := by decide +kernel
theorem dX3_isTold_138 : decode cX3_isTold 138 = .ok (.iconst 0, 1) := by decide +kernel
theorem dX3_isTold_139 : decode cX3_isTold 139 = .ok (.iconst 4, 1) := by decide +kernel
theorem dX3_isTold_140 : decode cX3_isTold 140 = .ok (.invokevirtual 56, 3) := by decide +kernel
theorem dX3_isTold_143 : decode cX3_isTold 143 = .ok (.ifCond .eq 17, 3) := by decide +kernel
theorem dX3_isTold_146 : decode cX3_isTold 146 = .ok (.aload_n 0, 1) := by decide +kernel
theorem dX3_isTold_147 : decode cX3_isTold 147 = .ok (.iconst 3, 1) := by decide +kernel
theorem dX3_isTold_148 : decode cX3_isTold 148 = .ok (.iconst 0, 1) := by decide +kernel
theorem dX3_isTold_149 : decode cX3_isTold 149 = .ok (.iconst 4, 1) := by decide +kernel
theorem dX3_isTold_150 : decode cX3_isTold 150 = .ok (.invokevirtual 56, 3) := by decide +kernel
theorem dX3_isTold_153 : decode cX3_isTold 153 = .ok (.ifCond .eq 7, 3) := by decide +kernel
theorem dX3_isTold_156 : decode cX3_isTold 156 = .ok (.iconst 1, 1) := by decide +kernel
theorem dX3_isTold_157 : decode cX3_isTold 157 = .ok (.goto 4, 3) := by decide +kernel
theorem dX3_isTold_160 : decode cX3_isTold 160 = .ok (.iconst 0, 1) := by decide +kernel
theorem dX3_isTold_161 : decode cX3_isTold 161 = .ok (.ireturn, 1) := by decide +kernel
theorem dX3_isTold_162 : decode cX3_isTold 162 = .ok (.aload_n 0, 1) := by decide +kernel
theorem dX3_isTold_163 : decode cX3_isTold 163 = .ok (.getfield 28, 3) := by decide +kernel
theorem dX3_isTold_166 : decode cX3_isTold 166 = .ok (.iconst 2, 1) := by decide +kernel
theorem dX3_isTold_167 : decode cX3_isTold 167 = .ok (.if_icmp .ne 29, 3) := by decide +kernel
theorem dX3_isTold_170 : decode cX3_isTold 170 = .ok (.aload_n 0, 1) := by decide +kernel
theorem dX3_isTold_171 : decode cX3_isTold 171 = .ok (.iconst 0, 1) := by decide +kernel
theorem dX3_isTold_172 : decode cX3_isTold 172 = .ok (.iconst 1, 1) := by decide +kernel
theorem dX3_isTold_173 : decode cX3_isTold 173 = .ok (.bipush 9, 2) := by decide +kernel
theorem dX3_isTold_175 : decode cX3_isTold 175 = .ok (.invokevirtual 56, 3) := by decide +kernel
theorem dX3_isTold_178 : decode cX3_isTold 178 = .ok (.ifCond .eq 18, 3) := by decide +kernel
theorem dX3_isTold_181 : decode cX3_isTold 181 = .ok (.aload_n 0, 1) := by decide +kernel
theorem dX3_isTold_182 : decode cX3_isTold 182 = .ok (.iconst 1, 1) := by decide +kernel
theorem dX3_isTold_183 : decode cX3_isTold 183 = .ok (.iconst 0, 1) := by decide +kernel
theorem dX3_isTold_184 : decode cX3_isTold 184 = .ok (.bipush 60, 2) := by decide +kernel
theorem dX3_isTold_186 : decode cX3_isTold 186 = .ok (.invokevirtual 56, 3) := by decide +kernel
theorem dX3_isTold_189 : decode cX3_isTold 189 = .ok (.ifCond .eq 7, 3) := by decide +kernel
theorem dX3_isTold_192 : decode cX3_isTold 192 = .ok (.iconst 1, 1) := by decide +kernel
theorem dX3_isTold_193 : decode cX3_isTold 193 = .ok (.goto 4, 3) := by decide +kernel
theorem dX3_isTold_196 : decode cX3_isTold 196 = .ok (.iconst 0, 1) := by decide +kernel
theorem dX3_isTold_197 : decode cX3_isTold 197 = .ok (.ireturn, 1) := by decide +kernel
theorem dX3_isTold_198 : decode cX3_isTold 198 = .ok (.aload_n 0, 1) := by decide +kernel
theorem dX3_isTold_199 : decode cX3_isTold 199 = .ok (.getfield 28, 3) := by decide +kernel
theorem dX3_isTold_202 : decode cX3_isTold 202 = .ok (.iconst 1, 1) := by decide +kernel
theorem dX3_isTold_203 : decode cX3_isTold 203 = .ok (.if_icmp .ne 18, 3) := by decide +kernel
theorem dX3_isTold_206 : decode cX3_isTold 206 = .ok (.aload_n 0, 1) := by decide +kernel
theorem dX3_isTold_207 : decode cX3_isTold 207 = .ok (.iconst 0, 1) := by decide +kernel
theorem dX3_isTold_208 : decode cX3_isTold 208 = .ok (.iconst 1, 1) := by decide +kernel
theorem dX3_isTold_209 : decode cX3_isTold 209 = .ok (.bipush 30, 2) := by decide +kernel
theorem dX3_isTold_211 : decode cX3_isTold 211 = .ok (.invokevirtual 56, 3) := by decide +kernel
theorem dX3_isTold_214 : decode cX3_isTold 214 = .ok (.ifCond .eq 7, 3) := by decide +kernel
theorem dX3_isTold_217 : decode cX3_isTold 217 = .ok (.iconst 1, 1) := by decide +kernel
theorem dX3_isTold_218 : decode cX3_isTold 218 = .ok (.goto 4, 3) := by decide +kernel
theorem dX3_isTold_221 : decode cX3_isTold 221 = .ok (.iconst 0, 1) := by decide +kernel
theorem dX3_isTold_222 : decode cX3_isTold 222 = .ok (.ireturn, 1) := by decide +kernel
theorem dX3_isTold_223 : decode cX3_isTold 223 = .ok (.aload_n 0, 1) := by decide +kernel
theorem dX3_isTold_224 : decode cX3_isTold 224 = .ok (.getfield 28, 3) := by decide +kernel
theorem dX3_isTold_227 : decode cX3_isTold 227 = .ok (.iconst 2, 1) := by decide +kernel
theorem dX3_isTold_228 : decode cX3_isTold 228 = .ok (.if_icmp .ne 28, 3) := by decide +kernel
theorem dX3_isTold_231 : decode cX3_isTold 231 = .ok (.aload_n 0, 1) := by decide +kernel
theorem dX3_isTold_232 : decode cX3_isTold 232 = .ok (.iconst 0, 1) := by decide +kernel
theorem dX3_isTold_233 : decode cX3_isTold 233 = .ok (.iconst 0, 1) := by decide +kernel
theorem dX3_isTold_234 : decode cX3_isTold 234 = .ok (.iconst 4, 1) := by decide +kernel
theorem dX3_isTold_235 : decode cX3_isTold 235 = .ok (.invokevirtual 56, 3) := by decide +kernel
theorem dX3_isTold_238 : decode cX3_isTold 238 = .ok (.ifCond .eq 18, 3) := by decide +kernel
theorem dX3_isTold_241 : decode cX3_isTold 241 = .ok (.aload_n 0, 1) := by decide +kernel
theorem dX3_isTold_242 : decode cX3_isTold 242 = .ok (.iconst 1, 1) := by decide +kernel
theorem dX3_isTold_243 : decode cX3_isTold 243 = .ok (.iconst 0, 1) := by decide +kernel
theorem dX3_isTold_244 : decode cX3_isTold 244 = .ok (.bipush 20, 2) := by decide +kernel
theorem dX3_isTold_246 : decode cX3_isTold 246 = .ok (.invokevirtual 56, 3) := by decide +kernel
theorem dX3_isTold_249 : decode cX3_isTold 249 = .ok (.ifCond .eq 7, 3) := by decide +kernel
theorem dX3_isTold_252 : decode cX3_isTold 252 = .ok (.iconst 1, 1) := by decide +kernel
theorem dX3_isTold_253 : decode cX3_isTold 253 = .ok (.goto 4, 3) := by decide +kernel
theorem dX3_isTold_256 : decode cX3_isTold 256 = .ok (.iconst 0, 1) := by decide +kernel
theorem dX3_isTold_257 : decode cX3_isTold 257 = .ok (.ireturn, 1) := by decide +kernel
theorem dX3_isTold_258 : decode cX3_isTold 258 = .ok (.aload_n 0, 1) := by decide +kernel
theorem dX3_isTold_259 : decode cX3_isTold 259 = .ok (.getfield 28, 3) := by decide +kernel
theorem dX3_isTold_262 : decode cX3_isTold 262 = .ok (.iconst 2, 1) := by decide +kernel
theorem dX3_isTold_263 : decode cX3_isTold 263 = .ok (.if_icmp .ne 29, 3) := by decide +kernel
theorem dX3_isTold_266 : decode cX3_isTold 266 = .ok (.aload_n 0, 1) := by decide +kernel
theorem dX3_isTold_267 : decode cX3_isTold 267 = .ok (.iconst 0, 1) := by decide +kernel
theorem dX3_isTold_268 : decode cX3_isTold 268 = .ok (.iconst 0, 1) := by decide +kernel
theorem dX3_isTold_269 : decode cX3_isTold 269 = .ok (.bipush 99, 2) := by decide +kernel
theorem dX3_isTold_271 : decode cX3_isTold 271 = .ok (.invokevirtual 56, 3) := by decide +kernel
theorem dX3_isTold_274 : decode cX3_isTold 274 = .ok (.ifCond .eq 18, 3) := by decide +kernel
theorem dX3_isTold_277 : decode cX3_isTold 277 = .ok (.aload_n 0, 1) := by decide +kernel
theorem dX3_isTold_278 : decode cX3_isTold 278 = .ok (.iconst 1, 1) := by decide +kernel
theorem dX3_isTold_279 : decode cX3_isTold 279 = .ok (.iconst 0, 1) := by decide +kernel
theorem dX3_isTold_280 : decode cX3_isTold 280 = .ok (.bipush 9, 2) := by decide +kernel
theorem dX3_isTold_282 : decode cX3_isTold 282 = .ok (.invokevirtual 56, 3) := by decide +kernel
theorem dX3_isTold_285 : decode cX3_isTold 285 = .ok (.ifCond .eq 7, 3) := by decide +kernel
theorem dX3_isTold_288 : decode cX3_isTold 288 = .ok (.iconst 1, 1) := by decide +kernel
theorem dX3_isTold_289 : decode cX3_isTold 289 = .ok (.goto 4, 3) := by decide +kernel
theorem dX3_isTold_292 : decode cX3_isTold 292 = .ok (.iconst 0, 1) := by decide +kernel
theorem dX3_isTold_293 : decode cX3_isTold 293 = .ok (.ireturn, 1) := by decide +kernel
theorem dX3_isTold_294 : decode cX3_isTold 294 = .ok (.iconst 0, 1) := by decide +kernel
theorem dX3_isTold_295 : decode cX3_isTold 295 = .ok (.ireturn, 1) := by decide +kernel
def F_X3_isTold (v_letter : Int32) (v_numberCount : Int32) (a_numbers : Nat → Int32) : Option (Int32) := (if v_letter = 97 then (if v_numberCount = 3 then (F_X3_reaches 0 0 4 a_numbers).bind (fun q76 => (if q76 = 0 then some (0) else (F_X3_reaches 1 0 4 a_numbers).bind (fun q86 => (if q86 = 0 then some (0) else (F_X3_reaches 2 0 4 a_numbers).bind (fun q96 => (if q96 = 0 then some (0) else some (1))))))) else some (0)) else (if v_letter = 98 then (if v_numberCount = 1 then (F_X3_reaches 0 1 30 a_numbers).bind (fun q211 => (if q211 = 0 then some (0) else some (1))) else some (0)) else (if v_letter = 104 then (if v_numberCount = 2 then (F_X3_reaches 0 1 9 a_numbers).bind (fun q175 => (if q175 = 0 then some (0) else (F_X3_reaches 1 0 60 a_numbers).bind (fun q186 => (if q186 = 0 then some (0) else some (1))))) else some (0)) else (if v_letter = 108 then (if v_numberCount = 2 then (F_X3_reaches 0 0 99 a_numbers).bind (fun q271 => (if q271 = 0 then some (0) else (F_X3_reaches 1 0 9 a_numbers).bind (fun q282 => (if q282 = 0 then some (0) else some (1))))) else some (0)) else (if v_letter = 115 then (if v_numberCount = 4 then (F_X3_reaches 0 0 3 a_numbers).bind (fun q120 => (if q120 = 0 then some (0) else (F_X3_reaches 1 0 4 a_numbers).bind (fun q130 => (if q130 = 0 then some (0) else (F_X3_reaches 2 0 4 a_numbers).bind (fun q140 => (if q140 = 0 then some (0) else (F_X3_reaches 3 0 4 a_numbers).bind (fun q150 => (if q150 = 0 then some (0) else some (1))))))))) else some (0)) else (if v_letter = 119 then (if v_numberCount = 2 then (F_X3_reaches 0 0 4 a_numbers).bind (fun q235 => (if q235 = 0 then some (0) else (F_X3_reaches 1 0 20 a_numbers).bind (fun q246 => (if q246 = 0 then some (0) else some (1))))) else some (0)) else some (0)))))))
theorem hdV_X3_isTold : yX3_isTold.cls = RX3 ∧ yX3_isTold.cls ≠ "java/lang/invoke/MethodHandle" ∧ yX3_isTold.cls ≠ "java/lang/invoke/VarHandle" ∧ (parseMethodDescriptor yX3_isTold.desc).map (fun d => d.parameters.length) = some 0 := by decide +kernel
set_option maxHeartbeats 4000000 in
set_option maxRecDepth 100000 in
theorem c_X3_isTold (l : Launch) (G : GG) (h_this : Nat) (ad_this : Nat → Nat) (v_numberCount : Int32) (v_letter : Int32) (v_end : Int32) (a_numbers : Nat → Int32) (out : Int32) (hF : F_X3_isTold v_letter v_numberCount a_numbers = some out) : CtrZ l yX3_isTold (WS yX3_isTold cX3_isTold 1 (some .boolean)) { frames := 2, cells := 0, slots := 0, locals := 45 } G [.ref h_this] [(h_this, oX3 ad_this v_numberCount v_letter v_end), ((ad_this 0), cI G 4 a_numbers)] [(h_this, oX3 ad_this v_numberCount v_letter v_end), ((ad_this 0), cI G 4 a_numbers)] out := by
  refine startZ (cc := cX3_isTold) (maxL := 1) (by decide) rfl (Nat.le_of_ble_eq_true rfl) ?_
  intro p e s m args below meth c A Q hx hb hml hts hown hc hA hret ls H locs hl hW
  have hown : s.vm.findClass RX3 = some m.cls := hown
  have hg : ∀ w ∈ GOODS, w.before _ s = true := fun w h => hts w (List.mem_cons_of_mem _ h)
  have hl : lv_has ls 1 [(0, .ref h_this)] := hl
  rw [F_X3_isTold] at hF
  refine lv_aload_n hx hb dX3_isTold_0 rfl (lv_at hl 0 rfl) ?_
  refine va_get (D := G.1) (ci := 3) (v := .int v_letter) (C := RX3) (T := TX3) (N := 4) hx hb hg hu_X3 hown hc.1 hW.1 0 rfl rfl 2 (by decide) (hg _ wd_1_50) (fun _ h9 => h9) rfl dX3_isTold_1 ?_
  by_cases w_4_97 : v_letter = 97
  · have hF := ite_t hF w_4_97
    refine lv_lookup (off := 60) (tgt := 64) hx hb dX3_isTold_4 (by decide +kernel) (by rw [w_4_97]; decide +kernel) (by decide) ?_
    refine lv_aload_n hx hb dX3_isTold_64 rfl (lv_at hl 0 rfl) ?_
    refine va_get (D := G.1) (ci := 3) (v := .int v_numberCount) (C := RX3) (T := TX3) (N := 4) hx hb hg hu_X3 hown hc.1 hW.1 0 rfl rfl 1 (by decide) (hg _ wd_1_49) (fun _ h9 => h9) rfl dX3_isTold_65 ?_
    refine lv_iconst (v := 3) hx hb dX3_isTold_68 (by decide) ?_
    refine lv_icmp_ne (tgt := 106) hx hb dX3_isTold_69 (by decide) (fun c_69 => ?_) (fun c_69 => ?_)
    · have hF := ite_f hF c_69
      refine lv_iconst (v := 0) hx hb dX3_isTold_106 (by decide) ?_
      obtain rfl := Option.some.inj hF
      exact hret _ _ _ _ hW (Or.inl rfl) dX3_isTold_107
    · have hF := ite_t hF c_69
      refine lv_aload_n hx hb dX3_isTold_72 rfl (lv_at hl 0 rfl) ?_
      refine lv_iconst (v := 0) hx hb dX3_isTold_73 (by decide) ?_
      refine lv_iconst (v := 0) hx hb dX3_isTold_74 (by decide) ?_
      refine lv_iconst (v := 4) hx hb dX3_isTold_75 (by decide) ?_
      obtain ⟨q76, c_76, hF⟩ := bd_el hF
      refine wcZ (ws' := [(h_this, oX3 ad_this v_numberCount v_letter v_end), ((ad_this 0), cI G 4 a_numbers)]) (wc := [(h_this, oX3 ad_this v_numberCount v_letter v_end), ((ad_this 0), cI G 4 a_numbers)]) (wr := []) (w1 := [(h_this, oX3 ad_this v_numberCount v_letter v_end), ((ad_this 0), cI G 4 a_numbers)]) (va_runV (As := [.int 0, .int 0, .int 4]) (rest := []) ⟨hx, hb, hml, hown, hg⟩ (c_X3_reaches l G 0 0 4 h_this ad_this v_numberCount v_letter v_end a_numbers q76 c_76 H.size) (cwV 3 hg (gV wd_2_54 wd_2_56 wd_0_3 wd_1_3 wd_2_57) rfl rfl rfl hdV_X3_reaches ⟨(Nat.le_of_ble_eq_true rfl), (Nat.le_of_ble_eq_true rfl)⟩) (preV hc hW [0, 1] rfl (by decide) rfl rfl) rfl rfl hl.1 rfl (lv_room (Nat.le_of_ble_eq_true rfl)) dX3_isTold_76 ⟨Nat.zero_le _, Nat.zero_le _⟩) hA hW [0, 1] [] [0, 1] rfl rfl (by decide) (by decide) rfl (by decide) (fun z_76 H locs hW => ?_)
      refine lv_if_eq (tgt := 106) hx hb dX3_isTold_79 (by decide) (fun c_79 => ?_) (fun c_79 => ?_)
      · have hF := ite_t hF c_79
        refine lv_iconst (v := 0) hx hb dX3_isTold_106 (by decide) ?_
        obtain rfl := Option.some.inj hF
        exact hret _ _ _ _ hW (Or.inl rfl) dX3_isTold_107
      · have hF := ite_f hF c_79
        refine lv_aload_n hx hb dX3_isTold_82 rfl (lv_at hl 0 rfl) ?_
        refine lv_iconst (v := 1) hx hb dX3_isTold_83 (by decide) ?_
        refine lv_iconst (v := 0) hx hb dX3_isTold_84 (by decide) ?_
        refine lv_iconst (v := 4) hx hb dX3_isTold_85 (by decide) ?_
        obtain ⟨q86, c_86, hF⟩ := bd_el hF
        refine wcZ (ws' := [(h_this, oX3 ad_this v_numberCount v_letter v_end), ((ad_this 0), cI G 4 a_numbers)]) (wc := [(h_this, oX3 ad_this v_numberCount v_letter v_end), ((ad_this 0), cI G 4 a_numbers)]) (wr := []) (w1 := [(h_this, oX3 ad_this v_numberCount v_letter v_end), ((ad_this 0), cI G 4 a_numbers)]) (va_runV (As := [.int 1, .int 0, .int 4]) (rest := []) ⟨hx, hb, hml, hown, hg⟩ (c_X3_reaches l G 1 0 4 h_this ad_this v_numberCount v_letter v_end a_numbers q86 c_86 H.size) (cwV 3 hg (gV wd_2_54 wd_2_56 wd_0_3 wd_1_3 wd_2_57) rfl rfl rfl hdV_X3_reaches ⟨(Nat.le_of_ble_eq_true rfl), (Nat.le_of_ble_eq_true rfl)⟩) (preV hc hW [0, 1] rfl (by decide) rfl rfl) rfl rfl hl.1 rfl (lv_room (Nat.le_of_ble_eq_true rfl)) dX3_isTold_86 ⟨Nat.zero_le _, Nat.zero_le _⟩) hA hW [0, 1] [] [0, 1] rfl rfl (by decide) (by decide) rfl (by decide) (fun z_86 H locs hW => ?_)
        refine lv_if_eq (tgt := 106) hx hb dX3_isTold_89 (by decide) (fun c_89 => ?_) (fun c_89 => ?_)
        · have hF := ite_t hF c_89
          refine lv_iconst (v := 0) hx hb dX3_isTold_106 (by decide) ?_
          obtain rfl := Option.some.inj hF
          exact hret _ _ _ _ hW (Or.inl rfl) dX3_isTold_107
        · have hF := ite_f hF c_89
          refine lv_aload_n hx hb dX3_isTold_92 rfl (lv_at hl 0 rfl) ?_
          refine lv_iconst (v := 2) hx hb dX3_isTold_93 (by decide) ?_
          refine lv_iconst (v := 0) hx hb dX3_isTold_94 (by decide) ?_
          refine lv_iconst (v := 4) hx hb dX3_isTold_95 (by decide) ?_
          obtain ⟨q96, c_96, hF⟩ := bd_el hF
          refine wcZ (ws' := [(h_this, oX3 ad_this v_numberCount v_letter v_end), ((ad_this 0), cI G 4 a_numbers)]) (wc := [(h_this, oX3 ad_this v_numberCount v_letter v_end), ((ad_this 0), cI G 4 a_numbers)]) (wr := []) (w1 := [(h_this, oX3 ad_this v_numberCount v_letter v_end), ((ad_this 0), cI G 4 a_numbers)]) (va_runV (As := [.int 2, .int 0, .int 4]) (rest := []) ⟨hx, hb, hml, hown, hg⟩ (c_X3_reaches l G 2 0 4 h_this ad_this v_numberCount v_letter v_end a_numbers q96 c_96 H.size) (cwV 3 hg (gV wd_2_54 wd_2_56 wd_0_3 wd_1_3 wd_2_57) rfl rfl rfl hdV_X3_reaches ⟨(Nat.le_of_ble_eq_true rfl), (Nat.le_of_ble_eq_true rfl)⟩) (preV hc hW [0, 1] rfl (by decide) rfl rfl) rfl rfl hl.1 rfl (lv_room (Nat.le_of_ble_eq_true rfl)) dX3_isTold_96 ⟨Nat.zero_le _, Nat.zero_le _⟩) hA hW [0, 1] [] [0, 1] rfl rfl (by decide) (by decide) rfl (by decide) (fun z_96 H locs hW => ?_)
          refine lv_if_eq (tgt := 106) hx hb dX3_isTold_99 (by decide) (fun c_99 => ?_) (fun c_99 => ?_)
          · have hF := ite_t hF c_99
            refine lv_iconst (v := 0) hx hb dX3_isTold_106 (by decide) ?_
            obtain rfl := Option.some.inj hF
            exact hret _ _ _ _ hW (Or.inl rfl) dX3_isTold_107
          · have hF := ite_f hF c_99
            refine lv_iconst (v := 1) hx hb dX3_isTold_102 (by decide) ?_
            refine lv_goto (tgt := 107) hx hb dX3_isTold_103 (by decide) ?_
            obtain rfl := Option.some.inj hF
            exact hret _ _ _ _ hW (Or.inr rfl) dX3_isTold_107
  have hF := ite_f hF w_4_97
  by_cases w_4_98 : v_letter = 98
  · have hF := ite_t hF w_4_98
    refine lv_lookup (off := 194) (tgt := 198) hx hb dX3_isTold_4 (by decide +kernel) (by rw [w_4_98]; decide +kernel) (by decide) ?_
    refine lv_aload_n hx hb dX3_isTold_198 rfl (lv_at hl 0 rfl) ?_
    refine va_get (D := G.1) (ci := 3) (v := .int v_numberCount) (C := RX3) (T := TX3) (N := 4) hx hb hg hu_X3 hown hc.1 hW.1 0 rfl rfl 1 (by decide) (hg _ wd_1_49) (fun _ h9 => h9) rfl dX3_isTold_199 ?_
    refine lv_iconst (v := 1) hx hb dX3_isTold_202 (by decide) ?_
    refine lv_icmp_ne (tgt := 221) hx hb dX3_isTold_203 (by decide) (fun c_203 => ?_) (fun c_203 => ?_)
    · have hF := ite_f hF c_203
      refine lv_iconst (v := 0) hx hb dX3_isTold_221 (by decide) ?_
      obtain rfl := Option.some.inj hF
      exact hret _ _ _ _ hW (Or.inl rfl) dX3_isTold_222
    · have hF := ite_t hF c_203
      refine lv_aload_n hx hb dX3_isTold_206 rfl (lv_at hl 0 rfl) ?_
      refine lv_iconst (v := 0) hx hb dX3_isTold_207 (by decide) ?_
      refine lv_iconst (v := 1) hx hb dX3_isTold_208 (by decide) ?_
      refine lv_bipush (v := 30) hx hb dX3_isTold_209 (by decide) ?_
      obtain ⟨q211, c_211, hF⟩ := bd_el hF
      refine wcZ (ws' := [(h_this, oX3 ad_this v_numberCount v_letter v_end), ((ad_this 0), cI G 4 a_numbers)]) (wc := [(h_this, oX3 ad_this v_numberCount v_letter v_end), ((ad_this 0), cI G 4 a_numbers)]) (wr := []) (w1 := [(h_this, oX3 ad_this v_numberCount v_letter v_end), ((ad_this 0), cI G 4 a_numbers)]) (va_runV (As := [.int 0, .int 1, .int 30]) (rest := []) ⟨hx, hb, hml, hown, hg⟩ (c_X3_reaches l G 0 1 30 h_this ad_this v_numberCount v_letter v_end a_numbers q211 c_211 H.size) (cwV 3 hg (gV wd_2_54 wd_2_56 wd_0_3 wd_1_3 wd_2_57) rfl rfl rfl hdV_X3_reaches ⟨(Nat.le_of_ble_eq_true rfl), (Nat.le_of_ble_eq_true rfl)⟩) (preV hc hW [0, 1] rfl (by decide) rfl rfl) rfl rfl hl.1 rfl (lv_room (Nat.le_of_ble_eq_true rfl)) dX3_isTold_211 ⟨Nat.zero_le _, Nat.zero_le _⟩) hA hW [0, 1] [] [0, 1] rfl rfl (by decide) (by decide) rfl (by decide) (fun z_211 H locs hW => ?_)
      refine lv_if_eq (tgt := 221) hx hb dX3_isTold_214 (by decide) (fun c_214 => ?_) (fun c_214 => ?_)
      · have hF := ite_t hF c_214
        refine lv_iconst (v := 0) hx hb dX3_isTold_221 (by decide) ?_
        obtain rfl := Option.some.inj hF
        exact hret _ _ _ _ hW (Or.inl rfl) dX3_isTold_222
      · have hF := ite_f hF c_214
        refine lv_iconst (v := 1) hx hb dX3_isTold_217 (by decide) ?_
        refine lv_goto (tgt := 222) hx hb dX3_isTold_218 (by decide) ?_
        obtain rfl := Option.some.inj hF
        exact hret _ _ _ _ hW (Or.inr rfl) dX3_isTold_222
  have hF := ite_f hF w_4_98
  by_cases w_4_104 : v_letter = 104
  · have hF := ite_t hF w_4_104
    refine lv_lookup (off := 158) (tgt := 162) hx hb dX3_isTold_4 (by decide +kernel) (by rw [w_4_104]; decide +kernel) (by decide) ?_
    refine lv_aload_n hx hb dX3_isTold_162 rfl (lv_at hl 0 rfl) ?_
    refine va_get (D := G.1) (ci := 3) (v := .int v_numberCount) (C := RX3) (T := TX3) (N := 4) hx hb hg hu_X3 hown hc.1 hW.1 0 rfl rfl 1 (by decide) (hg _ wd_1_49) (fun _ h9 => h9) rfl dX3_isTold_163 ?_
    refine lv_iconst (v := 2) hx hb dX3_isTold_166 (by decide) ?_
    refine lv_icmp_ne (tgt := 196) hx hb dX3_isTold_167 (by decide) (fun c_167 => ?_) (fun c_167 => ?_)
    · have hF := ite_f hF c_167
      refine lv_iconst (v := 0) hx hb dX3_isTold_196 (by decide) ?_
      obtain rfl := Option.some.inj hF
      exact hret _ _ _ _ hW (Or.inl rfl) dX3_isTold_197
    · have hF := ite_t hF c_167
      refine lv_aload_n hx hb dX3_isTold_170 rfl (lv_at hl 0 rfl) ?_
      refine lv_iconst (v := 0) hx hb dX3_isTold_171 (by decide) ?_
      refine lv_iconst (v := 1) hx hb dX3_isTold_172 (by decide) ?_
      refine lv_bipush (v := 9) hx hb dX3_isTold_173 (by decide) ?_
      obtain ⟨q175, c_175, hF⟩ := bd_el hF
      refine wcZ (ws' := [(h_this, oX3 ad_this v_numberCount v_letter v_end), ((ad_this 0), cI G 4 a_numbers)]) (wc := [(h_this, oX3 ad_this v_numberCount v_letter v_end), ((ad_this 0), cI G 4 a_numbers)]) (wr := []) (w1 := [(h_this, oX3 ad_this v_numberCount v_letter v_end), ((ad_this 0), cI G 4 a_numbers)]) (va_runV (As := [.int 0, .int 1, .int 9]) (rest := []) ⟨hx, hb, hml, hown, hg⟩ (c_X3_reaches l G 0 1 9 h_this ad_this v_numberCount v_letter v_end a_numbers q175 c_175 H.size) (cwV 3 hg (gV wd_2_54 wd_2_56 wd_0_3 wd_1_3 wd_2_57) rfl rfl rfl hdV_X3_reaches ⟨(Nat.le_of_ble_eq_true rfl), (Nat.le_of_ble_eq_true rfl)⟩) (preV hc hW [0, 1] rfl (by decide) rfl rfl) rfl rfl hl.1 rfl (lv_room (Nat.le_of_ble_eq_true rfl)) dX3_isTold_175 ⟨Nat.zero_le _, Nat.zero_le _⟩) hA hW [0, 1] [] [0, 1] rfl rfl (by decide) (by decide) rfl (by decide) (fun z_175 H locs hW => ?_)
      refine lv_if_eq (tgt := 196) hx hb dX3_isTold_178 (by decide) (fun c_178 => ?_) (fun c_178 => ?_)
      · have hF := ite_t hF c_178
        refine lv_iconst (v := 0) hx hb dX3_isTold_196 (by decide) ?_
        obtain rfl := Option.some.inj hF
        exact hret _ _ _ _ hW (Or.inl rfl) dX3_isTold_197
      · have hF := ite_f hF c_178
        refine lv_aload_n hx hb dX3_isTold_181 rfl (lv_at hl 0 rfl) ?_
        refine lv_iconst (v := 1) hx hb dX3_isTold_182 (by decide) ?_
        refine lv_iconst (v := 0) hx hb dX3_isTold_183 (by decide) ?_
        refine lv_bipush (v := 60) hx hb dX3_isTold_184 (by decide) ?_
        obtain ⟨q186, c_186, hF⟩ := bd_el hF
        refine wcZ (ws' := [(h_this, oX3 ad_this v_numberCount v_letter v_end), ((ad_this 0), cI G 4 a_numbers)]) (wc := [(h_this, oX3 ad_this v_numberCount v_letter v_end), ((ad_this 0), cI G 4 a_numbers)]) (wr := []) (w1 := [(h_this, oX3 ad_this v_numberCount v_letter v_end), ((ad_this 0), cI G 4 a_numbers)]) (va_runV (As := [.int 1, .int 0, .int 60]) (rest := []) ⟨hx, hb, hml, hown, hg⟩ (c_X3_reaches l G 1 0 60 h_this ad_this v_numberCount v_letter v_end a_numbers q186 c_186 H.size) (cwV 3 hg (gV wd_2_54 wd_2_56 wd_0_3 wd_1_3 wd_2_57) rfl rfl rfl hdV_X3_reaches ⟨(Nat.le_of_ble_eq_true rfl), (Nat.le_of_ble_eq_true rfl)⟩) (preV hc hW [0, 1] rfl (by decide) rfl rfl) rfl rfl hl.1 rfl (lv_room (Nat.le_of_ble_eq_true rfl)) dX3_isTold_186 ⟨Nat.zero_le _, Nat.zero_le _⟩) hA hW [0, 1] [] [0, 1] rfl rfl (by decide) (by decide) rfl (by decide) (fun z_186 H locs hW => ?_)
        refine lv_if_eq (tgt := 196) hx hb dX3_isTold_189 (by decide) (fun c_189 => ?_) (fun c_189 => ?_)
        · have hF := ite_t hF c_189
          refine lv_iconst (v := 0) hx hb dX3_isTold_196 (by decide) ?_
          obtain rfl := Option.some.inj hF
          exact hret _ _ _ _ hW (Or.inl rfl) dX3_isTold_197
        · have hF := ite_f hF c_189
          refine lv_iconst (v := 1) hx hb dX3_isTold_192 (by decide) ?_
          refine lv_goto (tgt := 197) hx hb dX3_isTold_193 (by decide) ?_
          obtain rfl := Option.some.inj hF
          exact hret _ _ _ _ hW (Or.inr rfl) dX3_isTold_197
  have hF := ite_f hF w_4_104
  by_cases w_4_108 : v_letter = 108
  · have hF := ite_t hF w_4_108
    refine lv_lookup (off := 254) (tgt := 258) hx hb dX3_isTold_4 (by decide +kernel) (by rw [w_4_108]; decide +kernel) (by decide) ?_
    refine lv_aload_n hx hb dX3_isTold_258 rfl (lv_at hl 0 rfl) ?_
    refine va_get (D := G.1) (ci := 3) (v := .int v_numberCount) (C := RX3) (T := TX3) (N := 4) hx hb hg hu_X3 hown hc.1 hW.1 0 rfl rfl 1 (by decide) (hg _ wd_1_49) (fun _ h9 => h9) rfl dX3_isTold_259 ?_
    refine lv_iconst (v := 2) hx hb dX3_isTold_262 (by decide) ?_
    refine lv_icmp_ne (tgt := 292) hx hb dX3_isTold_263 (by decide) (fun c_263 => ?_) (fun c_263 => ?_)
    · have hF := ite_f hF c_263
      refine lv_iconst (v := 0) hx hb dX3_isTold_292 (by decide) ?_
      obtain rfl := Option.some.inj hF
      exact hret _ _ _ _ hW (Or.inl rfl) dX3_isTold_293
    · have hF := ite_t hF c_263
      refine lv_aload_n hx hb dX3_isTold_266 rfl (lv_at hl 0 rfl) ?_
      refine lv_iconst (v := 0) hx hb dX3_isTold_267 (by decide) ?_
      refine lv_iconst (v := 0) hx hb dX3_isTold_268 (by decide) ?_
      refine lv_bipush (v := 99) hx hb dX3_isTold_269 (by decide) ?_
      obtain ⟨q271, c_271, hF⟩ := bd_el hF
      refine wcZ (ws' := [(h_this, oX3 ad_this v_numberCount v_letter v_end), ((ad_this 0), cI G 4 a_numbers)]) (wc := [(h_this, oX3 ad_this v_numberCount v_letter v_end), ((ad_this 0), cI G 4 a_numbers)]) (wr := []) (w1 := [(h_this, oX3 ad_this v_numberCount v_letter v_end), ((ad_this 0), cI G 4 a_numbers)]) (va_runV (As := [.int 0, .int 0, .int 99]) (rest := []) ⟨hx, hb, hml, hown, hg⟩ (c_X3_reaches l G 0 0 99 h_this ad_this v_numberCount v_letter v_end a_numbers q271 c_271 H.size) (cwV 3 hg (gV wd_2_54 wd_2_56 wd_0_3 wd_1_3 wd_2_57) rfl rfl rfl hdV_X3_reaches ⟨(Nat.le_of_ble_eq_true rfl), (Nat.le_of_ble_eq_true rfl)⟩) (preV hc hW [0, 1] rfl (by decide) rfl rfl) rfl rfl hl.1 rfl (lv_room (Nat.le_of_ble_eq_true rfl)) dX3_isTold_271 ⟨Nat.zero_le _, Nat.zero_le _⟩) hA hW [0, 1] [] [0, 1] rfl rfl (by decide) (by decide) rfl (by decide) (fun z_271 H locs hW => ?_)
      refine lv_if_eq (tgt := 292) hx hb dX3_isTold_274 (by decide) (fun c_274 => ?_) (fun c_274 => ?_)
      · have hF := ite_t hF c_274
        refine lv_iconst (v := 0) hx hb dX3_isTold_292 (by decide) ?_
        obtain rfl := Option.some.inj hF
        exact hret _ _ _ _ hW (Or.inl rfl) dX3_isTold_293
      · have hF := ite_f hF c_274
        refine lv_aload_n hx hb dX3_isTold_277 rfl (lv_at hl 0 rfl) ?_
        refine lv_iconst (v := 1) hx hb dX3_isTold_278 (by decide) ?_
        refine lv_iconst (v := 0) hx hb dX3_isTold_279 (by decide) ?_
        refine lv_bipush (v := 9) hx hb dX3_isTold_280 (by decide) ?_
        obtain ⟨q282, c_282, hF⟩ := bd_el hF
        refine wcZ (ws' := [(h_this, oX3 ad_this v_numberCount v_letter v_end), ((ad_this 0), cI G 4 a_numbers)]) (wc := [(h_this, oX3 ad_this v_numberCount v_letter v_end), ((ad_this 0), cI G 4 a_numbers)]) (wr := []) (w1 := [(h_this, oX3 ad_this v_numberCount v_letter v_end), ((ad_this 0), cI G 4 a_numbers)]) (va_runV (As := [.int 1, .int 0, .int 9]) (rest := []) ⟨hx, hb, hml, hown, hg⟩ (c_X3_reaches l G 1 0 9 h_this ad_this v_numberCount v_letter v_end a_numbers q282 c_282 H.size) (cwV 3 hg (gV wd_2_54 wd_2_56 wd_0_3 wd_1_3 wd_2_57) rfl rfl rfl hdV_X3_reaches ⟨(Nat.le_of_ble_eq_true rfl), (Nat.le_of_ble_eq_true rfl)⟩) (preV hc hW [0, 1] rfl (by decide) rfl rfl) rfl rfl hl.1 rfl (lv_room (Nat.le_of_ble_eq_true rfl)) dX3_isTold_282 ⟨Nat.zero_le _, Nat.zero_le _⟩) hA hW [0, 1] [] [0, 1] rfl rfl (by decide) (by decide) rfl (by decide) (fun z_282 H locs hW => ?_)
        refine lv_if_eq (tgt := 292) hx hb dX3_isTold_285 (by decide) (fun c_285 => ?_) (fun c_285 => ?_)
        · have hF := ite_t hF c_285
          refine lv_iconst (v := 0) hx hb dX3_isTold_292 (by decide) ?_
          obtain rfl := Option.some.inj hF
          exact hret _ _ _ _ hW (Or.inl rfl) dX3_isTold_293
        · have hF := ite_f hF c_285
          refine lv_iconst (v := 1) hx hb dX3_isTold_288 (by decide) ?_
          refine lv_goto (tgt := 293) hx hb dX3_isTold_289 (by decide) ?_
          obtain rfl := Option.some.inj hF
          exact hret _ _ _ _ hW (Or.inr rfl) dX3_isTold_293
  have hF := ite_f hF w_4_108
  by_cases w_4_115 : v_letter = 115
  · have hF := ite_t hF w_4_115
    refine lv_lookup (off := 104) (tgt := 108) hx hb dX3_isTold_4 (by decide +kernel) (by rw [w_4_115]; decide +kernel) (by decide) ?_
    refine lv_aload_n hx hb dX3_isTold_108 rfl (lv_at hl 0 rfl) ?_
    refine va_get (D := G.1) (ci := 3) (v := .int v_numberCount) (C := RX3) (T := TX3) (N := 4) hx hb hg hu_X3 hown hc.1 hW.1 0 rfl rfl 1 (by decide) (hg _ wd_1_49) (fun _ h9 => h9) rfl dX3_isTold_109 ?_
    refine lv_iconst (v := 4) hx hb dX3_isTold_112 (by decide) ?_
    refine lv_icmp_ne (tgt := 160) hx hb dX3_isTold_113 (by decide) (fun c_113 => ?_) (fun c_113 => ?_)
    · have hF := ite_f hF c_113
      refine lv_iconst (v := 0) hx hb dX3_isTold_160 (by decide) ?_
      obtain rfl := Option.some.inj hF
      exact hret _ _ _ _ hW (Or.inl rfl) dX3_isTold_161
    · have hF := ite_t hF c_113
      refine lv_aload_n hx hb dX3_isTold_116 rfl (lv_at hl 0 rfl) ?_
      refine lv_iconst (v := 0) hx hb dX3_isTold_117 (by decide) ?_
      refine lv_iconst (v := 0) hx hb dX3_isTold_118 (by decide) ?_
      refine lv_iconst (v := 3) hx hb dX3_isTold_119 (by decide) ?_
      obtain ⟨q120, c_120, hF⟩ := bd_el hF
      refine wcZ (ws' := [(h_this, oX3 ad_this v_numberCount v_letter v_end), ((ad_this 0), cI G 4 a_numbers)]) (wc := [(h_this, oX3 ad_this v_numberCount v_letter v_end), ((ad_this 0), cI G 4 a_numbers)]) (wr := []) (w1 := [(h_this, oX3 ad_this v_numberCount v_letter v_end), ((ad_this 0), cI G 4 a_numbers)]) (va_runV (As := [.int 0, .int 0, .int 3]) (rest := []) ⟨hx, hb, hml, hown, hg⟩ (c_X3_reaches l G 0 0 3 h_this ad_this v_numberCount v_letter v_end a_numbers q120 c_120 H.size) (cwV 3 hg (gV wd_2_54 wd_2_56 wd_0_3 wd_1_3 wd_2_57) rfl rfl rfl hdV_X3_reaches ⟨(Nat.le_of_ble_eq_true rfl), (Nat.le_of_ble_eq_true rfl)⟩) (preV hc hW [0, 1] rfl (by decide) rfl rfl) rfl rfl hl.1 rfl (lv_room (Nat.le_of_ble_eq_true rfl)) dX3_isTold_120 ⟨Nat.zero_le _, Nat.zero_le _⟩) hA hW [0, 1] [] [0, 1] rfl rfl (by decide) (by decide) rfl (by decide) (fun z_120 H locs hW => ?_)
      refine lv_if_eq (tgt := 160) hx hb dX3_isTold_123 (by decide) (fun c_123 => ?_) (fun c_123 => ?_)
      · have hF := ite_t hF c_123
        refine lv_iconst (v := 0) hx hb dX3_isTold_160 (by decide) ?_
        obtain rfl := Option.some.inj hF
        exact hret _ _ _ _ hW (Or.inl rfl) dX3_isTold_161
      · have hF := ite_f hF c_123
        refine lv_aload_n hx hb dX3_isTold_126 rfl (lv_at hl 0 rfl) ?_
        refine lv_iconst (v := 1) hx hb dX3_isTold_127 (by decide) ?_
        refine lv_iconst (v := 0) hx hb dX3_isTold_128 (by decide) ?_
        refine lv_iconst (v := 4) hx hb dX3_isTold_129 (by decide) ?_
        obtain ⟨q130, c_130, hF⟩ := bd_el hF
        refine wcZ (ws' := [(h_this, oX3 ad_this v_numberCount v_letter v_end), ((ad_this 0), cI G 4 a_numbers)]) (wc := [(h_this, oX3 ad_this v_numberCount v_letter v_end), ((ad_this 0), cI G 4 a_numbers)]) (wr := []) (w1 := [(h_this, oX3 ad_this v_numberCount v_letter v_end), ((ad_this 0), cI G 4 a_numbers)]) (va_runV (As := [.int 1, .int 0, .int 4]) (rest := []) ⟨hx, hb, hml, hown, hg⟩ (c_X3_reaches l G 1 0 4 h_this ad_this v_numberCount v_letter v_end a_numbers q130 c_130 H.size) (cwV 3 hg (gV wd_2_54 wd_2_56 wd_0_3 wd_1_3 wd_2_57) rfl rfl rfl hdV_X3_reaches ⟨(Nat.le_of_ble_eq_true rfl), (Nat.le_of_ble_eq_true rfl)⟩) (preV hc hW [0, 1] rfl (by decide) rfl rfl) rfl rfl hl.1 rfl (lv_room (Nat.le_of_ble_eq_true rfl)) dX3_isTold_130 ⟨Nat.zero_le _, Nat.zero_le _⟩) hA hW [0, 1] [] [0, 1] rfl rfl (by decide) (by decide) rfl (by decide) (fun z_130 H locs hW => ?_)
        refine lv_if_eq (tgt := 160) hx hb dX3_isTold_133 (by decide) (fun c_133 => ?_) (fun c_133 => ?_)
        · have hF := ite_t hF c_133
          refine lv_iconst (v := 0) hx hb dX3_isTold_160 (by decide) ?_
          obtain rfl := Option.some.inj hF
          exact hret _ _ _ _ hW (Or.inl rfl) dX3_isTold_161
        · have hF := ite_f hF c_133
          refine lv_aload_n hx hb dX3_isTold_136 rfl (lv_at hl 0 rfl) ?_
          refine lv_iconst (v := 2) hx hb dX3_isTold_137 (by decide) ?_
          refine lv_iconst (v := 0) hx hb dX3_isTold_138 (by decide) ?_
          refine lv_iconst (v := 4) hx hb dX3_isTold_139 (by decide) ?_
          obtain ⟨q140, c_140, hF⟩ := bd_el hF
          refine wcZ (ws' := [(h_this, oX3 ad_this v_numberCount v_letter v_end), ((ad_this 0), cI G 4 a_numbers)]) (wc := [(h_this, oX3 ad_this v_numberCount v_letter v_end), ((ad_this 0), cI G 4 a_numbers)]) (wr := []) (w1 := [(h_this, oX3 ad_this v_numberCount v_letter v_end), ((ad_this 0), cI G 4 a_numbers)]) (va_runV (As := [.int 2, .int 0, .int 4]) (rest := []) ⟨hx, hb, hml, hown, hg⟩ (c_X3_reaches l G 2 0 4 h_this ad_this v_numberCount v_letter v_end a_numbers q140 c_140 H.size) (cwV 3 hg (gV wd_2_54 wd_2_56 wd_0_3 wd_1_3 wd_2_57) rfl rfl rfl hdV_X3_reaches ⟨(Nat.le_of_ble_eq_true rfl), (Nat.le_of_ble_eq_true rfl)⟩) (preV hc hW [0, 1] rfl (by decide) rfl rfl) rfl rfl hl.1 rfl (lv_room (Nat.le_of_ble_eq_true rfl)) dX3_isTold_140 ⟨Nat.zero_le _, Nat.zero_le _⟩) hA hW [0, 1] [] [0, 1] rfl rfl (by decide) (by decide) rfl (by decide) (fun z_140 H locs hW => ?_)
          refine lv_if_eq (tgt := 160) hx hb dX3_isTold_143 (by decide) (fun c_143 => ?_) (fun c_143 => ?_)
          · have hF := ite_t hF c_143
            refine lv_iconst (v := 0) hx hb dX3_isTold_160 (by decide) ?_
            obtain rfl := Option.some.inj hF
            exact hret _ _ _ _ hW (Or.inl rfl) dX3_isTold_161
          · have hF := ite_f hF c_143
            refine lv_aload_n hx hb dX3_isTold_146 rfl (lv_at hl 0 rfl) ?_
            refine lv_iconst (v := 3) hx hb dX3_isTold_147 (by decide) ?_
            refine lv_iconst (v := 0) hx hb dX3_isTold_148 (by decide) ?_
            refine lv_iconst (v := 4) hx hb dX3_isTold_149 (by decide) ?_
            obtain ⟨q150, c_150, hF⟩ := bd_el hF
            refine wcZ (ws' := [(h_this, oX3 ad_this v_numberCount v_letter v_end), ((ad_this 0), cI G 4 a_numbers)]) (wc := [(h_this, oX3 ad_this v_numberCount v_letter v_end), ((ad_this 0), cI G 4 a_numbers)]) (wr := []) (w1 := [(h_this, oX3 ad_this v_numberCount v_letter v_end), ((ad_this 0), cI G 4 a_numbers)]) (va_runV (As := [.int 3, .int 0, .int 4]) (rest := []) ⟨hx, hb, hml, hown, hg⟩ (c_X3_reaches l G 3 0 4 h_this ad_this v_numberCount v_letter v_end a_numbers q150 c_150 H.size) (cwV 3 hg (gV wd_2_54 wd_2_56 wd_0_3 wd_1_3 wd_2_57) rfl rfl rfl hdV_X3_reaches ⟨(Nat.le_of_ble_eq_true rfl), (Nat.le_of_ble_eq_true rfl)⟩) (preV hc hW [0, 1] rfl (by decide) rfl rfl) rfl rfl hl.1 rfl (lv_room (Nat.le_of_ble_eq_true rfl)) dX3_isTold_150 ⟨Nat.zero_le _, Nat.zero_le _⟩) hA hW [0, 1] [] [0, 1] rfl rfl (by decide) (by decide) rfl (by decide) (fun z_150 H locs hW => ?_)
            refine lv_if_eq (tgt := 160) hx hb dX3_isTold_153 (by decide) (fun c_153 => ?_) (fun c_153 => ?_)
            · have hF := ite_t hF c_153
              refine lv_iconst (v := 0) hx hb dX3_isTold_160 (by decide) ?_
              obtain rfl := Option.some.inj hF
              exact hret _ _ _ _ hW (Or.inl rfl) dX3_isTold_161
            · have hF := ite_f hF c_153
              refine lv_iconst (v := 1) hx hb dX3_isTold_156 (by decide) ?_
              refine lv_goto (tgt := 161) hx hb dX3_isTold_157 (by decide) ?_
              obtain rfl := Option.some.inj hF
              exact hret _ _ _ _ hW (Or.inr rfl) dX3_isTold_161
  have hF := ite_f hF w_4_115
  by_cases w_4_119 : v_letter = 119
  · have hF := ite_t hF w_4_119
    refine lv_lookup (off := 219) (tgt := 223) hx hb dX3_isTold_4 (by decide +kernel) (by rw [w_4_119]; decide +kernel) (by decide) ?_
    refine lv_aload_n hx hb dX3_isTold_223 rfl (lv_at hl 0 rfl) ?_
    refine va_get (D := G.1) (ci := 3) (v := .int v_numberCount) (C := RX3) (T := TX3) (N := 4) hx hb hg hu_X3 hown hc.1 hW.1 0 rfl rfl 1 (by decide) (hg _ wd_1_49) (fun _ h9 => h9) rfl dX3_isTold_224 ?_
    refine lv_iconst (v := 2) hx hb dX3_isTold_227 (by decide) ?_
    refine lv_icmp_ne (tgt := 256) hx hb dX3_isTold_228 (by decide) (fun c_228 => ?_) (fun c_228 => ?_)
    · have hF := ite_f hF c_228
      refine lv_iconst (v := 0) hx hb dX3_isTold_256 (by decide) ?_
      obtain rfl := Option.some.inj hF
      exact hret _ _ _ _ hW (Or.inl rfl) dX3_isTold_257
    · have hF := ite_t hF c_228
      refine lv_aload_n hx hb dX3_isTold_231 rfl (lv_at hl 0 rfl) ?_
      refine lv_iconst (v := 0) hx hb dX3_isTold_232 (by decide) ?_
      refine lv_iconst (v := 0) hx hb dX3_isTold_233 (by decide) ?_
      refine lv_iconst (v := 4) hx hb dX3_isTold_234 (by decide) ?_
      obtain ⟨q235, c_235, hF⟩ := bd_el hF
      refine wcZ (ws' := [(h_this, oX3 ad_this v_numberCount v_letter v_end), ((ad_this 0), cI G 4 a_numbers)]) (wc := [(h_this, oX3 ad_this v_numberCount v_letter v_end), ((ad_this 0), cI G 4 a_numbers)]) (wr := []) (w1 := [(h_this, oX3 ad_this v_numberCount v_letter v_end), ((ad_this 0), cI G 4 a_numbers)]) (va_runV (As := [.int 0, .int 0, .int 4]) (rest := []) ⟨hx, hb, hml, hown, hg⟩ (c_X3_reaches l G 0 0 4 h_this ad_this v_numberCount v_letter v_end a_numbers q235 c_235 H.size) (cwV 3 hg (gV wd_2_54 wd_2_56 wd_0_3 wd_1_3 wd_2_57) rfl rfl rfl hdV_X3_reaches ⟨(Nat.le_of_ble_eq_true rfl), (Nat.le_of_ble_eq_true rfl)⟩) (preV hc hW [0, 1] rfl (by decide) rfl rfl) rfl rfl hl.1 rfl (lv_room (Nat.le_of_ble_eq_true rfl)) dX3_isTold_235 ⟨Nat.zero_le _, Nat.zero_le _⟩) hA hW [0, 1] [] [0, 1] rfl rfl (by decide) (by decide) rfl (by decide) (fun z_235 H locs hW => ?_)
      refine lv_if_eq (tgt := 256) hx hb dX3_isTold_238 (by decide) (fun c_238 => ?_) (fun c_238 => ?_)
      · have hF := ite_t hF c_238
        refine lv_iconst (v := 0) hx hb dX3_isTold_256 (by decide) ?_
        obtain rfl := Option.some.inj hF
        exact hret _ _ _ _ hW (Or.inl rfl) dX3_isTold_257
      · have hF := ite_f hF c_238
        refine lv_aload_n hx hb dX3_isTold_241 rfl (lv_at hl 0 rfl) ?_
        refine lv_iconst (v := 1) hx hb dX3_isTold_242 (by decide) ?_
        refine lv_iconst (v := 0) hx hb dX3_isTold_243 (by decide) ?_
        refine lv_bipush (v := 20) hx hb dX3_isTold_244 (by decide) ?_
        obtain ⟨q246, c_246, hF⟩ := bd_el hF
        refine wcZ (ws' := [(h_this, oX3 ad_this v_numberCount v_letter v_end), ((ad_this 0), cI G 4 a_numbers)]) (wc := [(h_this, oX3 ad_this v_numberCount v_letter v_end), ((ad_this 0), cI G 4 a_numbers)]) (wr := []) (w1 := [(h_this, oX3 ad_this v_numberCount v_letter v_end), ((ad_this 0), cI G 4 a_numbers)]) (va_runV (As := [.int 1, .int 0, .int 20]) (rest := []) ⟨hx, hb, hml, hown, hg⟩ (c_X3_reaches l G 1 0 20 h_this ad_this v_numberCount v_letter v_end a_numbers q246 c_246 H.size) (cwV 3 hg (gV wd_2_54 wd_2_56 wd_0_3 wd_1_3 wd_2_57) rfl rfl rfl hdV_X3_reaches ⟨(Nat.le_of_ble_eq_true rfl), (Nat.le_of_ble_eq_true rfl)⟩) (preV hc hW [0, 1] rfl (by decide) rfl rfl) rfl rfl hl.1 rfl (lv_room (Nat.le_of_ble_eq_true rfl)) dX3_isTold_246 ⟨Nat.zero_le _, Nat.zero_le _⟩) hA hW [0, 1] [] [0, 1] rfl rfl (by decide) (by decide) rfl (by decide) (fun z_246 H locs hW => ?_)
        refine lv_if_eq (tgt := 256) hx hb dX3_isTold_249 (by decide) (fun c_249 => ?_) (fun c_249 => ?_)
        · have hF := ite_t hF c_249
          refine lv_iconst (v := 0) hx hb dX3_isTold_256 (by decide) ?_
          obtain rfl := Option.some.inj hF
          exact hret _ _ _ _ hW (Or.inl rfl) dX3_isTold_257
        · have hF := ite_f hF c_249
          refine lv_iconst (v := 1) hx hb dX3_isTold_252 (by decide) ?_
          refine lv_goto (tgt := 257) hx hb dX3_isTold_253 (by decide) ?_
          obtain rfl := Option.some.inj hF
          exact hret _ _ _ _ hW (Or.inr rfl) dX3_isTold_257
  have hF := ite_f hF w_4_119
  refine lv_lookup (off := 290) (tgt := 294) hx hb dX3_isTold_4 (by decide +kernel) (by simp only [Op.lookupswitch.offset, if_neg (i32_ne (k := 97) rfl w_4_97), if_neg (i32_ne (k := 98) rfl w_4_98), if_neg (i32_ne (k := 104) rfl w_4_104), if_neg (i32_ne (k := 108) rfl w_4_108), if_neg (i32_ne (k := 115) rfl w_4_115), if_neg (i32_ne (k := 119) rfl w_4_119)]) (by decide) ?_
  refine lv_iconst (v := 0) hx hb dX3_isTold_294 (by decide) ?_
  obtain rfl := Option.some.inj hF
  exact hret _ _ _ _ hW (Or.inl rfl) dX3_isTold_295
theorem dX3_readAt_0 : decode cX3_readAt 0 = .ok (.aload_n 0, 1) := by decide +kernel
theorem dX3_readAt_1 : decode cX3_readAt 1 = .ok (.aload_n 1, 1) := by decide +kernel
theorem dX3_readAt_2 : decode cX3_readAt 2 = .ok (.iload_n 2, 1) := by decide +kernel
theorem dX3_readAt_3 : decode cX3_readAt 3 = .ok (.invokevirtual 15, 3) := by decide +kernel
theorem dX3_readAt_6 : decode cX3_readAt 6 = .ok (.putfield 21, 3) := by decide +kernel
theorem dX3_readAt_9 : decode cX3_readAt 9 = .ok (.aload_n 0, 1) := by decide +kernel
theorem dX3_readAt_10 : decode cX3_readAt 10 = .ok (.iload_n 2, 1) := by decide +kernel
theorem dX3_readAt_11 : decode cX3_readAt 11 = .ok (.iconst 1, 1) := by decide +kernel
theorem dX3_readAt_12 : decode cX3_readAt 12 = .ok (.iadd, 1) := by decide +kernel
theorem dX3_readAt_13 : decode cX3_readAt 13 = .ok (.putfield 25, 3) := by decide +kernel
theorem dX3_readAt_16 : decode cX3_readAt 16 = .ok (.aload_n 0, 1) := by decide +kernel
theorem dX3_readAt_17 : decode cX3_readAt 17 = .ok (.iconst 0, 1) := by decide +kernel
theorem dX3_readAt_18 : decode cX3_readAt 18 = .ok (.putfield 28, 3) := by decide +kernel
theorem dX3_readAt_21 : decode cX3_readAt 21 = .ok (.iconst 1, 1) := by decide +kernel
theorem dX3_readAt_22 : decode cX3_readAt 22 = .ok (.istore_n 3, 1) := by decide +kernel
theorem dX3_readAt_23 : decode cX3_readAt 23 = .ok (.iconst 0, 1) := by decide +kernel
theorem dX3_readAt_24 : decode cX3_readAt 24 = .ok (.istore 4, 2) := by decide +kernel
theorem dX3_readAt_26 : decode cX3_readAt 26 = .ok (.iload 4, 2) := by decide +kernel
theorem dX3_readAt_28 : decode cX3_readAt 28 = .ok (.iconst 4, 1) := by decide +kernel
theorem dX3_readAt_29 : decode cX3_readAt 29 = .ok (.if_icmp .ge 72, 3) := by decide +kernel
theorem dX3_readAt_32 : decode cX3_readAt 32 = .ok (.iload_n 3, 1) := by decide +kernel
theorem dX3_readAt_33 : decode cX3_readAt 33 = .ok (.ifCond .eq 68, 3) := by decide +kernel
theorem dX3_readAt_36 : decode cX3_readAt 36 = .ok (.aload_n 0, 1) := by decide +kernel
theorem dX3_readAt_37 : decode cX3_readAt 37 = .ok (.aload_n 1, 1) := by decide +kernel
theorem dX3_readAt_38 : decode cX3_readAt 38 = .ok (.invokevirtual 31, 3) := by decide +kernel
theorem dX3_readAt_41 : decode cX3_readAt 41 = .ok (.ifCond .ne 5, 3) := by decide +kernel
theorem dX3_readAt_44 : decode cX3_readAt 44 = .ok (.iconst 0, 1) := by decide +kernel
theorem dX3_readAt_45 : decode cX3_readAt 45 = .ok (.ireturn, 1) := by decide +kernel
theorem dX3_readAt_46 : decode cX3_readAt 46 = .ok (.aload_n 1, 1) := by decide +kernel
theorem dX3_readAt_47 : decode cX3_readAt 47 = .ok (.aload_n 0, 1) := by decide +kernel
theorem dX3_readAt_48 : decode cX3_readAt 48 = .ok (.getfield 25, 3) := by decide +kernel
theorem dX3_readAt_51 : decode cX3_readAt 51 = .ok (.invokevirtual 15, 3) := by decide +kernel
theorem dX3_readAt_54 : decode cX3_readAt 54 = .ok (.istore 5, 2) := by decide +kernel
theorem dX3_readAt_56 : decode cX3_readAt 56 = .ok (.aload_n 0, 1) := by decide +kernel
theorem dX3_readAt_57 : decode cX3_readAt 57 = .ok (.dup, 1) := by decide +kernel
theorem dX3_readAt_58 : decode cX3_readAt 58 = .ok (.getfield 25, 3) := by decide +kernel
theorem dX3_readAt_61 : decode cX3_readAt 61 = .ok (.iconst 1, 1) := by decide +kernel
theorem dX3_readAt_62 : decode cX3_readAt 62 = .ok (.iadd, 1) := by decide +kernel
theorem dX3_readAt_63 : decode cX3_readAt 63 = .ok (.putfield 25, 3) := by decide +kernel
theorem dX3_readAt_66 : decode cX3_readAt 66 = .ok (.iload 5, 2) := by decide +kernel
theorem dX3_readAt_68 : decode cX3_readAt 68 = .ok (.bipush 44, 2) := by decide +kernel
theorem dX3_readAt_70 : decode cX3_readAt 70 = .ok (.if_icmp .eq 12, 3) := by decide +kernel
theorem dX3_readAt_73 : decode cX3_readAt 73 = .ok (.iload 5, 2) := by decide +kernel
theorem dX3_readAt_75 : decode cX3_readAt 75 = .ok (.bipush 59, 2) := by decide +kernel
theorem dX3_readAt_77 : decode cX3_readAt 77 = .ok (.if_icmp .eq 5, 3) := by decide +kernel
theorem dX3_readAt_80 : decode cX3_readAt 80 = .ok (.iconst 0, 1) := by decide +kernel
theorem dX3_readAt_81 : decode cX3_readAt 81 = .ok (.ireturn, 1) := by decide +kernel
theorem dX3_readAt_82 : decode cX3_readAt 82 = .ok (.iload 5, 2) := by decide +kernel
theorem dX3_readAt_84 : decode cX3_readAt 84 = .ok (.bipush 44, 2) := by decide +kernel
theorem dX3_readAt_86 : decode cX3_readAt 86 = .ok (.if_icmp .ne 7, 3) := by decide +kernel
theorem dX3_readAt_89 : decode cX3_readAt 89 = .ok (.iconst 1, 1) := by decide +kernel
theorem dX3_readAt_90 : decode cX3_readAt 90 = .ok (.goto 4, 3) := by decide +kernel
theorem dX3_readAt_93 : decode cX3_readAt 93 = .ok (.iconst 0, 1) := by decide +kernel
theorem dX3_readAt_94 : decode cX3_readAt 94 = .ok (.istore_n 3, 1) := by decide +kernel
theorem dX3_readAt_95 : decode cX3_readAt 95 = .ok (.iinc 4 1, 3) := by decide +kernel
theorem dX3_readAt_98 : decode cX3_readAt 98 = .ok (.goto (-72), 3) := by decide +kernel
theorem dX3_readAt_101 : decode cX3_readAt 101 = .ok (.iload_n 3, 1) := by decide +kernel
theorem dX3_readAt_102 : decode cX3_readAt 102 = .ok (.ifCond .ne 14, 3) := by decide +kernel
theorem dX3_readAt_105 : decode cX3_readAt 105 = .ok (.aload_n 0, 1) := by decide +kernel
theorem dX3_readAt_106 : decode cX3_readAt 106 = .ok (.invokevirtual 35, 3) := by decide +kernel
theorem dX3_readAt_109 : decode cX3_readAt 109 = .ok (.ifCond .eq 7, 3) := by decide +kernel
theorem dX3_readAt_112 : decode cX3_readAt 112 = .ok (.iconst 1, 1) := by decide +kernel
theorem dX3_readAt_113 : decode cX3_readAt 113 = .ok (.goto 4, 3) := by decide +kernel
theorem dX3_readAt_116 : decode cX3_readAt 116 = .ok (.iconst 0, 1) := by decide +kernel
theorem dX3_readAt_117 : decode cX3_readAt 117 = .ok (.ireturn, 1) := by decide +kernel
def L_X3_readAt_26 (v_p1_length : Int32) (a_p1_letters : Nat → Int32) (q3 : Int32) (k_101 : Int32 → Int32 → Int32 → (Nat → Int32) → Option (Int32 × Int32 × Int32 × Int32 × (Nat → Int32))) : Nat → Int32 → Int32 → Int32 → Int32 → (Nat → Int32) → Option (Int32 × Int32 × Int32 × Int32 × (Nat → Int32))
  | 0, _, _, _, _, _ => none
  | n + 1, x3_26, x4_26, v_end_26, v_numberCount_26, a_numbers_26 => (if 4 ≤ x4_26 then k_101 x3_26 v_end_26 v_numberCount_26 a_numbers_26 else (if x3_26 = 0 then k_101 x3_26 v_end_26 v_numberCount_26 a_numbers_26 else (F_X3_readNumber v_end_26 v_numberCount_26 v_p1_length a_p1_letters a_numbers_26).bind (fun q38 => (if q38.1 = 0 then some (0, q38.2.1, q3, q38.2.2.1, q38.2.2.2) else (F_X6_letterAt q38.2.1 v_p1_length a_p1_letters).bind (fun q51 => jn (jn (fun j0_94 => L_X3_readAt_26 v_p1_length a_p1_letters q3 k_101 n j0_94 ((x4_26 + 1)) ((q38.2.1 + 1)) q38.2.2.1 q38.2.2.2) (fun k_94 => (if q51 = 44 then k_94 1 else k_94 0))) (fun k_82 => (if q51 = 44 then k_82 else (if q51 = 59 then k_82 else some (0, (q38.2.1 + 1), q3, q38.2.2.1, q38.2.2.2)))))))))
def F_X3_readAt (x2 : Int32) (v_end : Int32) (v_letter : Int32) (v_numberCount : Int32) (v_p1_length : Int32) (a_p1_letters : Nat → Int32) (a_numbers : Nat → Int32) : Option (Int32 × Int32 × Int32 × Int32 × (Nat → Int32)) := (F_X6_letterAt x2 v_p1_length a_p1_letters).bind (fun q3 => jn (fun x3_101 v_end_101 v_numberCount_101 a_numbers_101 => (if x3_101 = 0 then (F_X3_isTold q3 v_numberCount_101 a_numbers_101).bind (fun q106 => (if q106 = 0 then some (0, v_end_101, q3, v_numberCount_101, a_numbers_101) else some (1, v_end_101, q3, v_numberCount_101, a_numbers_101))) else some (0, v_end_101, q3, v_numberCount_101, a_numbers_101))) (fun k_101 => L_X3_readAt_26 v_p1_length a_p1_letters q3 k_101 5000 1 0 ((x2 + 1)) 0 a_numbers))
theorem hdV_X3_readAt : yX3_readAt.cls = RX3 ∧ yX3_readAt.cls ≠ "java/lang/invoke/MethodHandle" ∧ yX3_readAt.cls ≠ "java/lang/invoke/VarHandle" ∧ (parseMethodDescriptor yX3_readAt.desc).map (fun d => d.parameters.length) = some 2 := by decide +kernel
set_option maxHeartbeats 4000000 in
set_option maxRecDepth 100000 in
theorem c_X3_readAt (l : Launch) (G : GG) (x2 : Int32) (h_this : Nat) (h_p1 : Nat) (ad_this : Nat → Nat) (ad_p1 : Nat → Nat) (v_numberCount : Int32) (v_letter : Int32) (v_end : Int32) (v_p1_length : Int32) (a_p1_letters : Nat → Int32) (a_numbers : Nat → Int32) (out : Int32 × Int32 × Int32 × Int32 × (Nat → Int32)) (hF : F_X3_readAt x2 v_end v_letter v_numberCount v_p1_length a_p1_letters a_numbers = some out) : CtrZ l yX3_readAt (WS yX3_readAt cX3_readAt 6 (some .boolean)) { frames := 3, cells := 0, slots := 0, locals := 66 } G [.ref h_this, .ref h_p1, .int x2] [(h_this, oX3 ad_this v_numberCount v_letter v_end), (h_p1, oX6 ad_p1 v_p1_length), ((ad_p1 0), cI G 200 a_p1_letters), ((ad_this 0), cI G 4 a_numbers)] [(h_this, oX3 ad_this out.2.2.2.1 out.2.2.1 out.2.1), (h_p1, oX6 ad_p1 v_p1_length), ((ad_p1 0), cI G 200 a_p1_letters), ((ad_this 0), cI G 4 out.2.2.2.2)] out.1 := by
  refine startZ (cc := cX3_readAt) (maxL := 6) (by decide) rfl (Nat.le_of_ble_eq_true rfl) ?_
  intro p e s m args below meth c A Q hx hb hml hts hown hc hA hret ls H locs hl hW
  have hown : s.vm.findClass RX3 = some m.cls := hown
  have hg : ∀ w ∈ GOODS, w.before _ s = true := fun w h => hts w (List.mem_cons_of_mem _ h)
  have hl : lv_has ls 6 [(0, .ref h_this), (1, .ref h_p1), (2, .int x2)] := hl
  rw [F_X3_readAt] at hF
  refine lv_aload_n hx hb dX3_readAt_0 rfl (lv_at hl 0 rfl) ?_
  refine lv_aload_n hx hb dX3_readAt_1 rfl (lv_at hl 1 rfl) ?_
  refine lv_iload_n hx hb dX3_readAt_2 rfl (lv_at hl 2 rfl) ?_
  obtain ⟨q3, c_3, hF⟩ := bd_el hF
  refine wcI (ws' := [(h_this, oX3 ad_this v_numberCount v_letter v_end), (h_p1, oX6 ad_p1 v_p1_length), ((ad_p1 0), cI G 200 a_p1_letters), ((ad_this 0), cI G 4 a_numbers)]) (wc := [(h_p1, oX6 ad_p1 v_p1_length), ((ad_p1 0), cI G 200 a_p1_letters)]) (wr := [(h_this, oX3 ad_this v_numberCount v_letter v_end), ((ad_this 0), cI G 4 a_numbers)]) (w1 := [(h_p1, oX6 ad_p1 v_p1_length), ((ad_p1 0), cI G 200 a_p1_letters)]) (va_runV (As := [.int x2]) (rest := [.ref h_this]) ⟨hx, hb, hml, hown, hg⟩ (c_X6_letterAt l G x2 h_p1 ad_p1 v_p1_length a_p1_letters q3 c_3 H.size) (cwV 1 hg (gV wd_2_32 wd_2_33 wd_2_34 wd_1_2 wd_2_35) rfl rfl rfl hdV_X6_letterAt ⟨(Nat.le_of_ble_eq_true rfl), (Nat.le_of_ble_eq_true rfl)⟩) (preV hc hW [1, 2] rfl (by decide) rfl rfl) rfl rfl hl.1 rfl (lv_room (Nat.le_of_ble_eq_true rfl)) dX3_readAt_3 ⟨Nat.zero_le _, Nat.zero_le _⟩) hA hW [1, 2] [0, 3] [0, 2, 3, 1] rfl rfl (by decide) (by decide) rfl (by decide) (fun H locs hW => ?_)
  refine va_put (D := G.1) (ci := 3) (v := .int q3) (ty := .int) (C := RX3) (T := TX3) (N := 4) hx hb hg hu_X3 tyX3 tyX3_ok nmX3 hown hc.1 hW.1 hW.2.1 hW.2.2 0 rfl rfl 2 (by decide) (hg _ wd_1_50) (fun _ h9 => h9) rfl (by decide +kernel) rfl rfl (Nat.le_of_ble_eq_true rfl) dX3_readAt_6 (fun H locs hP hD hS => ?_)
  have hW : Wd G A s.heap [(h_this, oX3 ad_this v_numberCount q3 v_end), (h_p1, oX6 ad_p1 v_p1_length), ((ad_p1 0), cI G 200 a_p1_letters), ((ad_this 0), cI G 4 a_numbers)] H locs := ⟨hP, hD, hS⟩
  refine lv_aload_n hx hb dX3_readAt_9 rfl (lv_at hl 0 rfl) ?_
  refine lv_iload_n hx hb dX3_readAt_10 rfl (lv_at hl 2 rfl) ?_
  refine lv_iconst (v := 1) hx hb dX3_readAt_11 (by decide) ?_
  refine lv_iadd hx hb dX3_readAt_12 ?_
  refine va_put (D := G.1) (ci := 3) (v := .int ((x2 + 1))) (ty := .int) (C := RX3) (T := TX3) (N := 4) hx hb hg hu_X3 tyX3 tyX3_ok nmX3 hown hc.1 hW.1 hW.2.1 hW.2.2 0 rfl rfl 3 (by decide) (hg _ wd_1_52) (fun _ h9 => h9) rfl (by decide +kernel) rfl rfl (Nat.le_of_ble_eq_true rfl) dX3_readAt_13 (fun H locs hP hD hS => ?_)
  have hW : Wd G A s.heap [(h_this, oX3 ad_this v_numberCount q3 ((x2 + 1))), (h_p1, oX6 ad_p1 v_p1_length), ((ad_p1 0), cI G 200 a_p1_letters), ((ad_this 0), cI G 4 a_numbers)] H locs := ⟨hP, hD, hS⟩
  refine lv_aload_n hx hb dX3_readAt_16 rfl (lv_at hl 0 rfl) ?_
  refine lv_iconst (v := 0) hx hb dX3_readAt_17 (by decide) ?_
  refine va_put (D := G.1) (ci := 3) (v := .int 0) (ty := .int) (C := RX3) (T := TX3) (N := 4) hx hb hg hu_X3 tyX3 tyX3_ok nmX3 hown hc.1 hW.1 hW.2.1 hW.2.2 0 rfl rfl 1 (by decide) (hg _ wd_1_49) (fun _ h9 => h9) rfl (by decide +kernel) rfl rfl (Nat.le_of_ble_eq_true rfl) dX3_readAt_18 (fun H locs hP hD hS => ?_)
  have hW : Wd G A s.heap [(h_this, oX3 ad_this 0 q3 ((x2 + 1))), (h_p1, oX6 ad_p1 v_p1_length), ((ad_p1 0), cI G 200 a_p1_letters), ((ad_this 0), cI G 4 a_numbers)] H locs := ⟨hP, hD, hS⟩
  refine lv_iconst (v := 1) hx hb dX3_readAt_21 (by decide) ?_
  refine lv_istore_n (lv' := [(3, .int 1), (0, .ref h_this), (1, .ref h_p1), (2, .int x2)]) hx hb dX3_readAt_22 rfl hl (by decide) rfl (fun ls hl => ?_)
  refine lv_iconst (v := 0) hx hb dX3_readAt_23 (by decide) ?_
  refine lv_istore (lv' := [(4, .int 0), (3, .int 1), (0, .ref h_this), (1, .ref h_p1), (2, .int x2)]) hx hb dX3_readAt_24 hl (by decide) rfl (fun ls hl => ?_)
  obtain ⟨k_101, e_101, hF⟩ := jn_el hF
  have J_101 : ∀ (x3_101 : Int32) (v_end_101 : Int32) (v_numberCount_101 : Int32) (a_numbers_101 : Nat → Int32) (ls : Array Slot) (H : Heap) (locs : List Loc), k_101 x3_101 v_end_101 v_numberCount_101 a_numbers_101 = some out → lv_has ls 6 [(0, .ref h_this), (3, .int x3_101)] → Wd G A s.heap [(h_this, oX3 ad_this v_numberCount_101 q3 v_end_101), (h_p1, oX6 ad_p1 v_p1_length), ((ad_p1 0), cI G 200 a_p1_letters), ((ad_this 0), cI G 4 a_numbers_101)] H locs → W p l e ({ frames := 3, cells := 0, slots := 0, locals := 66 } : Room) s m args below meth c H locs 0 0 Q (F0 m 101 ls []) := by
    intro x3_101 v_end_101 v_numberCount_101 a_numbers_101 ls H locs hF hl hW
    rw [e_101] at hF
    dsimp only at hF
    refine lv_iload_n hx hb dX3_readAt_101 rfl (lv_at hl 1 rfl) ?_
    refine lv_if_ne (tgt := 116) hx hb dX3_readAt_102 (by decide) (fun c_102 => ?_) (fun c_102 => ?_)
    · have hF := ite_f hF c_102
      refine lv_iconst (v := 0) hx hb dX3_readAt_116 (by decide) ?_
      obtain rfl := Option.some.inj hF
      exact hret _ _ _ _ hW (Or.inl rfl) dX3_readAt_117
    · have hF := ite_t hF c_102
      refine lv_aload_n hx hb dX3_readAt_105 rfl (lv_at hl 0 rfl) ?_
      obtain ⟨q106, c_106, hF⟩ := bd_el hF
      refine wcZ (ws' := [(h_this, oX3 ad_this v_numberCount_101 q3 v_end_101), (h_p1, oX6 ad_p1 v_p1_length), ((ad_p1 0), cI G 200 a_p1_letters), ((ad_this 0), cI G 4 a_numbers_101)]) (wc := [(h_this, oX3 ad_this v_numberCount_101 q3 v_end_101), ((ad_this 0), cI G 4 a_numbers_101)]) (wr := [(h_p1, oX6 ad_p1 v_p1_length), ((ad_p1 0), cI G 200 a_p1_letters)]) (w1 := [(h_this, oX3 ad_this v_numberCount_101 q3 v_end_101), ((ad_this 0), cI G 4 a_numbers_101)]) (va_runV (As := []) (rest := []) ⟨hx, hb, hml, hown, hg⟩ (c_X3_isTold l G h_this ad_this v_numberCount_101 q3 v_end_101 a_numbers_101 q106 c_106 H.size) (cwV 0 hg (gV wd_2_50 wd_2_52 wd_0_2 wd_1_3 wd_2_53) rfl rfl rfl hdV_X3_isTold ⟨(Nat.le_of_ble_eq_true rfl), (Nat.le_of_ble_eq_true rfl)⟩) (preV hc hW [0, 3] rfl (by decide) rfl rfl) rfl rfl hl.1 rfl (lv_room (Nat.le_of_ble_eq_true rfl)) dX3_readAt_106 ⟨Nat.zero_le _, Nat.zero_le _⟩) hA hW [0, 3] [1, 2] [2, 0, 1, 3] rfl rfl (by decide) (by decide) rfl (by decide) (fun z_106 H locs hW => ?_)
      refine lv_if_eq (tgt := 116) hx hb dX3_readAt_109 (by decide) (fun c_109 => ?_) (fun c_109 => ?_)
      · have hF := ite_t hF c_109
        refine lv_iconst (v := 0) hx hb dX3_readAt_116 (by decide) ?_
        obtain rfl := Option.some.inj hF
        exact hret _ _ _ _ hW (Or.inl rfl) dX3_readAt_117
      · have hF := ite_f hF c_109
        refine lv_iconst (v := 1) hx hb dX3_readAt_112 (by decide) ?_
        refine lv_goto (tgt := 117) hx hb dX3_readAt_113 (by decide) ?_
        obtain rfl := Option.some.inj hF
        exact hret _ _ _ _ hW (Or.inr rfl) dX3_readAt_117
  have L_26 : ∀ (n : Nat) (x3_26 : Int32) (x4_26 : Int32) (v_end_26 : Int32) (v_numberCount_26 : Int32) (a_numbers_26 : Nat → Int32) (ls : Array Slot) (H : Heap) (locs : List Loc), L_X3_readAt_26 v_p1_length a_p1_letters q3 k_101 n x3_26 x4_26 v_end_26 v_numberCount_26 a_numbers_26 = some out → lv_has ls 6 [(0, .ref h_this), (1, .ref h_p1), (3, .int x3_26), (4, .int x4_26)] → Wd G A s.heap [(h_this, oX3 ad_this v_numberCount_26 q3 v_end_26), (h_p1, oX6 ad_p1 v_p1_length), ((ad_p1 0), cI G 200 a_p1_letters), ((ad_this 0), cI G 4 a_numbers_26)] H locs → W p l e ({ frames := 3, cells := 0, slots := 0, locals := 66 } : Room) s m args below meth c H locs 0 0 Q (F0 m 26 ls []) := by
    intro n
    induction n with
    | zero => intro x3_26 x4_26 v_end_26 v_numberCount_26 a_numbers_26 ls H locs hF hl hW; have h0 : none = some out := hF; cases h0
    | succ n ih =>
      intro x3_26 x4_26 v_end_26 v_numberCount_26 a_numbers_26 ls H locs hF hl hW
      rw [L_X3_readAt_26] at hF
      refine lv_iload hx hb dX3_readAt_26 (lv_at hl 3 rfl) ?_
      refine lv_iconst (v := 4) hx hb dX3_readAt_28 (by decide) ?_
      refine lv_icmp_ge (tgt := 101) hx hb dX3_readAt_29 (by decide) (fun c_29 => ?_) (fun c_29 => ?_)
      · have hF := ite_t hF c_29
        exact J_101 x3_26 v_end_26 v_numberCount_26 a_numbers_26 _ _ _ hF (lv_sub hl [0, 2] rfl) hW
      · have hF := ite_f hF c_29
        refine lv_iload_n hx hb dX3_readAt_32 rfl (lv_at hl 2 rfl) ?_
        refine lv_if_eq (tgt := 101) hx hb dX3_readAt_33 (by decide) (fun c_33 => ?_) (fun c_33 => ?_)
        · have hF := ite_t hF c_33
          exact J_101 x3_26 v_end_26 v_numberCount_26 a_numbers_26 _ _ _ hF (lv_sub hl [0, 2] rfl) hW
        · have hF := ite_f hF c_33
          refine lv_aload_n hx hb dX3_readAt_36 rfl (lv_at hl 0 rfl) ?_
          refine lv_aload_n hx hb dX3_readAt_37 rfl (lv_at hl 1 rfl) ?_
          obtain ⟨q38, c_38, hF⟩ := bd_el hF
          refine wcZ (ws' := [(h_this, oX3 ad_this q38.2.2.1 q3 q38.2.1), (h_p1, oX6 ad_p1 v_p1_length), ((ad_p1 0), cI G 200 a_p1_letters), ((ad_this 0), cI G 4 q38.2.2.2)]) (wc := [(h_this, oX3 ad_this v_numberCount_26 q3 v_end_26), (h_p1, oX6 ad_p1 v_p1_length), ((ad_p1 0), cI G 200 a_p1_letters), ((ad_this 0), cI G 4 a_numbers_26)]) (wr := []) (w1 := [(h_this, oX3 ad_this q38.2.2.1 q3 q38.2.1), (h_p1, oX6 ad_p1 v_p1_length), ((ad_p1 0), cI G 200 a_p1_letters), ((ad_this 0), cI G 4 q38.2.2.2)]) (va_runV (As := [.ref h_p1]) (rest := []) ⟨hx, hb, hml, hown, hg⟩ (c_X3_readNumber l G h_this h_p1 ad_this ad_p1 v_numberCount_26 q3 v_end_26 v_p1_length a_p1_letters a_numbers_26 q38 c_38 H.size) (cwV 1 hg (gV wd_2_39 wd_2_41 wd_0_1 wd_1_3 wd_2_42) rfl rfl rfl hdV_X3_readNumber ⟨(Nat.le_of_ble_eq_true rfl), (Nat.le_of_ble_eq_true rfl)⟩) (preV hc hW [0, 1, 2, 3] rfl (by decide) rfl rfl) rfl rfl hl.1 rfl (lv_room (Nat.le_of_ble_eq_true rfl)) dX3_readAt_38 ⟨Nat.zero_le _, Nat.zero_le _⟩) hA hW [0, 1, 2, 3] [] [0, 1, 2, 3] rfl rfl (by decide) (by decide) rfl (by decide) (fun z_38 H locs hW => ?_)
          refine lv_if_ne (tgt := 46) hx hb dX3_readAt_41 (by decide) (fun c_41 => ?_) (fun c_41 => ?_)
          · have hF := ite_f hF c_41
            refine lv_aload_n hx hb dX3_readAt_46 rfl (lv_at hl 1 rfl) ?_
            refine lv_aload_n hx hb dX3_readAt_47 rfl (lv_at hl 0 rfl) ?_
            refine va_get (D := G.1) (ci := 3) (v := .int q38.2.1) (C := RX3) (T := TX3) (N := 4) hx hb hg hu_X3 hown hc.1 hW.1 0 rfl rfl 3 (by decide) (hg _ wd_1_52) (fun _ h9 => h9) rfl dX3_readAt_48 ?_
            obtain ⟨q51, c_51, hF⟩ := bd_el hF
            refine wcI (ws' := [(h_this, oX3 ad_this q38.2.2.1 q3 q38.2.1), (h_p1, oX6 ad_p1 v_p1_length), ((ad_p1 0), cI G 200 a_p1_letters), ((ad_this 0), cI G 4 q38.2.2.2)]) (wc := [(h_p1, oX6 ad_p1 v_p1_length), ((ad_p1 0), cI G 200 a_p1_letters)]) (wr := [(h_this, oX3 ad_this q38.2.2.1 q3 q38.2.1), ((ad_this 0), cI G 4 q38.2.2.2)]) (w1 := [(h_p1, oX6 ad_p1 v_p1_length), ((ad_p1 0), cI G 200 a_p1_letters)]) (va_runV (As := [.int q38.2.1]) (rest := []) ⟨hx, hb, hml, hown, hg⟩ (c_X6_letterAt l G q38.2.1 h_p1 ad_p1 v_p1_length a_p1_letters q51 c_51 H.size) (cwV 1 hg (gV wd_2_32 wd_2_33 wd_2_34 wd_1_2 wd_2_35) rfl rfl rfl hdV_X6_letterAt ⟨(Nat.le_of_ble_eq_true rfl), (Nat.le_of_ble_eq_true rfl)⟩) (preV hc hW [1, 2] rfl (by decide) rfl rfl) rfl rfl hl.1 rfl (lv_room (Nat.le_of_ble_eq_true rfl)) dX3_readAt_51 ⟨Nat.zero_le _, Nat.zero_le _⟩) hA hW [1, 2] [0, 3] [0, 2, 3, 1] rfl rfl (by decide) (by decide) rfl (by decide) (fun H locs hW => ?_)
            refine lv_istore (lv' := [(5, .int q51), (0, .ref h_this), (1, .ref h_p1), (3, .int x3_26), (4, .int x4_26)]) hx hb dX3_readAt_54 hl (by decide) rfl (fun ls hl => ?_)
            refine lv_aload_n hx hb dX3_readAt_56 rfl (lv_at hl 1 rfl) ?_
            refine lv_dup hx hb dX3_readAt_57 rfl ?_
            refine va_get (D := G.1) (ci := 3) (v := .int q38.2.1) (C := RX3) (T := TX3) (N := 4) hx hb hg hu_X3 hown hc.1 hW.1 0 rfl rfl 3 (by decide) (hg _ wd_1_52) (fun _ h9 => h9) rfl dX3_readAt_58 ?_
            refine lv_iconst (v := 1) hx hb dX3_readAt_61 (by decide) ?_
            refine lv_iadd hx hb dX3_readAt_62 ?_
            refine va_put (D := G.1) (ci := 3) (v := .int ((q38.2.1 + 1))) (ty := .int) (C := RX3) (T := TX3) (N := 4) hx hb hg hu_X3 tyX3 tyX3_ok nmX3 hown hc.1 hW.1 hW.2.1 hW.2.2 0 rfl rfl 3 (by decide) (hg _ wd_1_52) (fun _ h9 => h9) rfl (by decide +kernel) rfl rfl (Nat.le_of_ble_eq_true rfl) dX3_readAt_63 (fun H locs hP hD hS => ?_)
            have hW : Wd G A s.heap [(h_this, oX3 ad_this q38.2.2.1 q3 ((q38.2.1 + 1))), (h_p1, oX6 ad_p1 v_p1_length), ((ad_p1 0), cI G 200 a_p1_letters), ((ad_this 0), cI G 4 q38.2.2.2)] H locs := ⟨hP, hD, hS⟩
            refine lv_iload hx hb dX3_readAt_66 (lv_at hl 0 rfl) ?_
            refine lv_bipush (v := 44) hx hb dX3_readAt_68 (by decide) ?_
            obtain ⟨k_82, e_82, hF⟩ := jn_el hF
            have J_82 : ∀ (ls : Array Slot) (H : Heap) (locs : List Loc), k_82 = some out → lv_has ls 6 [(0, .ref h_this), (1, .ref h_p1), (4, .int x4_26), (5, .int q51)] → Wd G A s.heap [(h_this, oX3 ad_this q38.2.2.1 q3 ((q38.2.1 + 1))), (h_p1, oX6 ad_p1 v_p1_length), ((ad_p1 0), cI G 200 a_p1_letters), ((ad_this 0), cI G 4 q38.2.2.2)] H locs → W p l e ({ frames := 3, cells := 0, slots := 0, locals := 66 } : Room) s m args below meth c H locs 0 0 Q (F0 m 82 ls []) := by
              intro ls H locs hF hl hW
              rw [e_82] at hF
              refine lv_iload hx hb dX3_readAt_82 (lv_at hl 3 rfl) ?_
              refine lv_bipush (v := 44) hx hb dX3_readAt_84 (by decide) ?_
              obtain ⟨k_94, e_94, hF⟩ := jn_el hF
              have J_94 : ∀ (j0_94 : Int32) (ls : Array Slot) (H : Heap) (locs : List Loc), k_94 j0_94 = some out → lv_has ls 6 [(0, .ref h_this), (1, .ref h_p1), (4, .int x4_26)] → Wd G A s.heap [(h_this, oX3 ad_this q38.2.2.1 q3 ((q38.2.1 + 1))), (h_p1, oX6 ad_p1 v_p1_length), ((ad_p1 0), cI G 200 a_p1_letters), ((ad_this 0), cI G 4 q38.2.2.2)] H locs → W p l e ({ frames := 3, cells := 0, slots := 0, locals := 66 } : Room) s m args below meth c H locs 0 0 Q (F0 m 94 ls [.int j0_94]) := by
                intro j0_94 ls H locs hF hl hW
                rw [e_94] at hF
                dsimp only at hF
                refine lv_istore_n (lv' := [(3, .int j0_94), (0, .ref h_this), (1, .ref h_p1), (4, .int x4_26)]) hx hb dX3_readAt_94 rfl hl (by decide) rfl (fun ls hl => ?_)
                refine lv_iinc (v := (x4_26 + 1)) (lv' := [(4, .int ((x4_26 + 1))), (3, .int j0_94), (0, .ref h_this), (1, .ref h_p1)]) hx hb dX3_readAt_95 hl (k := 3) rfl rfl (by decide) rfl (fun ls hl => ?_)
                refine lv_goto (tgt := 26) hx hb dX3_readAt_98 (by decide) ?_
                exact ih j0_94 ((x4_26 + 1)) ((q38.2.1 + 1)) q38.2.2.1 q38.2.2.2 _ _ _ hF (lv_sub hl [2, 3, 1, 0] rfl) hW
              refine lv_icmp_ne (tgt := 93) hx hb dX3_readAt_86 (by decide) (fun c_86 => ?_) (fun c_86 => ?_)
              · have hF := ite_f hF c_86
                refine lv_iconst (v := 0) hx hb dX3_readAt_93 (by decide) ?_
                exact J_94 0 _ _ _ hF (lv_sub hl [0, 1, 2] rfl) hW
              · have hF := ite_t hF c_86
                refine lv_iconst (v := 1) hx hb dX3_readAt_89 (by decide) ?_
                refine lv_goto (tgt := 94) hx hb dX3_readAt_90 (by decide) ?_
                exact J_94 1 _ _ _ hF (lv_sub hl [0, 1, 2] rfl) hW
            refine lv_icmp_eq (tgt := 82) hx hb dX3_readAt_70 (by decide) (fun c_70 => ?_) (fun c_70 => ?_)
            · have hF := ite_t hF c_70
              exact J_82 _ _ _ hF (lv_sub hl [1, 2, 4, 0] rfl) hW
            · have hF := ite_f hF c_70
              refine lv_iload hx hb dX3_readAt_73 (lv_at hl 0 rfl) ?_
              refine lv_bipush (v := 59) hx hb dX3_readAt_75 (by decide) ?_
              refine lv_icmp_eq (tgt := 82) hx hb dX3_readAt_77 (by decide) (fun c_77 => ?_) (fun c_77 => ?_)
              · have hF := ite_t hF c_77
                exact J_82 _ _ _ hF (lv_sub hl [1, 2, 4, 0] rfl) hW
              · have hF := ite_f hF c_77
                refine lv_iconst (v := 0) hx hb dX3_readAt_80 (by decide) ?_
                obtain rfl := Option.some.inj hF
                exact hret _ _ _ _ hW (Or.inl rfl) dX3_readAt_81
          · have hF := ite_t hF c_41
            refine lv_iconst (v := 0) hx hb dX3_readAt_44 (by decide) ?_
            obtain rfl := Option.some.inj hF
            exact hret _ _ _ _ hW (Or.inl rfl) dX3_readAt_45
  exact L_26 5000 1 0 ((x2 + 1)) 0 a_numbers _ _ _ hF (lv_sub hl [2, 3, 1, 0] rfl) hW
end
section
theorem dX8_startOver_0 : decode cX8_startOver 0 = .ok (.iconst 0, 1) := by decide +kernel
theorem dX8_startOver_1 : decode cX8_startOver 1 = .ok (.istore_n 1, 1) := by decide +kernel
theorem dX8_startOver_2 : decode cX8_startOver 2 = .ok (.iload_n 1, 1) := by decide +kernel
theorem dX8_startOver_3 : decode cX8_startOver 3 = .ok (.iconst 3, 1) := by decide +kernel
theorem dX8_startOver_4 : decode cX8_startOver 4 = .ok (.if_icmp .ge 18, 3) := by decide +kernel
theorem dX8_startOver_7 : decode cX8_startOver 7 = .ok (.aload_n 0, 1) := by decide +kernel
theorem dX8_startOver_8 : decode cX8_startOver 8 = .ok (.getfield 9, 3) := by decide +kernel
theorem dX8_startOver_11 : decode cX8_startOver 11 = .ok (.iload_n 1, 1) := by decide +kernel
theorem dX8_startOver_12 : decode cX8_startOver 12 = .ok (.iconst 1, 1) := by decide +kernel
theorem dX8_startOver_13 : decode cX8_startOver 13 = .ok (.invokestatic 55, 3) := by decide +kernel
theorem dX8_startOver_16 : decode cX8_startOver 16 = .ok (.iinc 1 1, 3) := by decide +kernel
theorem dX8_startOver_19 : decode cX8_startOver 19 = .ok (.goto (-17), 3) := by decide +kernel
theorem dX8_startOver_22 : decode cX8_startOver 22 = .ok (.aload_n 0, 1) := by decide +kernel
theorem dX8_startOver_23 : decode cX8_startOver 23 = .ok (.bipush 60, 2) := by decide +kernel
theorem dX8_startOver_25 : decode cX8_startOver 25 = .ok (.putfield 61, 3) := by decide +kernel
theorem dX8_startOver_28 : decode cX8_startOver 28 = .ok (.aload_n 0, 1) := by decide +kernel
theorem dX8_startOver_29 : decode cX8_startOver 29 = .ok (.iconst 5, 1) := by decide +kernel
theorem dX8_startOver_30 : decode cX8_startOver 30 = .ok (.putfield 64, 3) := by decide +kernel
theorem dX8_startOver_33 : decode cX8_startOver 33 = .ok (.aload_n 0, 1) := by decide +kernel
theorem dX8_startOver_34 : decode cX8_startOver 34 = .ok (.iconst 0, 1) := by decide +kernel
theorem dX8_startOver_35 : decode cX8_startOver 35 = .ok (.putfield 67, 3) := by decide +kernel
theorem dX8_startOver_38 : decode cX8_startOver 38 = .ok (.aload_n 0, 1) := by decide +kernel
theorem dX8_startOver_39 : decode cX8_startOver 39 = .ok (.iconst 0, 1) := by decide +kernel
theorem dX8_startOver_40 : decode cX8_startOver 40 = .ok (.putfield 70, 3) := by decide +kernel
theorem dX8_startOver_43 : decode cX8_startOver 43 = .ok (.aload_n 0, 1) := by decide +kernel
theorem dX8_startOver_44 : decode cX8_startOver 44 = .ok (.iconst 0, 1) := by decide +kernel
theorem dX8_startOver_45 : decode cX8_startOver 45 = .ok (.putfield 73, 3) := by decide +kernel
theorem dX8_startOver_48 : decode cX8_startOver 48 = .ok (.aload_n 0, 1) := by decide +kernel
theorem dX8_startOver_49 : decode cX8_startOver 49 = .ok (.iconst 0, 1) := by decide +kernel
theorem dX8_startOver_50 : decode cX8_startOver 50 = .ok (.putfield 76, 3) := by decide +kernel
theorem dX8_startOver_53 : decode cX8_startOver 53 = .ok (.return_, 1) := by decide +kernel
def L_X8_startOver_2 (k_22 : (Nat → Int32) → Option (Int32 × Int32 × Int32 × Int32 × Int32 × Int32 × (Nat → Int32))) : Nat → Int32 → (Nat → Int32) → Option (Int32 × Int32 × Int32 × Int32 × Int32 × Int32 × (Nat → Int32))
  | 0, _, _ => none
  | n + 1, x1_2, a_lighter_2 => (if 3 ≤ x1_2 then k_22 a_lighter_2 else (F_X4_put x1_2 1 3 a_lighter_2).bind (fun q13 => L_X8_startOver_2 k_22 n ((x1_2 + 1)) q13))
def F_X8_startOver (v_boatCount : Int32) (v_boatDayCost : Int32) (v_houseCount : Int32) (v_signCount : Int32) (v_turnCost : Int32) (v_workCount : Int32) (a_lighter : Nat → Int32) : Option (Int32 × Int32 × Int32 × Int32 × Int32 × Int32 × (Nat → Int32)) := jn (fun (a_lighter_22 : Nat → Int32) => some (0, 5, 0, 0, 60, 0, a_lighter_22)) (fun k_22 => L_X8_startOver_2 k_22 5000 0 a_lighter)
theorem hdV_X8_startOver : yX8_startOver.cls = RX8 ∧ yX8_startOver.cls ≠ "java/lang/invoke/MethodHandle" ∧ yX8_startOver.cls ≠ "java/lang/invoke/VarHandle" ∧ (parseMethodDescriptor yX8_startOver.desc).map (fun d => d.parameters.length) = some 0 := by decide +kernel
set_option maxHeartbeats 4000000 in
set_option maxRecDepth 100000 in
theorem c_X8_startOver (l : Launch) (G : GG) (h_this : Nat) (ad_this : Nat → Nat) (v_signCount : Int32) (v_houseCount : Int32) (v_boatCount : Int32) (v_workCount : Int32) (v_turnCost : Int32) (v_boatDayCost : Int32) (a_lighter : Nat → Int32) (out : Int32 × Int32 × Int32 × Int32 × Int32 × Int32 × (Nat → Int32)) (hF : F_X8_startOver v_boatCount v_boatDayCost v_houseCount v_signCount v_turnCost v_workCount a_lighter = some out) : CtrV l yX8_startOver (WS yX8_startOver cX8_startOver 2 none) { frames := 1, cells := 0, slots := 0, locals := 22 } G [.ref h_this] [(h_this, oX8 ad_this v_signCount v_houseCount v_boatCount v_workCount v_turnCost v_boatDayCost), ((ad_this 0), cI G 3 a_lighter)] [(h_this, oX8 ad_this out.2.2.2.1 out.2.2.1 out.1 out.2.2.2.2.2.1 out.2.2.2.2.1 out.2.1), ((ad_this 0), cI G 3 out.2.2.2.2.2.2)] := by
  refine startV (cc := cX8_startOver) (maxL := 2) (by decide) rfl (Nat.le_of_ble_eq_true rfl) ?_
  intro p e s m args below meth c A Q hx hb hml hts hown hc hA hret ls H locs hl hW
  have hown : s.vm.findClass RX8 = some m.cls := hown
  have hg : ∀ w ∈ GOODS, w.before _ s = true := fun w h => hts w (List.mem_cons_of_mem _ h)
  have hl : lv_has ls 2 [(0, .ref h_this)] := hl
  rw [F_X8_startOver] at hF
  refine lv_iconst (v := 0) hx hb dX8_startOver_0 (by decide) ?_
  refine lv_istore_n (lv' := [(1, .int 0), (0, .ref h_this)]) hx hb dX8_startOver_1 rfl hl (by decide) rfl (fun ls hl => ?_)
  obtain ⟨k_22, e_22, hF⟩ := jn_el hF
  have J_22 : ∀ (a_lighter_22 : Nat → Int32) (ls : Array Slot) (H : Heap) (locs : List Loc), k_22 a_lighter_22 = some out → lv_has ls 2 [(0, .ref h_this)] → Wd G A s.heap [(h_this, oX8 ad_this v_signCount v_houseCount v_boatCount v_workCount v_turnCost v_boatDayCost), ((ad_this 0), cI G 3 a_lighter_22)] H locs → W p l e ({ frames := 1, cells := 0, slots := 0, locals := 22 } : Room) s m args below meth c H locs 0 0 Q (F0 m 22 ls []) := by
    intro a_lighter_22 ls H locs hF hl hW
    rw [e_22] at hF
    dsimp only at hF
    refine lv_aload_n hx hb dX8_startOver_22 rfl (lv_at hl 0 rfl) ?_
    refine lv_bipush (v := 60) hx hb dX8_startOver_23 (by decide) ?_
    refine va_put (D := G.1) (ci := 7) (v := .int 60) (ty := .int) (C := RX8) (T := TX8) (N := 13) hx hb hg hu_X8 tyX8 tyX8_ok nmX8 hown hc.1 hW.1 hW.2.1 hW.2.2 0 rfl rfl 11 (by decide) (hg _ wd_1_86) (fun _ h9 => h9) rfl (by decide +kernel) rfl rfl (Nat.le_of_ble_eq_true rfl) dX8_startOver_25 (fun H locs hP hD hS => ?_)
    have hW : Wd G A s.heap [(h_this, oX8 ad_this v_signCount v_houseCount v_boatCount v_workCount 60 v_boatDayCost), ((ad_this 0), cI G 3 a_lighter_22)] H locs := ⟨hP, hD, hS⟩
    refine lv_aload_n hx hb dX8_startOver_28 rfl (lv_at hl 0 rfl) ?_
    refine lv_iconst (v := 5) hx hb dX8_startOver_29 (by decide) ?_
    refine va_put (D := G.1) (ci := 7) (v := .int 5) (ty := .int) (C := RX8) (T := TX8) (N := 13) hx hb hg hu_X8 tyX8 tyX8_ok nmX8 hown hc.1 hW.1 hW.2.1 hW.2.2 0 rfl rfl 12 (by decide) (hg _ wd_1_88) (fun _ h9 => h9) rfl (by decide +kernel) rfl rfl (Nat.le_of_ble_eq_true rfl) dX8_startOver_30 (fun H locs hP hD hS => ?_)
    have hW : Wd G A s.heap [(h_this, oX8 ad_this v_signCount v_houseCount v_boatCount v_workCount 60 5), ((ad_this 0), cI G 3 a_lighter_22)] H locs := ⟨hP, hD, hS⟩
    refine lv_aload_n hx hb dX8_startOver_33 rfl (lv_at hl 0 rfl) ?_
    refine lv_iconst (v := 0) hx hb dX8_startOver_34 (by decide) ?_
    refine va_put (D := G.1) (ci := 7) (v := .int 0) (ty := .int) (C := RX8) (T := TX8) (N := 13) hx hb hg hu_X8 tyX8 tyX8_ok nmX8 hown hc.1 hW.1 hW.2.1 hW.2.2 0 rfl rfl 7 (by decide) (hg _ wd_1_76) (fun _ h9 => h9) rfl (by decide +kernel) rfl rfl (Nat.le_of_ble_eq_true rfl) dX8_startOver_35 (fun H locs hP hD hS => ?_)
    have hW : Wd G A s.heap [(h_this, oX8 ad_this 0 v_houseCount v_boatCount v_workCount 60 5), ((ad_this 0), cI G 3 a_lighter_22)] H locs := ⟨hP, hD, hS⟩
    refine lv_aload_n hx hb dX8_startOver_38 rfl (lv_at hl 0 rfl) ?_
    refine lv_iconst (v := 0) hx hb dX8_startOver_39 (by decide) ?_
    refine va_put (D := G.1) (ci := 7) (v := .int 0) (ty := .int) (C := RX8) (T := TX8) (N := 13) hx hb hg hu_X8 tyX8 tyX8_ok nmX8 hown hc.1 hW.1 hW.2.1 hW.2.2 0 rfl rfl 8 (by decide) (hg _ wd_1_78) (fun _ h9 => h9) rfl (by decide +kernel) rfl rfl (Nat.le_of_ble_eq_true rfl) dX8_startOver_40 (fun H locs hP hD hS => ?_)
    have hW : Wd G A s.heap [(h_this, oX8 ad_this 0 0 v_boatCount v_workCount 60 5), ((ad_this 0), cI G 3 a_lighter_22)] H locs := ⟨hP, hD, hS⟩
    refine lv_aload_n hx hb dX8_startOver_43 rfl (lv_at hl 0 rfl) ?_
    refine lv_iconst (v := 0) hx hb dX8_startOver_44 (by decide) ?_
    refine va_put (D := G.1) (ci := 7) (v := .int 0) (ty := .int) (C := RX8) (T := TX8) (N := 13) hx hb hg hu_X8 tyX8 tyX8_ok nmX8 hown hc.1 hW.1 hW.2.1 hW.2.2 0 rfl rfl 9 (by decide) (hg _ wd_1_82) (fun _ h9 => h9) rfl (by decide +kernel) rfl rfl (Nat.le_of_ble_eq_true rfl) dX8_startOver_45 (fun H locs hP hD hS => ?_)
    have hW : Wd G A s.heap [(h_this, oX8 ad_this 0 0 0 v_workCount 60 5), ((ad_this 0), cI G 3 a_lighter_22)] H locs := ⟨hP, hD, hS⟩
    refine lv_aload_n hx hb dX8_startOver_48 rfl (lv_at hl 0 rfl) ?_
    refine lv_iconst (v := 0) hx hb dX8_startOver_49 (by decide) ?_
    refine va_put (D := G.1) (ci := 7) (v := .int 0) (ty := .int) (C := RX8) (T := TX8) (N := 13) hx hb hg hu_X8 tyX8 tyX8_ok nmX8 hown hc.1 hW.1 hW.2.1 hW.2.2 0 rfl rfl 10 (by decide) (hg _ wd_1_84) (fun _ h9 => h9) rfl (by decide +kernel) rfl rfl (Nat.le_of_ble_eq_true rfl) dX8_startOver_50 (fun H locs hP hD hS => ?_)
    have hW : Wd G A s.heap [(h_this, oX8 ad_this 0 0 0 0 60 5), ((ad_this 0), cI G 3 a_lighter_22)] H locs := ⟨hP, hD, hS⟩
    obtain rfl := Option.some.inj hF
    exact hret _ _ _ _ hW dX8_startOver_53
  have L_2 : ∀ (n : Nat) (x1_2 : Int32) (a_lighter_2 : Nat → Int32) (ls : Array Slot) (H : Heap) (locs : List Loc), L_X8_startOver_2 k_22 n x1_2 a_lighter_2 = some out → lv_has ls 2 [(0, .ref h_this), (1, .int x1_2)] → Wd G A s.heap [(h_this, oX8 ad_this v_signCount v_houseCount v_boatCount v_workCount v_turnCost v_boatDayCost), ((ad_this 0), cI G 3 a_lighter_2)] H locs → W p l e ({ frames := 1, cells := 0, slots := 0, locals := 22 } : Room) s m args below meth c H locs 0 0 Q (F0 m 2 ls []) := by
    intro n
    induction n with
    | zero => intro x1_2 a_lighter_2 ls H locs hF hl hW; have h0 : none = some out := hF; cases h0
    | succ n ih =>
      intro x1_2 a_lighter_2 ls H locs hF hl hW
      rw [L_X8_startOver_2] at hF
      refine lv_iload_n hx hb dX8_startOver_2 rfl (lv_at hl 1 rfl) ?_
      refine lv_iconst (v := 3) hx hb dX8_startOver_3 (by decide) ?_
      refine lv_icmp_ge (tgt := 22) hx hb dX8_startOver_4 (by decide) (fun c_4 => ?_) (fun c_4 => ?_)
      · have hF := ite_t hF c_4
        exact J_22 a_lighter_2 _ _ _ hF (lv_sub hl [0] rfl) hW
      · have hF := ite_f hF c_4
        refine lv_aload_n hx hb dX8_startOver_7 rfl (lv_at hl 0 rfl) ?_
        refine va_get (D := G.1) (ci := 7) (v := .ref ((ad_this 0))) (C := RX8) (T := TX8) (N := 13) hx hb hg hu_X8 hown hc.1 hW.1 0 rfl rfl 0 (by decide) (hg _ wd_1_69) (fun _ h9 => h9) rfl dX8_startOver_8 ?_
        refine lv_iload_n hx hb dX8_startOver_11 rfl (lv_at hl 1 rfl) ?_
        refine lv_iconst (v := 1) hx hb dX8_startOver_12 (by decide) ?_
        obtain ⟨q13, c_13, hF⟩ := bd_el hF
        refine wcV (ws' := [(h_this, oX8 ad_this v_signCount v_houseCount v_boatCount v_workCount v_turnCost v_boatDayCost), ((ad_this 0), cI G 3 q13)]) (wc := [((ad_this 0), cI G 3 a_lighter_2)]) (wr := [(h_this, oX8 ad_this v_signCount v_houseCount v_boatCount v_workCount v_turnCost v_boatDayCost)]) (w1 := [((ad_this 0), cI G 3 q13)]) (va_runS (As := [.ref ((ad_this 0)), .int x1_2, .int 1]) (rest := []) ⟨hx, hb, hml, hown, hg⟩ (c_X4_put l G x1_2 1 3 ((ad_this 0)) a_lighter_2 q13 c_13 H.size) (va_cwS 3 hg (gS wd_2_27 wd_2_17 wd_1_14 wd_2_18) rfl rfl rfl hdS_X4_put ⟨(Nat.le_of_ble_eq_true rfl), (Nat.le_of_ble_eq_true rfl)⟩) (preS hc hW [1] rfl (by decide)) rfl rfl hl.1 rfl (lv_room (Nat.le_of_ble_eq_true rfl)) dX8_startOver_13 ⟨Nat.zero_le _, Nat.zero_le _⟩) hA hW [1] [0] [0, 1] rfl rfl (by decide) (by decide) rfl (by decide) (fun H locs hW => ?_)
        refine lv_iinc (v := (x1_2 + 1)) (lv' := [(1, .int ((x1_2 + 1))), (0, .ref h_this)]) hx hb dX8_startOver_16 hl (k := 1) rfl rfl (by decide) rfl (fun ls hl => ?_)
        refine lv_goto (tgt := 2) hx hb dX8_startOver_19 (by decide) ?_
        exact ih ((x1_2 + 1)) q13 _ _ _ hF (lv_sub hl [1, 0] rfl) hW
  exact L_2 5000 0 a_lighter _ _ _ hF (lv_sub hl [1, 0] rfl) hW
theorem dX8_takeSleeps_0 : decode cX8_takeSleeps 0 = .ok (.iconst 0, 1) := by decide +kernel
theorem dX8_takeSleeps_1 : decode cX8_takeSleeps 1 = .ok (.istore_n 2, 1) := by decide +kernel
theorem dX8_takeSleeps_2 : decode cX8_takeSleeps 2 = .ok (.iload_n 2, 1) := by decide +kernel
theorem dX8_takeSleeps_3 : decode cX8_takeSleeps 3 = .ok (.iconst 3, 1) := by decide +kernel
theorem dX8_takeSleeps_4 : decode cX8_takeSleeps 4 = .ok (.if_icmp .ge 22, 3) := by decide +kernel
theorem dX8_takeSleeps_7 : decode cX8_takeSleeps 7 = .ok (.aload_n 0, 1) := by decide +kernel
theorem dX8_takeSleeps_8 : decode cX8_takeSleeps 8 = .ok (.getfield 9, 3) := by decide +kernel
theorem dX8_takeSleeps_11 : decode cX8_takeSleeps 11 = .ok (.iload_n 2, 1) := by decide +kernel
theorem dX8_takeSleeps_12 : decode cX8_takeSleeps 12 = .ok (.aload_n 1, 1) := by decide +kernel
theorem dX8_takeSleeps_13 : decode cX8_takeSleeps 13 = .ok (.iload_n 2, 1) := by decide +kernel
theorem dX8_takeSleeps_14 : decode cX8_takeSleeps 14 = .ok (.invokevirtual 100, 3) := by decide +kernel
theorem dX8_takeSleeps_17 : decode cX8_takeSleeps 17 = .ok (.invokestatic 55, 3) := by decide +kernel
theorem dX8_takeSleeps_20 : decode cX8_takeSleeps 20 = .ok (.iinc 2 1, 3) := by decide +kernel
theorem dX8_takeSleeps_23 : decode cX8_takeSleeps 23 = .ok (.goto (-21), 3) := by decide +kernel
theorem dX8_takeSleeps_26 : decode cX8_takeSleeps 26 = .ok (.iconst 1, 1) := by decide +kernel
theorem dX8_takeSleeps_27 : decode cX8_takeSleeps 27 = .ok (.ireturn, 1) := by decide +kernel
def L_X8_takeSleeps_2 (a_p1_numbers : Nat → Int32)  : Nat → Int32 → (Nat → Int32) → Option (Int32 × (Nat → Int32))
  | 0, _, _ => none
  | n + 1, x2_2, a_lighter_2 => (if 3 ≤ x2_2 then some (1, a_lighter_2) else (F_X3_numberAt x2_2 a_p1_numbers).bind (fun q14 => (F_X4_put x2_2 q14 3 a_lighter_2).bind (fun q17 => L_X8_takeSleeps_2 a_p1_numbers n ((x2_2 + 1)) q17)))
def F_X8_takeSleeps (a_p1_numbers : Nat → Int32) (a_lighter : Nat → Int32) : Option (Int32 × (Nat → Int32)) := L_X8_takeSleeps_2 a_p1_numbers 5000 0 a_lighter
theorem hdV_X8_takeSleeps : yX8_takeSleeps.cls = RX8 ∧ yX8_takeSleeps.cls ≠ "java/lang/invoke/MethodHandle" ∧ yX8_takeSleeps.cls ≠ "java/lang/invoke/VarHandle" ∧ (parseMethodDescriptor yX8_takeSleeps.desc).map (fun d => d.parameters.length) = some 1 := by decide +kernel
set_option maxHeartbeats 4000000 in
set_option maxRecDepth 100000 in
theorem c_X8_takeSleeps (l : Launch) (G : GG) (h_this : Nat) (h_p1 : Nat) (ad_this : Nat → Nat) (ad_p1 : Nat → Nat) (v_signCount : Int32) (v_houseCount : Int32) (v_boatCount : Int32) (v_workCount : Int32) (v_turnCost : Int32) (v_boatDayCost : Int32) (v_p1_numberCount : Int32) (v_p1_letter : Int32) (v_p1_end : Int32) (a_p1_numbers : Nat → Int32) (a_lighter : Nat → Int32) (out : Int32 × (Nat → Int32)) (hF : F_X8_takeSleeps a_p1_numbers a_lighter = some out) : CtrZ l yX8_takeSleeps (WS yX8_takeSleeps cX8_takeSleeps 3 (some .boolean)) { frames := 2, cells := 0, slots := 0, locals := 42 } G [.ref h_this, .ref h_p1] [(h_this, oX8 ad_this v_signCount v_houseCount v_boatCount v_workCount v_turnCost v_boatDayCost), (h_p1, oX3 ad_p1 v_p1_numberCount v_p1_letter v_p1_end), ((ad_p1 0), cI G 4 a_p1_numbers), ((ad_this 0), cI G 3 a_lighter)] [(h_this, oX8 ad_this v_signCount v_houseCount v_boatCount v_workCount v_turnCost v_boatDayCost), (h_p1, oX3 ad_p1 v_p1_numberCount v_p1_letter v_p1_end), ((ad_p1 0), cI G 4 a_p1_numbers), ((ad_this 0), cI G 3 out.2)] out.1 := by
  refine startZ (cc := cX8_takeSleeps) (maxL := 3) (by decide) rfl (Nat.le_of_ble_eq_true rfl) ?_
  intro p e s m args below meth c A Q hx hb hml hts hown hc hA hret ls H locs hl hW
  have hown : s.vm.findClass RX8 = some m.cls := hown
  have hg : ∀ w ∈ GOODS, w.before _ s = true := fun w h => hts w (List.mem_cons_of_mem _ h)
  have hl : lv_has ls 3 [(0, .ref h_this), (1, .ref h_p1)] := hl
  rw [F_X8_takeSleeps] at hF
  refine lv_iconst (v := 0) hx hb dX8_takeSleeps_0 (by decide) ?_
  refine lv_istore_n (lv' := [(2, .int 0), (0, .ref h_this), (1, .ref h_p1)]) hx hb dX8_takeSleeps_1 rfl hl (by decide) rfl (fun ls hl => ?_)
  have L_2 : ∀ (n : Nat) (x2_2 : Int32) (a_lighter_2 : Nat → Int32) (ls : Array Slot) (H : Heap) (locs : List Loc), L_X8_takeSleeps_2 a_p1_numbers n x2_2 a_lighter_2 = some out → lv_has ls 3 [(0, .ref h_this), (1, .ref h_p1), (2, .int x2_2)] → Wd G A s.heap [(h_this, oX8 ad_this v_signCount v_houseCount v_boatCount v_workCount v_turnCost v_boatDayCost), (h_p1, oX3 ad_p1 v_p1_numberCount v_p1_letter v_p1_end), ((ad_p1 0), cI G 4 a_p1_numbers), ((ad_this 0), cI G 3 a_lighter_2)] H locs → W p l e ({ frames := 2, cells := 0, slots := 0, locals := 42 } : Room) s m args below meth c H locs 0 0 Q (F0 m 2 ls []) := by
    intro n
    induction n with
    | zero => intro x2_2 a_lighter_2 ls H locs hF hl hW; have h0 : none = some out := hF; cases h0
    | succ n ih =>
      intro x2_2 a_lighter_2 ls H locs hF hl hW
      rw [L_X8_takeSleeps_2] at hF
      refine lv_iload_n hx hb dX8_takeSleeps_2 rfl (lv_at hl 2 rfl) ?_
      refine lv_iconst (v := 3) hx hb dX8_takeSleeps_3 (by decide) ?_
      refine lv_icmp_ge (tgt := 26) hx hb dX8_takeSleeps_4 (by decide) (fun c_4 => ?_) (fun c_4 => ?_)
      · have hF := ite_t hF c_4
        refine lv_iconst (v := 1) hx hb dX8_takeSleeps_26 (by decide) ?_
        obtain rfl := Option.some.inj hF
        exact hret _ _ _ _ hW (Or.inr rfl) dX8_takeSleeps_27
      · have hF := ite_f hF c_4
        refine lv_aload_n hx hb dX8_takeSleeps_7 rfl (lv_at hl 0 rfl) ?_
        refine va_get (D := G.1) (ci := 7) (v := .ref ((ad_this 0))) (C := RX8) (T := TX8) (N := 13) hx hb hg hu_X8 hown hc.1 hW.1 0 rfl rfl 0 (by decide) (hg _ wd_1_69) (fun _ h9 => h9) rfl dX8_takeSleeps_8 ?_
        refine lv_iload_n hx hb dX8_takeSleeps_11 rfl (lv_at hl 2 rfl) ?_
        refine lv_aload_n hx hb dX8_takeSleeps_12 rfl (lv_at hl 1 rfl) ?_
        refine lv_iload_n hx hb dX8_takeSleeps_13 rfl (lv_at hl 2 rfl) ?_
        obtain ⟨q14, c_14, hF⟩ := bd_el hF
        refine wcI (ws' := [(h_this, oX8 ad_this v_signCount v_houseCount v_boatCount v_workCount v_turnCost v_boatDayCost), (h_p1, oX3 ad_p1 v_p1_numberCount v_p1_letter v_p1_end), ((ad_p1 0), cI G 4 a_p1_numbers), ((ad_this 0), cI G 3 a_lighter_2)]) (wc := [(h_p1, oX3 ad_p1 v_p1_numberCount v_p1_letter v_p1_end), ((ad_p1 0), cI G 4 a_p1_numbers)]) (wr := [(h_this, oX8 ad_this v_signCount v_houseCount v_boatCount v_workCount v_turnCost v_boatDayCost), ((ad_this 0), cI G 3 a_lighter_2)]) (w1 := [(h_p1, oX3 ad_p1 v_p1_numberCount v_p1_letter v_p1_end), ((ad_p1 0), cI G 4 a_p1_numbers)]) (va_runV (As := [.int x2_2]) (rest := [.int x2_2, .ref ((ad_this 0))]) ⟨hx, hb, hml, hown, hg⟩ (c_X3_numberAt l G x2_2 h_p1 ad_p1 v_p1_numberCount v_p1_letter v_p1_end a_p1_numbers q14 c_14 H.size) (cwV 1 hg (gV wd_2_67 wd_2_68 wd_2_69 wd_1_3 wd_2_70) rfl rfl rfl hdV_X3_numberAt ⟨(Nat.le_of_ble_eq_true rfl), (Nat.le_of_ble_eq_true rfl)⟩) (preV hc hW [1, 2] rfl (by decide) rfl rfl) rfl rfl hl.1 rfl (lv_room (Nat.le_of_ble_eq_true rfl)) dX8_takeSleeps_14 ⟨Nat.zero_le _, Nat.zero_le _⟩) hA hW [1, 2] [0, 3] [0, 2, 3, 1] rfl rfl (by decide) (by decide) rfl (by decide) (fun H locs hW => ?_)
        obtain ⟨q17, c_17, hF⟩ := bd_el hF
        refine wcV (ws' := [(h_this, oX8 ad_this v_signCount v_houseCount v_boatCount v_workCount v_turnCost v_boatDayCost), (h_p1, oX3 ad_p1 v_p1_numberCount v_p1_letter v_p1_end), ((ad_p1 0), cI G 4 a_p1_numbers), ((ad_this 0), cI G 3 q17)]) (wc := [((ad_this 0), cI G 3 a_lighter_2)]) (wr := [(h_this, oX8 ad_this v_signCount v_houseCount v_boatCount v_workCount v_turnCost v_boatDayCost), (h_p1, oX3 ad_p1 v_p1_numberCount v_p1_letter v_p1_end), ((ad_p1 0), cI G 4 a_p1_numbers)]) (w1 := [((ad_this 0), cI G 3 q17)]) (va_runS (As := [.ref ((ad_this 0)), .int x2_2, .int q14]) (rest := []) ⟨hx, hb, hml, hown, hg⟩ (c_X4_put l G x2_2 q14 3 ((ad_this 0)) a_lighter_2 q17 c_17 H.size) (va_cwS 3 hg (gS wd_2_27 wd_2_17 wd_1_14 wd_2_18) rfl rfl rfl hdS_X4_put ⟨(Nat.le_of_ble_eq_true rfl), (Nat.le_of_ble_eq_true rfl)⟩) (preS hc hW [3] rfl (by decide)) rfl rfl hl.1 rfl (lv_room (Nat.le_of_ble_eq_true rfl)) dX8_takeSleeps_17 ⟨Nat.zero_le _, Nat.zero_le _⟩) hA hW [3] [0, 1, 2] [0, 1, 2, 3] rfl rfl (by decide) (by decide) rfl (by decide) (fun H locs hW => ?_)
        refine lv_iinc (v := (x2_2 + 1)) (lv' := [(2, .int ((x2_2 + 1))), (0, .ref h_this), (1, .ref h_p1)]) hx hb dX8_takeSleeps_20 hl (k := 2) rfl rfl (by decide) rfl (fun ls hl => ?_)
        refine lv_goto (tgt := 2) hx hb dX8_takeSleeps_23 (by decide) ?_
        exact ih ((x2_2 + 1)) q17 _ _ _ hF (lv_sub hl [1, 2, 0] rfl) hW
  exact L_2 5000 0 a_lighter _ _ _ hF (lv_sub hl [1, 2, 0] rfl) hW
theorem dX8_takeSign_0 : decode cX8_takeSign 0 = .ok (.aload_n 0, 1) := by decide +kernel
theorem dX8_takeSign_1 : decode cX8_takeSign 1 = .ok (.getfield 67, 3) := by decide +kernel
theorem dX8_takeSign_4 : decode cX8_takeSign 4 = .ok (.iconst 4, 1) := by decide +kernel
theorem dX8_takeSign_5 : decode cX8_takeSign 5 = .ok (.if_icmp .lt 5, 3) := by decide +kernel
theorem dX8_takeSign_8 : decode cX8_takeSign 8 = .ok (.iconst 0, 1) := by decide +kernel
theorem dX8_takeSign_9 : decode cX8_takeSign 9 = .ok (.ireturn, 1) := by decide +kernel
theorem dX8_takeSign_10 : decode cX8_takeSign 10 = .ok (.iconst 0, 1) := by decide +kernel
theorem dX8_takeSign_11 : decode cX8_takeSign 11 = .ok (.istore_n 2, 1) := by decide +kernel
theorem dX8_takeSign_12 : decode cX8_takeSign 12 = .ok (.iload_n 2, 1) := by decide +kernel
theorem dX8_takeSign_13 : decode cX8_takeSign 13 = .ok (.iconst 4, 1) := by decide +kernel
theorem dX8_takeSign_14 : decode cX8_takeSign 14 = .ok (.if_icmp .ge 29, 3) := by decide +kernel
theorem dX8_takeSign_17 : decode cX8_takeSign 17 = .ok (.aload_n 0, 1) := by decide +kernel
theorem dX8_takeSign_18 : decode cX8_takeSign 18 = .ok (.getfield 15, 3) := by decide +kernel
theorem dX8_takeSign_21 : decode cX8_takeSign 21 = .ok (.aload_n 0, 1) := by decide +kernel
theorem dX8_takeSign_22 : decode cX8_takeSign 22 = .ok (.getfield 67, 3) := by decide +kernel
theorem dX8_takeSign_25 : decode cX8_takeSign 25 = .ok (.iconst 4, 1) := by decide +kernel
theorem dX8_takeSign_26 : decode cX8_takeSign 26 = .ok (.imul, 1) := by decide +kernel
theorem dX8_takeSign_27 : decode cX8_takeSign 27 = .ok (.iload_n 2, 1) := by decide +kernel
theorem dX8_takeSign_28 : decode cX8_takeSign 28 = .ok (.iadd, 1) := by decide +kernel
theorem dX8_takeSign_29 : decode cX8_takeSign 29 = .ok (.aload_n 1, 1) := by decide +kernel
theorem dX8_takeSign_30 : decode cX8_takeSign 30 = .ok (.iload_n 2, 1) := by decide +kernel
theorem dX8_takeSign_31 : decode cX8_takeSign 31 = .ok (.invokevirtual 100, 3) := by decide +kernel
theorem dX8_takeSign_34 : decode cX8_takeSign 34 = .ok (.invokestatic 55, 3) := by decide +kernel
theorem dX8_takeSign_37 : decode cX8_takeSign 37 = .ok (.iinc 2 1, 3) := by decide +kernel
theorem dX8_takeSign_40 : decode cX8_takeSign 40 = .ok (.goto (-28), 3) := by decide +kernel
theorem dX8_takeSign_43 : decode cX8_takeSign 43 = .ok (.aload_n 0, 1) := by decide +kernel
theorem dX8_takeSign_44 : decode cX8_takeSign 44 = .ok (.dup, 1) := by decide +kernel
theorem dX8_takeSign_45 : decode cX8_takeSign 45 = .ok (.getfield 67, 3) := by decide +kernel
theorem dX8_takeSign_48 : decode cX8_takeSign 48 = .ok (.iconst 1, 1) := by decide +kernel
theorem dX8_takeSign_49 : decode cX8_takeSign 49 = .ok (.iadd, 1) := by decide +kernel
theorem dX8_takeSign_50 : decode cX8_takeSign 50 = .ok (.putfield 67, 3) := by decide +kernel
theorem dX8_takeSign_53 : decode cX8_takeSign 53 = .ok (.iconst 1, 1) := by decide +kernel
theorem dX8_takeSign_54 : decode cX8_takeSign 54 = .ok (.ireturn, 1) := by decide +kernel
def L_X8_takeSign_12 (v_signCount : Int32) (a_p1_numbers : Nat → Int32) (k_43 : (Nat → Int32) → Option (Int32 × Int32 × (Nat → Int32))) : Nat → Int32 → (Nat → Int32) → Option (Int32 × Int32 × (Nat → Int32))
  | 0, _, _ => none
  | n + 1, x2_12, a_signNumbers_12 => (if 4 ≤ x2_12 then k_43 a_signNumbers_12 else (F_X3_numberAt x2_12 a_p1_numbers).bind (fun q31 => (F_X4_put (((v_signCount * 4) + x2_12)) q31 16 a_signNumbers_12).bind (fun q34 => L_X8_takeSign_12 v_signCount a_p1_numbers k_43 n ((x2_12 + 1)) q34)))
def F_X8_takeSign (v_signCount : Int32) (a_p1_numbers : Nat → Int32) (a_signNumbers : Nat → Int32) : Option (Int32 × Int32 × (Nat → Int32)) := (if v_signCount < 4 then jn (fun (a_signNumbers_43 : Nat → Int32) => some (1, (v_signCount + 1), a_signNumbers_43)) (fun k_43 => L_X8_takeSign_12 v_signCount a_p1_numbers k_43 5000 0 a_signNumbers) else some (0, v_signCount, a_signNumbers))
theorem hdV_X8_takeSign : yX8_takeSign.cls = RX8 ∧ yX8_takeSign.cls ≠ "java/lang/invoke/MethodHandle" ∧ yX8_takeSign.cls ≠ "java/lang/invoke/VarHandle" ∧ (parseMethodDescriptor yX8_takeSign.desc).map (fun d => d.parameters.length) = some 1 := by decide +kernel
set_option maxHeartbeats 4000000 in
set_option maxRecDepth 100000 in
theorem c_X8_takeSign (l : Launch) (G : GG) (h_this : Nat) (h_p1 : Nat) (ad_this : Nat → Nat) (ad_p1 : Nat → Nat) (v_signCount : Int32) (v_houseCount : Int32) (v_boatCount : Int32) (v_workCount : Int32) (v_turnCost : Int32) (v_boatDayCost : Int32) (v_p1_numberCount : Int32) (v_p1_letter : Int32) (v_p1_end : Int32) (a_p1_numbers : Nat → Int32) (a_signNumbers : Nat → Int32) (out : Int32 × Int32 × (Nat → Int32)) (hF : F_X8_takeSign v_signCount a_p1_numbers a_signNumbers = some out) : CtrZ l yX8_takeSign (WS yX8_takeSign cX8_takeSign 3 (some .boolean)) { frames := 2, cells := 0, slots := 0, locals := 42 } G [.ref h_this, .ref h_p1] [(h_this, oX8 ad_this v_signCount v_houseCount v_boatCount v_workCount v_turnCost v_boatDayCost), (h_p1, oX3 ad_p1 v_p1_numberCount v_p1_letter v_p1_end), ((ad_p1 0), cI G 4 a_p1_numbers), ((ad_this 1), cI G 16 a_signNumbers)] [(h_this, oX8 ad_this out.2.1 v_houseCount v_boatCount v_workCount v_turnCost v_boatDayCost), (h_p1, oX3 ad_p1 v_p1_numberCount v_p1_letter v_p1_end), ((ad_p1 0), cI G 4 a_p1_numbers), ((ad_this 1), cI G 16 out.2.2)] out.1 := by
  refine startZ (cc := cX8_takeSign) (maxL := 3) (by decide) rfl (Nat.le_of_ble_eq_true rfl) ?_
  intro p e s m args below meth c A Q hx hb hml hts hown hc hA hret ls H locs hl hW
  have hown : s.vm.findClass RX8 = some m.cls := hown
  have hg : ∀ w ∈ GOODS, w.before _ s = true := fun w h => hts w (List.mem_cons_of_mem _ h)
  have hl : lv_has ls 3 [(0, .ref h_this), (1, .ref h_p1)] := hl
  rw [F_X8_takeSign] at hF
  refine lv_aload_n hx hb dX8_takeSign_0 rfl (lv_at hl 0 rfl) ?_
  refine va_get (D := G.1) (ci := 7) (v := .int v_signCount) (C := RX8) (T := TX8) (N := 13) hx hb hg hu_X8 hown hc.1 hW.1 0 rfl rfl 7 (by decide) (hg _ wd_1_76) (fun _ h9 => h9) rfl dX8_takeSign_1 ?_
  refine lv_iconst (v := 4) hx hb dX8_takeSign_4 (by decide) ?_
  refine lv_icmp_lt (tgt := 10) hx hb dX8_takeSign_5 (by decide) (fun c_5 => ?_) (fun c_5 => ?_)
  · have hF := ite_t hF c_5
    refine lv_iconst (v := 0) hx hb dX8_takeSign_10 (by decide) ?_
    refine lv_istore_n (lv' := [(2, .int 0), (0, .ref h_this), (1, .ref h_p1)]) hx hb dX8_takeSign_11 rfl hl (by decide) rfl (fun ls hl => ?_)
    obtain ⟨k_43, e_43, hF⟩ := jn_el hF
    have J_43 : ∀ (a_signNumbers_43 : Nat → Int32) (ls : Array Slot) (H : Heap) (locs : List Loc), k_43 a_signNumbers_43 = some out → lv_has ls 3 [(0, .ref h_this)] → Wd G A s.heap [(h_this, oX8 ad_this v_signCount v_houseCount v_boatCount v_workCount v_turnCost v_boatDayCost), (h_p1, oX3 ad_p1 v_p1_numberCount v_p1_letter v_p1_end), ((ad_p1 0), cI G 4 a_p1_numbers), ((ad_this 1), cI G 16 a_signNumbers_43)] H locs → W p l e ({ frames := 2, cells := 0, slots := 0, locals := 42 } : Room) s m args below meth c H locs 0 0 Q (F0 m 43 ls []) := by
      intro a_signNumbers_43 ls H locs hF hl hW
      rw [e_43] at hF
      dsimp only at hF
      refine lv_aload_n hx hb dX8_takeSign_43 rfl (lv_at hl 0 rfl) ?_
      refine lv_dup hx hb dX8_takeSign_44 rfl ?_
      refine va_get (D := G.1) (ci := 7) (v := .int v_signCount) (C := RX8) (T := TX8) (N := 13) hx hb hg hu_X8 hown hc.1 hW.1 0 rfl rfl 7 (by decide) (hg _ wd_1_76) (fun _ h9 => h9) rfl dX8_takeSign_45 ?_
      refine lv_iconst (v := 1) hx hb dX8_takeSign_48 (by decide) ?_
      refine lv_iadd hx hb dX8_takeSign_49 ?_
      refine va_put (D := G.1) (ci := 7) (v := .int ((v_signCount + 1))) (ty := .int) (C := RX8) (T := TX8) (N := 13) hx hb hg hu_X8 tyX8 tyX8_ok nmX8 hown hc.1 hW.1 hW.2.1 hW.2.2 0 rfl rfl 7 (by decide) (hg _ wd_1_76) (fun _ h9 => h9) rfl (by decide +kernel) rfl rfl (Nat.le_of_ble_eq_true rfl) dX8_takeSign_50 (fun H locs hP hD hS => ?_)
      have hW : Wd G A s.heap [(h_this, oX8 ad_this ((v_signCount + 1)) v_houseCount v_boatCount v_workCount v_turnCost v_boatDayCost), (h_p1, oX3 ad_p1 v_p1_numberCount v_p1_letter v_p1_end), ((ad_p1 0), cI G 4 a_p1_numbers), ((ad_this 1), cI G 16 a_signNumbers_43)] H locs := ⟨hP, hD, hS⟩
      refine lv_iconst (v := 1) hx hb dX8_takeSign_53 (by decide) ?_
      obtain rfl := Option.some.inj hF
      exact hret _ _ _ _ hW (Or.inr rfl) dX8_takeSign_54
    have L_12 : ∀ (n : Nat) (x2_12 : Int32) (a_signNumbers_12 : Nat → Int32) (ls : Array Slot) (H : Heap) (locs : List Loc), L_X8_takeSign_12 v_signCount a_p1_numbers k_43 n x2_12 a_signNumbers_12 = some out → lv_has ls 3 [(0, .ref h_this), (1, .ref h_p1), (2, .int x2_12)] → Wd G A s.heap [(h_this, oX8 ad_this v_signCount v_houseCount v_boatCount v_workCount v_turnCost v_boatDayCost), (h_p1, oX3 ad_p1 v_p1_numberCount v_p1_letter v_p1_end), ((ad_p1 0), cI G 4 a_p1_numbers), ((ad_this 1), cI G 16 a_signNumbers_12)] H locs → W p l e ({ frames := 2, cells := 0, slots := 0, locals := 42 } : Room) s m args below meth c H locs 0 0 Q (F0 m 12 ls []) := by
      intro n
      induction n with
      | zero => intro x2_12 a_signNumbers_12 ls H locs hF hl hW; have h0 : none = some out := hF; cases h0
      | succ n ih =>
        intro x2_12 a_signNumbers_12 ls H locs hF hl hW
        rw [L_X8_takeSign_12] at hF
        refine lv_iload_n hx hb dX8_takeSign_12 rfl (lv_at hl 2 rfl) ?_
        refine lv_iconst (v := 4) hx hb dX8_takeSign_13 (by decide) ?_
        refine lv_icmp_ge (tgt := 43) hx hb dX8_takeSign_14 (by decide) (fun c_14 => ?_) (fun c_14 => ?_)
        · have hF := ite_t hF c_14
          exact J_43 a_signNumbers_12 _ _ _ hF (lv_sub hl [0] rfl) hW
        · have hF := ite_f hF c_14
          refine lv_aload_n hx hb dX8_takeSign_17 rfl (lv_at hl 0 rfl) ?_
          refine va_get (D := G.1) (ci := 7) (v := .ref ((ad_this 1))) (C := RX8) (T := TX8) (N := 13) hx hb hg hu_X8 hown hc.1 hW.1 0 rfl rfl 1 (by decide) (hg _ wd_1_70) (fun _ h9 => h9) rfl dX8_takeSign_18 ?_
          refine lv_aload_n hx hb dX8_takeSign_21 rfl (lv_at hl 0 rfl) ?_
          refine va_get (D := G.1) (ci := 7) (v := .int v_signCount) (C := RX8) (T := TX8) (N := 13) hx hb hg hu_X8 hown hc.1 hW.1 0 rfl rfl 7 (by decide) (hg _ wd_1_76) (fun _ h9 => h9) rfl dX8_takeSign_22 ?_
          refine lv_iconst (v := 4) hx hb dX8_takeSign_25 (by decide) ?_
          refine lv_imul hx hb dX8_takeSign_26 ?_
          refine lv_iload_n hx hb dX8_takeSign_27 rfl (lv_at hl 2 rfl) ?_
          refine lv_iadd hx hb dX8_takeSign_28 ?_
          refine lv_aload_n hx hb dX8_takeSign_29 rfl (lv_at hl 1 rfl) ?_
          refine lv_iload_n hx hb dX8_takeSign_30 rfl (lv_at hl 2 rfl) ?_
          obtain ⟨q31, c_31, hF⟩ := bd_el hF
          refine wcI (ws' := [(h_this, oX8 ad_this v_signCount v_houseCount v_boatCount v_workCount v_turnCost v_boatDayCost), (h_p1, oX3 ad_p1 v_p1_numberCount v_p1_letter v_p1_end), ((ad_p1 0), cI G 4 a_p1_numbers), ((ad_this 1), cI G 16 a_signNumbers_12)]) (wc := [(h_p1, oX3 ad_p1 v_p1_numberCount v_p1_letter v_p1_end), ((ad_p1 0), cI G 4 a_p1_numbers)]) (wr := [(h_this, oX8 ad_this v_signCount v_houseCount v_boatCount v_workCount v_turnCost v_boatDayCost), ((ad_this 1), cI G 16 a_signNumbers_12)]) (w1 := [(h_p1, oX3 ad_p1 v_p1_numberCount v_p1_letter v_p1_end), ((ad_p1 0), cI G 4 a_p1_numbers)]) (va_runV (As := [.int x2_12]) (rest := [.int (((v_signCount * 4) + x2_12)), .ref ((ad_this 1))]) ⟨hx, hb, hml, hown, hg⟩ (c_X3_numberAt l G x2_12 h_p1 ad_p1 v_p1_numberCount v_p1_letter v_p1_end a_p1_numbers q31 c_31 H.size) (cwV 1 hg (gV wd_2_67 wd_2_68 wd_2_69 wd_1_3 wd_2_70) rfl rfl rfl hdV_X3_numberAt ⟨(Nat.le_of_ble_eq_true rfl), (Nat.le_of_ble_eq_true rfl)⟩) (preV hc hW [1, 2] rfl (by decide) rfl rfl) rfl rfl hl.1 rfl (lv_room (Nat.le_of_ble_eq_true rfl)) dX8_takeSign_31 ⟨Nat.zero_le _, Nat.zero_le _⟩) hA hW [1, 2] [0, 3] [0, 2, 3, 1] rfl rfl (by decide) (by decide) rfl (by decide) (fun H locs hW => ?_)
          obtain ⟨q34, c_34, hF⟩ := bd_el hF
          refine wcV (ws' := [(h_this, oX8 ad_this v_signCount v_houseCount v_boatCount v_workCount v_turnCost v_boatDayCost), (h_p1, oX3 ad_p1 v_p1_numberCount v_p1_letter v_p1_end), ((ad_p1 0), cI G 4 a_p1_numbers), ((ad_this 1), cI G 16 q34)]) (wc := [((ad_this 1), cI G 16 a_signNumbers_12)]) (wr := [(h_this, oX8 ad_this v_signCount v_houseCount v_boatCount v_workCount v_turnCost v_boatDayCost), (h_p1, oX3 ad_p1 v_p1_numberCount v_p1_letter v_p1_end), ((ad_p1 0), cI G 4 a_p1_numbers)]) (w1 := [((ad_this 1), cI G 16 q34)]) (va_runS (As := [.ref ((ad_this 1)), .int (((v_signCount * 4) + x2_12)), .int q31]) (rest := []) ⟨hx, hb, hml, hown, hg⟩ (c_X4_put l G (((v_signCount * 4) + x2_12)) q31 16 ((ad_this 1)) a_signNumbers_12 q34 c_34 H.size) (va_cwS 3 hg (gS wd_2_27 wd_2_17 wd_1_14 wd_2_18) rfl rfl rfl hdS_X4_put ⟨(Nat.le_of_ble_eq_true rfl), (Nat.le_of_ble_eq_true rfl)⟩) (preS hc hW [3] rfl (by decide)) rfl rfl hl.1 rfl (lv_room (Nat.le_of_ble_eq_true rfl)) dX8_takeSign_34 ⟨Nat.zero_le _, Nat.zero_le _⟩) hA hW [3] [0, 1, 2] [0, 1, 2, 3] rfl rfl (by decide) (by decide) rfl (by decide) (fun H locs hW => ?_)
          refine lv_iinc (v := (x2_12 + 1)) (lv' := [(2, .int ((x2_12 + 1))), (0, .ref h_this), (1, .ref h_p1)]) hx hb dX8_takeSign_37 hl (k := 2) rfl rfl (by decide) rfl (fun ls hl => ?_)
          refine lv_goto (tgt := 12) hx hb dX8_takeSign_40 (by decide) ?_
          exact ih ((x2_12 + 1)) q34 _ _ _ hF (lv_sub hl [1, 2, 0] rfl) hW
    exact L_12 5000 0 a_signNumbers _ _ _ hF (lv_sub hl [1, 2, 0] rfl) hW
  · have hF := ite_f hF c_5
    refine lv_iconst (v := 0) hx hb dX8_takeSign_8 (by decide) ?_
    obtain rfl := Option.some.inj hF
    exact hret _ _ _ _ hW (Or.inl rfl) dX8_takeSign_9
theorem dX8_takeHouse_0 : decode cX8_takeHouse 0 = .ok (.aload_n 0, 1) := by decide +kernel
theorem dX8_takeHouse_1 : decode cX8_takeHouse 1 = .ok (.getfield 70, 3) := by decide +kernel
theorem dX8_takeHouse_4 : decode cX8_takeHouse 4 = .ok (.bipush 6, 2) := by decide +kernel
theorem dX8_takeHouse_6 : decode cX8_takeHouse 6 = .ok (.if_icmp .lt 5, 3) := by decide +kernel
theorem dX8_takeHouse_9 : decode cX8_takeHouse 9 = .ok (.iconst 0, 1) := by decide +kernel
theorem dX8_takeHouse_10 : decode cX8_takeHouse 10 = .ok (.ireturn, 1) := by decide +kernel
theorem dX8_takeHouse_11 : decode cX8_takeHouse 11 = .ok (.aload_n 0, 1) := by decide +kernel
theorem dX8_takeHouse_12 : decode cX8_takeHouse 12 = .ok (.getfield 18, 3) := by decide +kernel
theorem dX8_takeHouse_15 : decode cX8_takeHouse 15 = .ok (.aload_n 0, 1) := by decide +kernel
theorem dX8_takeHouse_16 : decode cX8_takeHouse 16 = .ok (.getfield 70, 3) := by decide +kernel
theorem dX8_takeHouse_19 : decode cX8_takeHouse 19 = .ok (.aload_n 1, 1) := by decide +kernel
theorem dX8_takeHouse_20 : decode cX8_takeHouse 20 = .ok (.iconst 0, 1) := by decide +kernel
theorem dX8_takeHouse_21 : decode cX8_takeHouse 21 = .ok (.invokevirtual 100, 3) := by decide +kernel
theorem dX8_takeHouse_24 : decode cX8_takeHouse 24 = .ok (.invokestatic 55, 3) := by decide +kernel
theorem dX8_takeHouse_27 : decode cX8_takeHouse 27 = .ok (.aload_n 0, 1) := by decide +kernel
theorem dX8_takeHouse_28 : decode cX8_takeHouse 28 = .ok (.getfield 21, 3) := by decide +kernel
theorem dX8_takeHouse_31 : decode cX8_takeHouse 31 = .ok (.aload_n 0, 1) := by decide +kernel
theorem dX8_takeHouse_32 : decode cX8_takeHouse 32 = .ok (.getfield 70, 3) := by decide +kernel
theorem dX8_takeHouse_35 : decode cX8_takeHouse 35 = .ok (.aload_n 1, 1) := by decide +kernel
theorem dX8_takeHouse_36 : decode cX8_takeHouse 36 = .ok (.iconst 1, 1) := by decide +kernel
theorem dX8_takeHouse_37 : decode cX8_takeHouse 37 = .ok (.invokevirtual 100, 3) := by decide +kernel
theorem dX8_takeHouse_40 : decode cX8_takeHouse 40 = .ok (.invokestatic 55, 3) := by decide +kernel
theorem dX8_takeHouse_43 : decode cX8_takeHouse 43 = .ok (.aload_n 0, 1) := by decide +kernel
theorem dX8_takeHouse_44 : decode cX8_takeHouse 44 = .ok (.dup, 1) := by decide +kernel
theorem dX8_takeHouse_45 : decode cX8_takeHouse 45 = .ok (.getfield 70, 3) := by decide +kernel
theorem dX8_takeHouse_48 : decode cX8_takeHouse 48 = .ok (.iconst 1, 1) := by decide +kernel
theorem dX8_takeHouse_49 : decode cX8_takeHouse 49 = .ok (.iadd, 1) := by decide +kernel
theorem dX8_takeHouse_50 : decode cX8_takeHouse 50 = .ok (.putfield 70, 3) := by decide +kernel
theorem dX8_takeHouse_53 : decode cX8_takeHouse 53 = .ok (.iconst 1, 1) := by decide +kernel
theorem dX8_takeHouse_54 : decode cX8_takeHouse 54 = .ok (.ireturn, 1) := by decide +kernel
def F_X8_takeHouse (v_houseCount : Int32) (a_p1_numbers : Nat → Int32) (a_houseMinutes : Nat → Int32) (a_housePeople : Nat → Int32) : Option (Int32 × Int32 × (Nat → Int32) × (Nat → Int32)) := (if v_houseCount < 6 then (F_X3_numberAt 0 a_p1_numbers).bind (fun q21 => (F_X4_put v_houseCount q21 6 a_housePeople).bind (fun q24 => (F_X3_numberAt 1 a_p1_numbers).bind (fun q37 => (F_X4_put v_houseCount q37 6 a_houseMinutes).bind (fun q40 => some (1, (v_houseCount + 1), q40, q24))))) else some (0, v_houseCount, a_houseMinutes, a_housePeople))
theorem hdV_X8_takeHouse : yX8_takeHouse.cls = RX8 ∧ yX8_takeHouse.cls ≠ "java/lang/invoke/MethodHandle" ∧ yX8_takeHouse.cls ≠ "java/lang/invoke/VarHandle" ∧ (parseMethodDescriptor yX8_takeHouse.desc).map (fun d => d.parameters.length) = some 1 := by decide +kernel
set_option maxHeartbeats 4000000 in
set_option maxRecDepth 100000 in
theorem c_X8_takeHouse (l : Launch) (G : GG) (h_this : Nat) (h_p1 : Nat) (ad_this : Nat → Nat) (ad_p1 : Nat → Nat) (v_signCount : Int32) (v_houseCount : Int32) (v_boatCount : Int32) (v_workCount : Int32) (v_turnCost : Int32) (v_boatDayCost : Int32) (v_p1_numberCount : Int32) (v_p1_letter : Int32) (v_p1_end : Int32) (a_p1_numbers : Nat → Int32) (a_houseMinutes : Nat → Int32) (a_housePeople : Nat → Int32) (out : Int32 × Int32 × (Nat → Int32) × (Nat → Int32)) (hF : F_X8_takeHouse v_houseCount a_p1_numbers a_houseMinutes a_housePeople = some out) : CtrZ l yX8_takeHouse (WS yX8_takeHouse cX8_takeHouse 2 (some .boolean)) { frames := 2, cells := 0, slots := 0, locals := 42 } G [.ref h_this, .ref h_p1] [(h_this, oX8 ad_this v_signCount v_houseCount v_boatCount v_workCount v_turnCost v_boatDayCost), (h_p1, oX3 ad_p1 v_p1_numberCount v_p1_letter v_p1_end), ((ad_p1 0), cI G 4 a_p1_numbers), ((ad_this 3), cI G 6 a_houseMinutes), ((ad_this 2), cI G 6 a_housePeople)] [(h_this, oX8 ad_this v_signCount out.2.1 v_boatCount v_workCount v_turnCost v_boatDayCost), (h_p1, oX3 ad_p1 v_p1_numberCount v_p1_letter v_p1_end), ((ad_p1 0), cI G 4 a_p1_numbers), ((ad_this 3), cI G 6 out.2.2.1), ((ad_this 2), cI G 6 out.2.2.2)] out.1 := by
  refine startZ (cc := cX8_takeHouse) (maxL := 2) (by decide) rfl (Nat.le_of_ble_eq_true rfl) ?_
  intro p e s m args below meth c A Q hx hb hml hts hown hc hA hret ls H locs hl hW
  have hown : s.vm.findClass RX8 = some m.cls := hown
  have hg : ∀ w ∈ GOODS, w.before _ s = true := fun w h => hts w (List.mem_cons_of_mem _ h)
  have hl : lv_has ls 2 [(0, .ref h_this), (1, .ref h_p1)] := hl
  rw [F_X8_takeHouse] at hF
  refine lv_aload_n hx hb dX8_takeHouse_0 rfl (lv_at hl 0 rfl) ?_
  refine va_get (D := G.1) (ci := 7) (v := .int v_houseCount) (C := RX8) (T := TX8) (N := 13) hx hb hg hu_X8 hown hc.1 hW.1 0 rfl rfl 8 (by decide) (hg _ wd_1_78) (fun _ h9 => h9) rfl dX8_takeHouse_1 ?_
  refine lv_bipush (v := 6) hx hb dX8_takeHouse_4 (by decide) ?_
  refine lv_icmp_lt (tgt := 11) hx hb dX8_takeHouse_6 (by decide) (fun c_6 => ?_) (fun c_6 => ?_)
  · have hF := ite_t hF c_6
    refine lv_aload_n hx hb dX8_takeHouse_11 rfl (lv_at hl 0 rfl) ?_
    refine va_get (D := G.1) (ci := 7) (v := .ref ((ad_this 2))) (C := RX8) (T := TX8) (N := 13) hx hb hg hu_X8 hown hc.1 hW.1 0 rfl rfl 2 (by decide) (hg _ wd_1_71) (fun _ h9 => h9) rfl dX8_takeHouse_12 ?_
    refine lv_aload_n hx hb dX8_takeHouse_15 rfl (lv_at hl 0 rfl) ?_
    refine va_get (D := G.1) (ci := 7) (v := .int v_houseCount) (C := RX8) (T := TX8) (N := 13) hx hb hg hu_X8 hown hc.1 hW.1 0 rfl rfl 8 (by decide) (hg _ wd_1_78) (fun _ h9 => h9) rfl dX8_takeHouse_16 ?_
    refine lv_aload_n hx hb dX8_takeHouse_19 rfl (lv_at hl 1 rfl) ?_
    refine lv_iconst (v := 0) hx hb dX8_takeHouse_20 (by decide) ?_
    obtain ⟨q21, c_21, hF⟩ := bd_el hF
    refine wcI (ws' := [(h_this, oX8 ad_this v_signCount v_houseCount v_boatCount v_workCount v_turnCost v_boatDayCost), (h_p1, oX3 ad_p1 v_p1_numberCount v_p1_letter v_p1_end), ((ad_p1 0), cI G 4 a_p1_numbers), ((ad_this 3), cI G 6 a_houseMinutes), ((ad_this 2), cI G 6 a_housePeople)]) (wc := [(h_p1, oX3 ad_p1 v_p1_numberCount v_p1_letter v_p1_end), ((ad_p1 0), cI G 4 a_p1_numbers)]) (wr := [(h_this, oX8 ad_this v_signCount v_houseCount v_boatCount v_workCount v_turnCost v_boatDayCost), ((ad_this 3), cI G 6 a_houseMinutes), ((ad_this 2), cI G 6 a_housePeople)]) (w1 := [(h_p1, oX3 ad_p1 v_p1_numberCount v_p1_letter v_p1_end), ((ad_p1 0), cI G 4 a_p1_numbers)]) (va_runV (As := [.int 0]) (rest := [.int v_houseCount, .ref ((ad_this 2))]) ⟨hx, hb, hml, hown, hg⟩ (c_X3_numberAt l G 0 h_p1 ad_p1 v_p1_numberCount v_p1_letter v_p1_end a_p1_numbers q21 c_21 H.size) (cwV 1 hg (gV wd_2_67 wd_2_68 wd_2_69 wd_1_3 wd_2_70) rfl rfl rfl hdV_X3_numberAt ⟨(Nat.le_of_ble_eq_true rfl), (Nat.le_of_ble_eq_true rfl)⟩) (preV hc hW [1, 2] rfl (by decide) rfl rfl) rfl rfl hl.1 rfl (lv_room (Nat.le_of_ble_eq_true rfl)) dX8_takeHouse_21 ⟨Nat.zero_le _, Nat.zero_le _⟩) hA hW [1, 2] [0, 3, 4] [0, 3, 4, 1, 2] rfl rfl (by decide) (by decide) rfl (by decide) (fun H locs hW => ?_)
    obtain ⟨q24, c_24, hF⟩ := bd_el hF
    refine wcV (ws' := [(h_this, oX8 ad_this v_signCount v_houseCount v_boatCount v_workCount v_turnCost v_boatDayCost), (h_p1, oX3 ad_p1 v_p1_numberCount v_p1_letter v_p1_end), ((ad_p1 0), cI G 4 a_p1_numbers), ((ad_this 3), cI G 6 a_houseMinutes), ((ad_this 2), cI G 6 q24)]) (wc := [((ad_this 2), cI G 6 a_housePeople)]) (wr := [(h_this, oX8 ad_this v_signCount v_houseCount v_boatCount v_workCount v_turnCost v_boatDayCost), (h_p1, oX3 ad_p1 v_p1_numberCount v_p1_letter v_p1_end), ((ad_p1 0), cI G 4 a_p1_numbers), ((ad_this 3), cI G 6 a_houseMinutes)]) (w1 := [((ad_this 2), cI G 6 q24)]) (va_runS (As := [.ref ((ad_this 2)), .int v_houseCount, .int q21]) (rest := []) ⟨hx, hb, hml, hown, hg⟩ (c_X4_put l G v_houseCount q21 6 ((ad_this 2)) a_housePeople q24 c_24 H.size) (va_cwS 3 hg (gS wd_2_27 wd_2_17 wd_1_14 wd_2_18) rfl rfl rfl hdS_X4_put ⟨(Nat.le_of_ble_eq_true rfl), (Nat.le_of_ble_eq_true rfl)⟩) (preS hc hW [4] rfl (by decide)) rfl rfl hl.1 rfl (lv_room (Nat.le_of_ble_eq_true rfl)) dX8_takeHouse_24 ⟨Nat.zero_le _, Nat.zero_le _⟩) hA hW [4] [0, 1, 2, 3] [0, 1, 2, 3, 4] rfl rfl (by decide) (by decide) rfl (by decide) (fun H locs hW => ?_)
    refine lv_aload_n hx hb dX8_takeHouse_27 rfl (lv_at hl 0 rfl) ?_
    refine va_get (D := G.1) (ci := 7) (v := .ref ((ad_this 3))) (C := RX8) (T := TX8) (N := 13) hx hb hg hu_X8 hown hc.1 hW.1 0 rfl rfl 3 (by decide) (hg _ wd_1_72) (fun _ h9 => h9) rfl dX8_takeHouse_28 ?_
    refine lv_aload_n hx hb dX8_takeHouse_31 rfl (lv_at hl 0 rfl) ?_
    refine va_get (D := G.1) (ci := 7) (v := .int v_houseCount) (C := RX8) (T := TX8) (N := 13) hx hb hg hu_X8 hown hc.1 hW.1 0 rfl rfl 8 (by decide) (hg _ wd_1_78) (fun _ h9 => h9) rfl dX8_takeHouse_32 ?_
    refine lv_aload_n hx hb dX8_takeHouse_35 rfl (lv_at hl 1 rfl) ?_
    refine lv_iconst (v := 1) hx hb dX8_takeHouse_36 (by decide) ?_
    obtain ⟨q37, c_37, hF⟩ := bd_el hF
    refine wcI (ws' := [(h_this, oX8 ad_this v_signCount v_houseCount v_boatCount v_workCount v_turnCost v_boatDayCost), (h_p1, oX3 ad_p1 v_p1_numberCount v_p1_letter v_p1_end), ((ad_p1 0), cI G 4 a_p1_numbers), ((ad_this 3), cI G 6 a_houseMinutes), ((ad_this 2), cI G 6 q24)]) (wc := [(h_p1, oX3 ad_p1 v_p1_numberCount v_p1_letter v_p1_end), ((ad_p1 0), cI G 4 a_p1_numbers)]) (wr := [(h_this, oX8 ad_this v_signCount v_houseCount v_boatCount v_workCount v_turnCost v_boatDayCost), ((ad_this 3), cI G 6 a_houseMinutes), ((ad_this 2), cI G 6 q24)]) (w1 := [(h_p1, oX3 ad_p1 v_p1_numberCount v_p1_letter v_p1_end), ((ad_p1 0), cI G 4 a_p1_numbers)]) (va_runV (As := [.int 1]) (rest := [.int v_houseCount, .ref ((ad_this 3))]) ⟨hx, hb, hml, hown, hg⟩ (c_X3_numberAt l G 1 h_p1 ad_p1 v_p1_numberCount v_p1_letter v_p1_end a_p1_numbers q37 c_37 H.size) (cwV 1 hg (gV wd_2_67 wd_2_68 wd_2_69 wd_1_3 wd_2_70) rfl rfl rfl hdV_X3_numberAt ⟨(Nat.le_of_ble_eq_true rfl), (Nat.le_of_ble_eq_true rfl)⟩) (preV hc hW [1, 2] rfl (by decide) rfl rfl) rfl rfl hl.1 rfl (lv_room (Nat.le_of_ble_eq_true rfl)) dX8_takeHouse_37 ⟨Nat.zero_le _, Nat.zero_le _⟩) hA hW [1, 2] [0, 3, 4] [0, 3, 4, 1, 2] rfl rfl (by decide) (by decide) rfl (by decide) (fun H locs hW => ?_)
    obtain ⟨q40, c_40, hF⟩ := bd_el hF
    refine wcV (ws' := [(h_this, oX8 ad_this v_signCount v_houseCount v_boatCount v_workCount v_turnCost v_boatDayCost), (h_p1, oX3 ad_p1 v_p1_numberCount v_p1_letter v_p1_end), ((ad_p1 0), cI G 4 a_p1_numbers), ((ad_this 3), cI G 6 q40), ((ad_this 2), cI G 6 q24)]) (wc := [((ad_this 3), cI G 6 a_houseMinutes)]) (wr := [(h_this, oX8 ad_this v_signCount v_houseCount v_boatCount v_workCount v_turnCost v_boatDayCost), (h_p1, oX3 ad_p1 v_p1_numberCount v_p1_letter v_p1_end), ((ad_p1 0), cI G 4 a_p1_numbers), ((ad_this 2), cI G 6 q24)]) (w1 := [((ad_this 3), cI G 6 q40)]) (va_runS (As := [.ref ((ad_this 3)), .int v_houseCount, .int q37]) (rest := []) ⟨hx, hb, hml, hown, hg⟩ (c_X4_put l G v_houseCount q37 6 ((ad_this 3)) a_houseMinutes q40 c_40 H.size) (va_cwS 3 hg (gS wd_2_27 wd_2_17 wd_1_14 wd_2_18) rfl rfl rfl hdS_X4_put ⟨(Nat.le_of_ble_eq_true rfl), (Nat.le_of_ble_eq_true rfl)⟩) (preS hc hW [3] rfl (by decide)) rfl rfl hl.1 rfl (lv_room (Nat.le_of_ble_eq_true rfl)) dX8_takeHouse_40 ⟨Nat.zero_le _, Nat.zero_le _⟩) hA hW [3] [0, 1, 2, 4] [0, 1, 2, 4, 3] rfl rfl (by decide) (by decide) rfl (by decide) (fun H locs hW => ?_)
    refine lv_aload_n hx hb dX8_takeHouse_43 rfl (lv_at hl 0 rfl) ?_
    refine lv_dup hx hb dX8_takeHouse_44 rfl ?_
    refine va_get (D := G.1) (ci := 7) (v := .int v_houseCount) (C := RX8) (T := TX8) (N := 13) hx hb hg hu_X8 hown hc.1 hW.1 0 rfl rfl 8 (by decide) (hg _ wd_1_78) (fun _ h9 => h9) rfl dX8_takeHouse_45 ?_
    refine lv_iconst (v := 1) hx hb dX8_takeHouse_48 (by decide) ?_
    refine lv_iadd hx hb dX8_takeHouse_49 ?_
    refine va_put (D := G.1) (ci := 7) (v := .int ((v_houseCount + 1))) (ty := .int) (C := RX8) (T := TX8) (N := 13) hx hb hg hu_X8 tyX8 tyX8_ok nmX8 hown hc.1 hW.1 hW.2.1 hW.2.2 0 rfl rfl 8 (by decide) (hg _ wd_1_78) (fun _ h9 => h9) rfl (by decide +kernel) rfl rfl (Nat.le_of_ble_eq_true rfl) dX8_takeHouse_50 (fun H locs hP hD hS => ?_)
    have hW : Wd G A s.heap [(h_this, oX8 ad_this v_signCount ((v_houseCount + 1)) v_boatCount v_workCount v_turnCost v_boatDayCost), (h_p1, oX3 ad_p1 v_p1_numberCount v_p1_letter v_p1_end), ((ad_p1 0), cI G 4 a_p1_numbers), ((ad_this 3), cI G 6 q40), ((ad_this 2), cI G 6 q24)] H locs := ⟨hP, hD, hS⟩
    refine lv_iconst (v := 1) hx hb dX8_takeHouse_53 (by decide) ?_
    obtain rfl := Option.some.inj hF
    exact hret _ _ _ _ hW (Or.inr rfl) dX8_takeHouse_54
  · have hF := ite_f hF c_6
    refine lv_iconst (v := 0) hx hb dX8_takeHouse_9 (by decide) ?_
    obtain rfl := Option.some.inj hF
    exact hret _ _ _ _ hW (Or.inl rfl) dX8_takeHouse_10
theorem dX8_takeBoat_0 : decode cX8_takeBoat 0 = .ok (.aload_n 0, 1) := by decide +kernel
theorem dX8_takeBoat_1 : decode cX8_takeBoat 1 = .ok (.getfield 73, 3) := by decide +kernel
theorem dX8_takeBoat_4 : decode cX8_takeBoat 4 = .ok (.iconst 4, 1) := by decide +kernel
theorem dX8_takeBoat_5 : decode cX8_takeBoat 5 = .ok (.if_icmp .lt 5, 3) := by decide +kernel
theorem dX8_takeBoat_8 : decode cX8_takeBoat 8 = .ok (.iconst 0, 1) := by decide +kernel
theorem dX8_takeBoat_9 : decode cX8_takeBoat 9 = .ok (.ireturn, 1) := by decide +kernel
theorem dX8_takeBoat_10 : decode cX8_takeBoat 10 = .ok (.aload_n 0, 1) := by decide +kernel
theorem dX8_takeBoat_11 : decode cX8_takeBoat 11 = .ok (.getfield 24, 3) := by decide +kernel
theorem dX8_takeBoat_14 : decode cX8_takeBoat 14 = .ok (.aload_n 0, 1) := by decide +kernel
theorem dX8_takeBoat_15 : decode cX8_takeBoat 15 = .ok (.getfield 73, 3) := by decide +kernel
theorem dX8_takeBoat_18 : decode cX8_takeBoat 18 = .ok (.aload_n 1, 1) := by decide +kernel
theorem dX8_takeBoat_19 : decode cX8_takeBoat 19 = .ok (.iconst 0, 1) := by decide +kernel
theorem dX8_takeBoat_20 : decode cX8_takeBoat 20 = .ok (.invokevirtual 100, 3) := by decide +kernel
theorem dX8_takeBoat_23 : decode cX8_takeBoat 23 = .ok (.invokestatic 55, 3) := by decide +kernel
theorem dX8_takeBoat_26 : decode cX8_takeBoat 26 = .ok (.aload_n 0, 1) := by decide +kernel
theorem dX8_takeBoat_27 : decode cX8_takeBoat 27 = .ok (.dup, 1) := by decide +kernel
theorem dX8_takeBoat_28 : decode cX8_takeBoat 28 = .ok (.getfield 73, 3) := by decide +kernel
theorem dX8_takeBoat_31 : decode cX8_takeBoat 31 = .ok (.iconst 1, 1) := by decide +kernel
theorem dX8_takeBoat_32 : decode cX8_takeBoat 32 = .ok (.iadd, 1) := by decide +kernel
theorem dX8_takeBoat_33 : decode cX8_takeBoat 33 = .ok (.putfield 73, 3) := by decide +kernel
theorem dX8_takeBoat_36 : decode cX8_takeBoat 36 = .ok (.iconst 1, 1) := by decide +kernel
theorem dX8_takeBoat_37 : decode cX8_takeBoat 37 = .ok (.ireturn, 1) := by decide +kernel
def F_X8_takeBoat (v_boatCount : Int32) (a_p1_numbers : Nat → Int32) (a_boatRoom : Nat → Int32) : Option (Int32 × Int32 × (Nat → Int32)) := (if v_boatCount < 4 then (F_X3_numberAt 0 a_p1_numbers).bind (fun q20 => (F_X4_put v_boatCount q20 4 a_boatRoom).bind (fun q23 => some (1, (v_boatCount + 1), q23))) else some (0, v_boatCount, a_boatRoom))
theorem hdV_X8_takeBoat : yX8_takeBoat.cls = RX8 ∧ yX8_takeBoat.cls ≠ "java/lang/invoke/MethodHandle" ∧ yX8_takeBoat.cls ≠ "java/lang/invoke/VarHandle" ∧ (parseMethodDescriptor yX8_takeBoat.desc).map (fun d => d.parameters.length) = some 1 := by decide +kernel
set_option maxHeartbeats 4000000 in
set_option maxRecDepth 100000 in
theorem c_X8_takeBoat (l : Launch) (G : GG) (h_this : Nat) (h_p1 : Nat) (ad_this : Nat → Nat) (ad_p1 : Nat → Nat) (v_signCount : Int32) (v_houseCount : Int32) (v_boatCount : Int32) (v_workCount : Int32) (v_turnCost : Int32) (v_boatDayCost : Int32) (v_p1_numberCount : Int32) (v_p1_letter : Int32) (v_p1_end : Int32) (a_p1_numbers : Nat → Int32) (a_boatRoom : Nat → Int32) (out : Int32 × Int32 × (Nat → Int32)) (hF : F_X8_takeBoat v_boatCount a_p1_numbers a_boatRoom = some out) : CtrZ l yX8_takeBoat (WS yX8_takeBoat cX8_takeBoat 2 (some .boolean)) { frames := 2, cells := 0, slots := 0, locals := 42 } G [.ref h_this, .ref h_p1] [(h_this, oX8 ad_this v_signCount v_houseCount v_boatCount v_workCount v_turnCost v_boatDayCost), (h_p1, oX3 ad_p1 v_p1_numberCount v_p1_letter v_p1_end), ((ad_p1 0), cI G 4 a_p1_numbers), ((ad_this 4), cI G 4 a_boatRoom)] [(h_this, oX8 ad_this v_signCount v_houseCount out.2.1 v_workCount v_turnCost v_boatDayCost), (h_p1, oX3 ad_p1 v_p1_numberCount v_p1_letter v_p1_end), ((ad_p1 0), cI G 4 a_p1_numbers), ((ad_this 4), cI G 4 out.2.2)] out.1 := by
  refine startZ (cc := cX8_takeBoat) (maxL := 2) (by decide) rfl (Nat.le_of_ble_eq_true rfl) ?_
  intro p e s m args below meth c A Q hx hb hml hts hown hc hA hret ls H locs hl hW
  have hown : s.vm.findClass RX8 = some m.cls := hown
  have hg : ∀ w ∈ GOODS, w.before _ s = true := fun w h => hts w (List.mem_cons_of_mem _ h)
  have hl : lv_has ls 2 [(0, .ref h_this), (1, .ref h_p1)] := hl
  rw [F_X8_takeBoat] at hF
  refine lv_aload_n hx hb dX8_takeBoat_0 rfl (lv_at hl 0 rfl) ?_
  refine va_get (D := G.1) (ci := 7) (v := .int v_boatCount) (C := RX8) (T := TX8) (N := 13) hx hb hg hu_X8 hown hc.1 hW.1 0 rfl rfl 9 (by decide) (hg _ wd_1_82) (fun _ h9 => h9) rfl dX8_takeBoat_1 ?_
  refine lv_iconst (v := 4) hx hb dX8_takeBoat_4 (by decide) ?_
  refine lv_icmp_lt (tgt := 10) hx hb dX8_takeBoat_5 (by decide) (fun c_5 => ?_) (fun c_5 => ?_)
  · have hF := ite_t hF c_5
    refine lv_aload_n hx hb dX8_takeBoat_10 rfl (lv_at hl 0 rfl) ?_
    refine va_get (D := G.1) (ci := 7) (v := .ref ((ad_this 4))) (C := RX8) (T := TX8) (N := 13) hx hb hg hu_X8 hown hc.1 hW.1 0 rfl rfl 4 (by decide) (hg _ wd_1_73) (fun _ h9 => h9) rfl dX8_takeBoat_11 ?_
    refine lv_aload_n hx hb dX8_takeBoat_14 rfl (lv_at hl 0 rfl) ?_
    refine va_get (D := G.1) (ci := 7) (v := .int v_boatCount) (C := RX8) (T := TX8) (N := 13) hx hb hg hu_X8 hown hc.1 hW.1 0 rfl rfl 9 (by decide) (hg _ wd_1_82) (fun _ h9 => h9) rfl dX8_takeBoat_15 ?_
    refine lv_aload_n hx hb dX8_takeBoat_18 rfl (lv_at hl 1 rfl) ?_
    refine lv_iconst (v := 0) hx hb dX8_takeBoat_19 (by decide) ?_
    obtain ⟨q20, c_20, hF⟩ := bd_el hF
    refine wcI (ws' := [(h_this, oX8 ad_this v_signCount v_houseCount v_boatCount v_workCount v_turnCost v_boatDayCost), (h_p1, oX3 ad_p1 v_p1_numberCount v_p1_letter v_p1_end), ((ad_p1 0), cI G 4 a_p1_numbers), ((ad_this 4), cI G 4 a_boatRoom)]) (wc := [(h_p1, oX3 ad_p1 v_p1_numberCount v_p1_letter v_p1_end), ((ad_p1 0), cI G 4 a_p1_numbers)]) (wr := [(h_this, oX8 ad_this v_signCount v_houseCount v_boatCount v_workCount v_turnCost v_boatDayCost), ((ad_this 4), cI G 4 a_boatRoom)]) (w1 := [(h_p1, oX3 ad_p1 v_p1_numberCount v_p1_letter v_p1_end), ((ad_p1 0), cI G 4 a_p1_numbers)]) (va_runV (As := [.int 0]) (rest := [.int v_boatCount, .ref ((ad_this 4))]) ⟨hx, hb, hml, hown, hg⟩ (c_X3_numberAt l G 0 h_p1 ad_p1 v_p1_numberCount v_p1_letter v_p1_end a_p1_numbers q20 c_20 H.size) (cwV 1 hg (gV wd_2_67 wd_2_68 wd_2_69 wd_1_3 wd_2_70) rfl rfl rfl hdV_X3_numberAt ⟨(Nat.le_of_ble_eq_true rfl), (Nat.le_of_ble_eq_true rfl)⟩) (preV hc hW [1, 2] rfl (by decide) rfl rfl) rfl rfl hl.1 rfl (lv_room (Nat.le_of_ble_eq_true rfl)) dX8_takeBoat_20 ⟨Nat.zero_le _, Nat.zero_le _⟩) hA hW [1, 2] [0, 3] [0, 2, 3, 1] rfl rfl (by decide) (by decide) rfl (by decide) (fun H locs hW => ?_)
    obtain ⟨q23, c_23, hF⟩ := bd_el hF
    refine wcV (ws' := [(h_this, oX8 ad_this v_signCount v_houseCount v_boatCount v_workCount v_turnCost v_boatDayCost), (h_p1, oX3 ad_p1 v_p1_numberCount v_p1_letter v_p1_end), ((ad_p1 0), cI G 4 a_p1_numbers), ((ad_this 4), cI G 4 q23)]) (wc := [((ad_this 4), cI G 4 a_boatRoom)]) (wr := [(h_this, oX8 ad_this v_signCount v_houseCount v_boatCount v_workCount v_turnCost v_boatDayCost), (h_p1, oX3 ad_p1 v_p1_numberCount v_p1_letter v_p1_end), ((ad_p1 0), cI G 4 a_p1_numbers)]) (w1 := [((ad_this 4), cI G 4 q23)]) (va_runS (As := [.ref ((ad_this 4)), .int v_boatCount, .int q20]) (rest := []) ⟨hx, hb, hml, hown, hg⟩ (c_X4_put l G v_boatCount q20 4 ((ad_this 4)) a_boatRoom q23 c_23 H.size) (va_cwS 3 hg (gS wd_2_27 wd_2_17 wd_1_14 wd_2_18) rfl rfl rfl hdS_X4_put ⟨(Nat.le_of_ble_eq_true rfl), (Nat.le_of_ble_eq_true rfl)⟩) (preS hc hW [3] rfl (by decide)) rfl rfl hl.1 rfl (lv_room (Nat.le_of_ble_eq_true rfl)) dX8_takeBoat_23 ⟨Nat.zero_le _, Nat.zero_le _⟩) hA hW [3] [0, 1, 2] [0, 1, 2, 3] rfl rfl (by decide) (by decide) rfl (by decide) (fun H locs hW => ?_)
    refine lv_aload_n hx hb dX8_takeBoat_26 rfl (lv_at hl 0 rfl) ?_
    refine lv_dup hx hb dX8_takeBoat_27 rfl ?_
    refine va_get (D := G.1) (ci := 7) (v := .int v_boatCount) (C := RX8) (T := TX8) (N := 13) hx hb hg hu_X8 hown hc.1 hW.1 0 rfl rfl 9 (by decide) (hg _ wd_1_82) (fun _ h9 => h9) rfl dX8_takeBoat_28 ?_
    refine lv_iconst (v := 1) hx hb dX8_takeBoat_31 (by decide) ?_
    refine lv_iadd hx hb dX8_takeBoat_32 ?_
    refine va_put (D := G.1) (ci := 7) (v := .int ((v_boatCount + 1))) (ty := .int) (C := RX8) (T := TX8) (N := 13) hx hb hg hu_X8 tyX8 tyX8_ok nmX8 hown hc.1 hW.1 hW.2.1 hW.2.2 0 rfl rfl 9 (by decide) (hg _ wd_1_82) (fun _ h9 => h9) rfl (by decide +kernel) rfl rfl (Nat.le_of_ble_eq_true rfl) dX8_takeBoat_33 (fun H locs hP hD hS => ?_)
    have hW : Wd G A s.heap [(h_this, oX8 ad_this v_signCount v_houseCount ((v_boatCount + 1)) v_workCount v_turnCost v_boatDayCost), (h_p1, oX3 ad_p1 v_p1_numberCount v_p1_letter v_p1_end), ((ad_p1 0), cI G 4 a_p1_numbers), ((ad_this 4), cI G 4 q23)] H locs := ⟨hP, hD, hS⟩
    refine lv_iconst (v := 1) hx hb dX8_takeBoat_36 (by decide) ?_
    obtain rfl := Option.some.inj hF
    exact hret _ _ _ _ hW (Or.inr rfl) dX8_takeBoat_37
  · have hF := ite_f hF c_5
    refine lv_iconst (v := 0) hx hb dX8_takeBoat_8 (by decide) ?_
    obtain rfl := Option.some.inj hF
    exact hret _ _ _ _ hW (Or.inl rfl) dX8_takeBoat_9
theorem dX8_takeWorks_0 : decode cX8_takeWorks 0 = .ok (.aload_n 0, 1) := by decide +kernel
theorem dX8_takeWorks_1 : decode cX8_takeWorks 1 = .ok (.getfield 76, 3) := by decide +kernel
theorem dX8_takeWorks_4 : decode cX8_takeWorks 4 = .ok (.iconst 5, 1) := by decide +kernel
theorem dX8_takeWorks_5 : decode cX8_takeWorks 5 = .ok (.if_icmp .lt 5, 3) := by decide +kernel
theorem dX8_takeWorks_8 : decode cX8_takeWorks 8 = .ok (.iconst 0, 1) := by decide +kernel
theorem dX8_takeWorks_9 : decode cX8_takeWorks 9 = .ok (.ireturn, 1) := by decide +kernel
theorem dX8_takeWorks_10 : decode cX8_takeWorks 10 = .ok (.aload_n 0, 1) := by decide +kernel
theorem dX8_takeWorks_11 : decode cX8_takeWorks 11 = .ok (.getfield 27, 3) := by decide +kernel
theorem dX8_takeWorks_14 : decode cX8_takeWorks 14 = .ok (.aload_n 0, 1) := by decide +kernel
theorem dX8_takeWorks_15 : decode cX8_takeWorks 15 = .ok (.getfield 76, 3) := by decide +kernel
theorem dX8_takeWorks_18 : decode cX8_takeWorks 18 = .ok (.aload_n 1, 1) := by decide +kernel
theorem dX8_takeWorks_19 : decode cX8_takeWorks 19 = .ok (.iconst 0, 1) := by decide +kernel
theorem dX8_takeWorks_20 : decode cX8_takeWorks 20 = .ok (.invokevirtual 100, 3) := by decide +kernel
theorem dX8_takeWorks_23 : decode cX8_takeWorks 23 = .ok (.invokestatic 55, 3) := by decide +kernel
theorem dX8_takeWorks_26 : decode cX8_takeWorks 26 = .ok (.aload_n 0, 1) := by decide +kernel
theorem dX8_takeWorks_27 : decode cX8_takeWorks 27 = .ok (.getfield 30, 3) := by decide +kernel
theorem dX8_takeWorks_30 : decode cX8_takeWorks 30 = .ok (.aload_n 0, 1) := by decide +kernel
theorem dX8_takeWorks_31 : decode cX8_takeWorks 31 = .ok (.getfield 76, 3) := by decide +kernel
theorem dX8_takeWorks_34 : decode cX8_takeWorks 34 = .ok (.aload_n 1, 1) := by decide +kernel
theorem dX8_takeWorks_35 : decode cX8_takeWorks 35 = .ok (.iconst 1, 1) := by decide +kernel
theorem dX8_takeWorks_36 : decode cX8_takeWorks 36 = .ok (.invokevirtual 100, 3) := by decide +kernel
theorem dX8_takeWorks_39 : decode cX8_takeWorks 39 = .ok (.invokestatic 55, 3) := by decide +kernel
theorem dX8_takeWorks_42 : decode cX8_takeWorks 42 = .ok (.aload_n 0, 1) := by decide +kernel
theorem dX8_takeWorks_43 : decode cX8_takeWorks 43 = .ok (.dup, 1) := by decide +kernel
theorem dX8_takeWorks_44 : decode cX8_takeWorks 44 = .ok (.getfield 76, 3) := by decide +kernel
theorem dX8_takeWorks_47 : decode cX8_takeWorks 47 = .ok (.iconst 1, 1) := by decide +kernel
theorem dX8_takeWorks_48 : decode cX8_takeWorks 48 = .ok (.iadd, 1) := by decide +kernel
theorem dX8_takeWorks_49 : decode cX8_takeWorks 49 = .ok (.putfield 76, 3) := by decide +kernel
theorem dX8_takeWorks_52 : decode cX8_takeWorks 52 = .ok (.iconst 1, 1) := by decide +kernel
theorem dX8_takeWorks_53 : decode cX8_takeWorks 53 = .ok (.ireturn, 1) := by decide +kernel
def F_X8_takeWorks (v_workCount : Int32) (a_p1_numbers : Nat → Int32) (a_workGain : Nat → Int32) (a_workNoise : Nat → Int32) : Option (Int32 × Int32 × (Nat → Int32) × (Nat → Int32)) := (if v_workCount < 5 then (F_X3_numberAt 0 a_p1_numbers).bind (fun q20 => (F_X4_put v_workCount q20 5 a_workNoise).bind (fun q23 => (F_X3_numberAt 1 a_p1_numbers).bind (fun q36 => (F_X4_put v_workCount q36 5 a_workGain).bind (fun q39 => some (1, (v_workCount + 1), q39, q23))))) else some (0, v_workCount, a_workGain, a_workNoise))
theorem hdV_X8_takeWorks : yX8_takeWorks.cls = RX8 ∧ yX8_takeWorks.cls ≠ "java/lang/invoke/MethodHandle" ∧ yX8_takeWorks.cls ≠ "java/lang/invoke/VarHandle" ∧ (parseMethodDescriptor yX8_takeWorks.desc).map (fun d => d.parameters.length) = some 1 := by decide +kernel
set_option maxHeartbeats 4000000 in
set_option maxRecDepth 100000 in
theorem c_X8_takeWorks (l : Launch) (G : GG) (h_this : Nat) (h_p1 : Nat) (ad_this : Nat → Nat) (ad_p1 : Nat → Nat) (v_signCount : Int32) (v_houseCount : Int32) (v_boatCount : Int32) (v_workCount : Int32) (v_turnCost : Int32) (v_boatDayCost : Int32) (v_p1_numberCount : Int32) (v_p1_letter : Int32) (v_p1_end : Int32) (a_p1_numbers : Nat → Int32) (a_workGain : Nat → Int32) (a_workNoise : Nat → Int32) (out : Int32 × Int32 × (Nat → Int32) × (Nat → Int32)) (hF : F_X8_takeWorks v_workCount a_p1_numbers a_workGain a_workNoise = some out) : CtrZ l yX8_takeWorks (WS yX8_takeWorks cX8_takeWorks 2 (some .boolean)) { frames := 2, cells := 0, slots := 0, locals := 42 } G [.ref h_this, .ref h_p1] [(h_this, oX8 ad_this v_signCount v_houseCount v_boatCount v_workCount v_turnCost v_boatDayCost), (h_p1, oX3 ad_p1 v_p1_numberCount v_p1_letter v_p1_end), ((ad_p1 0), cI G 4 a_p1_numbers), ((ad_this 6), cI G 5 a_workGain), ((ad_this 5), cI G 5 a_workNoise)] [(h_this, oX8 ad_this v_signCount v_houseCount v_boatCount out.2.1 v_turnCost v_boatDayCost), (h_p1, oX3 ad_p1 v_p1_numberCount v_p1_letter v_p1_end), ((ad_p1 0), cI G 4 a_p1_numbers), ((ad_this 6), cI G 5 out.2.2.1), ((ad_this 5), cI G 5 out.2.2.2)] out.1 := by
  refine startZ (cc := cX8_takeWorks) (maxL := 2) (by decide) rfl (Nat.le_of_ble_eq_true rfl) ?_
  intro p e s m args below meth c A Q hx hb hml hts hown hc hA hret ls H locs hl hW
  have hown : s.vm.findClass RX8 = some m.cls := hown
  have hg : ∀ w ∈ GOODS, w.before _ s = true := fun w h => hts w (List.mem_cons_of_mem _ h)
  have hl : lv_has ls 2 [(0, .ref h_this), (1, .ref h_p1)] := hl
  rw [F_X8_takeWorks] at hF
  refine lv_aload_n hx hb dX8_takeWorks_0 rfl (lv_at hl 0 rfl) ?_
  refine va_get (D := G.1) (ci := 7) (v := .int v_workCount) (C := RX8) (T := TX8) (N := 13) hx hb hg hu_X8 hown hc.1 hW.1 0 rfl rfl 10 (by decide) (hg _ wd_1_84) (fun _ h9 => h9) rfl dX8_takeWorks_1 ?_
  refine lv_iconst (v := 5) hx hb dX8_takeWorks_4 (by decide) ?_
  refine lv_icmp_lt (tgt := 10) hx hb dX8_takeWorks_5 (by decide) (fun c_5 => ?_) (fun c_5 => ?_)
  · have hF := ite_t hF c_5
    refine lv_aload_n hx hb dX8_takeWorks_10 rfl (lv_at hl 0 rfl) ?_
    refine va_get (D := G.1) (ci := 7) (v := .ref ((ad_this 5))) (C := RX8) (T := TX8) (N := 13) hx hb hg hu_X8 hown hc.1 hW.1 0 rfl rfl 5 (by decide) (hg _ wd_1_74) (fun _ h9 => h9) rfl dX8_takeWorks_11 ?_
    refine lv_aload_n hx hb dX8_takeWorks_14 rfl (lv_at hl 0 rfl) ?_
    refine va_get (D := G.1) (ci := 7) (v := .int v_workCount) (C := RX8) (T := TX8) (N := 13) hx hb hg hu_X8 hown hc.1 hW.1 0 rfl rfl 10 (by decide) (hg _ wd_1_84) (fun _ h9 => h9) rfl dX8_takeWorks_15 ?_
    refine lv_aload_n hx hb dX8_takeWorks_18 rfl (lv_at hl 1 rfl) ?_
    refine lv_iconst (v := 0) hx hb dX8_takeWorks_19 (by decide) ?_
    obtain ⟨q20, c_20, hF⟩ := bd_el hF
    refine wcI (ws' := [(h_this, oX8 ad_this v_signCount v_houseCount v_boatCount v_workCount v_turnCost v_boatDayCost), (h_p1, oX3 ad_p1 v_p1_numberCount v_p1_letter v_p1_end), ((ad_p1 0), cI G 4 a_p1_numbers), ((ad_this 6), cI G 5 a_workGain), ((ad_this 5), cI G 5 a_workNoise)]) (wc := [(h_p1, oX3 ad_p1 v_p1_numberCount v_p1_letter v_p1_end), ((ad_p1 0), cI G 4 a_p1_numbers)]) (wr := [(h_this, oX8 ad_this v_signCount v_houseCount v_boatCount v_workCount v_turnCost v_boatDayCost), ((ad_this 6), cI G 5 a_workGain), ((ad_this 5), cI G 5 a_workNoise)]) (w1 := [(h_p1, oX3 ad_p1 v_p1_numberCount v_p1_letter v_p1_end), ((ad_p1 0), cI G 4 a_p1_numbers)]) (va_runV (As := [.int 0]) (rest := [.int v_workCount, .ref ((ad_this 5))]) ⟨hx, hb, hml, hown, hg⟩ (c_X3_numberAt l G 0 h_p1 ad_p1 v_p1_numberCount v_p1_letter v_p1_end a_p1_numbers q20 c_20 H.size) (cwV 1 hg (gV wd_2_67 wd_2_68 wd_2_69 wd_1_3 wd_2_70) rfl rfl rfl hdV_X3_numberAt ⟨(Nat.le_of_ble_eq_true rfl), (Nat.le_of_ble_eq_true rfl)⟩) (preV hc hW [1, 2] rfl (by decide) rfl rfl) rfl rfl hl.1 rfl (lv_room (Nat.le_of_ble_eq_true rfl)) dX8_takeWorks_20 ⟨Nat.zero_le _, Nat.zero_le _⟩) hA hW [1, 2] [0, 3, 4] [0, 3, 4, 1, 2] rfl rfl (by decide) (by decide) rfl (by decide) (fun H locs hW => ?_)
    obtain ⟨q23, c_23, hF⟩ := bd_el hF
    refine wcV (ws' := [(h_this, oX8 ad_this v_signCount v_houseCount v_boatCount v_workCount v_turnCost v_boatDayCost), (h_p1, oX3 ad_p1 v_p1_numberCount v_p1_letter v_p1_end), ((ad_p1 0), cI G 4 a_p1_numbers), ((ad_this 6), cI G 5 a_workGain), ((ad_this 5), cI G 5 q23)]) (wc := [((ad_this 5), cI G 5 a_workNoise)]) (wr := [(h_this, oX8 ad_this v_signCount v_houseCount v_boatCount v_workCount v_turnCost v_boatDayCost), (h_p1, oX3 ad_p1 v_p1_numberCount v_p1_letter v_p1_end), ((ad_p1 0), cI G 4 a_p1_numbers), ((ad_this 6), cI G 5 a_workGain)]) (w1 := [((ad_this 5), cI G 5 q23)]) (va_runS (As := [.ref ((ad_this 5)), .int v_workCount, .int q20]) (rest := []) ⟨hx, hb, hml, hown, hg⟩ (c_X4_put l G v_workCount q20 5 ((ad_this 5)) a_workNoise q23 c_23 H.size) (va_cwS 3 hg (gS wd_2_27 wd_2_17 wd_1_14 wd_2_18) rfl rfl rfl hdS_X4_put ⟨(Nat.le_of_ble_eq_true rfl), (Nat.le_of_ble_eq_true rfl)⟩) (preS hc hW [4] rfl (by decide)) rfl rfl hl.1 rfl (lv_room (Nat.le_of_ble_eq_true rfl)) dX8_takeWorks_23 ⟨Nat.zero_le _, Nat.zero_le _⟩) hA hW [4] [0, 1, 2, 3] [0, 1, 2, 3, 4] rfl rfl (by decide) (by decide) rfl (by decide) (fun H locs hW => ?_)
    refine lv_aload_n hx hb dX8_takeWorks_26 rfl (lv_at hl 0 rfl) ?_
    refine va_get (D := G.1) (ci := 7) (v := .ref ((ad_this 6))) (C := RX8) (T := TX8) (N := 13) hx hb hg hu_X8 hown hc.1 hW.1 0 rfl rfl 6 (by decide) (hg _ wd_1_75) (fun _ h9 => h9) rfl dX8_takeWorks_27 ?_
    refine lv_aload_n hx hb dX8_takeWorks_30 rfl (lv_at hl 0 rfl) ?_
    refine va_get (D := G.1) (ci := 7) (v := .int v_workCount) (C := RX8) (T := TX8) (N := 13) hx hb hg hu_X8 hown hc.1 hW.1 0 rfl rfl 10 (by decide) (hg _ wd_1_84) (fun _ h9 => h9) rfl dX8_takeWorks_31 ?_
    refine lv_aload_n hx hb dX8_takeWorks_34 rfl (lv_at hl 1 rfl) ?_
    refine lv_iconst (v := 1) hx hb dX8_takeWorks_35 (by decide) ?_
    obtain ⟨q36, c_36, hF⟩ := bd_el hF
    refine wcI (ws' := [(h_this, oX8 ad_this v_signCount v_houseCount v_boatCount v_workCount v_turnCost v_boatDayCost), (h_p1, oX3 ad_p1 v_p1_numberCount v_p1_letter v_p1_end), ((ad_p1 0), cI G 4 a_p1_numbers), ((ad_this 6), cI G 5 a_workGain), ((ad_this 5), cI G 5 q23)]) (wc := [(h_p1, oX3 ad_p1 v_p1_numberCount v_p1_letter v_p1_end), ((ad_p1 0), cI G 4 a_p1_numbers)]) (wr := [(h_this, oX8 ad_this v_signCount v_houseCount v_boatCount v_workCount v_turnCost v_boatDayCost), ((ad_this 6), cI G 5 a_workGain), ((ad_this 5), cI G 5 q23)]) (w1 := [(h_p1, oX3 ad_p1 v_p1_numberCount v_p1_letter v_p1_end), ((ad_p1 0), cI G 4 a_p1_numbers)]) (va_runV (As := [.int 1]) (rest := [.int v_workCount, .ref ((ad_this 6))]) ⟨hx, hb, hml, hown, hg⟩ (c_X3_numberAt l G 1 h_p1 ad_p1 v_p1_numberCount v_p1_letter v_p1_end a_p1_numbers q36 c_36 H.size) (cwV 1 hg (gV wd_2_67 wd_2_68 wd_2_69 wd_1_3 wd_2_70) rfl rfl rfl hdV_X3_numberAt ⟨(Nat.le_of_ble_eq_true rfl), (Nat.le_of_ble_eq_true rfl)⟩) (preV hc hW [1, 2] rfl (by decide) rfl rfl) rfl rfl hl.1 rfl (lv_room (Nat.le_of_ble_eq_true rfl)) dX8_takeWorks_36 ⟨Nat.zero_le _, Nat.zero_le _⟩) hA hW [1, 2] [0, 3, 4] [0, 3, 4, 1, 2] rfl rfl (by decide) (by decide) rfl (by decide) (fun H locs hW => ?_)
    obtain ⟨q39, c_39, hF⟩ := bd_el hF
    refine wcV (ws' := [(h_this, oX8 ad_this v_signCount v_houseCount v_boatCount v_workCount v_turnCost v_boatDayCost), (h_p1, oX3 ad_p1 v_p1_numberCount v_p1_letter v_p1_end), ((ad_p1 0), cI G 4 a_p1_numbers), ((ad_this 6), cI G 5 q39), ((ad_this 5), cI G 5 q23)]) (wc := [((ad_this 6), cI G 5 a_workGain)]) (wr := [(h_this, oX8 ad_this v_signCount v_houseCount v_boatCount v_workCount v_turnCost v_boatDayCost), (h_p1, oX3 ad_p1 v_p1_numberCount v_p1_letter v_p1_end), ((ad_p1 0), cI G 4 a_p1_numbers), ((ad_this 5), cI G 5 q23)]) (w1 := [((ad_this 6), cI G 5 q39)]) (va_runS (As := [.ref ((ad_this 6)), .int v_workCount, .int q36]) (rest := []) ⟨hx, hb, hml, hown, hg⟩ (c_X4_put l G v_workCount q36 5 ((ad_this 6)) a_workGain q39 c_39 H.size) (va_cwS 3 hg (gS wd_2_27 wd_2_17 wd_1_14 wd_2_18) rfl rfl rfl hdS_X4_put ⟨(Nat.le_of_ble_eq_true rfl), (Nat.le_of_ble_eq_true rfl)⟩) (preS hc hW [3] rfl (by decide)) rfl rfl hl.1 rfl (lv_room (Nat.le_of_ble_eq_true rfl)) dX8_takeWorks_39 ⟨Nat.zero_le _, Nat.zero_le _⟩) hA hW [3] [0, 1, 2, 4] [0, 1, 2, 4, 3] rfl rfl (by decide) (by decide) rfl (by decide) (fun H locs hW => ?_)
    refine lv_aload_n hx hb dX8_takeWorks_42 rfl (lv_at hl 0 rfl) ?_
    refine lv_dup hx hb dX8_takeWorks_43 rfl ?_
    refine va_get (D := G.1) (ci := 7) (v := .int v_workCount) (C := RX8) (T := TX8) (N := 13) hx hb hg hu_X8 hown hc.1 hW.1 0 rfl rfl 10 (by decide) (hg _ wd_1_84) (fun _ h9 => h9) rfl dX8_takeWorks_44 ?_
    refine lv_iconst (v := 1) hx hb dX8_takeWorks_47 (by decide) ?_
    refine lv_iadd hx hb dX8_takeWorks_48 ?_
    refine va_put (D := G.1) (ci := 7) (v := .int ((v_workCount + 1))) (ty := .int) (C := RX8) (T := TX8) (N := 13) hx hb hg hu_X8 tyX8 tyX8_ok nmX8 hown hc.1 hW.1 hW.2.1 hW.2.2 0 rfl rfl 10 (by decide) (hg _ wd_1_84) (fun _ h9 => h9) rfl (by decide +kernel) rfl rfl (Nat.le_of_ble_eq_true rfl) dX8_takeWorks_49 (fun H locs hP hD hS => ?_)
    have hW : Wd G A s.heap [(h_this, oX8 ad_this v_signCount v_houseCount v_boatCount ((v_workCount + 1)) v_turnCost v_boatDayCost), (h_p1, oX3 ad_p1 v_p1_numberCount v_p1_letter v_p1_end), ((ad_p1 0), cI G 4 a_p1_numbers), ((ad_this 6), cI G 5 q39), ((ad_this 5), cI G 5 q23)] H locs := ⟨hP, hD, hS⟩
    refine lv_iconst (v := 1) hx hb dX8_takeWorks_52 (by decide) ?_
    obtain rfl := Option.some.inj hF
    exact hret _ _ _ _ hW (Or.inr rfl) dX8_takeWorks_53
  · have hF := ite_f hF c_5
    refine lv_iconst (v := 0) hx hb dX8_takeWorks_8 (by decide) ?_
    obtain rfl := Option.some.inj hF
    exact hret _ _ _ _ hW (Or.inl rfl) dX8_takeWorks_9
theorem dX8_takeCosts_0 : decode cX8_takeCosts 0 = .ok (.aload_n 0, 1) := by decide +kernel
theorem dX8_takeCosts_1 : decode cX8_takeCosts 1 = .ok (.aload_n 1, 1) := by decide +kernel
theorem dX8_takeCosts_2 : decode cX8_takeCosts 2 = .ok (.iconst 0, 1) := by decide +kernel
theorem dX8_takeCosts_3 : decode cX8_takeCosts 3 = .ok (.invokevirtual 100, 3) := by decide +kernel
theorem dX8_takeCosts_6 : decode cX8_takeCosts 6 = .ok (.putfield 61, 3) := by decide +kernel
theorem dX8_takeCosts_9 : decode cX8_takeCosts 9 = .ok (.aload_n 0, 1) := by decide +kernel
theorem dX8_takeCosts_10 : decode cX8_takeCosts 10 = .ok (.aload_n 1, 1) := by decide +kernel
theorem dX8_takeCosts_11 : decode cX8_takeCosts 11 = .ok (.iconst 1, 1) := by decide +kernel
theorem dX8_takeCosts_12 : decode cX8_takeCosts 12 = .ok (.invokevirtual 100, 3) := by decide +kernel
theorem dX8_takeCosts_15 : decode cX8_takeCosts 15 = .ok (.putfield 64, 3) := by decide +kernel
theorem dX8_takeCosts_18 : decode cX8_takeCosts 18 = .ok (.iconst 1, 1) := by decide +kernel
theorem dX8_takeCosts_19 : decode cX8_takeCosts 19 = .ok (.ireturn, 1) := by decide +kernel
def F_X8_takeCosts (v_boatDayCost : Int32) (v_turnCost : Int32) (a_p1_numbers : Nat → Int32) : Option (Int32 × Int32 × Int32) := (F_X3_numberAt 0 a_p1_numbers).bind (fun q3 => (F_X3_numberAt 1 a_p1_numbers).bind (fun q12 => some (1, q12, q3)))
theorem hdV_X8_takeCosts : yX8_takeCosts.cls = RX8 ∧ yX8_takeCosts.cls ≠ "java/lang/invoke/MethodHandle" ∧ yX8_takeCosts.cls ≠ "java/lang/invoke/VarHandle" ∧ (parseMethodDescriptor yX8_takeCosts.desc).map (fun d => d.parameters.length) = some 1 := by decide +kernel
set_option maxHeartbeats 4000000 in
set_option maxRecDepth 100000 in
theorem c_X8_takeCosts (l : Launch) (G : GG) (h_this : Nat) (h_p1 : Nat) (ad_this : Nat → Nat) (ad_p1 : Nat → Nat) (v_signCount : Int32) (v_houseCount : Int32) (v_boatCount : Int32) (v_workCount : Int32) (v_turnCost : Int32) (v_boatDayCost : Int32) (v_p1_numberCount : Int32) (v_p1_letter : Int32) (v_p1_end : Int32) (a_p1_numbers : Nat → Int32) (out : Int32 × Int32 × Int32) (hF : F_X8_takeCosts v_boatDayCost v_turnCost a_p1_numbers = some out) : CtrZ l yX8_takeCosts (WS yX8_takeCosts cX8_takeCosts 2 (some .boolean)) { frames := 2, cells := 0, slots := 0, locals := 42 } G [.ref h_this, .ref h_p1] [(h_this, oX8 ad_this v_signCount v_houseCount v_boatCount v_workCount v_turnCost v_boatDayCost), (h_p1, oX3 ad_p1 v_p1_numberCount v_p1_letter v_p1_end), ((ad_p1 0), cI G 4 a_p1_numbers)] [(h_this, oX8 ad_this v_signCount v_houseCount v_boatCount v_workCount out.2.2 out.2.1), (h_p1, oX3 ad_p1 v_p1_numberCount v_p1_letter v_p1_end), ((ad_p1 0), cI G 4 a_p1_numbers)] out.1 := by
  refine startZ (cc := cX8_takeCosts) (maxL := 2) (by decide) rfl (Nat.le_of_ble_eq_true rfl) ?_
  intro p e s m args below meth c A Q hx hb hml hts hown hc hA hret ls H locs hl hW
  have hown : s.vm.findClass RX8 = some m.cls := hown
  have hg : ∀ w ∈ GOODS, w.before _ s = true := fun w h => hts w (List.mem_cons_of_mem _ h)
  have hl : lv_has ls 2 [(0, .ref h_this), (1, .ref h_p1)] := hl
  rw [F_X8_takeCosts] at hF
  refine lv_aload_n hx hb dX8_takeCosts_0 rfl (lv_at hl 0 rfl) ?_
  refine lv_aload_n hx hb dX8_takeCosts_1 rfl (lv_at hl 1 rfl) ?_
  refine lv_iconst (v := 0) hx hb dX8_takeCosts_2 (by decide) ?_
  obtain ⟨q3, c_3, hF⟩ := bd_el hF
  refine wcI (ws' := [(h_this, oX8 ad_this v_signCount v_houseCount v_boatCount v_workCount v_turnCost v_boatDayCost), (h_p1, oX3 ad_p1 v_p1_numberCount v_p1_letter v_p1_end), ((ad_p1 0), cI G 4 a_p1_numbers)]) (wc := [(h_p1, oX3 ad_p1 v_p1_numberCount v_p1_letter v_p1_end), ((ad_p1 0), cI G 4 a_p1_numbers)]) (wr := [(h_this, oX8 ad_this v_signCount v_houseCount v_boatCount v_workCount v_turnCost v_boatDayCost)]) (w1 := [(h_p1, oX3 ad_p1 v_p1_numberCount v_p1_letter v_p1_end), ((ad_p1 0), cI G 4 a_p1_numbers)]) (va_runV (As := [.int 0]) (rest := [.ref h_this]) ⟨hx, hb, hml, hown, hg⟩ (c_X3_numberAt l G 0 h_p1 ad_p1 v_p1_numberCount v_p1_letter v_p1_end a_p1_numbers q3 c_3 H.size) (cwV 1 hg (gV wd_2_67 wd_2_68 wd_2_69 wd_1_3 wd_2_70) rfl rfl rfl hdV_X3_numberAt ⟨(Nat.le_of_ble_eq_true rfl), (Nat.le_of_ble_eq_true rfl)⟩) (preV hc hW [1, 2] rfl (by decide) rfl rfl) rfl rfl hl.1 rfl (lv_room (Nat.le_of_ble_eq_true rfl)) dX8_takeCosts_3 ⟨Nat.zero_le _, Nat.zero_le _⟩) hA hW [1, 2] [0] [0, 1, 2] rfl rfl (by decide) (by decide) rfl (by decide) (fun H locs hW => ?_)
  refine va_put (D := G.1) (ci := 7) (v := .int q3) (ty := .int) (C := RX8) (T := TX8) (N := 13) hx hb hg hu_X8 tyX8 tyX8_ok nmX8 hown hc.1 hW.1 hW.2.1 hW.2.2 0 rfl rfl 11 (by decide) (hg _ wd_1_86) (fun _ h9 => h9) rfl (by decide +kernel) rfl rfl (Nat.le_of_ble_eq_true rfl) dX8_takeCosts_6 (fun H locs hP hD hS => ?_)
  have hW : Wd G A s.heap [(h_this, oX8 ad_this v_signCount v_houseCount v_boatCount v_workCount q3 v_boatDayCost), (h_p1, oX3 ad_p1 v_p1_numberCount v_p1_letter v_p1_end), ((ad_p1 0), cI G 4 a_p1_numbers)] H locs := ⟨hP, hD, hS⟩
  refine lv_aload_n hx hb dX8_takeCosts_9 rfl (lv_at hl 0 rfl) ?_
  refine lv_aload_n hx hb dX8_takeCosts_10 rfl (lv_at hl 1 rfl) ?_
  refine lv_iconst (v := 1) hx hb dX8_takeCosts_11 (by decide) ?_
  obtain ⟨q12, c_12, hF⟩ := bd_el hF
  refine wcI (ws' := [(h_this, oX8 ad_this v_signCount v_houseCount v_boatCount v_workCount q3 v_boatDayCost), (h_p1, oX3 ad_p1 v_p1_numberCount v_p1_letter v_p1_end), ((ad_p1 0), cI G 4 a_p1_numbers)]) (wc := [(h_p1, oX3 ad_p1 v_p1_numberCount v_p1_letter v_p1_end), ((ad_p1 0), cI G 4 a_p1_numbers)]) (wr := [(h_this, oX8 ad_this v_signCount v_houseCount v_boatCount v_workCount q3 v_boatDayCost)]) (w1 := [(h_p1, oX3 ad_p1 v_p1_numberCount v_p1_letter v_p1_end), ((ad_p1 0), cI G 4 a_p1_numbers)]) (va_runV (As := [.int 1]) (rest := [.ref h_this]) ⟨hx, hb, hml, hown, hg⟩ (c_X3_numberAt l G 1 h_p1 ad_p1 v_p1_numberCount v_p1_letter v_p1_end a_p1_numbers q12 c_12 H.size) (cwV 1 hg (gV wd_2_67 wd_2_68 wd_2_69 wd_1_3 wd_2_70) rfl rfl rfl hdV_X3_numberAt ⟨(Nat.le_of_ble_eq_true rfl), (Nat.le_of_ble_eq_true rfl)⟩) (preV hc hW [1, 2] rfl (by decide) rfl rfl) rfl rfl hl.1 rfl (lv_room (Nat.le_of_ble_eq_true rfl)) dX8_takeCosts_12 ⟨Nat.zero_le _, Nat.zero_le _⟩) hA hW [1, 2] [0] [0, 1, 2] rfl rfl (by decide) (by decide) rfl (by decide) (fun H locs hW => ?_)
  refine va_put (D := G.1) (ci := 7) (v := .int q12) (ty := .int) (C := RX8) (T := TX8) (N := 13) hx hb hg hu_X8 tyX8 tyX8_ok nmX8 hown hc.1 hW.1 hW.2.1 hW.2.2 0 rfl rfl 12 (by decide) (hg _ wd_1_88) (fun _ h9 => h9) rfl (by decide +kernel) rfl rfl (Nat.le_of_ble_eq_true rfl) dX8_takeCosts_15 (fun H locs hP hD hS => ?_)
  have hW : Wd G A s.heap [(h_this, oX8 ad_this v_signCount v_houseCount v_boatCount v_workCount q3 q12), (h_p1, oX3 ad_p1 v_p1_numberCount v_p1_letter v_p1_end), ((ad_p1 0), cI G 4 a_p1_numbers)] H locs := ⟨hP, hD, hS⟩
  refine lv_iconst (v := 1) hx hb dX8_takeCosts_18 (by decide) ?_
  obtain rfl := Option.some.inj hF
  exact hret _ _ _ _ hW (Or.inr rfl) dX8_takeCosts_19
theorem dX8_take_0 : decode cX8_take 0 = .ok (.aload_n 1, 1) := by decide +kernel
theorem dX8_take_1 : decode cX8_take 1 = .ok (.getfield 79, 3) := by decide +kernel
theorem dX8_take_4 : decode cX8_take 4 = .ok (.lookupswitch 82 #[(97, 52), (98, 70), (104, 64), (115, 58), (119, 76)], 52) := by decide +kernel
theorem dX8_take_56 : decode cX8_take 56 = .ok (.aload_n 0, 1) := by decide +kernel
theorem dX8_take_57 : decode cX8_take 57 = .ok (.aload_n 1, 1) := by decide +kernel
theorem dX8_take_58 : decode cX8_take 58 = .ok (.invokevirtual 82, 3) := by decide +kernel
theorem dX8_take_61 : decode cX8_take 61 = .ok (.ireturn, 1) := by decide +kernel
theorem dX8_take_62 : decode cX8_take 62 = .ok (.aload_n 0, 1) := by decide +kernel
theorem dX8_take_63 : decode cX8_take 63 = .ok (.aload_n 1, 1) := by decide +kernel
theorem dX8_take_64 : decode cX8_take 64 = .ok (.invokevirtual 85, 3) := by decide +kernel
theorem dX8_take_67 : decode cX8_take 67 = .ok (.ireturn, 1) := by decide +kernel
theorem dX8_take_68 : decode cX8_take 68 = .ok (.aload_n 0, 1) := by decide +kernel
theorem dX8_take_69 : decode cX8_take 69 = .ok (.aload_n 1, 1) := by decide +kernel
theorem dX8_take_70 : decode cX8_take 70 = .ok (.invokevirtual 88, 3) := by decide +kernel
theorem dX8_take_73 : decode cX8_take 73 = .ok (.ireturn, 1) := by decide +kernel
theorem dX8_take_74 : decode cX8_take 74 = .ok (.aload_n 0, 1) := by decide +kernel
theorem dX8_take_75 : decode cX8_take 75 = .ok (.aload_n 1, 1) := by decide +kernel
theorem dX8_take_76 : decode cX8_take 76 = .ok (.invokevirtual 91, 3) := by decide +kernel
theorem dX8_take_79 : decode cX8_take 79 = .ok (.ireturn, 1) := by decide +kernel
theorem dX8_take_80 : decode cX8_take 80 = .ok (.aload_n 0, 1) := by decide +kernel
theorem dX8_take_81 : decode cX8_take 81 = .ok (.aload_n 1, 1) := by decide +kernel
theorem dX8_take_82 : decode cX8_take 82 = .ok (.invokevirtual 94, 3) := by decide +kernel
theorem dX8_take_85 : decode cX8_take 85 = .ok (.ireturn, 1) := by decide +kernel
theorem dX8_take_86 : decode cX8_take 86 = .ok (.aload_n 0, 1) := by decide +kernel
theorem dX8_take_87 : decode cX8_take 87 = .ok (.aload_n 1, 1) := by decide +kernel
theorem dX8_take_88 : decode cX8_take 88 = .ok (.invokevirtual 97, 3) := by decide +kernel
theorem dX8_take_91 : decode cX8_take 91 = .ok (.ireturn, 1) := by decide +kernel
def F_X8_take (v_boatCount : Int32) (v_boatDayCost : Int32) (v_houseCount : Int32) (v_signCount : Int32) (v_turnCost : Int32) (v_workCount : Int32) (v_p1_letter : Int32) (a_p1_numbers : Nat → Int32) (a_boatRoom : Nat → Int32) (a_houseMinutes : Nat → Int32) (a_housePeople : Nat → Int32) (a_lighter : Nat → Int32) (a_signNumbers : Nat → Int32) (a_workGain : Nat → Int32) (a_workNoise : Nat → Int32) : Option (Int32 × Int32 × Int32 × Int32 × Int32 × Int32 × Int32 × (Nat → Int32) × (Nat → Int32) × (Nat → Int32) × (Nat → Int32) × (Nat → Int32) × (Nat → Int32) × (Nat → Int32)) := (if v_p1_letter = 97 then (F_X8_takeSleeps a_p1_numbers a_lighter).bind (fun q58 => some (q58.1, v_boatCount, v_boatDayCost, v_houseCount, v_signCount, v_turnCost, v_workCount, a_boatRoom, a_houseMinutes, a_housePeople, q58.2, a_signNumbers, a_workGain, a_workNoise)) else (if v_p1_letter = 98 then (F_X8_takeBoat v_boatCount a_p1_numbers a_boatRoom).bind (fun q76 => some (q76.1, q76.2.1, v_boatDayCost, v_houseCount, v_signCount, v_turnCost, v_workCount, q76.2.2, a_houseMinutes, a_housePeople, a_lighter, a_signNumbers, a_workGain, a_workNoise)) else (if v_p1_letter = 104 then (F_X8_takeHouse v_houseCount a_p1_numbers a_houseMinutes a_housePeople).bind (fun q70 => some (q70.1, v_boatCount, v_boatDayCost, q70.2.1, v_signCount, v_turnCost, v_workCount, a_boatRoom, q70.2.2.1, q70.2.2.2, a_lighter, a_signNumbers, a_workGain, a_workNoise)) else (if v_p1_letter = 115 then (F_X8_takeSign v_signCount a_p1_numbers a_signNumbers).bind (fun q64 => some (q64.1, v_boatCount, v_boatDayCost, v_houseCount, q64.2.1, v_turnCost, v_workCount, a_boatRoom, a_houseMinutes, a_housePeople, a_lighter, q64.2.2, a_workGain, a_workNoise)) else (if v_p1_letter = 119 then (F_X8_takeWorks v_workCount a_p1_numbers a_workGain a_workNoise).bind (fun q82 => some (q82.1, v_boatCount, v_boatDayCost, v_houseCount, v_signCount, v_turnCost, q82.2.1, a_boatRoom, a_houseMinutes, a_housePeople, a_lighter, a_signNumbers, q82.2.2.1, q82.2.2.2)) else (F_X8_takeCosts v_boatDayCost v_turnCost a_p1_numbers).bind (fun q88 => some (q88.1, v_boatCount, q88.2.1, v_houseCount, v_signCount, q88.2.2, v_workCount, a_boatRoom, a_houseMinutes, a_housePeople, a_lighter, a_signNumbers, a_workGain, a_workNoise)))))))
theorem hdV_X8_take : yX8_take.cls = RX8 ∧ yX8_take.cls ≠ "java/lang/invoke/MethodHandle" ∧ yX8_take.cls ≠ "java/lang/invoke/VarHandle" ∧ (parseMethodDescriptor yX8_take.desc).map (fun d => d.parameters.length) = some 1 := by decide +kernel
set_option maxHeartbeats 4000000 in
set_option maxRecDepth 100000 in
theorem c_X8_take (l : Launch) (G : GG) (h_this : Nat) (h_p1 : Nat) (ad_this : Nat → Nat) (ad_p1 : Nat → Nat) (v_signCount : Int32) (v_houseCount : Int32) (v_boatCount : Int32) (v_workCount : Int32) (v_turnCost : Int32) (v_boatDayCost : Int32) (v_p1_numberCount : Int32) (v_p1_letter : Int32) (v_p1_end : Int32) (a_p1_numbers : Nat → Int32) (a_boatRoom : Nat → Int32) (a_houseMinutes : Nat → Int32) (a_housePeople : Nat → Int32) (a_lighter : Nat → Int32) (a_signNumbers : Nat → Int32) (a_workGain : Nat → Int32) (a_workNoise : Nat → Int32) (out : Int32 × Int32 × Int32 × Int32 × Int32 × Int32 × Int32 × (Nat → Int32) × (Nat → Int32) × (Nat → Int32) × (Nat → Int32) × (Nat → Int32) × (Nat → Int32) × (Nat → Int32)) (hF : F_X8_take v_boatCount v_boatDayCost v_houseCount v_signCount v_turnCost v_workCount v_p1_letter a_p1_numbers a_boatRoom a_houseMinutes a_housePeople a_lighter a_signNumbers a_workGain a_workNoise = some out) : CtrZ l yX8_take (WS yX8_take cX8_take 2 (some .boolean)) { frames := 3, cells := 0, slots := 0, locals := 64 } G [.ref h_this, .ref h_p1] [(h_this, oX8 ad_this v_signCount v_houseCount v_boatCount v_workCount v_turnCost v_boatDayCost), (h_p1, oX3 ad_p1 v_p1_numberCount v_p1_letter v_p1_end), ((ad_p1 0), cI G 4 a_p1_numbers), ((ad_this 4), cI G 4 a_boatRoom), ((ad_this 3), cI G 6 a_houseMinutes), ((ad_this 2), cI G 6 a_housePeople), ((ad_this 0), cI G 3 a_lighter), ((ad_this 1), cI G 16 a_signNumbers), ((ad_this 6), cI G 5 a_workGain), ((ad_this 5), cI G 5 a_workNoise)] [(h_this, oX8 ad_this out.2.2.2.2.1 out.2.2.2.1 out.2.1 out.2.2.2.2.2.2.1 out.2.2.2.2.2.1 out.2.2.1), (h_p1, oX3 ad_p1 v_p1_numberCount v_p1_letter v_p1_end), ((ad_p1 0), cI G 4 a_p1_numbers), ((ad_this 4), cI G 4 out.2.2.2.2.2.2.2.1), ((ad_this 3), cI G 6 out.2.2.2.2.2.2.2.2.1), ((ad_this 2), cI G 6 out.2.2.2.2.2.2.2.2.2.1), ((ad_this 0), cI G 3 out.2.2.2.2.2.2.2.2.2.2.1), ((ad_this 1), cI G 16 out.2.2.2.2.2.2.2.2.2.2.2.1), ((ad_this 6), cI G 5 out.2.2.2.2.2.2.2.2.2.2.2.2.1), ((ad_this 5), cI G 5 out.2.2.2.2.2.2.2.2.2.2.2.2.2)] out.1 := by
  refine startZ (cc := cX8_take) (maxL := 2) (by decide) rfl (Nat.le_of_ble_eq_true rfl) ?_
  intro p e s m args below meth c A Q hx hb hml hts hown hc hA hret ls H locs hl hW
  have hown : s.vm.findClass RX8 = some m.cls := hown
  have hg : ∀ w ∈ GOODS, w.before _ s = true := fun w h => hts w (List.mem_cons_of_mem _ h)
  have hl : lv_has ls 2 [(0, .ref h_this), (1, .ref h_p1)] := hl
  rw [F_X8_take] at hF
  refine lv_aload_n hx hb dX8_take_0 rfl (lv_at hl 1 rfl) ?_
  refine va_get (D := G.1) (ci := 3) (v := .int v_p1_letter) (C := RX3) (T := TX3) (N := 4) hx hb hg hu_X3 hown hc.1 hW.1 1 rfl rfl 2 (by decide) (hg _ wd_1_51) (fun _ h9 => h9) rfl dX8_take_1 ?_
  by_cases w_4_97 : v_p1_letter = 97
  · have hF := ite_t hF w_4_97
    refine lv_lookup (off := 52) (tgt := 56) hx hb dX8_take_4 (by decide +kernel) (by rw [w_4_97]; decide +kernel) (by decide) ?_
    refine lv_aload_n hx hb dX8_take_56 rfl (lv_at hl 0 rfl) ?_
    refine lv_aload_n hx hb dX8_take_57 rfl (lv_at hl 1 rfl) ?_
    obtain ⟨q58, c_58, hF⟩ := bd_el hF
    refine wcZ (ws' := [(h_this, oX8 ad_this v_signCount v_houseCount v_boatCount v_workCount v_turnCost v_boatDayCost), (h_p1, oX3 ad_p1 v_p1_numberCount v_p1_letter v_p1_end), ((ad_p1 0), cI G 4 a_p1_numbers), ((ad_this 4), cI G 4 a_boatRoom), ((ad_this 3), cI G 6 a_houseMinutes), ((ad_this 2), cI G 6 a_housePeople), ((ad_this 0), cI G 3 q58.2), ((ad_this 1), cI G 16 a_signNumbers), ((ad_this 6), cI G 5 a_workGain), ((ad_this 5), cI G 5 a_workNoise)]) (wc := [(h_this, oX8 ad_this v_signCount v_houseCount v_boatCount v_workCount v_turnCost v_boatDayCost), (h_p1, oX3 ad_p1 v_p1_numberCount v_p1_letter v_p1_end), ((ad_p1 0), cI G 4 a_p1_numbers), ((ad_this 0), cI G 3 a_lighter)]) (wr := [((ad_this 4), cI G 4 a_boatRoom), ((ad_this 3), cI G 6 a_houseMinutes), ((ad_this 2), cI G 6 a_housePeople), ((ad_this 1), cI G 16 a_signNumbers), ((ad_this 6), cI G 5 a_workGain), ((ad_this 5), cI G 5 a_workNoise)]) (w1 := [(h_this, oX8 ad_this v_signCount v_houseCount v_boatCount v_workCount v_turnCost v_boatDayCost), (h_p1, oX3 ad_p1 v_p1_numberCount v_p1_letter v_p1_end), ((ad_p1 0), cI G 4 a_p1_numbers), ((ad_this 0), cI G 3 q58.2)]) (va_runV (As := [.ref h_p1]) (rest := []) ⟨hx, hb, hml, hown, hg⟩ (c_X8_takeSleeps l G h_this h_p1 ad_this ad_p1 v_signCount v_houseCount v_boatCount v_workCount v_turnCost v_boatDayCost v_p1_numberCount v_p1_letter v_p1_end a_p1_numbers a_lighter q58 c_58 H.size) (cwV 1 hg (gV wd_2_63 wd_2_65 wd_0_5 wd_1_4 wd_2_66) rfl rfl rfl hdV_X8_takeSleeps ⟨(Nat.le_of_ble_eq_true rfl), (Nat.le_of_ble_eq_true rfl)⟩) (preV hc hW [0, 1, 2, 6] rfl (by decide) rfl rfl) rfl rfl hl.1 rfl (lv_room (Nat.le_of_ble_eq_true rfl)) dX8_take_58 ⟨Nat.zero_le _, Nat.zero_le _⟩) hA hW [0, 1, 2, 6] [3, 4, 5, 7, 8, 9] [6, 7, 8, 0, 1, 2, 9, 3, 4, 5] rfl rfl (by decide) (by decide) rfl (by decide) (fun z_58 H locs hW => ?_)
    obtain rfl := Option.some.inj hF
    exact hret _ _ _ _ hW z_58 dX8_take_61
  have hF := ite_f hF w_4_97
  by_cases w_4_98 : v_p1_letter = 98
  · have hF := ite_t hF w_4_98
    refine lv_lookup (off := 70) (tgt := 74) hx hb dX8_take_4 (by decide +kernel) (by rw [w_4_98]; decide +kernel) (by decide) ?_
    refine lv_aload_n hx hb dX8_take_74 rfl (lv_at hl 0 rfl) ?_
    refine lv_aload_n hx hb dX8_take_75 rfl (lv_at hl 1 rfl) ?_
    obtain ⟨q76, c_76, hF⟩ := bd_el hF
    refine wcZ (ws' := [(h_this, oX8 ad_this v_signCount v_houseCount q76.2.1 v_workCount v_turnCost v_boatDayCost), (h_p1, oX3 ad_p1 v_p1_numberCount v_p1_letter v_p1_end), ((ad_p1 0), cI G 4 a_p1_numbers), ((ad_this 4), cI G 4 q76.2.2), ((ad_this 3), cI G 6 a_houseMinutes), ((ad_this 2), cI G 6 a_housePeople), ((ad_this 0), cI G 3 a_lighter), ((ad_this 1), cI G 16 a_signNumbers), ((ad_this 6), cI G 5 a_workGain), ((ad_this 5), cI G 5 a_workNoise)]) (wc := [(h_this, oX8 ad_this v_signCount v_houseCount v_boatCount v_workCount v_turnCost v_boatDayCost), (h_p1, oX3 ad_p1 v_p1_numberCount v_p1_letter v_p1_end), ((ad_p1 0), cI G 4 a_p1_numbers), ((ad_this 4), cI G 4 a_boatRoom)]) (wr := [((ad_this 3), cI G 6 a_houseMinutes), ((ad_this 2), cI G 6 a_housePeople), ((ad_this 0), cI G 3 a_lighter), ((ad_this 1), cI G 16 a_signNumbers), ((ad_this 6), cI G 5 a_workGain), ((ad_this 5), cI G 5 a_workNoise)]) (w1 := [(h_this, oX8 ad_this v_signCount v_houseCount q76.2.1 v_workCount v_turnCost v_boatDayCost), (h_p1, oX3 ad_p1 v_p1_numberCount v_p1_letter v_p1_end), ((ad_p1 0), cI G 4 a_p1_numbers), ((ad_this 4), cI G 4 q76.2.2)]) (va_runV (As := [.ref h_p1]) (rest := []) ⟨hx, hb, hml, hown, hg⟩ (c_X8_takeBoat l G h_this h_p1 ad_this ad_p1 v_signCount v_houseCount v_boatCount v_workCount v_turnCost v_boatDayCost v_p1_numberCount v_p1_letter v_p1_end a_p1_numbers a_boatRoom q76 c_76 H.size) (cwV 1 hg (gV wd_2_79 wd_2_81 wd_0_8 wd_1_4 wd_2_82) rfl rfl rfl hdV_X8_takeBoat ⟨(Nat.le_of_ble_eq_true rfl), (Nat.le_of_ble_eq_true rfl)⟩) (preV hc hW [0, 1, 2, 3] rfl (by decide) rfl rfl) rfl rfl hl.1 rfl (lv_room (Nat.le_of_ble_eq_true rfl)) dX8_take_76 ⟨Nat.zero_le _, Nat.zero_le _⟩) hA hW [0, 1, 2, 3] [4, 5, 6, 7, 8, 9] [6, 7, 8, 9, 0, 1, 2, 3, 4, 5] rfl rfl (by decide) (by decide) rfl (by decide) (fun z_76 H locs hW => ?_)
    obtain rfl := Option.some.inj hF
    exact hret _ _ _ _ hW z_76 dX8_take_79
  have hF := ite_f hF w_4_98
  by_cases w_4_104 : v_p1_letter = 104
  · have hF := ite_t hF w_4_104
    refine lv_lookup (off := 64) (tgt := 68) hx hb dX8_take_4 (by decide +kernel) (by rw [w_4_104]; decide +kernel) (by decide) ?_
    refine lv_aload_n hx hb dX8_take_68 rfl (lv_at hl 0 rfl) ?_
    refine lv_aload_n hx hb dX8_take_69 rfl (lv_at hl 1 rfl) ?_
    obtain ⟨q70, c_70, hF⟩ := bd_el hF
    refine wcZ (ws' := [(h_this, oX8 ad_this v_signCount q70.2.1 v_boatCount v_workCount v_turnCost v_boatDayCost), (h_p1, oX3 ad_p1 v_p1_numberCount v_p1_letter v_p1_end), ((ad_p1 0), cI G 4 a_p1_numbers), ((ad_this 4), cI G 4 a_boatRoom), ((ad_this 3), cI G 6 q70.2.2.1), ((ad_this 2), cI G 6 q70.2.2.2), ((ad_this 0), cI G 3 a_lighter), ((ad_this 1), cI G 16 a_signNumbers), ((ad_this 6), cI G 5 a_workGain), ((ad_this 5), cI G 5 a_workNoise)]) (wc := [(h_this, oX8 ad_this v_signCount v_houseCount v_boatCount v_workCount v_turnCost v_boatDayCost), (h_p1, oX3 ad_p1 v_p1_numberCount v_p1_letter v_p1_end), ((ad_p1 0), cI G 4 a_p1_numbers), ((ad_this 3), cI G 6 a_houseMinutes), ((ad_this 2), cI G 6 a_housePeople)]) (wr := [((ad_this 4), cI G 4 a_boatRoom), ((ad_this 0), cI G 3 a_lighter), ((ad_this 1), cI G 16 a_signNumbers), ((ad_this 6), cI G 5 a_workGain), ((ad_this 5), cI G 5 a_workNoise)]) (w1 := [(h_this, oX8 ad_this v_signCount q70.2.1 v_boatCount v_workCount v_turnCost v_boatDayCost), (h_p1, oX3 ad_p1 v_p1_numberCount v_p1_letter v_p1_end), ((ad_p1 0), cI G 4 a_p1_numbers), ((ad_this 3), cI G 6 q70.2.2.1), ((ad_this 2), cI G 6 q70.2.2.2)]) (va_runV (As := [.ref h_p1]) (rest := []) ⟨hx, hb, hml, hown, hg⟩ (c_X8_takeHouse l G h_this h_p1 ad_this ad_p1 v_signCount v_houseCount v_boatCount v_workCount v_turnCost v_boatDayCost v_p1_numberCount v_p1_letter v_p1_end a_p1_numbers a_houseMinutes a_housePeople q70 c_70 H.size) (cwV 1 hg (gV wd_2_75 wd_2_77 wd_0_7 wd_1_4 wd_2_78) rfl rfl rfl hdV_X8_takeHouse ⟨(Nat.le_of_ble_eq_true rfl), (Nat.le_of_ble_eq_true rfl)⟩) (preV hc hW [0, 1, 2, 4, 5] rfl (by decide) rfl rfl) rfl rfl hl.1 rfl (lv_room (Nat.le_of_ble_eq_true rfl)) dX8_take_70 ⟨Nat.zero_le _, Nat.zero_le _⟩) hA hW [0, 1, 2, 4, 5] [3, 6, 7, 8, 9] [5, 6, 7, 0, 8, 9, 1, 2, 3, 4] rfl rfl (by decide) (by decide) rfl (by decide) (fun z_70 H locs hW => ?_)
    obtain rfl := Option.some.inj hF
    exact hret _ _ _ _ hW z_70 dX8_take_73
  have hF := ite_f hF w_4_104
  by_cases w_4_115 : v_p1_letter = 115
  · have hF := ite_t hF w_4_115
    refine lv_lookup (off := 58) (tgt := 62) hx hb dX8_take_4 (by decide +kernel) (by rw [w_4_115]; decide +kernel) (by decide) ?_
    refine lv_aload_n hx hb dX8_take_62 rfl (lv_at hl 0 rfl) ?_
    refine lv_aload_n hx hb dX8_take_63 rfl (lv_at hl 1 rfl) ?_
    obtain ⟨q64, c_64, hF⟩ := bd_el hF
    refine wcZ (ws' := [(h_this, oX8 ad_this q64.2.1 v_houseCount v_boatCount v_workCount v_turnCost v_boatDayCost), (h_p1, oX3 ad_p1 v_p1_numberCount v_p1_letter v_p1_end), ((ad_p1 0), cI G 4 a_p1_numbers), ((ad_this 4), cI G 4 a_boatRoom), ((ad_this 3), cI G 6 a_houseMinutes), ((ad_this 2), cI G 6 a_housePeople), ((ad_this 0), cI G 3 a_lighter), ((ad_this 1), cI G 16 q64.2.2), ((ad_this 6), cI G 5 a_workGain), ((ad_this 5), cI G 5 a_workNoise)]) (wc := [(h_this, oX8 ad_this v_signCount v_houseCount v_boatCount v_workCount v_turnCost v_boatDayCost), (h_p1, oX3 ad_p1 v_p1_numberCount v_p1_letter v_p1_end), ((ad_p1 0), cI G 4 a_p1_numbers), ((ad_this 1), cI G 16 a_signNumbers)]) (wr := [((ad_this 4), cI G 4 a_boatRoom), ((ad_this 3), cI G 6 a_houseMinutes), ((ad_this 2), cI G 6 a_housePeople), ((ad_this 0), cI G 3 a_lighter), ((ad_this 6), cI G 5 a_workGain), ((ad_this 5), cI G 5 a_workNoise)]) (w1 := [(h_this, oX8 ad_this q64.2.1 v_houseCount v_boatCount v_workCount v_turnCost v_boatDayCost), (h_p1, oX3 ad_p1 v_p1_numberCount v_p1_letter v_p1_end), ((ad_p1 0), cI G 4 a_p1_numbers), ((ad_this 1), cI G 16 q64.2.2)]) (va_runV (As := [.ref h_p1]) (rest := []) ⟨hx, hb, hml, hown, hg⟩ (c_X8_takeSign l G h_this h_p1 ad_this ad_p1 v_signCount v_houseCount v_boatCount v_workCount v_turnCost v_boatDayCost v_p1_numberCount v_p1_letter v_p1_end a_p1_numbers a_signNumbers q64 c_64 H.size) (cwV 1 hg (gV wd_2_71 wd_2_73 wd_0_6 wd_1_4 wd_2_74) rfl rfl rfl hdV_X8_takeSign ⟨(Nat.le_of_ble_eq_true rfl), (Nat.le_of_ble_eq_true rfl)⟩) (preV hc hW [0, 1, 2, 7] rfl (by decide) rfl rfl) rfl rfl hl.1 rfl (lv_room (Nat.le_of_ble_eq_true rfl)) dX8_take_64 ⟨Nat.zero_le _, Nat.zero_le _⟩) hA hW [0, 1, 2, 7] [3, 4, 5, 6, 8, 9] [6, 7, 8, 0, 1, 2, 3, 9, 4, 5] rfl rfl (by decide) (by decide) rfl (by decide) (fun z_64 H locs hW => ?_)
    obtain rfl := Option.some.inj hF
    exact hret _ _ _ _ hW z_64 dX8_take_67
  have hF := ite_f hF w_4_115
  by_cases w_4_119 : v_p1_letter = 119
  · have hF := ite_t hF w_4_119
    refine lv_lookup (off := 76) (tgt := 80) hx hb dX8_take_4 (by decide +kernel) (by rw [w_4_119]; decide +kernel) (by decide) ?_
    refine lv_aload_n hx hb dX8_take_80 rfl (lv_at hl 0 rfl) ?_
    refine lv_aload_n hx hb dX8_take_81 rfl (lv_at hl 1 rfl) ?_
    obtain ⟨q82, c_82, hF⟩ := bd_el hF
    refine wcZ (ws' := [(h_this, oX8 ad_this v_signCount v_houseCount v_boatCount q82.2.1 v_turnCost v_boatDayCost), (h_p1, oX3 ad_p1 v_p1_numberCount v_p1_letter v_p1_end), ((ad_p1 0), cI G 4 a_p1_numbers), ((ad_this 4), cI G 4 a_boatRoom), ((ad_this 3), cI G 6 a_houseMinutes), ((ad_this 2), cI G 6 a_housePeople), ((ad_this 0), cI G 3 a_lighter), ((ad_this 1), cI G 16 a_signNumbers), ((ad_this 6), cI G 5 q82.2.2.1), ((ad_this 5), cI G 5 q82.2.2.2)]) (wc := [(h_this, oX8 ad_this v_signCount v_houseCount v_boatCount v_workCount v_turnCost v_boatDayCost), (h_p1, oX3 ad_p1 v_p1_numberCount v_p1_letter v_p1_end), ((ad_p1 0), cI G 4 a_p1_numbers), ((ad_this 6), cI G 5 a_workGain), ((ad_this 5), cI G 5 a_workNoise)]) (wr := [((ad_this 4), cI G 4 a_boatRoom), ((ad_this 3), cI G 6 a_houseMinutes), ((ad_this 2), cI G 6 a_housePeople), ((ad_this 0), cI G 3 a_lighter), ((ad_this 1), cI G 16 a_signNumbers)]) (w1 := [(h_this, oX8 ad_this v_signCount v_houseCount v_boatCount q82.2.1 v_turnCost v_boatDayCost), (h_p1, oX3 ad_p1 v_p1_numberCount v_p1_letter v_p1_end), ((ad_p1 0), cI G 4 a_p1_numbers), ((ad_this 6), cI G 5 q82.2.2.1), ((ad_this 5), cI G 5 q82.2.2.2)]) (va_runV (As := [.ref h_p1]) (rest := []) ⟨hx, hb, hml, hown, hg⟩ (c_X8_takeWorks l G h_this h_p1 ad_this ad_p1 v_signCount v_houseCount v_boatCount v_workCount v_turnCost v_boatDayCost v_p1_numberCount v_p1_letter v_p1_end a_p1_numbers a_workGain a_workNoise q82 c_82 H.size) (cwV 1 hg (gV wd_2_83 wd_2_85 wd_0_9 wd_1_4 wd_2_86) rfl rfl rfl hdV_X8_takeWorks ⟨(Nat.le_of_ble_eq_true rfl), (Nat.le_of_ble_eq_true rfl)⟩) (preV hc hW [0, 1, 2, 8, 9] rfl (by decide) rfl rfl) rfl rfl hl.1 rfl (lv_room (Nat.le_of_ble_eq_true rfl)) dX8_take_82 ⟨Nat.zero_le _, Nat.zero_le _⟩) hA hW [0, 1, 2, 8, 9] [3, 4, 5, 6, 7] [5, 6, 7, 0, 1, 2, 3, 4, 8, 9] rfl rfl (by decide) (by decide) rfl (by decide) (fun z_82 H locs hW => ?_)
    obtain rfl := Option.some.inj hF
    exact hret _ _ _ _ hW z_82 dX8_take_85
  have hF := ite_f hF w_4_119
  refine lv_lookup (off := 82) (tgt := 86) hx hb dX8_take_4 (by decide +kernel) (by simp only [Op.lookupswitch.offset, if_neg (i32_ne (k := 97) rfl w_4_97), if_neg (i32_ne (k := 98) rfl w_4_98), if_neg (i32_ne (k := 104) rfl w_4_104), if_neg (i32_ne (k := 115) rfl w_4_115), if_neg (i32_ne (k := 119) rfl w_4_119)]) (by decide) ?_
  refine lv_aload_n hx hb dX8_take_86 rfl (lv_at hl 0 rfl) ?_
  refine lv_aload_n hx hb dX8_take_87 rfl (lv_at hl 1 rfl) ?_
  obtain ⟨q88, c_88, hF⟩ := bd_el hF
  refine wcZ (ws' := [(h_this, oX8 ad_this v_signCount v_houseCount v_boatCount v_workCount q88.2.2 q88.2.1), (h_p1, oX3 ad_p1 v_p1_numberCount v_p1_letter v_p1_end), ((ad_p1 0), cI G 4 a_p1_numbers), ((ad_this 4), cI G 4 a_boatRoom), ((ad_this 3), cI G 6 a_houseMinutes), ((ad_this 2), cI G 6 a_housePeople), ((ad_this 0), cI G 3 a_lighter), ((ad_this 1), cI G 16 a_signNumbers), ((ad_this 6), cI G 5 a_workGain), ((ad_this 5), cI G 5 a_workNoise)]) (wc := [(h_this, oX8 ad_this v_signCount v_houseCount v_boatCount v_workCount v_turnCost v_boatDayCost), (h_p1, oX3 ad_p1 v_p1_numberCount v_p1_letter v_p1_end), ((ad_p1 0), cI G 4 a_p1_numbers)]) (wr := [((ad_this 4), cI G 4 a_boatRoom), ((ad_this 3), cI G 6 a_houseMinutes), ((ad_this 2), cI G 6 a_housePeople), ((ad_this 0), cI G 3 a_lighter), ((ad_this 1), cI G 16 a_signNumbers), ((ad_this 6), cI G 5 a_workGain), ((ad_this 5), cI G 5 a_workNoise)]) (w1 := [(h_this, oX8 ad_this v_signCount v_houseCount v_boatCount v_workCount q88.2.2 q88.2.1), (h_p1, oX3 ad_p1 v_p1_numberCount v_p1_letter v_p1_end), ((ad_p1 0), cI G 4 a_p1_numbers)]) (va_runV (As := [.ref h_p1]) (rest := []) ⟨hx, hb, hml, hown, hg⟩ (c_X8_takeCosts l G h_this h_p1 ad_this ad_p1 v_signCount v_houseCount v_boatCount v_workCount v_turnCost v_boatDayCost v_p1_numberCount v_p1_letter v_p1_end a_p1_numbers q88 c_88 H.size) (cwV 1 hg (gV wd_2_87 wd_2_89 wd_0_10 wd_1_4 wd_2_90) rfl rfl rfl hdV_X8_takeCosts ⟨(Nat.le_of_ble_eq_true rfl), (Nat.le_of_ble_eq_true rfl)⟩) (preV hc hW [0, 1, 2] rfl (by decide) rfl rfl) rfl rfl hl.1 rfl (lv_room (Nat.le_of_ble_eq_true rfl)) dX8_take_88 ⟨Nat.zero_le _, Nat.zero_le _⟩) hA hW [0, 1, 2] [3, 4, 5, 6, 7, 8, 9] [7, 8, 9, 0, 1, 2, 3, 4, 5, 6] rfl rfl (by decide) (by decide) rfl (by decide) (fun z_88 H locs hW => ?_)
  obtain rfl := Option.some.inj hF
  exact hret _ _ _ _ hW z_88 dX8_take_91
theorem dX8_readFrom_0 : decode cX8_readFrom 0 = .ok (.aload_n 0, 1) := by decide +kernel
theorem dX8_readFrom_1 : decode cX8_readFrom 1 = .ok (.invokevirtual 33, 3) := by decide +kernel
theorem dX8_readFrom_4 : decode cX8_readFrom 4 = .ok (.iconst 0, 1) := by decide +kernel
theorem dX8_readFrom_5 : decode cX8_readFrom 5 = .ok (.istore_n 3, 1) := by decide +kernel
theorem dX8_readFrom_6 : decode cX8_readFrom 6 = .ok (.iconst 0, 1) := by decide +kernel
theorem dX8_readFrom_7 : decode cX8_readFrom 7 = .ok (.istore 4, 2) := by decide +kernel
theorem dX8_readFrom_9 : decode cX8_readFrom 9 = .ok (.iload 4, 2) := by decide +kernel
theorem dX8_readFrom_11 : decode cX8_readFrom 11 = .ok (.sipush 200, 3) := by decide +kernel
theorem dX8_readFrom_14 : decode cX8_readFrom 14 = .ok (.if_icmp .ge 41, 3) := by decide +kernel
theorem dX8_readFrom_17 : decode cX8_readFrom 17 = .ok (.iload_n 3, 1) := by decide +kernel
theorem dX8_readFrom_18 : decode cX8_readFrom 18 = .ok (.aload_n 1, 1) := by decide +kernel
theorem dX8_readFrom_19 : decode cX8_readFrom 19 = .ok (.getfield 38, 3) := by decide +kernel
theorem dX8_readFrom_22 : decode cX8_readFrom 22 = .ok (.if_icmp .ge 33, 3) := by decide +kernel
theorem dX8_readFrom_25 : decode cX8_readFrom 25 = .ok (.aload_n 2, 1) := by decide +kernel
theorem dX8_readFrom_26 : decode cX8_readFrom 26 = .ok (.aload_n 1, 1) := by decide +kernel
theorem dX8_readFrom_27 : decode cX8_readFrom 27 = .ok (.iload_n 3, 1) := by decide +kernel
theorem dX8_readFrom_28 : decode cX8_readFrom 28 = .ok (.invokevirtual 42, 3) := by decide +kernel
theorem dX8_readFrom_31 : decode cX8_readFrom 31 = .ok (.ifCond .eq 11, 3) := by decide +kernel
theorem dX8_readFrom_34 : decode cX8_readFrom 34 = .ok (.aload_n 0, 1) := by decide +kernel
theorem dX8_readFrom_35 : decode cX8_readFrom 35 = .ok (.aload_n 2, 1) := by decide +kernel
theorem dX8_readFrom_36 : decode cX8_readFrom 36 = .ok (.invokevirtual 48, 3) := by decide +kernel
theorem dX8_readFrom_39 : decode cX8_readFrom 39 = .ok (.ifCond .ne 5, 3) := by decide +kernel
theorem dX8_readFrom_42 : decode cX8_readFrom 42 = .ok (.iload_n 3, 1) := by decide +kernel
theorem dX8_readFrom_43 : decode cX8_readFrom 43 = .ok (.ireturn, 1) := by decide +kernel
theorem dX8_readFrom_44 : decode cX8_readFrom 44 = .ok (.aload_n 2, 1) := by decide +kernel
theorem dX8_readFrom_45 : decode cX8_readFrom 45 = .ok (.getfield 52, 3) := by decide +kernel
theorem dX8_readFrom_48 : decode cX8_readFrom 48 = .ok (.istore_n 3, 1) := by decide +kernel
theorem dX8_readFrom_49 : decode cX8_readFrom 49 = .ok (.iinc 4 1, 3) := by decide +kernel
theorem dX8_readFrom_52 : decode cX8_readFrom 52 = .ok (.goto (-43), 3) := by decide +kernel
theorem dX8_readFrom_55 : decode cX8_readFrom 55 = .ok (.bipush (-4), 2) := by decide +kernel
theorem dX8_readFrom_57 : decode cX8_readFrom 57 = .ok (.ireturn, 1) := by decide +kernel
def L_X8_readFrom_9 (v_p1_length : Int32) (a_p1_letters : Nat → Int32)  : Nat → Int32 → Int32 → Int32 → Int32 → Int32 → Int32 → Int32 → Int32 → Int32 → Int32 → Int32 → (Nat → Int32) → (Nat → Int32) → (Nat → Int32) → (Nat → Int32) → (Nat → Int32) → (Nat → Int32) → (Nat → Int32) → (Nat → Int32) → Option (Int32 × Int32 × Int32 × Int32 × Int32 × Int32 × Int32 × Int32 × Int32 × Int32 × (Nat → Int32) × (Nat → Int32) × (Nat → Int32) × (Nat → Int32) × (Nat → Int32) × (Nat → Int32) × (Nat → Int32) × (Nat → Int32))
  | 0, _, _, _, _, _, _, _, _, _, _, _, _, _, _, _, _, _, _, _ => none
  | n + 1, x3_9, x4_9, v_boatCount_9, v_boatDayCost_9, v_houseCount_9, v_signCount_9, v_turnCost_9, v_workCount_9, v_p2_end_9, v_p2_letter_9, v_p2_numberCount_9, a_p2_numbers_9, a_boatRoom_9, a_houseMinutes_9, a_housePeople_9, a_lighter_9, a_signNumbers_9, a_workGain_9, a_workNoise_9 => (if 200 ≤ x4_9 then some ((-4), v_boatCount_9, v_boatDayCost_9, v_houseCount_9, v_signCount_9, v_turnCost_9, v_workCount_9, v_p2_end_9, v_p2_letter_9, v_p2_numberCount_9, a_p2_numbers_9, a_boatRoom_9, a_houseMinutes_9, a_housePeople_9, a_lighter_9, a_signNumbers_9, a_workGain_9, a_workNoise_9) else (if v_p1_length ≤ x3_9 then some ((-4), v_boatCount_9, v_boatDayCost_9, v_houseCount_9, v_signCount_9, v_turnCost_9, v_workCount_9, v_p2_end_9, v_p2_letter_9, v_p2_numberCount_9, a_p2_numbers_9, a_boatRoom_9, a_houseMinutes_9, a_housePeople_9, a_lighter_9, a_signNumbers_9, a_workGain_9, a_workNoise_9) else (F_X3_readAt x3_9 v_p2_end_9 v_p2_letter_9 v_p2_numberCount_9 v_p1_length a_p1_letters a_p2_numbers_9).bind (fun q28 => (if q28.1 = 0 then some (x3_9, v_boatCount_9, v_boatDayCost_9, v_houseCount_9, v_signCount_9, v_turnCost_9, v_workCount_9, q28.2.1, q28.2.2.1, q28.2.2.2.1, q28.2.2.2.2, a_boatRoom_9, a_houseMinutes_9, a_housePeople_9, a_lighter_9, a_signNumbers_9, a_workGain_9, a_workNoise_9) else (F_X8_take v_boatCount_9 v_boatDayCost_9 v_houseCount_9 v_signCount_9 v_turnCost_9 v_workCount_9 q28.2.2.1 q28.2.2.2.2 a_boatRoom_9 a_houseMinutes_9 a_housePeople_9 a_lighter_9 a_signNumbers_9 a_workGain_9 a_workNoise_9).bind (fun q36 => (if q36.1 = 0 then some (x3_9, q36.2.1, q36.2.2.1, q36.2.2.2.1, q36.2.2.2.2.1, q36.2.2.2.2.2.1, q36.2.2.2.2.2.2.1, q28.2.1, q28.2.2.1, q28.2.2.2.1, q28.2.2.2.2, q36.2.2.2.2.2.2.2.1, q36.2.2.2.2.2.2.2.2.1, q36.2.2.2.2.2.2.2.2.2.1, q36.2.2.2.2.2.2.2.2.2.2.1, q36.2.2.2.2.2.2.2.2.2.2.2.1, q36.2.2.2.2.2.2.2.2.2.2.2.2.1, q36.2.2.2.2.2.2.2.2.2.2.2.2.2) else L_X8_readFrom_9 v_p1_length a_p1_letters n q28.2.1 ((x4_9 + 1)) q36.2.1 q36.2.2.1 q36.2.2.2.1 q36.2.2.2.2.1 q36.2.2.2.2.2.1 q36.2.2.2.2.2.2.1 q28.2.1 q28.2.2.1 q28.2.2.2.1 q28.2.2.2.2 q36.2.2.2.2.2.2.2.1 q36.2.2.2.2.2.2.2.2.1 q36.2.2.2.2.2.2.2.2.2.1 q36.2.2.2.2.2.2.2.2.2.2.1 q36.2.2.2.2.2.2.2.2.2.2.2.1 q36.2.2.2.2.2.2.2.2.2.2.2.2.1 q36.2.2.2.2.2.2.2.2.2.2.2.2.2))))))
def F_X8_readFrom (v_boatCount : Int32) (v_boatDayCost : Int32) (v_houseCount : Int32) (v_signCount : Int32) (v_turnCost : Int32) (v_workCount : Int32) (v_p1_length : Int32) (a_p1_letters : Nat → Int32) (v_p2_end : Int32) (v_p2_letter : Int32) (v_p2_numberCount : Int32) (a_p2_numbers : Nat → Int32) (a_boatRoom : Nat → Int32) (a_houseMinutes : Nat → Int32) (a_housePeople : Nat → Int32) (a_lighter : Nat → Int32) (a_signNumbers : Nat → Int32) (a_workGain : Nat → Int32) (a_workNoise : Nat → Int32) : Option (Int32 × Int32 × Int32 × Int32 × Int32 × Int32 × Int32 × Int32 × Int32 × Int32 × (Nat → Int32) × (Nat → Int32) × (Nat → Int32) × (Nat → Int32) × (Nat → Int32) × (Nat → Int32) × (Nat → Int32) × (Nat → Int32)) := (F_X8_startOver v_boatCount v_boatDayCost v_houseCount v_signCount v_turnCost v_workCount a_lighter).bind (fun q1 => L_X8_readFrom_9 v_p1_length a_p1_letters 5000 0 0 q1.1 q1.2.1 q1.2.2.1 q1.2.2.2.1 q1.2.2.2.2.1 q1.2.2.2.2.2.1 v_p2_end v_p2_letter v_p2_numberCount a_p2_numbers a_boatRoom a_houseMinutes a_housePeople q1.2.2.2.2.2.2 a_signNumbers a_workGain a_workNoise)
theorem hdV_X8_readFrom : yX8_readFrom.cls = RX8 ∧ yX8_readFrom.cls ≠ "java/lang/invoke/MethodHandle" ∧ yX8_readFrom.cls ≠ "java/lang/invoke/VarHandle" ∧ (parseMethodDescriptor yX8_readFrom.desc).map (fun d => d.parameters.length) = some 2 := by decide +kernel
set_option maxHeartbeats 4000000 in
set_option maxRecDepth 100000 in
theorem c_X8_readFrom (l : Launch) (G : GG) (h_this : Nat) (h_p1 : Nat) (h_p2 : Nat) (ad_this : Nat → Nat) (ad_p1 : Nat → Nat) (ad_p2 : Nat → Nat) (v_signCount : Int32) (v_houseCount : Int32) (v_boatCount : Int32) (v_workCount : Int32) (v_turnCost : Int32) (v_boatDayCost : Int32) (v_p1_length : Int32) (a_p1_letters : Nat → Int32) (v_p2_numberCount : Int32) (v_p2_letter : Int32) (v_p2_end : Int32) (a_p2_numbers : Nat → Int32) (a_boatRoom : Nat → Int32) (a_houseMinutes : Nat → Int32) (a_housePeople : Nat → Int32) (a_lighter : Nat → Int32) (a_signNumbers : Nat → Int32) (a_workGain : Nat → Int32) (a_workNoise : Nat → Int32) (out : Int32 × Int32 × Int32 × Int32 × Int32 × Int32 × Int32 × Int32 × Int32 × Int32 × (Nat → Int32) × (Nat → Int32) × (Nat → Int32) × (Nat → Int32) × (Nat → Int32) × (Nat → Int32) × (Nat → Int32) × (Nat → Int32)) (hF : F_X8_readFrom v_boatCount v_boatDayCost v_houseCount v_signCount v_turnCost v_workCount v_p1_length a_p1_letters v_p2_end v_p2_letter v_p2_numberCount a_p2_numbers a_boatRoom a_houseMinutes a_housePeople a_lighter a_signNumbers a_workGain a_workNoise = some out) : CtrI l yX8_readFrom (WS yX8_readFrom cX8_readFrom 5 (some .int)) { frames := 4, cells := 0, slots := 0, locals := 91 } G [.ref h_this, .ref h_p1, .ref h_p2] [(h_this, oX8 ad_this v_signCount v_houseCount v_boatCount v_workCount v_turnCost v_boatDayCost), (h_p1, oX6 ad_p1 v_p1_length), ((ad_p1 0), cI G 200 a_p1_letters), (h_p2, oX3 ad_p2 v_p2_numberCount v_p2_letter v_p2_end), ((ad_p2 0), cI G 4 a_p2_numbers), ((ad_this 4), cI G 4 a_boatRoom), ((ad_this 3), cI G 6 a_houseMinutes), ((ad_this 2), cI G 6 a_housePeople), ((ad_this 0), cI G 3 a_lighter), ((ad_this 1), cI G 16 a_signNumbers), ((ad_this 6), cI G 5 a_workGain), ((ad_this 5), cI G 5 a_workNoise)] [(h_this, oX8 ad_this out.2.2.2.2.1 out.2.2.2.1 out.2.1 out.2.2.2.2.2.2.1 out.2.2.2.2.2.1 out.2.2.1), (h_p1, oX6 ad_p1 v_p1_length), ((ad_p1 0), cI G 200 a_p1_letters), (h_p2, oX3 ad_p2 out.2.2.2.2.2.2.2.2.2.1 out.2.2.2.2.2.2.2.2.1 out.2.2.2.2.2.2.2.1), ((ad_p2 0), cI G 4 out.2.2.2.2.2.2.2.2.2.2.1), ((ad_this 4), cI G 4 out.2.2.2.2.2.2.2.2.2.2.2.1), ((ad_this 3), cI G 6 out.2.2.2.2.2.2.2.2.2.2.2.2.1), ((ad_this 2), cI G 6 out.2.2.2.2.2.2.2.2.2.2.2.2.2.1), ((ad_this 0), cI G 3 out.2.2.2.2.2.2.2.2.2.2.2.2.2.2.1), ((ad_this 1), cI G 16 out.2.2.2.2.2.2.2.2.2.2.2.2.2.2.2.1), ((ad_this 6), cI G 5 out.2.2.2.2.2.2.2.2.2.2.2.2.2.2.2.2.1), ((ad_this 5), cI G 5 out.2.2.2.2.2.2.2.2.2.2.2.2.2.2.2.2.2)] out.1 := by
  refine startI (cc := cX8_readFrom) (maxL := 5) (by decide) rfl (Nat.le_of_ble_eq_true rfl) ?_
  intro p e s m args below meth c A Q hx hb hml hts hown hc hA hret ls H locs hl hW
  have hown : s.vm.findClass RX8 = some m.cls := hown
  have hg : ∀ w ∈ GOODS, w.before _ s = true := fun w h => hts w (List.mem_cons_of_mem _ h)
  have hl : lv_has ls 5 [(0, .ref h_this), (1, .ref h_p1), (2, .ref h_p2)] := hl
  rw [F_X8_readFrom] at hF
  refine lv_aload_n hx hb dX8_readFrom_0 rfl (lv_at hl 0 rfl) ?_
  obtain ⟨q1, c_1, hF⟩ := bd_el hF
  refine wcV (ws' := [(h_this, oX8 ad_this q1.2.2.2.1 q1.2.2.1 q1.1 q1.2.2.2.2.2.1 q1.2.2.2.2.1 q1.2.1), (h_p1, oX6 ad_p1 v_p1_length), ((ad_p1 0), cI G 200 a_p1_letters), (h_p2, oX3 ad_p2 v_p2_numberCount v_p2_letter v_p2_end), ((ad_p2 0), cI G 4 a_p2_numbers), ((ad_this 4), cI G 4 a_boatRoom), ((ad_this 3), cI G 6 a_houseMinutes), ((ad_this 2), cI G 6 a_housePeople), ((ad_this 0), cI G 3 q1.2.2.2.2.2.2), ((ad_this 1), cI G 16 a_signNumbers), ((ad_this 6), cI G 5 a_workGain), ((ad_this 5), cI G 5 a_workNoise)]) (wc := [(h_this, oX8 ad_this v_signCount v_houseCount v_boatCount v_workCount v_turnCost v_boatDayCost), ((ad_this 0), cI G 3 a_lighter)]) (wr := [(h_p1, oX6 ad_p1 v_p1_length), ((ad_p1 0), cI G 200 a_p1_letters), (h_p2, oX3 ad_p2 v_p2_numberCount v_p2_letter v_p2_end), ((ad_p2 0), cI G 4 a_p2_numbers), ((ad_this 4), cI G 4 a_boatRoom), ((ad_this 3), cI G 6 a_houseMinutes), ((ad_this 2), cI G 6 a_housePeople), ((ad_this 1), cI G 16 a_signNumbers), ((ad_this 6), cI G 5 a_workGain), ((ad_this 5), cI G 5 a_workNoise)]) (w1 := [(h_this, oX8 ad_this q1.2.2.2.1 q1.2.2.1 q1.1 q1.2.2.2.2.2.1 q1.2.2.2.2.1 q1.2.1), ((ad_this 0), cI G 3 q1.2.2.2.2.2.2)]) (va_runV (As := []) (rest := []) ⟨hx, hb, hml, hown, hg⟩ (c_X8_startOver l G h_this ad_this v_signCount v_houseCount v_boatCount v_workCount v_turnCost v_boatDayCost a_lighter q1 c_1 H.size) (cwV 0 hg (gV wd_2_23 wd_2_25 wd_0_0 wd_1_4 wd_2_26) rfl rfl rfl hdV_X8_startOver ⟨(Nat.le_of_ble_eq_true rfl), (Nat.le_of_ble_eq_true rfl)⟩) (preV hc hW [0, 8] rfl (by decide) rfl rfl) rfl rfl hl.1 rfl (lv_room (Nat.le_of_ble_eq_true rfl)) dX8_readFrom_1 ⟨Nat.zero_le _, Nat.zero_le _⟩) hA hW [0, 8] [1, 2, 3, 4, 5, 6, 7, 9, 10, 11] [10, 0, 1, 2, 3, 4, 5, 6, 11, 7, 8, 9] rfl rfl (by decide) (by decide) rfl (by decide) (fun H locs hW => ?_)
  refine lv_iconst (v := 0) hx hb dX8_readFrom_4 (by decide) ?_
  refine lv_istore_n (lv' := [(3, .int 0), (0, .ref h_this), (1, .ref h_p1), (2, .ref h_p2)]) hx hb dX8_readFrom_5 rfl hl (by decide) rfl (fun ls hl => ?_)
  refine lv_iconst (v := 0) hx hb dX8_readFrom_6 (by decide) ?_
  refine lv_istore (lv' := [(4, .int 0), (3, .int 0), (0, .ref h_this), (1, .ref h_p1), (2, .ref h_p2)]) hx hb dX8_readFrom_7 hl (by decide) rfl (fun ls hl => ?_)
  have L_9 : ∀ (n : Nat) (x3_9 : Int32) (x4_9 : Int32) (v_boatCount_9 : Int32) (v_boatDayCost_9 : Int32) (v_houseCount_9 : Int32) (v_signCount_9 : Int32) (v_turnCost_9 : Int32) (v_workCount_9 : Int32) (v_p2_end_9 : Int32) (v_p2_letter_9 : Int32) (v_p2_numberCount_9 : Int32) (a_p2_numbers_9 : Nat → Int32) (a_boatRoom_9 : Nat → Int32) (a_houseMinutes_9 : Nat → Int32) (a_housePeople_9 : Nat → Int32) (a_lighter_9 : Nat → Int32) (a_signNumbers_9 : Nat → Int32) (a_workGain_9 : Nat → Int32) (a_workNoise_9 : Nat → Int32) (ls : Array Slot) (H : Heap) (locs : List Loc), L_X8_readFrom_9 v_p1_length a_p1_letters n x3_9 x4_9 v_boatCount_9 v_boatDayCost_9 v_houseCount_9 v_signCount_9 v_turnCost_9 v_workCount_9 v_p2_end_9 v_p2_letter_9 v_p2_numberCount_9 a_p2_numbers_9 a_boatRoom_9 a_houseMinutes_9 a_housePeople_9 a_lighter_9 a_signNumbers_9 a_workGain_9 a_workNoise_9 = some out → lv_has ls 5 [(0, .ref h_this), (1, .ref h_p1), (2, .ref h_p2), (3, .int x3_9), (4, .int x4_9)] → Wd G A s.heap [(h_this, oX8 ad_this v_signCount_9 v_houseCount_9 v_boatCount_9 v_workCount_9 v_turnCost_9 v_boatDayCost_9), (h_p1, oX6 ad_p1 v_p1_length), ((ad_p1 0), cI G 200 a_p1_letters), (h_p2, oX3 ad_p2 v_p2_numberCount_9 v_p2_letter_9 v_p2_end_9), ((ad_p2 0), cI G 4 a_p2_numbers_9), ((ad_this 4), cI G 4 a_boatRoom_9), ((ad_this 3), cI G 6 a_houseMinutes_9), ((ad_this 2), cI G 6 a_housePeople_9), ((ad_this 0), cI G 3 a_lighter_9), ((ad_this 1), cI G 16 a_signNumbers_9), ((ad_this 6), cI G 5 a_workGain_9), ((ad_this 5), cI G 5 a_workNoise_9)] H locs → W p l e ({ frames := 4, cells := 0, slots := 0, locals := 91 } : Room) s m args below meth c H locs 0 0 Q (F0 m 9 ls []) := by
    intro n
    induction n with
    | zero => intro x3_9 x4_9 v_boatCount_9 v_boatDayCost_9 v_houseCount_9 v_signCount_9 v_turnCost_9 v_workCount_9 v_p2_end_9 v_p2_letter_9 v_p2_numberCount_9 a_p2_numbers_9 a_boatRoom_9 a_houseMinutes_9 a_housePeople_9 a_lighter_9 a_signNumbers_9 a_workGain_9 a_workNoise_9 ls H locs hF hl hW; have h0 : none = some out := hF; cases h0
    | succ n ih =>
      intro x3_9 x4_9 v_boatCount_9 v_boatDayCost_9 v_houseCount_9 v_signCount_9 v_turnCost_9 v_workCount_9 v_p2_end_9 v_p2_letter_9 v_p2_numberCount_9 a_p2_numbers_9 a_boatRoom_9 a_houseMinutes_9 a_housePeople_9 a_lighter_9 a_signNumbers_9 a_workGain_9 a_workNoise_9 ls H locs hF hl hW
      rw [L_X8_readFrom_9] at hF
      refine lv_iload hx hb dX8_readFrom_9 (lv_at hl 4 rfl) ?_
      refine lv_sipush (v := 200) hx hb dX8_readFrom_11 (by decide) ?_
      refine lv_icmp_ge (tgt := 55) hx hb dX8_readFrom_14 (by decide) (fun c_14 => ?_) (fun c_14 => ?_)
      · have hF := ite_t hF c_14
        refine lv_bipush (v := (-4)) hx hb dX8_readFrom_55 (by decide) ?_
        obtain rfl := Option.some.inj hF
        exact hret _ _ _ _ hW dX8_readFrom_57
      · have hF := ite_f hF c_14
        refine lv_iload_n hx hb dX8_readFrom_17 rfl (lv_at hl 3 rfl) ?_
        refine lv_aload_n hx hb dX8_readFrom_18 rfl (lv_at hl 1 rfl) ?_
        refine va_get (D := G.1) (ci := 5) (v := .int v_p1_length) (C := RX6) (T := TX6) (N := 2) hx hb hg hu_X6 hown hc.1 hW.1 1 rfl rfl 1 (by decide) (hg _ wd_1_35) (fun _ h9 => h9) rfl dX8_readFrom_19 ?_
        refine lv_icmp_ge (tgt := 55) hx hb dX8_readFrom_22 (by decide) (fun c_22 => ?_) (fun c_22 => ?_)
        · have hF := ite_t hF c_22
          refine lv_bipush (v := (-4)) hx hb dX8_readFrom_55 (by decide) ?_
          obtain rfl := Option.some.inj hF
          exact hret _ _ _ _ hW dX8_readFrom_57
        · have hF := ite_f hF c_22
          refine lv_aload_n hx hb dX8_readFrom_25 rfl (lv_at hl 2 rfl) ?_
          refine lv_aload_n hx hb dX8_readFrom_26 rfl (lv_at hl 1 rfl) ?_
          refine lv_iload_n hx hb dX8_readFrom_27 rfl (lv_at hl 3 rfl) ?_
          obtain ⟨q28, c_28, hF⟩ := bd_el hF
          refine wcZ (ws' := [(h_this, oX8 ad_this v_signCount_9 v_houseCount_9 v_boatCount_9 v_workCount_9 v_turnCost_9 v_boatDayCost_9), (h_p1, oX6 ad_p1 v_p1_length), ((ad_p1 0), cI G 200 a_p1_letters), (h_p2, oX3 ad_p2 q28.2.2.2.1 q28.2.2.1 q28.2.1), ((ad_p2 0), cI G 4 q28.2.2.2.2), ((ad_this 4), cI G 4 a_boatRoom_9), ((ad_this 3), cI G 6 a_houseMinutes_9), ((ad_this 2), cI G 6 a_housePeople_9), ((ad_this 0), cI G 3 a_lighter_9), ((ad_this 1), cI G 16 a_signNumbers_9), ((ad_this 6), cI G 5 a_workGain_9), ((ad_this 5), cI G 5 a_workNoise_9)]) (wc := [(h_p2, oX3 ad_p2 v_p2_numberCount_9 v_p2_letter_9 v_p2_end_9), (h_p1, oX6 ad_p1 v_p1_length), ((ad_p1 0), cI G 200 a_p1_letters), ((ad_p2 0), cI G 4 a_p2_numbers_9)]) (wr := [(h_this, oX8 ad_this v_signCount_9 v_houseCount_9 v_boatCount_9 v_workCount_9 v_turnCost_9 v_boatDayCost_9), ((ad_this 4), cI G 4 a_boatRoom_9), ((ad_this 3), cI G 6 a_houseMinutes_9), ((ad_this 2), cI G 6 a_housePeople_9), ((ad_this 0), cI G 3 a_lighter_9), ((ad_this 1), cI G 16 a_signNumbers_9), ((ad_this 6), cI G 5 a_workGain_9), ((ad_this 5), cI G 5 a_workNoise_9)]) (w1 := [(h_p2, oX3 ad_p2 q28.2.2.2.1 q28.2.2.1 q28.2.1), (h_p1, oX6 ad_p1 v_p1_length), ((ad_p1 0), cI G 200 a_p1_letters), ((ad_p2 0), cI G 4 q28.2.2.2.2)]) (va_runV (As := [.ref h_p1, .int x3_9]) (rest := []) ⟨hx, hb, hml, hown, hg⟩ (c_X3_readAt l G x3_9 h_p2 h_p1 ad_p2 ad_p1 v_p2_numberCount_9 v_p2_letter_9 v_p2_end_9 v_p1_length a_p1_letters a_p2_numbers_9 q28 c_28 H.size) (cwV 2 hg (gV wd_2_28 wd_2_29 wd_2_30 wd_1_3 wd_2_31) rfl rfl rfl hdV_X3_readAt ⟨(Nat.le_of_ble_eq_true rfl), (Nat.le_of_ble_eq_true rfl)⟩) (preV hc hW [3, 1, 2, 4] rfl (by decide) rfl rfl) rfl rfl hl.1 rfl (lv_room (Nat.le_of_ble_eq_true rfl)) dX8_readFrom_28 ⟨Nat.zero_le _, Nat.zero_le _⟩) hA hW [3, 1, 2, 4] [0, 5, 6, 7, 8, 9, 10, 11] [0, 9, 10, 8, 11, 1, 2, 3, 4, 5, 6, 7] rfl rfl (by decide) (by decide) rfl (by decide) (fun z_28 H locs hW => ?_)
          refine lv_if_eq (tgt := 42) hx hb dX8_readFrom_31 (by decide) (fun c_31 => ?_) (fun c_31 => ?_)
          · have hF := ite_t hF c_31
            refine lv_iload_n hx hb dX8_readFrom_42 rfl (lv_at hl 3 rfl) ?_
            obtain rfl := Option.some.inj hF
            exact hret _ _ _ _ hW dX8_readFrom_43
          · have hF := ite_f hF c_31
            refine lv_aload_n hx hb dX8_readFrom_34 rfl (lv_at hl 0 rfl) ?_
            refine lv_aload_n hx hb dX8_readFrom_35 rfl (lv_at hl 2 rfl) ?_
            obtain ⟨q36, c_36, hF⟩ := bd_el hF
            refine wcZ (ws' := [(h_this, oX8 ad_this q36.2.2.2.2.1 q36.2.2.2.1 q36.2.1 q36.2.2.2.2.2.2.1 q36.2.2.2.2.2.1 q36.2.2.1), (h_p1, oX6 ad_p1 v_p1_length), ((ad_p1 0), cI G 200 a_p1_letters), (h_p2, oX3 ad_p2 q28.2.2.2.1 q28.2.2.1 q28.2.1), ((ad_p2 0), cI G 4 q28.2.2.2.2), ((ad_this 4), cI G 4 q36.2.2.2.2.2.2.2.1), ((ad_this 3), cI G 6 q36.2.2.2.2.2.2.2.2.1), ((ad_this 2), cI G 6 q36.2.2.2.2.2.2.2.2.2.1), ((ad_this 0), cI G 3 q36.2.2.2.2.2.2.2.2.2.2.1), ((ad_this 1), cI G 16 q36.2.2.2.2.2.2.2.2.2.2.2.1), ((ad_this 6), cI G 5 q36.2.2.2.2.2.2.2.2.2.2.2.2.1), ((ad_this 5), cI G 5 q36.2.2.2.2.2.2.2.2.2.2.2.2.2)]) (wc := [(h_this, oX8 ad_this v_signCount_9 v_houseCount_9 v_boatCount_9 v_workCount_9 v_turnCost_9 v_boatDayCost_9), (h_p2, oX3 ad_p2 q28.2.2.2.1 q28.2.2.1 q28.2.1), ((ad_p2 0), cI G 4 q28.2.2.2.2), ((ad_this 4), cI G 4 a_boatRoom_9), ((ad_this 3), cI G 6 a_houseMinutes_9), ((ad_this 2), cI G 6 a_housePeople_9), ((ad_this 0), cI G 3 a_lighter_9), ((ad_this 1), cI G 16 a_signNumbers_9), ((ad_this 6), cI G 5 a_workGain_9), ((ad_this 5), cI G 5 a_workNoise_9)]) (wr := [(h_p1, oX6 ad_p1 v_p1_length), ((ad_p1 0), cI G 200 a_p1_letters)]) (w1 := [(h_this, oX8 ad_this q36.2.2.2.2.1 q36.2.2.2.1 q36.2.1 q36.2.2.2.2.2.2.1 q36.2.2.2.2.2.1 q36.2.2.1), (h_p2, oX3 ad_p2 q28.2.2.2.1 q28.2.2.1 q28.2.1), ((ad_p2 0), cI G 4 q28.2.2.2.2), ((ad_this 4), cI G 4 q36.2.2.2.2.2.2.2.1), ((ad_this 3), cI G 6 q36.2.2.2.2.2.2.2.2.1), ((ad_this 2), cI G 6 q36.2.2.2.2.2.2.2.2.2.1), ((ad_this 0), cI G 3 q36.2.2.2.2.2.2.2.2.2.2.1), ((ad_this 1), cI G 16 q36.2.2.2.2.2.2.2.2.2.2.2.1), ((ad_this 6), cI G 5 q36.2.2.2.2.2.2.2.2.2.2.2.2.1), ((ad_this 5), cI G 5 q36.2.2.2.2.2.2.2.2.2.2.2.2.2)]) (va_runV (As := [.ref h_p2]) (rest := []) ⟨hx, hb, hml, hown, hg⟩ (c_X8_take l G h_this h_p2 ad_this ad_p2 v_signCount_9 v_houseCount_9 v_boatCount_9 v_workCount_9 v_turnCost_9 v_boatDayCost_9 q28.2.2.2.1 q28.2.2.1 q28.2.1 q28.2.2.2.2 a_boatRoom_9 a_houseMinutes_9 a_housePeople_9 a_lighter_9 a_signNumbers_9 a_workGain_9 a_workNoise_9 q36 c_36 H.size) (cwV 1 hg (gV wd_2_59 wd_2_61 wd_0_4 wd_1_4 wd_2_62) rfl rfl rfl hdV_X8_take ⟨(Nat.le_of_ble_eq_true rfl), (Nat.le_of_ble_eq_true rfl)⟩) (preV hc hW [0, 3, 4, 5, 6, 7, 8, 9, 10, 11] rfl (by decide) rfl rfl) rfl rfl hl.1 rfl (lv_room (Nat.le_of_ble_eq_true rfl)) dX8_readFrom_36 ⟨Nat.zero_le _, Nat.zero_le _⟩) hA hW [0, 3, 4, 5, 6, 7, 8, 9, 10, 11] [1, 2] [2, 0, 1, 3, 4, 5, 6, 7, 8, 9, 10, 11] rfl rfl (by decide) (by decide) rfl (by decide) (fun z_36 H locs hW => ?_)
            refine lv_if_ne (tgt := 44) hx hb dX8_readFrom_39 (by decide) (fun c_39 => ?_) (fun c_39 => ?_)
            · have hF := ite_f hF c_39
              refine lv_aload_n hx hb dX8_readFrom_44 rfl (lv_at hl 2 rfl) ?_
              refine va_get (D := G.1) (ci := 3) (v := .int q28.2.1) (C := RX3) (T := TX3) (N := 4) hx hb hg hu_X3 hown hc.1 hW.1 3 rfl rfl 3 (by decide) (hg _ wd_1_53) (fun _ h9 => h9) rfl dX8_readFrom_45 ?_
              refine lv_istore_n (lv' := [(3, .int q28.2.1), (0, .ref h_this), (1, .ref h_p1), (2, .ref h_p2), (4, .int x4_9)]) hx hb dX8_readFrom_48 rfl hl (by decide) rfl (fun ls hl => ?_)
              refine lv_iinc (v := (x4_9 + 1)) (lv' := [(4, .int ((x4_9 + 1))), (3, .int q28.2.1), (0, .ref h_this), (1, .ref h_p1), (2, .ref h_p2)]) hx hb dX8_readFrom_49 hl (k := 4) rfl rfl (by decide) rfl (fun ls hl => ?_)
              refine lv_goto (tgt := 9) hx hb dX8_readFrom_52 (by decide) ?_
              exact ih q28.2.1 ((x4_9 + 1)) q36.2.1 q36.2.2.1 q36.2.2.2.1 q36.2.2.2.2.1 q36.2.2.2.2.2.1 q36.2.2.2.2.2.2.1 q28.2.1 q28.2.2.1 q28.2.2.2.1 q28.2.2.2.2 q36.2.2.2.2.2.2.2.1 q36.2.2.2.2.2.2.2.2.1 q36.2.2.2.2.2.2.2.2.2.1 q36.2.2.2.2.2.2.2.2.2.2.1 q36.2.2.2.2.2.2.2.2.2.2.2.1 q36.2.2.2.2.2.2.2.2.2.2.2.2.1 q36.2.2.2.2.2.2.2.2.2.2.2.2.2 _ _ _ hF (lv_sub hl [2, 3, 4, 1, 0] rfl) hW
            · have hF := ite_t hF c_39
              refine lv_iload_n hx hb dX8_readFrom_42 rfl (lv_at hl 3 rfl) ?_
              obtain rfl := Option.some.inj hF
              exact hret _ _ _ _ hW dX8_readFrom_43
  exact L_9 5000 0 0 q1.1 q1.2.1 q1.2.2.1 q1.2.2.2.1 q1.2.2.2.2.1 q1.2.2.2.2.2.1 v_p2_end v_p2_letter v_p2_numberCount a_p2_numbers a_boatRoom a_houseMinutes a_housePeople q1.2.2.2.2.2.2 a_signNumbers a_workGain a_workNoise _ _ _ hF (lv_sub hl [2, 3, 4, 1, 0] rfl) hW
theorem dX8_signNumber_0 : decode cX8_signNumber 0 = .ok (.aload_n 0, 1) := by decide +kernel
theorem dX8_signNumber_1 : decode cX8_signNumber 1 = .ok (.getfield 15, 3) := by decide +kernel
theorem dX8_signNumber_4 : decode cX8_signNumber 4 = .ok (.iload_n 1, 1) := by decide +kernel
theorem dX8_signNumber_5 : decode cX8_signNumber 5 = .ok (.iconst 4, 1) := by decide +kernel
theorem dX8_signNumber_6 : decode cX8_signNumber 6 = .ok (.imul, 1) := by decide +kernel
theorem dX8_signNumber_7 : decode cX8_signNumber 7 = .ok (.iload_n 2, 1) := by decide +kernel
theorem dX8_signNumber_8 : decode cX8_signNumber 8 = .ok (.iadd, 1) := by decide +kernel
theorem dX8_signNumber_9 : decode cX8_signNumber 9 = .ok (.invokestatic 104, 3) := by decide +kernel
theorem dX8_signNumber_12 : decode cX8_signNumber 12 = .ok (.ireturn, 1) := by decide +kernel
def F_X8_signNumber (x1 : Int32) (x2 : Int32) (a_signNumbers : Nat → Int32) : Option (Int32) := (F_X4_at (((x1 * 4) + x2)) 16 a_signNumbers).bind (fun q9 => some (q9))
theorem hdV_X8_signNumber : yX8_signNumber.cls = RX8 ∧ yX8_signNumber.cls ≠ "java/lang/invoke/MethodHandle" ∧ yX8_signNumber.cls ≠ "java/lang/invoke/VarHandle" ∧ (parseMethodDescriptor yX8_signNumber.desc).map (fun d => d.parameters.length) = some 2 := by decide +kernel
set_option maxHeartbeats 4000000 in
set_option maxRecDepth 100000 in
theorem c_X8_signNumber (l : Launch) (G : GG) (x1 : Int32) (x2 : Int32) (h_this : Nat) (ad_this : Nat → Nat) (v_signCount : Int32) (v_houseCount : Int32) (v_boatCount : Int32) (v_workCount : Int32) (v_turnCost : Int32) (v_boatDayCost : Int32) (a_signNumbers : Nat → Int32) (out : Int32) (hF : F_X8_signNumber x1 x2 a_signNumbers = some out) : CtrI l yX8_signNumber (WS yX8_signNumber cX8_signNumber 3 (some .int)) { frames := 1, cells := 0, slots := 0, locals := 21 } G [.ref h_this, .int x1, .int x2] [(h_this, oX8 ad_this v_signCount v_houseCount v_boatCount v_workCount v_turnCost v_boatDayCost), ((ad_this 1), cI G 16 a_signNumbers)] [(h_this, oX8 ad_this v_signCount v_houseCount v_boatCount v_workCount v_turnCost v_boatDayCost), ((ad_this 1), cI G 16 a_signNumbers)] out := by
  refine startI (cc := cX8_signNumber) (maxL := 3) (by decide) rfl (Nat.le_of_ble_eq_true rfl) ?_
  intro p e s m args below meth c A Q hx hb hml hts hown hc hA hret ls H locs hl hW
  have hown : s.vm.findClass RX8 = some m.cls := hown
  have hg : ∀ w ∈ GOODS, w.before _ s = true := fun w h => hts w (List.mem_cons_of_mem _ h)
  have hl : lv_has ls 3 [(0, .ref h_this), (1, .int x1), (2, .int x2)] := hl
  rw [F_X8_signNumber] at hF
  refine lv_aload_n hx hb dX8_signNumber_0 rfl (lv_at hl 0 rfl) ?_
  refine va_get (D := G.1) (ci := 7) (v := .ref ((ad_this 1))) (C := RX8) (T := TX8) (N := 13) hx hb hg hu_X8 hown hc.1 hW.1 0 rfl rfl 1 (by decide) (hg _ wd_1_70) (fun _ h9 => h9) rfl dX8_signNumber_1 ?_
  refine lv_iload_n hx hb dX8_signNumber_4 rfl (lv_at hl 1 rfl) ?_
  refine lv_iconst (v := 4) hx hb dX8_signNumber_5 (by decide) ?_
  refine lv_imul hx hb dX8_signNumber_6 ?_
  refine lv_iload_n hx hb dX8_signNumber_7 rfl (lv_at hl 2 rfl) ?_
  refine lv_iadd hx hb dX8_signNumber_8 ?_
  obtain ⟨q9, c_9, hF⟩ := bd_el hF
  refine wcI (ws' := [(h_this, oX8 ad_this v_signCount v_houseCount v_boatCount v_workCount v_turnCost v_boatDayCost), ((ad_this 1), cI G 16 a_signNumbers)]) (wc := [((ad_this 1), cI G 16 a_signNumbers)]) (wr := [(h_this, oX8 ad_this v_signCount v_houseCount v_boatCount v_workCount v_turnCost v_boatDayCost)]) (w1 := [((ad_this 1), cI G 16 a_signNumbers)]) (va_runS (As := [.ref ((ad_this 1)), .int (((x1 * 4) + x2))]) (rest := []) ⟨hx, hb, hml, hown, hg⟩ (c_X4_at l G (((x1 * 4) + x2)) 16 ((ad_this 1)) a_signNumbers q9 c_9 H.size) (va_cwS 2 hg (gS wd_2_161 wd_2_37 wd_1_14 wd_2_38) rfl rfl rfl hdS_X4_at ⟨(Nat.le_of_ble_eq_true rfl), (Nat.le_of_ble_eq_true rfl)⟩) (preS hc hW [1] rfl (by decide)) rfl rfl hl.1 rfl (lv_room (Nat.le_of_ble_eq_true rfl)) dX8_signNumber_9 ⟨Nat.zero_le _, Nat.zero_le _⟩) hA hW [1] [0] [0, 1] rfl rfl (by decide) (by decide) rfl (by decide) (fun H locs hW => ?_)
  obtain rfl := Option.some.inj hF
  exact hret _ _ _ _ hW dX8_signNumber_12
theorem dX8_sumOf_0 : decode cX8_sumOf 0 = .ok (.iconst 0, 1) := by decide +kernel
theorem dX8_sumOf_1 : decode cX8_sumOf 1 = .ok (.istore_n 3, 1) := by decide +kernel
theorem dX8_sumOf_2 : decode cX8_sumOf 2 = .ok (.iconst 0, 1) := by decide +kernel
theorem dX8_sumOf_3 : decode cX8_sumOf 3 = .ok (.istore 4, 2) := by decide +kernel
theorem dX8_sumOf_5 : decode cX8_sumOf 5 = .ok (.iload 4, 2) := by decide +kernel
theorem dX8_sumOf_7 : decode cX8_sumOf 7 = .ok (.iload_n 1, 1) := by decide +kernel
theorem dX8_sumOf_8 : decode cX8_sumOf 8 = .ok (.if_icmp .ge 27, 3) := by decide +kernel
theorem dX8_sumOf_11 : decode cX8_sumOf 11 = .ok (.iload_n 2, 1) := by decide +kernel
theorem dX8_sumOf_12 : decode cX8_sumOf 12 = .ok (.iload 4, 2) := by decide +kernel
theorem dX8_sumOf_14 : decode cX8_sumOf 14 = .ok (.invokestatic 112, 3) := by decide +kernel
theorem dX8_sumOf_17 : decode cX8_sumOf 17 = .ok (.ifCond .eq 12, 3) := by decide +kernel
theorem dX8_sumOf_20 : decode cX8_sumOf 20 = .ok (.iload_n 3, 1) := by decide +kernel
theorem dX8_sumOf_21 : decode cX8_sumOf 21 = .ok (.aload_n 0, 1) := by decide +kernel
theorem dX8_sumOf_22 : decode cX8_sumOf 22 = .ok (.iload 4, 2) := by decide +kernel
theorem dX8_sumOf_24 : decode cX8_sumOf 24 = .ok (.invokestatic 104, 3) := by decide +kernel
theorem dX8_sumOf_27 : decode cX8_sumOf 27 = .ok (.iadd, 1) := by decide +kernel
theorem dX8_sumOf_28 : decode cX8_sumOf 28 = .ok (.istore_n 3, 1) := by decide +kernel
theorem dX8_sumOf_29 : decode cX8_sumOf 29 = .ok (.iinc 4 1, 3) := by decide +kernel
theorem dX8_sumOf_32 : decode cX8_sumOf 32 = .ok (.goto (-27), 3) := by decide +kernel
theorem dX8_sumOf_35 : decode cX8_sumOf 35 = .ok (.iload_n 3, 1) := by decide +kernel
theorem dX8_sumOf_36 : decode cX8_sumOf 36 = .ok (.ireturn, 1) := by decide +kernel
def L_X8_sumOf_5 (x1 : Int32) (x2 : Int32) (n_p0 : Nat) (a_p0 : Nat → Int32)  : Nat → Int32 → Int32 → Option (Int32)
  | 0, _, _ => none
  | n + 1, x3_5, x4_5 => (if x1 ≤ x4_5 then some (x3_5) else (F_X9_holds x2 x4_5).bind (fun q14 => jn (fun (x3_29 : Int32) => L_X8_sumOf_5 x1 x2 n_p0 a_p0 n x3_29 ((x4_5 + 1))) (fun k_29 => (if q14 = 0 then k_29 x3_5 else (F_X4_at x4_5 n_p0 a_p0).bind (fun q24 => k_29 ((x3_5 + q24)))))))
def F_X8_sumOf (x1 : Int32) (x2 : Int32) (n_p0 : Nat) (a_p0 : Nat → Int32) : Option (Int32) := L_X8_sumOf_5 x1 x2 n_p0 a_p0 5000 0 0
theorem hdS_X8_sumOf : yX8_sumOf.cls ≠ "java/lang/invoke/MethodHandle" ∧ yX8_sumOf.cls ≠ "java/lang/invoke/VarHandle" ∧ (parseMethodDescriptor yX8_sumOf.desc).map (fun d => d.parameters.length) = some 3 := by decide +kernel
set_option maxHeartbeats 4000000 in
set_option maxRecDepth 100000 in
theorem c_X8_sumOf (l : Launch) (G : GG) (x1 : Int32) (x2 : Int32) (n_p0 : Nat) (h_p0 : Nat) (a_p0 : Nat → Int32) (out : Int32) (hF : F_X8_sumOf x1 x2 n_p0 a_p0 = some out) : CtrI l yX8_sumOf (WS yX8_sumOf cX8_sumOf 5 (some .int)) { frames := 1, cells := 0, slots := 0, locals := 21 } G [.ref h_p0, .int x1, .int x2] [(h_p0, cI G n_p0 a_p0)] [(h_p0, cI G n_p0 a_p0)] out := by
  refine startI (cc := cX8_sumOf) (maxL := 5) (by decide) rfl (Nat.le_of_ble_eq_true rfl) ?_
  intro p e s m args below meth c A Q hx hb hml hts hown hc hA hret ls H locs hl hW
  have hown : s.vm.findClass RX8 = some m.cls := hown
  have hg : ∀ w ∈ GOODS, w.before _ s = true := fun w h => hts w (List.mem_cons_of_mem _ h)
  have hl : lv_has ls 5 [(0, .ref h_p0), (1, .int x1), (2, .int x2)] := hl
  rw [F_X8_sumOf] at hF
  refine lv_iconst (v := 0) hx hb dX8_sumOf_0 (by decide) ?_
  refine lv_istore_n (lv' := [(3, .int 0), (0, .ref h_p0), (1, .int x1), (2, .int x2)]) hx hb dX8_sumOf_1 rfl hl (by decide) rfl (fun ls hl => ?_)
  refine lv_iconst (v := 0) hx hb dX8_sumOf_2 (by decide) ?_
  refine lv_istore (lv' := [(4, .int 0), (3, .int 0), (0, .ref h_p0), (1, .int x1), (2, .int x2)]) hx hb dX8_sumOf_3 hl (by decide) rfl (fun ls hl => ?_)
  have L_5 : ∀ (n : Nat) (x3_5 : Int32) (x4_5 : Int32) (ls : Array Slot) (H : Heap) (locs : List Loc), L_X8_sumOf_5 x1 x2 n_p0 a_p0 n x3_5 x4_5 = some out → lv_has ls 5 [(0, .ref h_p0), (1, .int x1), (2, .int x2), (3, .int x3_5), (4, .int x4_5)] → Wd G A s.heap [(h_p0, cI G n_p0 a_p0)] H locs → W p l e ({ frames := 1, cells := 0, slots := 0, locals := 21 } : Room) s m args below meth c H locs 0 0 Q (F0 m 5 ls []) := by
    intro n
    induction n with
    | zero => intro x3_5 x4_5 ls H locs hF hl hW; have h0 : none = some out := hF; cases h0
    | succ n ih =>
      intro x3_5 x4_5 ls H locs hF hl hW
      rw [L_X8_sumOf_5] at hF
      refine lv_iload hx hb dX8_sumOf_5 (lv_at hl 4 rfl) ?_
      refine lv_iload_n hx hb dX8_sumOf_7 rfl (lv_at hl 1 rfl) ?_
      refine lv_icmp_ge (tgt := 35) hx hb dX8_sumOf_8 (by decide) (fun c_8 => ?_) (fun c_8 => ?_)
      · have hF := ite_t hF c_8
        refine lv_iload_n hx hb dX8_sumOf_35 rfl (lv_at hl 3 rfl) ?_
        obtain rfl := Option.some.inj hF
        exact hret _ _ _ _ hW dX8_sumOf_36
      · have hF := ite_f hF c_8
        refine lv_iload_n hx hb dX8_sumOf_11 rfl (lv_at hl 2 rfl) ?_
        refine lv_iload hx hb dX8_sumOf_12 (lv_at hl 4 rfl) ?_
        obtain ⟨q14, c_14, hF⟩ := bd_el hF
        refine wcZ (ws' := [(h_p0, cI G n_p0 a_p0)]) (wc := []) (wr := [(h_p0, cI G n_p0 a_p0)]) (w1 := []) (va_runSN (As := [.int x2, .int x4_5]) (rest := []) ⟨hx, hb, hml, hown, hg⟩ (c_X9_holds l G x2 x4_5 q14 c_14 H.size) ⟨va_cnB 2 hg (gN wd_2_181) rfl rfl rfl (hc.2 (RX8, 112, yX9_holds) (by decide +kernel)) (hg _ wd_1_1) hdS_X9_holds ⟨(Nat.le_of_ble_eq_true rfl), (Nat.le_of_ble_eq_true rfl)⟩, (hg _ wd_2_180), trivial⟩ (preS hc hW [] rfl (by decide)) rfl rfl hl.1 rfl (lv_room (Nat.le_of_ble_eq_true rfl)) dX8_sumOf_14 ⟨Nat.zero_le _, Nat.zero_le _⟩) hA hW [] [0] [0] rfl rfl (by decide) (by decide) rfl (by decide) (fun z_14 H locs hW => ?_)
        obtain ⟨k_29, e_29, hF⟩ := jn_el hF
        have J_29 : ∀ (x3_29 : Int32) (ls : Array Slot) (H : Heap) (locs : List Loc), k_29 x3_29 = some out → lv_has ls 5 [(0, .ref h_p0), (1, .int x1), (2, .int x2), (3, .int x3_29), (4, .int x4_5)] → Wd G A s.heap [(h_p0, cI G n_p0 a_p0)] H locs → W p l e ({ frames := 1, cells := 0, slots := 0, locals := 21 } : Room) s m args below meth c H locs 0 0 Q (F0 m 29 ls []) := by
          intro x3_29 ls H locs hF hl hW
          rw [e_29] at hF
          dsimp only at hF
          refine lv_iinc (v := (x4_5 + 1)) (lv' := [(4, .int ((x4_5 + 1))), (0, .ref h_p0), (1, .int x1), (2, .int x2), (3, .int x3_29)]) hx hb dX8_sumOf_29 hl (k := 4) rfl rfl (by decide) rfl (fun ls hl => ?_)
          refine lv_goto (tgt := 5) hx hb dX8_sumOf_32 (by decide) ?_
          exact ih x3_29 ((x4_5 + 1)) _ _ _ hF (lv_sub hl [1, 2, 3, 4, 0] rfl) hW
        refine lv_if_eq (tgt := 29) hx hb dX8_sumOf_17 (by decide) (fun c_17 => ?_) (fun c_17 => ?_)
        · have hF := ite_t hF c_17
          exact J_29 x3_5 _ _ _ hF (lv_sub hl [0, 1, 2, 3, 4] rfl) hW
        · have hF := ite_f hF c_17
          refine lv_iload_n hx hb dX8_sumOf_20 rfl (lv_at hl 3 rfl) ?_
          refine lv_aload_n hx hb dX8_sumOf_21 rfl (lv_at hl 0 rfl) ?_
          refine lv_iload hx hb dX8_sumOf_22 (lv_at hl 4 rfl) ?_
          obtain ⟨q24, c_24, hF⟩ := bd_el hF
          refine wcI (ws' := [(h_p0, cI G n_p0 a_p0)]) (wc := [(h_p0, cI G n_p0 a_p0)]) (wr := []) (w1 := [(h_p0, cI G n_p0 a_p0)]) (va_runS (As := [.ref h_p0, .int x4_5]) (rest := [.int x3_5]) ⟨hx, hb, hml, hown, hg⟩ (c_X4_at l G x4_5 n_p0 h_p0 a_p0 q24 c_24 H.size) (va_cwS 2 hg (gS wd_2_161 wd_2_37 wd_1_14 wd_2_38) rfl rfl rfl hdS_X4_at ⟨(Nat.le_of_ble_eq_true rfl), (Nat.le_of_ble_eq_true rfl)⟩) (preS hc hW [0] rfl (by decide)) rfl rfl hl.1 rfl (lv_room (Nat.le_of_ble_eq_true rfl)) dX8_sumOf_24 ⟨Nat.zero_le _, Nat.zero_le _⟩) hA hW [0] [] [0] rfl rfl (by decide) (by decide) rfl (by decide) (fun H locs hW => ?_)
          refine lv_iadd hx hb dX8_sumOf_27 ?_
          refine lv_istore_n (lv' := [(3, .int ((x3_5 + q24))), (0, .ref h_p0), (1, .int x1), (2, .int x2), (4, .int x4_5)]) hx hb dX8_sumOf_28 rfl hl (by decide) rfl (fun ls hl => ?_)
          exact J_29 ((x3_5 + q24)) _ _ _ hF (lv_sub hl [1, 2, 3, 0, 4] rfl) hW
  exact L_5 5000 0 0 _ _ _ hF (lv_sub hl [2, 3, 4, 1, 0] rfl) hW
theorem dX8_noiseOf_0 : decode cX8_noiseOf 0 = .ok (.aload_n 0, 1) := by decide +kernel
theorem dX8_noiseOf_1 : decode cX8_noiseOf 1 = .ok (.getfield 27, 3) := by decide +kernel
theorem dX8_noiseOf_4 : decode cX8_noiseOf 4 = .ok (.aload_n 0, 1) := by decide +kernel
theorem dX8_noiseOf_5 : decode cX8_noiseOf 5 = .ok (.getfield 76, 3) := by decide +kernel
theorem dX8_noiseOf_8 : decode cX8_noiseOf 8 = .ok (.iload_n 1, 1) := by decide +kernel
theorem dX8_noiseOf_9 : decode cX8_noiseOf 9 = .ok (.invokestatic 108, 3) := by decide +kernel
theorem dX8_noiseOf_12 : decode cX8_noiseOf 12 = .ok (.ireturn, 1) := by decide +kernel
def F_X8_noiseOf (x1 : Int32) (v_workCount : Int32) (a_workNoise : Nat → Int32) : Option (Int32) := (F_X8_sumOf v_workCount x1 5 a_workNoise).bind (fun q9 => some (q9))
theorem hdV_X8_noiseOf : yX8_noiseOf.cls = RX8 ∧ yX8_noiseOf.cls ≠ "java/lang/invoke/MethodHandle" ∧ yX8_noiseOf.cls ≠ "java/lang/invoke/VarHandle" ∧ (parseMethodDescriptor yX8_noiseOf.desc).map (fun d => d.parameters.length) = some 1 := by decide +kernel
set_option maxHeartbeats 4000000 in
set_option maxRecDepth 100000 in
theorem c_X8_noiseOf (l : Launch) (G : GG) (x1 : Int32) (h_this : Nat) (ad_this : Nat → Nat) (v_signCount : Int32) (v_houseCount : Int32) (v_boatCount : Int32) (v_workCount : Int32) (v_turnCost : Int32) (v_boatDayCost : Int32) (a_workNoise : Nat → Int32) (out : Int32) (hF : F_X8_noiseOf x1 v_workCount a_workNoise = some out) : CtrI l yX8_noiseOf (WS yX8_noiseOf cX8_noiseOf 2 (some .int)) { frames := 2, cells := 0, slots := 0, locals := 45 } G [.ref h_this, .int x1] [(h_this, oX8 ad_this v_signCount v_houseCount v_boatCount v_workCount v_turnCost v_boatDayCost), ((ad_this 5), cI G 5 a_workNoise)] [(h_this, oX8 ad_this v_signCount v_houseCount v_boatCount v_workCount v_turnCost v_boatDayCost), ((ad_this 5), cI G 5 a_workNoise)] out := by
  refine startI (cc := cX8_noiseOf) (maxL := 2) (by decide) rfl (Nat.le_of_ble_eq_true rfl) ?_
  intro p e s m args below meth c A Q hx hb hml hts hown hc hA hret ls H locs hl hW
  have hown : s.vm.findClass RX8 = some m.cls := hown
  have hg : ∀ w ∈ GOODS, w.before _ s = true := fun w h => hts w (List.mem_cons_of_mem _ h)
  have hl : lv_has ls 2 [(0, .ref h_this), (1, .int x1)] := hl
  rw [F_X8_noiseOf] at hF
  refine lv_aload_n hx hb dX8_noiseOf_0 rfl (lv_at hl 0 rfl) ?_
  refine va_get (D := G.1) (ci := 7) (v := .ref ((ad_this 5))) (C := RX8) (T := TX8) (N := 13) hx hb hg hu_X8 hown hc.1 hW.1 0 rfl rfl 5 (by decide) (hg _ wd_1_74) (fun _ h9 => h9) rfl dX8_noiseOf_1 ?_
  refine lv_aload_n hx hb dX8_noiseOf_4 rfl (lv_at hl 0 rfl) ?_
  refine va_get (D := G.1) (ci := 7) (v := .int v_workCount) (C := RX8) (T := TX8) (N := 13) hx hb hg hu_X8 hown hc.1 hW.1 0 rfl rfl 10 (by decide) (hg _ wd_1_84) (fun _ h9 => h9) rfl dX8_noiseOf_5 ?_
  refine lv_iload_n hx hb dX8_noiseOf_8 rfl (lv_at hl 1 rfl) ?_
  obtain ⟨q9, c_9, hF⟩ := bd_el hF
  refine wcI (ws' := [(h_this, oX8 ad_this v_signCount v_houseCount v_boatCount v_workCount v_turnCost v_boatDayCost), ((ad_this 5), cI G 5 a_workNoise)]) (wc := [((ad_this 5), cI G 5 a_workNoise)]) (wr := [(h_this, oX8 ad_this v_signCount v_houseCount v_boatCount v_workCount v_turnCost v_boatDayCost)]) (w1 := [((ad_this 5), cI G 5 a_workNoise)]) (va_runS (As := [.ref ((ad_this 5)), .int v_workCount, .int x1]) (rest := []) ⟨hx, hb, hml, hown, hg⟩ (c_X8_sumOf l G v_workCount x1 5 ((ad_this 5)) a_workNoise q9 c_9 H.size) (va_cwS 3 hg (gS wd_2_176 wd_2_177 wd_1_4 wd_2_178) rfl rfl rfl hdS_X8_sumOf ⟨(Nat.le_of_ble_eq_true rfl), (Nat.le_of_ble_eq_true rfl)⟩) (preS hc hW [1] rfl (by decide)) rfl rfl hl.1 rfl (lv_room (Nat.le_of_ble_eq_true rfl)) dX8_noiseOf_9 ⟨Nat.zero_le _, Nat.zero_le _⟩) hA hW [1] [0] [0, 1] rfl rfl (by decide) (by decide) rfl (by decide) (fun H locs hW => ?_)
  obtain rfl := Option.some.inj hF
  exact hret _ _ _ _ hW dX8_noiseOf_12
theorem dX8_gainOf_0 : decode cX8_gainOf 0 = .ok (.aload_n 0, 1) := by decide +kernel
theorem dX8_gainOf_1 : decode cX8_gainOf 1 = .ok (.getfield 30, 3) := by decide +kernel
theorem dX8_gainOf_4 : decode cX8_gainOf 4 = .ok (.aload_n 0, 1) := by decide +kernel
theorem dX8_gainOf_5 : decode cX8_gainOf 5 = .ok (.getfield 76, 3) := by decide +kernel
theorem dX8_gainOf_8 : decode cX8_gainOf 8 = .ok (.iload_n 1, 1) := by decide +kernel
theorem dX8_gainOf_9 : decode cX8_gainOf 9 = .ok (.invokestatic 108, 3) := by decide +kernel
theorem dX8_gainOf_12 : decode cX8_gainOf 12 = .ok (.ireturn, 1) := by decide +kernel
def F_X8_gainOf (x1 : Int32) (v_workCount : Int32) (a_workGain : Nat → Int32) : Option (Int32) := (F_X8_sumOf v_workCount x1 5 a_workGain).bind (fun q9 => some (q9))
theorem hdV_X8_gainOf : yX8_gainOf.cls = RX8 ∧ yX8_gainOf.cls ≠ "java/lang/invoke/MethodHandle" ∧ yX8_gainOf.cls ≠ "java/lang/invoke/VarHandle" ∧ (parseMethodDescriptor yX8_gainOf.desc).map (fun d => d.parameters.length) = some 1 := by decide +kernel
set_option maxHeartbeats 4000000 in
set_option maxRecDepth 100000 in
theorem c_X8_gainOf (l : Launch) (G : GG) (x1 : Int32) (h_this : Nat) (ad_this : Nat → Nat) (v_signCount : Int32) (v_houseCount : Int32) (v_boatCount : Int32) (v_workCount : Int32) (v_turnCost : Int32) (v_boatDayCost : Int32) (a_workGain : Nat → Int32) (out : Int32) (hF : F_X8_gainOf x1 v_workCount a_workGain = some out) : CtrI l yX8_gainOf (WS yX8_gainOf cX8_gainOf 2 (some .int)) { frames := 2, cells := 0, slots := 0, locals := 45 } G [.ref h_this, .int x1] [(h_this, oX8 ad_this v_signCount v_houseCount v_boatCount v_workCount v_turnCost v_boatDayCost), ((ad_this 6), cI G 5 a_workGain)] [(h_this, oX8 ad_this v_signCount v_houseCount v_boatCount v_workCount v_turnCost v_boatDayCost), ((ad_this 6), cI G 5 a_workGain)] out := by
  refine startI (cc := cX8_gainOf) (maxL := 2) (by decide) rfl (Nat.le_of_ble_eq_true rfl) ?_
  intro p e s m args below meth c A Q hx hb hml hts hown hc hA hret ls H locs hl hW
  have hown : s.vm.findClass RX8 = some m.cls := hown
  have hg : ∀ w ∈ GOODS, w.before _ s = true := fun w h => hts w (List.mem_cons_of_mem _ h)
  have hl : lv_has ls 2 [(0, .ref h_this), (1, .int x1)] := hl
  rw [F_X8_gainOf] at hF
  refine lv_aload_n hx hb dX8_gainOf_0 rfl (lv_at hl 0 rfl) ?_
  refine va_get (D := G.1) (ci := 7) (v := .ref ((ad_this 6))) (C := RX8) (T := TX8) (N := 13) hx hb hg hu_X8 hown hc.1 hW.1 0 rfl rfl 6 (by decide) (hg _ wd_1_75) (fun _ h9 => h9) rfl dX8_gainOf_1 ?_
  refine lv_aload_n hx hb dX8_gainOf_4 rfl (lv_at hl 0 rfl) ?_
  refine va_get (D := G.1) (ci := 7) (v := .int v_workCount) (C := RX8) (T := TX8) (N := 13) hx hb hg hu_X8 hown hc.1 hW.1 0 rfl rfl 10 (by decide) (hg _ wd_1_84) (fun _ h9 => h9) rfl dX8_gainOf_5 ?_
  refine lv_iload_n hx hb dX8_gainOf_8 rfl (lv_at hl 1 rfl) ?_
  obtain ⟨q9, c_9, hF⟩ := bd_el hF
  refine wcI (ws' := [(h_this, oX8 ad_this v_signCount v_houseCount v_boatCount v_workCount v_turnCost v_boatDayCost), ((ad_this 6), cI G 5 a_workGain)]) (wc := [((ad_this 6), cI G 5 a_workGain)]) (wr := [(h_this, oX8 ad_this v_signCount v_houseCount v_boatCount v_workCount v_turnCost v_boatDayCost)]) (w1 := [((ad_this 6), cI G 5 a_workGain)]) (va_runS (As := [.ref ((ad_this 6)), .int v_workCount, .int x1]) (rest := []) ⟨hx, hb, hml, hown, hg⟩ (c_X8_sumOf l G v_workCount x1 5 ((ad_this 6)) a_workGain q9 c_9 H.size) (va_cwS 3 hg (gS wd_2_176 wd_2_177 wd_1_4 wd_2_178) rfl rfl rfl hdS_X8_sumOf ⟨(Nat.le_of_ble_eq_true rfl), (Nat.le_of_ble_eq_true rfl)⟩) (preS hc hW [1] rfl (by decide)) rfl rfl hl.1 rfl (lv_room (Nat.le_of_ble_eq_true rfl)) dX8_gainOf_9 ⟨Nat.zero_le _, Nat.zero_le _⟩) hA hW [1] [0] [0, 1] rfl rfl (by decide) (by decide) rfl (by decide) (fun H locs hW => ?_)
  obtain rfl := Option.some.inj hF
  exact hret _ _ _ _ hW dX8_gainOf_12
theorem dX8_peopleOf_0 : decode cX8_peopleOf 0 = .ok (.aload_n 0, 1) := by decide +kernel
theorem dX8_peopleOf_1 : decode cX8_peopleOf 1 = .ok (.getfield 18, 3) := by decide +kernel
theorem dX8_peopleOf_4 : decode cX8_peopleOf 4 = .ok (.iload_n 1, 1) := by decide +kernel
theorem dX8_peopleOf_5 : decode cX8_peopleOf 5 = .ok (.invokestatic 104, 3) := by decide +kernel
theorem dX8_peopleOf_8 : decode cX8_peopleOf 8 = .ok (.ireturn, 1) := by decide +kernel
def F_X8_peopleOf (x1 : Int32) (a_housePeople : Nat → Int32) : Option (Int32) := (F_X4_at x1 6 a_housePeople).bind (fun q5 => some (q5))
theorem hdV_X8_peopleOf : yX8_peopleOf.cls = RX8 ∧ yX8_peopleOf.cls ≠ "java/lang/invoke/MethodHandle" ∧ yX8_peopleOf.cls ≠ "java/lang/invoke/VarHandle" ∧ (parseMethodDescriptor yX8_peopleOf.desc).map (fun d => d.parameters.length) = some 1 := by decide +kernel
set_option maxHeartbeats 4000000 in
set_option maxRecDepth 100000 in
theorem c_X8_peopleOf (l : Launch) (G : GG) (x1 : Int32) (h_this : Nat) (ad_this : Nat → Nat) (v_signCount : Int32) (v_houseCount : Int32) (v_boatCount : Int32) (v_workCount : Int32) (v_turnCost : Int32) (v_boatDayCost : Int32) (a_housePeople : Nat → Int32) (out : Int32) (hF : F_X8_peopleOf x1 a_housePeople = some out) : CtrI l yX8_peopleOf (WS yX8_peopleOf cX8_peopleOf 2 (some .int)) { frames := 1, cells := 0, slots := 0, locals := 21 } G [.ref h_this, .int x1] [(h_this, oX8 ad_this v_signCount v_houseCount v_boatCount v_workCount v_turnCost v_boatDayCost), ((ad_this 2), cI G 6 a_housePeople)] [(h_this, oX8 ad_this v_signCount v_houseCount v_boatCount v_workCount v_turnCost v_boatDayCost), ((ad_this 2), cI G 6 a_housePeople)] out := by
  refine startI (cc := cX8_peopleOf) (maxL := 2) (by decide) rfl (Nat.le_of_ble_eq_true rfl) ?_
  intro p e s m args below meth c A Q hx hb hml hts hown hc hA hret ls H locs hl hW
  have hown : s.vm.findClass RX8 = some m.cls := hown
  have hg : ∀ w ∈ GOODS, w.before _ s = true := fun w h => hts w (List.mem_cons_of_mem _ h)
  have hl : lv_has ls 2 [(0, .ref h_this), (1, .int x1)] := hl
  rw [F_X8_peopleOf] at hF
  refine lv_aload_n hx hb dX8_peopleOf_0 rfl (lv_at hl 0 rfl) ?_
  refine va_get (D := G.1) (ci := 7) (v := .ref ((ad_this 2))) (C := RX8) (T := TX8) (N := 13) hx hb hg hu_X8 hown hc.1 hW.1 0 rfl rfl 2 (by decide) (hg _ wd_1_71) (fun _ h9 => h9) rfl dX8_peopleOf_1 ?_
  refine lv_iload_n hx hb dX8_peopleOf_4 rfl (lv_at hl 1 rfl) ?_
  obtain ⟨q5, c_5, hF⟩ := bd_el hF
  refine wcI (ws' := [(h_this, oX8 ad_this v_signCount v_houseCount v_boatCount v_workCount v_turnCost v_boatDayCost), ((ad_this 2), cI G 6 a_housePeople)]) (wc := [((ad_this 2), cI G 6 a_housePeople)]) (wr := [(h_this, oX8 ad_this v_signCount v_houseCount v_boatCount v_workCount v_turnCost v_boatDayCost)]) (w1 := [((ad_this 2), cI G 6 a_housePeople)]) (va_runS (As := [.ref ((ad_this 2)), .int x1]) (rest := []) ⟨hx, hb, hml, hown, hg⟩ (c_X4_at l G x1 6 ((ad_this 2)) a_housePeople q5 c_5 H.size) (va_cwS 2 hg (gS wd_2_161 wd_2_37 wd_1_14 wd_2_38) rfl rfl rfl hdS_X4_at ⟨(Nat.le_of_ble_eq_true rfl), (Nat.le_of_ble_eq_true rfl)⟩) (preS hc hW [1] rfl (by decide)) rfl rfl hl.1 rfl (lv_room (Nat.le_of_ble_eq_true rfl)) dX8_peopleOf_5 ⟨Nat.zero_le _, Nat.zero_le _⟩) hA hW [1] [0] [0, 1] rfl rfl (by decide) (by decide) rfl (by decide) (fun H locs hW => ?_)
  obtain rfl := Option.some.inj hF
  exact hret _ _ _ _ hW dX8_peopleOf_8
theorem dX8_peopleWithin_0 : decode cX8_peopleWithin 0 = .ok (.iconst 0, 1) := by decide +kernel
theorem dX8_peopleWithin_1 : decode cX8_peopleWithin 1 = .ok (.istore_n 2, 1) := by decide +kernel
theorem dX8_peopleWithin_2 : decode cX8_peopleWithin 2 = .ok (.iconst 0, 1) := by decide +kernel
theorem dX8_peopleWithin_3 : decode cX8_peopleWithin 3 = .ok (.istore_n 3, 1) := by decide +kernel
theorem dX8_peopleWithin_4 : decode cX8_peopleWithin 4 = .ok (.iload_n 3, 1) := by decide +kernel
theorem dX8_peopleWithin_5 : decode cX8_peopleWithin 5 = .ok (.aload_n 0, 1) := by decide +kernel
theorem dX8_peopleWithin_6 : decode cX8_peopleWithin 6 = .ok (.getfield 70, 3) := by decide +kernel
theorem dX8_peopleWithin_9 : decode cX8_peopleWithin 9 = .ok (.if_icmp .ge 29, 3) := by decide +kernel
theorem dX8_peopleWithin_12 : decode cX8_peopleWithin 12 = .ok (.aload_n 0, 1) := by decide +kernel
theorem dX8_peopleWithin_13 : decode cX8_peopleWithin 13 = .ok (.getfield 21, 3) := by decide +kernel
theorem dX8_peopleWithin_16 : decode cX8_peopleWithin 16 = .ok (.iload_n 3, 1) := by decide +kernel
theorem dX8_peopleWithin_17 : decode cX8_peopleWithin 17 = .ok (.invokestatic 104, 3) := by decide +kernel
theorem dX8_peopleWithin_20 : decode cX8_peopleWithin 20 = .ok (.iload_n 1, 1) := by decide +kernel
theorem dX8_peopleWithin_21 : decode cX8_peopleWithin 21 = .ok (.if_icmp .gt 11, 3) := by decide +kernel
theorem dX8_peopleWithin_24 : decode cX8_peopleWithin 24 = .ok (.iload_n 2, 1) := by decide +kernel
theorem dX8_peopleWithin_25 : decode cX8_peopleWithin 25 = .ok (.aload_n 0, 1) := by decide +kernel
theorem dX8_peopleWithin_26 : decode cX8_peopleWithin 26 = .ok (.iload_n 3, 1) := by decide +kernel
theorem dX8_peopleWithin_27 : decode cX8_peopleWithin 27 = .ok (.invokevirtual 119, 3) := by decide +kernel
theorem dX8_peopleWithin_30 : decode cX8_peopleWithin 30 = .ok (.iadd, 1) := by decide +kernel
theorem dX8_peopleWithin_31 : decode cX8_peopleWithin 31 = .ok (.istore_n 2, 1) := by decide +kernel
theorem dX8_peopleWithin_32 : decode cX8_peopleWithin 32 = .ok (.iinc 3 1, 3) := by decide +kernel
theorem dX8_peopleWithin_35 : decode cX8_peopleWithin 35 = .ok (.goto (-31), 3) := by decide +kernel
theorem dX8_peopleWithin_38 : decode cX8_peopleWithin 38 = .ok (.iload_n 2, 1) := by decide +kernel
theorem dX8_peopleWithin_39 : decode cX8_peopleWithin 39 = .ok (.ireturn, 1) := by decide +kernel
def L_X8_peopleWithin_4 (x1 : Int32) (v_houseCount : Int32) (a_houseMinutes : Nat → Int32) (a_housePeople : Nat → Int32)  : Nat → Int32 → Int32 → Option (Int32)
  | 0, _, _ => none
  | n + 1, x2_4, x3_4 => (if v_houseCount ≤ x3_4 then some (x2_4) else (F_X4_at x3_4 6 a_houseMinutes).bind (fun q17 => jn (fun (x2_32 : Int32) => L_X8_peopleWithin_4 x1 v_houseCount a_houseMinutes a_housePeople n x2_32 ((x3_4 + 1))) (fun k_32 => (if x1 < q17 then k_32 x2_4 else (F_X8_peopleOf x3_4 a_housePeople).bind (fun q27 => k_32 ((x2_4 + q27)))))))
def F_X8_peopleWithin (x1 : Int32) (v_houseCount : Int32) (a_houseMinutes : Nat → Int32) (a_housePeople : Nat → Int32) : Option (Int32) := L_X8_peopleWithin_4 x1 v_houseCount a_houseMinutes a_housePeople 5000 0 0
theorem hdV_X8_peopleWithin : yX8_peopleWithin.cls = RX8 ∧ yX8_peopleWithin.cls ≠ "java/lang/invoke/MethodHandle" ∧ yX8_peopleWithin.cls ≠ "java/lang/invoke/VarHandle" ∧ (parseMethodDescriptor yX8_peopleWithin.desc).map (fun d => d.parameters.length) = some 1 := by decide +kernel
set_option maxHeartbeats 4000000 in
set_option maxRecDepth 100000 in
theorem c_X8_peopleWithin (l : Launch) (G : GG) (x1 : Int32) (h_this : Nat) (ad_this : Nat → Nat) (v_signCount : Int32) (v_houseCount : Int32) (v_boatCount : Int32) (v_workCount : Int32) (v_turnCost : Int32) (v_boatDayCost : Int32) (a_houseMinutes : Nat → Int32) (a_housePeople : Nat → Int32) (out : Int32) (hF : F_X8_peopleWithin x1 v_houseCount a_houseMinutes a_housePeople = some out) : CtrI l yX8_peopleWithin (WS yX8_peopleWithin cX8_peopleWithin 4 (some .int)) { frames := 2, cells := 0, slots := 0, locals := 42 } G [.ref h_this, .int x1] [(h_this, oX8 ad_this v_signCount v_houseCount v_boatCount v_workCount v_turnCost v_boatDayCost), ((ad_this 3), cI G 6 a_houseMinutes), ((ad_this 2), cI G 6 a_housePeople)] [(h_this, oX8 ad_this v_signCount v_houseCount v_boatCount v_workCount v_turnCost v_boatDayCost), ((ad_this 3), cI G 6 a_houseMinutes), ((ad_this 2), cI G 6 a_housePeople)] out := by
  refine startI (cc := cX8_peopleWithin) (maxL := 4) (by decide) rfl (Nat.le_of_ble_eq_true rfl) ?_
  intro p e s m args below meth c A Q hx hb hml hts hown hc hA hret ls H locs hl hW
  have hown : s.vm.findClass RX8 = some m.cls := hown
  have hg : ∀ w ∈ GOODS, w.before _ s = true := fun w h => hts w (List.mem_cons_of_mem _ h)
  have hl : lv_has ls 4 [(0, .ref h_this), (1, .int x1)] := hl
  rw [F_X8_peopleWithin] at hF
  refine lv_iconst (v := 0) hx hb dX8_peopleWithin_0 (by decide) ?_
  refine lv_istore_n (lv' := [(2, .int 0), (0, .ref h_this), (1, .int x1)]) hx hb dX8_peopleWithin_1 rfl hl (by decide) rfl (fun ls hl => ?_)
  refine lv_iconst (v := 0) hx hb dX8_peopleWithin_2 (by decide) ?_
  refine lv_istore_n (lv' := [(3, .int 0), (2, .int 0), (0, .ref h_this), (1, .int x1)]) hx hb dX8_peopleWithin_3 rfl hl (by decide) rfl (fun ls hl => ?_)
  have L_4 : ∀ (n : Nat) (x2_4 : Int32) (x3_4 : Int32) (ls : Array Slot) (H : Heap) (locs : List Loc), L_X8_peopleWithin_4 x1 v_houseCount a_houseMinutes a_housePeople n x2_4 x3_4 = some out → lv_has ls 4 [(0, .ref h_this), (1, .int x1), (2, .int x2_4), (3, .int x3_4)] → Wd G A s.heap [(h_this, oX8 ad_this v_signCount v_houseCount v_boatCount v_workCount v_turnCost v_boatDayCost), ((ad_this 3), cI G 6 a_houseMinutes), ((ad_this 2), cI G 6 a_housePeople)] H locs → W p l e ({ frames := 2, cells := 0, slots := 0, locals := 42 } : Room) s m args below meth c H locs 0 0 Q (F0 m 4 ls []) := by
    intro n
    induction n with
    | zero => intro x2_4 x3_4 ls H locs hF hl hW; have h0 : none = some out := hF; cases h0
    | succ n ih =>
      intro x2_4 x3_4 ls H locs hF hl hW
      rw [L_X8_peopleWithin_4] at hF
      refine lv_iload_n hx hb dX8_peopleWithin_4 rfl (lv_at hl 3 rfl) ?_
      refine lv_aload_n hx hb dX8_peopleWithin_5 rfl (lv_at hl 0 rfl) ?_
      refine va_get (D := G.1) (ci := 7) (v := .int v_houseCount) (C := RX8) (T := TX8) (N := 13) hx hb hg hu_X8 hown hc.1 hW.1 0 rfl rfl 8 (by decide) (hg _ wd_1_78) (fun _ h9 => h9) rfl dX8_peopleWithin_6 ?_
      refine lv_icmp_ge (tgt := 38) hx hb dX8_peopleWithin_9 (by decide) (fun c_9 => ?_) (fun c_9 => ?_)
      · have hF := ite_t hF c_9
        refine lv_iload_n hx hb dX8_peopleWithin_38 rfl (lv_at hl 2 rfl) ?_
        obtain rfl := Option.some.inj hF
        exact hret _ _ _ _ hW dX8_peopleWithin_39
      · have hF := ite_f hF c_9
        refine lv_aload_n hx hb dX8_peopleWithin_12 rfl (lv_at hl 0 rfl) ?_
        refine va_get (D := G.1) (ci := 7) (v := .ref ((ad_this 3))) (C := RX8) (T := TX8) (N := 13) hx hb hg hu_X8 hown hc.1 hW.1 0 rfl rfl 3 (by decide) (hg _ wd_1_72) (fun _ h9 => h9) rfl dX8_peopleWithin_13 ?_
        refine lv_iload_n hx hb dX8_peopleWithin_16 rfl (lv_at hl 3 rfl) ?_
        obtain ⟨q17, c_17, hF⟩ := bd_el hF
        refine wcI (ws' := [(h_this, oX8 ad_this v_signCount v_houseCount v_boatCount v_workCount v_turnCost v_boatDayCost), ((ad_this 3), cI G 6 a_houseMinutes), ((ad_this 2), cI G 6 a_housePeople)]) (wc := [((ad_this 3), cI G 6 a_houseMinutes)]) (wr := [(h_this, oX8 ad_this v_signCount v_houseCount v_boatCount v_workCount v_turnCost v_boatDayCost), ((ad_this 2), cI G 6 a_housePeople)]) (w1 := [((ad_this 3), cI G 6 a_houseMinutes)]) (va_runS (As := [.ref ((ad_this 3)), .int x3_4]) (rest := []) ⟨hx, hb, hml, hown, hg⟩ (c_X4_at l G x3_4 6 ((ad_this 3)) a_houseMinutes q17 c_17 H.size) (va_cwS 2 hg (gS wd_2_161 wd_2_37 wd_1_14 wd_2_38) rfl rfl rfl hdS_X4_at ⟨(Nat.le_of_ble_eq_true rfl), (Nat.le_of_ble_eq_true rfl)⟩) (preS hc hW [1] rfl (by decide)) rfl rfl hl.1 rfl (lv_room (Nat.le_of_ble_eq_true rfl)) dX8_peopleWithin_17 ⟨Nat.zero_le _, Nat.zero_le _⟩) hA hW [1] [0, 2] [0, 2, 1] rfl rfl (by decide) (by decide) rfl (by decide) (fun H locs hW => ?_)
        refine lv_iload_n hx hb dX8_peopleWithin_20 rfl (lv_at hl 1 rfl) ?_
        obtain ⟨k_32, e_32, hF⟩ := jn_el hF
        have J_32 : ∀ (x2_32 : Int32) (ls : Array Slot) (H : Heap) (locs : List Loc), k_32 x2_32 = some out → lv_has ls 4 [(0, .ref h_this), (1, .int x1), (2, .int x2_32), (3, .int x3_4)] → Wd G A s.heap [(h_this, oX8 ad_this v_signCount v_houseCount v_boatCount v_workCount v_turnCost v_boatDayCost), ((ad_this 3), cI G 6 a_houseMinutes), ((ad_this 2), cI G 6 a_housePeople)] H locs → W p l e ({ frames := 2, cells := 0, slots := 0, locals := 42 } : Room) s m args below meth c H locs 0 0 Q (F0 m 32 ls []) := by
          intro x2_32 ls H locs hF hl hW
          rw [e_32] at hF
          dsimp only at hF
          refine lv_iinc (v := (x3_4 + 1)) (lv' := [(3, .int ((x3_4 + 1))), (0, .ref h_this), (1, .int x1), (2, .int x2_32)]) hx hb dX8_peopleWithin_32 hl (k := 3) rfl rfl (by decide) rfl (fun ls hl => ?_)
          refine lv_goto (tgt := 4) hx hb dX8_peopleWithin_35 (by decide) ?_
          exact ih x2_32 ((x3_4 + 1)) _ _ _ hF (lv_sub hl [1, 2, 3, 0] rfl) hW
        refine lv_icmp_gt (tgt := 32) hx hb dX8_peopleWithin_21 (by decide) (fun c_21 => ?_) (fun c_21 => ?_)
        · have hF := ite_t hF c_21
          exact J_32 x2_4 _ _ _ hF (lv_sub hl [0, 1, 2, 3] rfl) hW
        · have hF := ite_f hF c_21
          refine lv_iload_n hx hb dX8_peopleWithin_24 rfl (lv_at hl 2 rfl) ?_
          refine lv_aload_n hx hb dX8_peopleWithin_25 rfl (lv_at hl 0 rfl) ?_
          refine lv_iload_n hx hb dX8_peopleWithin_26 rfl (lv_at hl 3 rfl) ?_
          obtain ⟨q27, c_27, hF⟩ := bd_el hF
          refine wcI (ws' := [(h_this, oX8 ad_this v_signCount v_houseCount v_boatCount v_workCount v_turnCost v_boatDayCost), ((ad_this 3), cI G 6 a_houseMinutes), ((ad_this 2), cI G 6 a_housePeople)]) (wc := [(h_this, oX8 ad_this v_signCount v_houseCount v_boatCount v_workCount v_turnCost v_boatDayCost), ((ad_this 2), cI G 6 a_housePeople)]) (wr := [((ad_this 3), cI G 6 a_houseMinutes)]) (w1 := [(h_this, oX8 ad_this v_signCount v_houseCount v_boatCount v_workCount v_turnCost v_boatDayCost), ((ad_this 2), cI G 6 a_housePeople)]) (va_runV (As := [.int x3_4]) (rest := [.int x2_4]) ⟨hx, hb, hml, hown, hg⟩ (c_X8_peopleOf l G x3_4 h_this ad_this v_signCount v_houseCount v_boatCount v_workCount v_turnCost v_boatDayCost a_housePeople q27 c_27 H.size) (cwV 1 hg (gV wd_3_117 wd_3_118 wd_3_119 wd_1_4 wd_3_120) rfl rfl rfl hdV_X8_peopleOf ⟨(Nat.le_of_ble_eq_true rfl), (Nat.le_of_ble_eq_true rfl)⟩) (preV hc hW [0, 2] rfl (by decide) rfl rfl) rfl rfl hl.1 rfl (lv_room (Nat.le_of_ble_eq_true rfl)) dX8_peopleWithin_27 ⟨Nat.zero_le _, Nat.zero_le _⟩) hA hW [0, 2] [1] [1, 0, 2] rfl rfl (by decide) (by decide) rfl (by decide) (fun H locs hW => ?_)
          refine lv_iadd hx hb dX8_peopleWithin_30 ?_
          refine lv_istore_n (lv' := [(2, .int ((x2_4 + q27))), (0, .ref h_this), (1, .int x1), (3, .int x3_4)]) hx hb dX8_peopleWithin_31 rfl hl (by decide) rfl (fun ls hl => ?_)
          exact J_32 ((x2_4 + q27)) _ _ _ hF (lv_sub hl [1, 2, 0, 3] rfl) hW
  exact L_4 5000 0 0 _ _ _ hF (lv_sub hl [2, 3, 1, 0] rfl) hW
theorem dX8_people_0 : decode cX8_people 0 = .ok (.aload_n 0, 1) := by decide +kernel
theorem dX8_people_1 : decode cX8_people 1 = .ok (.bipush 60, 2) := by decide +kernel
theorem dX8_people_3 : decode cX8_people 3 = .ok (.invokevirtual 116, 3) := by decide +kernel
theorem dX8_people_6 : decode cX8_people 6 = .ok (.ireturn, 1) := by decide +kernel
def F_X8_people (v_houseCount : Int32) (a_houseMinutes : Nat → Int32) (a_housePeople : Nat → Int32) : Option (Int32) := (F_X8_peopleWithin 60 v_houseCount a_houseMinutes a_housePeople).bind (fun q3 => some (q3))
theorem hdV_X8_people : yX8_people.cls = RX8 ∧ yX8_people.cls ≠ "java/lang/invoke/MethodHandle" ∧ yX8_people.cls ≠ "java/lang/invoke/VarHandle" ∧ (parseMethodDescriptor yX8_people.desc).map (fun d => d.parameters.length) = some 0 := by decide +kernel
set_option maxHeartbeats 4000000 in
set_option maxRecDepth 100000 in
theorem c_X8_people (l : Launch) (G : GG) (h_this : Nat) (ad_this : Nat → Nat) (v_signCount : Int32) (v_houseCount : Int32) (v_boatCount : Int32) (v_workCount : Int32) (v_turnCost : Int32) (v_boatDayCost : Int32) (a_houseMinutes : Nat → Int32) (a_housePeople : Nat → Int32) (out : Int32) (hF : F_X8_people v_houseCount a_houseMinutes a_housePeople = some out) : CtrI l yX8_people (WS yX8_people cX8_people 1 (some .int)) { frames := 3, cells := 0, slots := 0, locals := 65 } G [.ref h_this] [(h_this, oX8 ad_this v_signCount v_houseCount v_boatCount v_workCount v_turnCost v_boatDayCost), ((ad_this 3), cI G 6 a_houseMinutes), ((ad_this 2), cI G 6 a_housePeople)] [(h_this, oX8 ad_this v_signCount v_houseCount v_boatCount v_workCount v_turnCost v_boatDayCost), ((ad_this 3), cI G 6 a_houseMinutes), ((ad_this 2), cI G 6 a_housePeople)] out := by
  refine startI (cc := cX8_people) (maxL := 1) (by decide) rfl (Nat.le_of_ble_eq_true rfl) ?_
  intro p e s m args below meth c A Q hx hb hml hts hown hc hA hret ls H locs hl hW
  have hown : s.vm.findClass RX8 = some m.cls := hown
  have hg : ∀ w ∈ GOODS, w.before _ s = true := fun w h => hts w (List.mem_cons_of_mem _ h)
  have hl : lv_has ls 1 [(0, .ref h_this)] := hl
  rw [F_X8_people] at hF
  refine lv_aload_n hx hb dX8_people_0 rfl (lv_at hl 0 rfl) ?_
  refine lv_bipush (v := 60) hx hb dX8_people_1 (by decide) ?_
  obtain ⟨q3, c_3, hF⟩ := bd_el hF
  refine wcI (ws' := [(h_this, oX8 ad_this v_signCount v_houseCount v_boatCount v_workCount v_turnCost v_boatDayCost), ((ad_this 3), cI G 6 a_houseMinutes), ((ad_this 2), cI G 6 a_housePeople)]) (wc := [(h_this, oX8 ad_this v_signCount v_houseCount v_boatCount v_workCount v_turnCost v_boatDayCost), ((ad_this 3), cI G 6 a_houseMinutes), ((ad_this 2), cI G 6 a_housePeople)]) (wr := []) (w1 := [(h_this, oX8 ad_this v_signCount v_houseCount v_boatCount v_workCount v_turnCost v_boatDayCost), ((ad_this 3), cI G 6 a_houseMinutes), ((ad_this 2), cI G 6 a_housePeople)]) (va_runV (As := [.int 60]) (rest := []) ⟨hx, hb, hml, hown, hg⟩ (c_X8_peopleWithin l G 60 h_this ad_this v_signCount v_houseCount v_boatCount v_workCount v_turnCost v_boatDayCost a_houseMinutes a_housePeople q3 c_3 H.size) (cwV 1 hg (gV wd_4_15 wd_3_114 wd_3_115 wd_1_4 wd_3_116) rfl rfl rfl hdV_X8_peopleWithin ⟨(Nat.le_of_ble_eq_true rfl), (Nat.le_of_ble_eq_true rfl)⟩) (preV hc hW [0, 1, 2] rfl (by decide) rfl rfl) rfl rfl hl.1 rfl (lv_room (Nat.le_of_ble_eq_true rfl)) dX8_people_3 ⟨Nat.zero_le _, Nat.zero_le _⟩) hA hW [0, 1, 2] [] [0, 1, 2] rfl rfl (by decide) (by decide) rfl (by decide) (fun H locs hW => ?_)
  obtain rfl := Option.some.inj hF
  exact hret _ _ _ _ hW dX8_people_6
theorem dX8_roomOf_0 : decode cX8_roomOf 0 = .ok (.aload_n 0, 1) := by decide +kernel
theorem dX8_roomOf_1 : decode cX8_roomOf 1 = .ok (.getfield 24, 3) := by decide +kernel
theorem dX8_roomOf_4 : decode cX8_roomOf 4 = .ok (.iload_n 1, 1) := by decide +kernel
theorem dX8_roomOf_5 : decode cX8_roomOf 5 = .ok (.invokestatic 104, 3) := by decide +kernel
theorem dX8_roomOf_8 : decode cX8_roomOf 8 = .ok (.ireturn, 1) := by decide +kernel
def F_X8_roomOf (x1 : Int32) (a_boatRoom : Nat → Int32) : Option (Int32) := (F_X4_at x1 4 a_boatRoom).bind (fun q5 => some (q5))
theorem hdV_X8_roomOf : yX8_roomOf.cls = RX8 ∧ yX8_roomOf.cls ≠ "java/lang/invoke/MethodHandle" ∧ yX8_roomOf.cls ≠ "java/lang/invoke/VarHandle" ∧ (parseMethodDescriptor yX8_roomOf.desc).map (fun d => d.parameters.length) = some 1 := by decide +kernel
set_option maxHeartbeats 4000000 in
set_option maxRecDepth 100000 in
theorem c_X8_roomOf (l : Launch) (G : GG) (x1 : Int32) (h_this : Nat) (ad_this : Nat → Nat) (v_signCount : Int32) (v_houseCount : Int32) (v_boatCount : Int32) (v_workCount : Int32) (v_turnCost : Int32) (v_boatDayCost : Int32) (a_boatRoom : Nat → Int32) (out : Int32) (hF : F_X8_roomOf x1 a_boatRoom = some out) : CtrI l yX8_roomOf (WS yX8_roomOf cX8_roomOf 2 (some .int)) { frames := 1, cells := 0, slots := 0, locals := 21 } G [.ref h_this, .int x1] [(h_this, oX8 ad_this v_signCount v_houseCount v_boatCount v_workCount v_turnCost v_boatDayCost), ((ad_this 4), cI G 4 a_boatRoom)] [(h_this, oX8 ad_this v_signCount v_houseCount v_boatCount v_workCount v_turnCost v_boatDayCost), ((ad_this 4), cI G 4 a_boatRoom)] out := by
  refine startI (cc := cX8_roomOf) (maxL := 2) (by decide) rfl (Nat.le_of_ble_eq_true rfl) ?_
  intro p e s m args below meth c A Q hx hb hml hts hown hc hA hret ls H locs hl hW
  have hown : s.vm.findClass RX8 = some m.cls := hown
  have hg : ∀ w ∈ GOODS, w.before _ s = true := fun w h => hts w (List.mem_cons_of_mem _ h)
  have hl : lv_has ls 2 [(0, .ref h_this), (1, .int x1)] := hl
  rw [F_X8_roomOf] at hF
  refine lv_aload_n hx hb dX8_roomOf_0 rfl (lv_at hl 0 rfl) ?_
  refine va_get (D := G.1) (ci := 7) (v := .ref ((ad_this 4))) (C := RX8) (T := TX8) (N := 13) hx hb hg hu_X8 hown hc.1 hW.1 0 rfl rfl 4 (by decide) (hg _ wd_1_73) (fun _ h9 => h9) rfl dX8_roomOf_1 ?_
  refine lv_iload_n hx hb dX8_roomOf_4 rfl (lv_at hl 1 rfl) ?_
  obtain ⟨q5, c_5, hF⟩ := bd_el hF
  refine wcI (ws' := [(h_this, oX8 ad_this v_signCount v_houseCount v_boatCount v_workCount v_turnCost v_boatDayCost), ((ad_this 4), cI G 4 a_boatRoom)]) (wc := [((ad_this 4), cI G 4 a_boatRoom)]) (wr := [(h_this, oX8 ad_this v_signCount v_houseCount v_boatCount v_workCount v_turnCost v_boatDayCost)]) (w1 := [((ad_this 4), cI G 4 a_boatRoom)]) (va_runS (As := [.ref ((ad_this 4)), .int x1]) (rest := []) ⟨hx, hb, hml, hown, hg⟩ (c_X4_at l G x1 4 ((ad_this 4)) a_boatRoom q5 c_5 H.size) (va_cwS 2 hg (gS wd_2_161 wd_2_37 wd_1_14 wd_2_38) rfl rfl rfl hdS_X4_at ⟨(Nat.le_of_ble_eq_true rfl), (Nat.le_of_ble_eq_true rfl)⟩) (preS hc hW [1] rfl (by decide)) rfl rfl hl.1 rfl (lv_room (Nat.le_of_ble_eq_true rfl)) dX8_roomOf_5 ⟨Nat.zero_le _, Nat.zero_le _⟩) hA hW [1] [0] [0, 1] rfl rfl (by decide) (by decide) rfl (by decide) (fun H locs hW => ?_)
  obtain rfl := Option.some.inj hF
  exact hret _ _ _ _ hW dX8_roomOf_8
theorem dX8_roomInAll_0 : decode cX8_roomInAll 0 = .ok (.iconst 0, 1) := by decide +kernel
theorem dX8_roomInAll_1 : decode cX8_roomInAll 1 = .ok (.istore_n 1, 1) := by decide +kernel
theorem dX8_roomInAll_2 : decode cX8_roomInAll 2 = .ok (.iconst 0, 1) := by decide +kernel
theorem dX8_roomInAll_3 : decode cX8_roomInAll 3 = .ok (.istore_n 2, 1) := by decide +kernel
theorem dX8_roomInAll_4 : decode cX8_roomInAll 4 = .ok (.iload_n 2, 1) := by decide +kernel
theorem dX8_roomInAll_5 : decode cX8_roomInAll 5 = .ok (.aload_n 0, 1) := by decide +kernel
theorem dX8_roomInAll_6 : decode cX8_roomInAll 6 = .ok (.getfield 73, 3) := by decide +kernel
theorem dX8_roomInAll_9 : decode cX8_roomInAll 9 = .ok (.if_icmp .ge 17, 3) := by decide +kernel
theorem dX8_roomInAll_12 : decode cX8_roomInAll 12 = .ok (.iload_n 1, 1) := by decide +kernel
theorem dX8_roomInAll_13 : decode cX8_roomInAll 13 = .ok (.aload_n 0, 1) := by decide +kernel
theorem dX8_roomInAll_14 : decode cX8_roomInAll 14 = .ok (.iload_n 2, 1) := by decide +kernel
theorem dX8_roomInAll_15 : decode cX8_roomInAll 15 = .ok (.invokevirtual 122, 3) := by decide +kernel
theorem dX8_roomInAll_18 : decode cX8_roomInAll 18 = .ok (.iadd, 1) := by decide +kernel
theorem dX8_roomInAll_19 : decode cX8_roomInAll 19 = .ok (.istore_n 1, 1) := by decide +kernel
theorem dX8_roomInAll_20 : decode cX8_roomInAll 20 = .ok (.iinc 2 1, 3) := by decide +kernel
theorem dX8_roomInAll_23 : decode cX8_roomInAll 23 = .ok (.goto (-19), 3) := by decide +kernel
theorem dX8_roomInAll_26 : decode cX8_roomInAll 26 = .ok (.iload_n 1, 1) := by decide +kernel
theorem dX8_roomInAll_27 : decode cX8_roomInAll 27 = .ok (.ireturn, 1) := by decide +kernel
def L_X8_roomInAll_4 (v_boatCount : Int32) (a_boatRoom : Nat → Int32)  : Nat → Int32 → Int32 → Option (Int32)
  | 0, _, _ => none
  | n + 1, x1_4, x2_4 => (if v_boatCount ≤ x2_4 then some (x1_4) else (F_X8_roomOf x2_4 a_boatRoom).bind (fun q15 => L_X8_roomInAll_4 v_boatCount a_boatRoom n ((x1_4 + q15)) ((x2_4 + 1))))
def F_X8_roomInAll (v_boatCount : Int32) (a_boatRoom : Nat → Int32) : Option (Int32) := L_X8_roomInAll_4 v_boatCount a_boatRoom 5000 0 0
theorem hdV_X8_roomInAll : yX8_roomInAll.cls = RX8 ∧ yX8_roomInAll.cls ≠ "java/lang/invoke/MethodHandle" ∧ yX8_roomInAll.cls ≠ "java/lang/invoke/VarHandle" ∧ (parseMethodDescriptor yX8_roomInAll.desc).map (fun d => d.parameters.length) = some 0 := by decide +kernel
set_option maxHeartbeats 4000000 in
set_option maxRecDepth 100000 in
theorem c_X8_roomInAll (l : Launch) (G : GG) (h_this : Nat) (ad_this : Nat → Nat) (v_signCount : Int32) (v_houseCount : Int32) (v_boatCount : Int32) (v_workCount : Int32) (v_turnCost : Int32) (v_boatDayCost : Int32) (a_boatRoom : Nat → Int32) (out : Int32) (hF : F_X8_roomInAll v_boatCount a_boatRoom = some out) : CtrI l yX8_roomInAll (WS yX8_roomInAll cX8_roomInAll 3 (some .int)) { frames := 2, cells := 0, slots := 0, locals := 42 } G [.ref h_this] [(h_this, oX8 ad_this v_signCount v_houseCount v_boatCount v_workCount v_turnCost v_boatDayCost), ((ad_this 4), cI G 4 a_boatRoom)] [(h_this, oX8 ad_this v_signCount v_houseCount v_boatCount v_workCount v_turnCost v_boatDayCost), ((ad_this 4), cI G 4 a_boatRoom)] out := by
  refine startI (cc := cX8_roomInAll) (maxL := 3) (by decide) rfl (Nat.le_of_ble_eq_true rfl) ?_
  intro p e s m args below meth c A Q hx hb hml hts hown hc hA hret ls H locs hl hW
  have hown : s.vm.findClass RX8 = some m.cls := hown
  have hg : ∀ w ∈ GOODS, w.before _ s = true := fun w h => hts w (List.mem_cons_of_mem _ h)
  have hl : lv_has ls 3 [(0, .ref h_this)] := hl
  rw [F_X8_roomInAll] at hF
  refine lv_iconst (v := 0) hx hb dX8_roomInAll_0 (by decide) ?_
  refine lv_istore_n (lv' := [(1, .int 0), (0, .ref h_this)]) hx hb dX8_roomInAll_1 rfl hl (by decide) rfl (fun ls hl => ?_)
  refine lv_iconst (v := 0) hx hb dX8_roomInAll_2 (by decide) ?_
  refine lv_istore_n (lv' := [(2, .int 0), (1, .int 0), (0, .ref h_this)]) hx hb dX8_roomInAll_3 rfl hl (by decide) rfl (fun ls hl => ?_)
  have L_4 : ∀ (n : Nat) (x1_4 : Int32) (x2_4 : Int32) (ls : Array Slot) (H : Heap) (locs : List Loc), L_X8_roomInAll_4 v_boatCount a_boatRoom n x1_4 x2_4 = some out → lv_has ls 3 [(0, .ref h_this), (1, .int x1_4), (2, .int x2_4)] → Wd G A s.heap [(h_this, oX8 ad_this v_signCount v_houseCount v_boatCount v_workCount v_turnCost v_boatDayCost), ((ad_this 4), cI G 4 a_boatRoom)] H locs → W p l e ({ frames := 2, cells := 0, slots := 0, locals := 42 } : Room) s m args below meth c H locs 0 0 Q (F0 m 4 ls []) := by
    intro n
    induction n with
    | zero => intro x1_4 x2_4 ls H locs hF hl hW; have h0 : none = some out := hF; cases h0
    | succ n ih =>
      intro x1_4 x2_4 ls H locs hF hl hW
      rw [L_X8_roomInAll_4] at hF
      refine lv_iload_n hx hb dX8_roomInAll_4 rfl (lv_at hl 2 rfl) ?_
      refine lv_aload_n hx hb dX8_roomInAll_5 rfl (lv_at hl 0 rfl) ?_
      refine va_get (D := G.1) (ci := 7) (v := .int v_boatCount) (C := RX8) (T := TX8) (N := 13) hx hb hg hu_X8 hown hc.1 hW.1 0 rfl rfl 9 (by decide) (hg _ wd_1_82) (fun _ h9 => h9) rfl dX8_roomInAll_6 ?_
      refine lv_icmp_ge (tgt := 26) hx hb dX8_roomInAll_9 (by decide) (fun c_9 => ?_) (fun c_9 => ?_)
      · have hF := ite_t hF c_9
        refine lv_iload_n hx hb dX8_roomInAll_26 rfl (lv_at hl 1 rfl) ?_
        obtain rfl := Option.some.inj hF
        exact hret _ _ _ _ hW dX8_roomInAll_27
      · have hF := ite_f hF c_9
        refine lv_iload_n hx hb dX8_roomInAll_12 rfl (lv_at hl 1 rfl) ?_
        refine lv_aload_n hx hb dX8_roomInAll_13 rfl (lv_at hl 0 rfl) ?_
        refine lv_iload_n hx hb dX8_roomInAll_14 rfl (lv_at hl 2 rfl) ?_
        obtain ⟨q15, c_15, hF⟩ := bd_el hF
        refine wcI (ws' := [(h_this, oX8 ad_this v_signCount v_houseCount v_boatCount v_workCount v_turnCost v_boatDayCost), ((ad_this 4), cI G 4 a_boatRoom)]) (wc := [(h_this, oX8 ad_this v_signCount v_houseCount v_boatCount v_workCount v_turnCost v_boatDayCost), ((ad_this 4), cI G 4 a_boatRoom)]) (wr := []) (w1 := [(h_this, oX8 ad_this v_signCount v_houseCount v_boatCount v_workCount v_turnCost v_boatDayCost), ((ad_this 4), cI G 4 a_boatRoom)]) (va_runV (As := [.int x2_4]) (rest := [.int x1_4]) ⟨hx, hb, hml, hown, hg⟩ (c_X8_roomOf l G x2_4 h_this ad_this v_signCount v_houseCount v_boatCount v_workCount v_turnCost v_boatDayCost a_boatRoom q15 c_15 H.size) (cwV 1 hg (gV wd_3_125 wd_3_126 wd_3_127 wd_1_4 wd_3_128) rfl rfl rfl hdV_X8_roomOf ⟨(Nat.le_of_ble_eq_true rfl), (Nat.le_of_ble_eq_true rfl)⟩) (preV hc hW [0, 1] rfl (by decide) rfl rfl) rfl rfl hl.1 rfl (lv_room (Nat.le_of_ble_eq_true rfl)) dX8_roomInAll_15 ⟨Nat.zero_le _, Nat.zero_le _⟩) hA hW [0, 1] [] [0, 1] rfl rfl (by decide) (by decide) rfl (by decide) (fun H locs hW => ?_)
        refine lv_iadd hx hb dX8_roomInAll_18 ?_
        refine lv_istore_n (lv' := [(1, .int ((x1_4 + q15))), (0, .ref h_this), (2, .int x2_4)]) hx hb dX8_roomInAll_19 rfl hl (by decide) rfl (fun ls hl => ?_)
        refine lv_iinc (v := (x2_4 + 1)) (lv' := [(2, .int ((x2_4 + 1))), (1, .int ((x1_4 + q15))), (0, .ref h_this)]) hx hb dX8_roomInAll_20 hl (k := 2) rfl rfl (by decide) rfl (fun ls hl => ?_)
        refine lv_goto (tgt := 4) hx hb dX8_roomInAll_23 (by decide) ?_
        exact ih ((x1_4 + q15)) ((x2_4 + 1)) _ _ _ hF (lv_sub hl [2, 1, 0] rfl) hW
  exact L_4 5000 0 0 _ _ _ hF (lv_sub hl [2, 1, 0] rfl) hW
theorem dX8_chance_0 : decode cX8_chance 0 = .ok (.iconst 4, 1) := by decide +kernel
theorem dX8_chance_1 : decode cX8_chance 1 = .ok (.aload_n 0, 1) := by decide +kernel
theorem dX8_chance_2 : decode cX8_chance 2 = .ok (.getfield 9, 3) := by decide +kernel
theorem dX8_chance_5 : decode cX8_chance 5 = .ok (.iload_n 1, 1) := by decide +kernel
theorem dX8_chance_6 : decode cX8_chance 6 = .ok (.invokestatic 104, 3) := by decide +kernel
theorem dX8_chance_9 : decode cX8_chance 9 = .ok (.iload_n 2, 1) := by decide +kernel
theorem dX8_chance_10 : decode cX8_chance 10 = .ok (.iadd, 1) := by decide +kernel
theorem dX8_chance_11 : decode cX8_chance 11 = .ok (.invokestatic 125, 3) := by decide +kernel
theorem dX8_chance_14 : decode cX8_chance 14 = .ok (.ireturn, 1) := by decide +kernel
def F_X8_chance (x1 : Int32) (x2 : Int32) (a_lighter : Nat → Int32) : Option (Int32) := (F_X4_at x1 3 a_lighter).bind (fun q6 => some ((if (q6 + x2) < (4 : Int32) then (q6 + x2) else 4)))
theorem hdV_X8_chance : yX8_chance.cls = RX8 ∧ yX8_chance.cls ≠ "java/lang/invoke/MethodHandle" ∧ yX8_chance.cls ≠ "java/lang/invoke/VarHandle" ∧ (parseMethodDescriptor yX8_chance.desc).map (fun d => d.parameters.length) = some 2 := by decide +kernel
set_option maxHeartbeats 4000000 in
set_option maxRecDepth 100000 in
theorem c_X8_chance (l : Launch) (G : GG) (x1 : Int32) (x2 : Int32) (h_this : Nat) (ad_this : Nat → Nat) (v_signCount : Int32) (v_houseCount : Int32) (v_boatCount : Int32) (v_workCount : Int32) (v_turnCost : Int32) (v_boatDayCost : Int32) (a_lighter : Nat → Int32) (out : Int32) (hF : F_X8_chance x1 x2 a_lighter = some out) : CtrI l yX8_chance (WS yX8_chance cX8_chance 3 (some .int)) { frames := 1, cells := 0, slots := 0, locals := 24 } G [.ref h_this, .int x1, .int x2] [(h_this, oX8 ad_this v_signCount v_houseCount v_boatCount v_workCount v_turnCost v_boatDayCost), ((ad_this 0), cI G 3 a_lighter)] [(h_this, oX8 ad_this v_signCount v_houseCount v_boatCount v_workCount v_turnCost v_boatDayCost), ((ad_this 0), cI G 3 a_lighter)] out := by
  refine startI (cc := cX8_chance) (maxL := 3) (by decide) rfl (Nat.le_of_ble_eq_true rfl) ?_
  intro p e s m args below meth c A Q hx hb hml hts hown hc hA hret ls H locs hl hW
  have hown : s.vm.findClass RX8 = some m.cls := hown
  have hg : ∀ w ∈ GOODS, w.before _ s = true := fun w h => hts w (List.mem_cons_of_mem _ h)
  have hl : lv_has ls 3 [(0, .ref h_this), (1, .int x1), (2, .int x2)] := hl
  rw [F_X8_chance] at hF
  refine lv_iconst (v := 4) hx hb dX8_chance_0 (by decide) ?_
  refine lv_aload_n hx hb dX8_chance_1 rfl (lv_at hl 0 rfl) ?_
  refine va_get (D := G.1) (ci := 7) (v := .ref ((ad_this 0))) (C := RX8) (T := TX8) (N := 13) hx hb hg hu_X8 hown hc.1 hW.1 0 rfl rfl 0 (by decide) (hg _ wd_1_69) (fun _ h9 => h9) rfl dX8_chance_2 ?_
  refine lv_iload_n hx hb dX8_chance_5 rfl (lv_at hl 1 rfl) ?_
  obtain ⟨q6, c_6, hF⟩ := bd_el hF
  refine wcI (ws' := [(h_this, oX8 ad_this v_signCount v_houseCount v_boatCount v_workCount v_turnCost v_boatDayCost), ((ad_this 0), cI G 3 a_lighter)]) (wc := [((ad_this 0), cI G 3 a_lighter)]) (wr := [(h_this, oX8 ad_this v_signCount v_houseCount v_boatCount v_workCount v_turnCost v_boatDayCost)]) (w1 := [((ad_this 0), cI G 3 a_lighter)]) (va_runS (As := [.ref ((ad_this 0)), .int x1]) (rest := [.int 4]) ⟨hx, hb, hml, hown, hg⟩ (c_X4_at l G x1 3 ((ad_this 0)) a_lighter q6 c_6 H.size) (va_cwS 2 hg (gS wd_2_161 wd_2_37 wd_1_14 wd_2_38) rfl rfl rfl hdS_X4_at ⟨(Nat.le_of_ble_eq_true rfl), (Nat.le_of_ble_eq_true rfl)⟩) (preS hc hW [1] rfl (by decide)) rfl rfl hl.1 rfl (lv_room (Nat.le_of_ble_eq_true rfl)) dX8_chance_6 ⟨Nat.zero_le _, Nat.zero_le _⟩) hA hW [1] [0] [0, 1] rfl rfl (by decide) (by decide) rfl (by decide) (fun H locs hW => ?_)
  refine lv_iload_n hx hb dX8_chance_9 rfl (lv_at hl 2 rfl) ?_
  refine lv_iadd hx hb dX8_chance_10 ?_
  refine va_mmin hx hb (hml.trans hl.1.symm) hown (hg _ wd_2_239) (hg _ wd_3_0) (hg _ wd_1_16) (hg _ wd_3_1) (Nat.le_of_ble_eq_true rfl) (Nat.le_of_ble_eq_true rfl) (Nat.zero_le _) (Nat.zero_le _) dX8_chance_11 ?_
  obtain rfl := Option.some.inj hF
  exact hret _ _ _ _ hW dX8_chance_14
theorem dX8_ownChance_0 : decode cX8_ownChance 0 = .ok (.iload_n 1, 1) := by decide +kernel
theorem dX8_ownChance_1 : decode cX8_ownChance 1 = .ok (.iconst 4, 1) := by decide +kernel
theorem dX8_ownChance_2 : decode cX8_ownChance 2 = .ok (.imul, 1) := by decide +kernel
theorem dX8_ownChance_3 : decode cX8_ownChance 3 = .ok (.istore 4, 2) := by decide +kernel
theorem dX8_ownChance_5 : decode cX8_ownChance 5 = .ok (.aload_n 0, 1) := by decide +kernel
theorem dX8_ownChance_6 : decode cX8_ownChance 6 = .ok (.getfield 15, 3) := by decide +kernel
theorem dX8_ownChance_9 : decode cX8_ownChance 9 = .ok (.iload 4, 2) := by decide +kernel
theorem dX8_ownChance_11 : decode cX8_ownChance 11 = .ok (.invokestatic 104, 3) := by decide +kernel
theorem dX8_ownChance_14 : decode cX8_ownChance 14 = .ok (.istore 5, 2) := by decide +kernel
theorem dX8_ownChance_16 : decode cX8_ownChance 16 = .ok (.aload_n 0, 1) := by decide +kernel
theorem dX8_ownChance_17 : decode cX8_ownChance 17 = .ok (.getfield 15, 3) := by decide +kernel
theorem dX8_ownChance_20 : decode cX8_ownChance 20 = .ok (.iload 4, 2) := by decide +kernel
theorem dX8_ownChance_22 : decode cX8_ownChance 22 = .ok (.iconst 1, 1) := by decide +kernel
theorem dX8_ownChance_23 : decode cX8_ownChance 23 = .ok (.iadd, 1) := by decide +kernel
theorem dX8_ownChance_24 : decode cX8_ownChance 24 = .ok (.iload 5, 2) := by decide +kernel
theorem dX8_ownChance_26 : decode cX8_ownChance 26 = .ok (.iconst 1, 1) := by decide +kernel
theorem dX8_ownChance_27 : decode cX8_ownChance 27 = .ok (.if_icmp .ne 7, 3) := by decide +kernel
theorem dX8_ownChance_30 : decode cX8_ownChance 30 = .ok (.iload_n 2, 1) := by decide +kernel
theorem dX8_ownChance_31 : decode cX8_ownChance 31 = .ok (.goto 4, 3) := by decide +kernel
theorem dX8_ownChance_34 : decode cX8_ownChance 34 = .ok (.iload_n 3, 1) := by decide +kernel
theorem dX8_ownChance_35 : decode cX8_ownChance 35 = .ok (.iadd, 1) := by decide +kernel
theorem dX8_ownChance_36 : decode cX8_ownChance 36 = .ok (.invokestatic 104, 3) := by decide +kernel
theorem dX8_ownChance_39 : decode cX8_ownChance 39 = .ok (.istore 6, 2) := by decide +kernel
theorem dX8_ownChance_41 : decode cX8_ownChance 41 = .ok (.iload 5, 2) := by decide +kernel
theorem dX8_ownChance_43 : decode cX8_ownChance 43 = .ok (.iconst 2, 1) := by decide +kernel
theorem dX8_ownChance_44 : decode cX8_ownChance 44 = .ok (.if_icmp .ne 10, 3) := by decide +kernel
theorem dX8_ownChance_47 : decode cX8_ownChance 47 = .ok (.iconst 4, 1) := by decide +kernel
theorem dX8_ownChance_48 : decode cX8_ownChance 48 = .ok (.iload 6, 2) := by decide +kernel
theorem dX8_ownChance_50 : decode cX8_ownChance 50 = .ok (.isub, 1) := by decide +kernel
theorem dX8_ownChance_51 : decode cX8_ownChance 51 = .ok (.goto 5, 3) := by decide +kernel
theorem dX8_ownChance_54 : decode cX8_ownChance 54 = .ok (.iload 6, 2) := by decide +kernel
theorem dX8_ownChance_56 : decode cX8_ownChance 56 = .ok (.ireturn, 1) := by decide +kernel
def F_X8_ownChance (x1 : Int32) (x2 : Int32) (x3 : Int32) (a_signNumbers : Nat → Int32) : Option (Int32) := (F_X4_at ((x1 * 4)) 16 a_signNumbers).bind (fun q11 => jn (fun (j0_35 : Int32) => (F_X4_at ((((x1 * 4) + 1) + j0_35)) 16 a_signNumbers).bind (fun q36 => (if q11 = 2 then some ((4 - q36)) else some (q36)))) (fun k_35 => (if q11 = 1 then k_35 x2 else k_35 x3)))
theorem hdV_X8_ownChance : yX8_ownChance.cls = RX8 ∧ yX8_ownChance.cls ≠ "java/lang/invoke/MethodHandle" ∧ yX8_ownChance.cls ≠ "java/lang/invoke/VarHandle" ∧ (parseMethodDescriptor yX8_ownChance.desc).map (fun d => d.parameters.length) = some 3 := by decide +kernel
set_option maxHeartbeats 4000000 in
set_option maxRecDepth 100000 in
theorem c_X8_ownChance (l : Launch) (G : GG) (x1 : Int32) (x2 : Int32) (x3 : Int32) (h_this : Nat) (ad_this : Nat → Nat) (v_signCount : Int32) (v_houseCount : Int32) (v_boatCount : Int32) (v_workCount : Int32) (v_turnCost : Int32) (v_boatDayCost : Int32) (a_signNumbers : Nat → Int32) (out : Int32) (hF : F_X8_ownChance x1 x2 x3 a_signNumbers = some out) : CtrI l yX8_ownChance (WS yX8_ownChance cX8_ownChance 7 (some .int)) { frames := 1, cells := 0, slots := 0, locals := 21 } G [.ref h_this, .int x1, .int x2, .int x3] [(h_this, oX8 ad_this v_signCount v_houseCount v_boatCount v_workCount v_turnCost v_boatDayCost), ((ad_this 1), cI G 16 a_signNumbers)] [(h_this, oX8 ad_this v_signCount v_houseCount v_boatCount v_workCount v_turnCost v_boatDayCost), ((ad_this 1), cI G 16 a_signNumbers)] out := by
  refine startI (cc := cX8_ownChance) (maxL := 7) (by decide) rfl (Nat.le_of_ble_eq_true rfl) ?_
  intro p e s m args below meth c A Q hx hb hml hts hown hc hA hret ls H locs hl hW
  have hown : s.vm.findClass RX8 = some m.cls := hown
  have hg : ∀ w ∈ GOODS, w.before _ s = true := fun w h => hts w (List.mem_cons_of_mem _ h)
  have hl : lv_has ls 7 [(0, .ref h_this), (1, .int x1), (2, .int x2), (3, .int x3)] := hl
  rw [F_X8_ownChance] at hF
  refine lv_iload_n hx hb dX8_ownChance_0 rfl (lv_at hl 1 rfl) ?_
  refine lv_iconst (v := 4) hx hb dX8_ownChance_1 (by decide) ?_
  refine lv_imul hx hb dX8_ownChance_2 ?_
  refine lv_istore (lv' := [(4, .int ((x1 * 4))), (0, .ref h_this), (1, .int x1), (2, .int x2), (3, .int x3)]) hx hb dX8_ownChance_3 hl (by decide) rfl (fun ls hl => ?_)
  refine lv_aload_n hx hb dX8_ownChance_5 rfl (lv_at hl 1 rfl) ?_
  refine va_get (D := G.1) (ci := 7) (v := .ref ((ad_this 1))) (C := RX8) (T := TX8) (N := 13) hx hb hg hu_X8 hown hc.1 hW.1 0 rfl rfl 1 (by decide) (hg _ wd_1_70) (fun _ h9 => h9) rfl dX8_ownChance_6 ?_
  refine lv_iload hx hb dX8_ownChance_9 (lv_at hl 0 rfl) ?_
  obtain ⟨q11, c_11, hF⟩ := bd_el hF
  refine wcI (ws' := [(h_this, oX8 ad_this v_signCount v_houseCount v_boatCount v_workCount v_turnCost v_boatDayCost), ((ad_this 1), cI G 16 a_signNumbers)]) (wc := [((ad_this 1), cI G 16 a_signNumbers)]) (wr := [(h_this, oX8 ad_this v_signCount v_houseCount v_boatCount v_workCount v_turnCost v_boatDayCost)]) (w1 := [((ad_this 1), cI G 16 a_signNumbers)]) (va_runS (As := [.ref ((ad_this 1)), .int ((x1 * 4))]) (rest := []) ⟨hx, hb, hml, hown, hg⟩ (c_X4_at l G ((x1 * 4)) 16 ((ad_this 1)) a_signNumbers q11 c_11 H.size) (va_cwS 2 hg (gS wd_2_161 wd_2_37 wd_1_14 wd_2_38) rfl rfl rfl hdS_X4_at ⟨(Nat.le_of_ble_eq_true rfl), (Nat.le_of_ble_eq_true rfl)⟩) (preS hc hW [1] rfl (by decide)) rfl rfl hl.1 rfl (lv_room (Nat.le_of_ble_eq_true rfl)) dX8_ownChance_11 ⟨Nat.zero_le _, Nat.zero_le _⟩) hA hW [1] [0] [0, 1] rfl rfl (by decide) (by decide) rfl (by decide) (fun H locs hW => ?_)
  refine lv_istore (lv' := [(5, .int q11), (4, .int ((x1 * 4))), (0, .ref h_this), (1, .int x1), (2, .int x2), (3, .int x3)]) hx hb dX8_ownChance_14 hl (by decide) rfl (fun ls hl => ?_)
  refine lv_aload_n hx hb dX8_ownChance_16 rfl (lv_at hl 2 rfl) ?_
  refine va_get (D := G.1) (ci := 7) (v := .ref ((ad_this 1))) (C := RX8) (T := TX8) (N := 13) hx hb hg hu_X8 hown hc.1 hW.1 0 rfl rfl 1 (by decide) (hg _ wd_1_70) (fun _ h9 => h9) rfl dX8_ownChance_17 ?_
  refine lv_iload hx hb dX8_ownChance_20 (lv_at hl 1 rfl) ?_
  refine lv_iconst (v := 1) hx hb dX8_ownChance_22 (by decide) ?_
  refine lv_iadd hx hb dX8_ownChance_23 ?_
  refine lv_iload hx hb dX8_ownChance_24 (lv_at hl 0 rfl) ?_
  refine lv_iconst (v := 1) hx hb dX8_ownChance_26 (by decide) ?_
  obtain ⟨k_35, e_35, hF⟩ := jn_el hF
  have J_35 : ∀ (j0_35 : Int32) (ls : Array Slot) (H : Heap) (locs : List Loc), k_35 j0_35 = some out → lv_has ls 7 [(5, .int q11)] → Wd G A s.heap [(h_this, oX8 ad_this v_signCount v_houseCount v_boatCount v_workCount v_turnCost v_boatDayCost), ((ad_this 1), cI G 16 a_signNumbers)] H locs → W p l e ({ frames := 1, cells := 0, slots := 0, locals := 21 } : Room) s m args below meth c H locs 0 0 Q (F0 m 35 ls [.int j0_35, .int (((x1 * 4) + 1)), .ref ((ad_this 1))]) := by
    intro j0_35 ls H locs hF hl hW
    rw [e_35] at hF
    dsimp only at hF
    refine lv_iadd hx hb dX8_ownChance_35 ?_
    obtain ⟨q36, c_36, hF⟩ := bd_el hF
    refine wcI (ws' := [(h_this, oX8 ad_this v_signCount v_houseCount v_boatCount v_workCount v_turnCost v_boatDayCost), ((ad_this 1), cI G 16 a_signNumbers)]) (wc := [((ad_this 1), cI G 16 a_signNumbers)]) (wr := [(h_this, oX8 ad_this v_signCount v_houseCount v_boatCount v_workCount v_turnCost v_boatDayCost)]) (w1 := [((ad_this 1), cI G 16 a_signNumbers)]) (va_runS (As := [.ref ((ad_this 1)), .int ((((x1 * 4) + 1) + j0_35))]) (rest := []) ⟨hx, hb, hml, hown, hg⟩ (c_X4_at l G ((((x1 * 4) + 1) + j0_35)) 16 ((ad_this 1)) a_signNumbers q36 c_36 H.size) (va_cwS 2 hg (gS wd_2_161 wd_2_37 wd_1_14 wd_2_38) rfl rfl rfl hdS_X4_at ⟨(Nat.le_of_ble_eq_true rfl), (Nat.le_of_ble_eq_true rfl)⟩) (preS hc hW [1] rfl (by decide)) rfl rfl hl.1 rfl (lv_room (Nat.le_of_ble_eq_true rfl)) dX8_ownChance_36 ⟨Nat.zero_le _, Nat.zero_le _⟩) hA hW [1] [0] [0, 1] rfl rfl (by decide) (by decide) rfl (by decide) (fun H locs hW => ?_)
    refine lv_istore (lv' := [(6, .int q36), (5, .int q11)]) hx hb dX8_ownChance_39 hl (by decide) rfl (fun ls hl => ?_)
    refine lv_iload hx hb dX8_ownChance_41 (lv_at hl 1 rfl) ?_
    refine lv_iconst (v := 2) hx hb dX8_ownChance_43 (by decide) ?_
    refine lv_icmp_ne (tgt := 54) hx hb dX8_ownChance_44 (by decide) (fun c_44 => ?_) (fun c_44 => ?_)
    · have hF := ite_f hF c_44
      refine lv_iload hx hb dX8_ownChance_54 (lv_at hl 0 rfl) ?_
      obtain rfl := Option.some.inj hF
      exact hret _ _ _ _ hW dX8_ownChance_56
    · have hF := ite_t hF c_44
      refine lv_iconst (v := 4) hx hb dX8_ownChance_47 (by decide) ?_
      refine lv_iload hx hb dX8_ownChance_48 (lv_at hl 0 rfl) ?_
      refine lv_isub hx hb dX8_ownChance_50 ?_
      refine lv_goto (tgt := 56) hx hb dX8_ownChance_51 (by decide) ?_
      obtain rfl := Option.some.inj hF
      exact hret _ _ _ _ hW dX8_ownChance_56
  refine lv_icmp_ne (tgt := 34) hx hb dX8_ownChance_27 (by decide) (fun c_27 => ?_) (fun c_27 => ?_)
  · have hF := ite_f hF c_27
    refine lv_iload_n hx hb dX8_ownChance_34 rfl (lv_at hl 5 rfl) ?_
    exact J_35 x3 _ _ _ hF (lv_sub hl [0] rfl) hW
  · have hF := ite_t hF c_27
    refine lv_iload_n hx hb dX8_ownChance_30 rfl (lv_at hl 4 rfl) ?_
    refine lv_goto (tgt := 35) hx hb dX8_ownChance_31 (by decide) ?_
    exact J_35 x2 _ _ _ hF (lv_sub hl [0] rfl) hW
theorem dX8_hangsOnOther_0 : decode cX8_hangsOnOther 0 = .ok (.iload_n 1, 1) := by decide +kernel
theorem dX8_hangsOnOther_1 : decode cX8_hangsOnOther 1 = .ok (.ifCond .le 17, 3) := by decide +kernel
theorem dX8_hangsOnOther_4 : decode cX8_hangsOnOther 4 = .ok (.aload_n 0, 1) := by decide +kernel
theorem dX8_hangsOnOther_5 : decode cX8_hangsOnOther 5 = .ok (.iload_n 1, 1) := by decide +kernel
theorem dX8_hangsOnOther_6 : decode cX8_hangsOnOther 6 = .ok (.iconst 0, 1) := by decide +kernel
theorem dX8_hangsOnOther_7 : decode cX8_hangsOnOther 7 = .ok (.invokevirtual 131, 3) := by decide +kernel
theorem dX8_hangsOnOther_10 : decode cX8_hangsOnOther 10 = .ok (.iconst 3, 1) := by decide +kernel
theorem dX8_hangsOnOther_11 : decode cX8_hangsOnOther 11 = .ok (.if_icmp .ne 7, 3) := by decide +kernel
theorem dX8_hangsOnOther_14 : decode cX8_hangsOnOther 14 = .ok (.iconst 1, 1) := by decide +kernel
theorem dX8_hangsOnOther_15 : decode cX8_hangsOnOther 15 = .ok (.goto 4, 3) := by decide +kernel
theorem dX8_hangsOnOther_18 : decode cX8_hangsOnOther 18 = .ok (.iconst 0, 1) := by decide +kernel
theorem dX8_hangsOnOther_19 : decode cX8_hangsOnOther 19 = .ok (.ireturn, 1) := by decide +kernel
def F_X8_hangsOnOther (x1 : Int32) (a_signNumbers : Nat → Int32) : Option (Int32) := (if x1 ≤ 0 then some (0) else (F_X8_signNumber x1 0 a_signNumbers).bind (fun q7 => (if q7 = 3 then some (1) else some (0))))
theorem hdV_X8_hangsOnOther : yX8_hangsOnOther.cls = RX8 ∧ yX8_hangsOnOther.cls ≠ "java/lang/invoke/MethodHandle" ∧ yX8_hangsOnOther.cls ≠ "java/lang/invoke/VarHandle" ∧ (parseMethodDescriptor yX8_hangsOnOther.desc).map (fun d => d.parameters.length) = some 1 := by decide +kernel
set_option maxHeartbeats 4000000 in
set_option maxRecDepth 100000 in
theorem c_X8_hangsOnOther (l : Launch) (G : GG) (x1 : Int32) (h_this : Nat) (ad_this : Nat → Nat) (v_signCount : Int32) (v_houseCount : Int32) (v_boatCount : Int32) (v_workCount : Int32) (v_turnCost : Int32) (v_boatDayCost : Int32) (a_signNumbers : Nat → Int32) (out : Int32) (hF : F_X8_hangsOnOther x1 a_signNumbers = some out) : CtrZ l yX8_hangsOnOther (WS yX8_hangsOnOther cX8_hangsOnOther 2 (some .boolean)) { frames := 2, cells := 0, slots := 0, locals := 43 } G [.ref h_this, .int x1] [(h_this, oX8 ad_this v_signCount v_houseCount v_boatCount v_workCount v_turnCost v_boatDayCost), ((ad_this 1), cI G 16 a_signNumbers)] [(h_this, oX8 ad_this v_signCount v_houseCount v_boatCount v_workCount v_turnCost v_boatDayCost), ((ad_this 1), cI G 16 a_signNumbers)] out := by
  refine startZ (cc := cX8_hangsOnOther) (maxL := 2) (by decide) rfl (Nat.le_of_ble_eq_true rfl) ?_
  intro p e s m args below meth c A Q hx hb hml hts hown hc hA hret ls H locs hl hW
  have hown : s.vm.findClass RX8 = some m.cls := hown
  have hg : ∀ w ∈ GOODS, w.before _ s = true := fun w h => hts w (List.mem_cons_of_mem _ h)
  have hl : lv_has ls 2 [(0, .ref h_this), (1, .int x1)] := hl
  rw [F_X8_hangsOnOther] at hF
  refine lv_iload_n hx hb dX8_hangsOnOther_0 rfl (lv_at hl 1 rfl) ?_
  refine lv_if_le (tgt := 18) hx hb dX8_hangsOnOther_1 (by decide) (fun c_1 => ?_) (fun c_1 => ?_)
  · have hF := ite_t hF c_1
    refine lv_iconst (v := 0) hx hb dX8_hangsOnOther_18 (by decide) ?_
    obtain rfl := Option.some.inj hF
    exact hret _ _ _ _ hW (Or.inl rfl) dX8_hangsOnOther_19
  · have hF := ite_f hF c_1
    refine lv_aload_n hx hb dX8_hangsOnOther_4 rfl (lv_at hl 0 rfl) ?_
    refine lv_iload_n hx hb dX8_hangsOnOther_5 rfl (lv_at hl 1 rfl) ?_
    refine lv_iconst (v := 0) hx hb dX8_hangsOnOther_6 (by decide) ?_
    obtain ⟨q7, c_7, hF⟩ := bd_el hF
    refine wcI (ws' := [(h_this, oX8 ad_this v_signCount v_houseCount v_boatCount v_workCount v_turnCost v_boatDayCost), ((ad_this 1), cI G 16 a_signNumbers)]) (wc := [(h_this, oX8 ad_this v_signCount v_houseCount v_boatCount v_workCount v_turnCost v_boatDayCost), ((ad_this 1), cI G 16 a_signNumbers)]) (wr := []) (w1 := [(h_this, oX8 ad_this v_signCount v_houseCount v_boatCount v_workCount v_turnCost v_boatDayCost), ((ad_this 1), cI G 16 a_signNumbers)]) (va_runV (As := [.int x1, .int 0]) (rest := []) ⟨hx, hb, hml, hown, hg⟩ (c_X8_signNumber l G x1 0 h_this ad_this v_signCount v_houseCount v_boatCount v_workCount v_turnCost v_boatDayCost a_signNumbers q7 c_7 H.size) (cwV 2 hg (gV wd_3_25 wd_2_158 wd_2_159 wd_1_4 wd_2_160) rfl rfl rfl hdV_X8_signNumber ⟨(Nat.le_of_ble_eq_true rfl), (Nat.le_of_ble_eq_true rfl)⟩) (preV hc hW [0, 1] rfl (by decide) rfl rfl) rfl rfl hl.1 rfl (lv_room (Nat.le_of_ble_eq_true rfl)) dX8_hangsOnOther_7 ⟨Nat.zero_le _, Nat.zero_le _⟩) hA hW [0, 1] [] [0, 1] rfl rfl (by decide) (by decide) rfl (by decide) (fun H locs hW => ?_)
    refine lv_iconst (v := 3) hx hb dX8_hangsOnOther_10 (by decide) ?_
    refine lv_icmp_ne (tgt := 18) hx hb dX8_hangsOnOther_11 (by decide) (fun c_11 => ?_) (fun c_11 => ?_)
    · have hF := ite_f hF c_11
      refine lv_iconst (v := 0) hx hb dX8_hangsOnOther_18 (by decide) ?_
      obtain rfl := Option.some.inj hF
      exact hret _ _ _ _ hW (Or.inl rfl) dX8_hangsOnOther_19
    · have hF := ite_t hF c_11
      refine lv_iconst (v := 1) hx hb dX8_hangsOnOther_14 (by decide) ?_
      refine lv_goto (tgt := 19) hx hb dX8_hangsOnOther_15 (by decide) ?_
      obtain rfl := Option.some.inj hF
      exact hret _ _ _ _ hW (Or.inr rfl) dX8_hangsOnOther_19
theorem dX8_waysToSee_0 : decode cX8_waysToSee 0 = .ok (.lconst 1, 1) := by decide +kernel
theorem dX8_waysToSee_1 : decode cX8_waysToSee 1 = .ok (.lstore 4, 2) := by decide +kernel
theorem dX8_waysToSee_3 : decode cX8_waysToSee 3 = .ok (.iconst 0, 1) := by decide +kernel
theorem dX8_waysToSee_4 : decode cX8_waysToSee 4 = .ok (.istore 6, 2) := by decide +kernel
theorem dX8_waysToSee_6 : decode cX8_waysToSee 6 = .ok (.iload 6, 2) := by decide +kernel
theorem dX8_waysToSee_8 : decode cX8_waysToSee 8 = .ok (.aload_n 0, 1) := by decide +kernel
theorem dX8_waysToSee_9 : decode cX8_waysToSee 9 = .ok (.getfield 67, 3) := by decide +kernel
theorem dX8_waysToSee_12 : decode cX8_waysToSee 12 = .ok (.if_icmp .ge 80, 3) := by decide +kernel
theorem dX8_waysToSee_15 : decode cX8_waysToSee 15 = .ok (.aload_n 0, 1) := by decide +kernel
theorem dX8_waysToSee_16 : decode cX8_waysToSee 16 = .ok (.iload 6, 2) := by decide +kernel
theorem dX8_waysToSee_18 : decode cX8_waysToSee 18 = .ok (.invokevirtual 134, 3) := by decide +kernel
theorem dX8_waysToSee_21 : decode cX8_waysToSee 21 = .ok (.ifCond .eq 18, 3) := by decide +kernel
theorem dX8_waysToSee_24 : decode cX8_waysToSee 24 = .ok (.iload_n 1, 1) := by decide +kernel
theorem dX8_waysToSee_25 : decode cX8_waysToSee 25 = .ok (.iload 6, 2) := by decide +kernel
theorem dX8_waysToSee_27 : decode cX8_waysToSee 27 = .ok (.iconst 1, 1) := by decide +kernel
theorem dX8_waysToSee_28 : decode cX8_waysToSee 28 = .ok (.isub, 1) := by decide +kernel
theorem dX8_waysToSee_29 : decode cX8_waysToSee 29 = .ok (.invokestatic 112, 3) := by decide +kernel
theorem dX8_waysToSee_32 : decode cX8_waysToSee 32 = .ok (.ifCond .ne 7, 3) := by decide +kernel
theorem dX8_waysToSee_35 : decode cX8_waysToSee 35 = .ok (.iconst 1, 1) := by decide +kernel
theorem dX8_waysToSee_36 : decode cX8_waysToSee 36 = .ok (.goto 4, 3) := by decide +kernel
theorem dX8_waysToSee_39 : decode cX8_waysToSee 39 = .ok (.iconst 0, 1) := by decide +kernel
theorem dX8_waysToSee_40 : decode cX8_waysToSee 40 = .ok (.istore 7, 2) := by decide +kernel
theorem dX8_waysToSee_42 : decode cX8_waysToSee 42 = .ok (.iload 7, 2) := by decide +kernel
theorem dX8_waysToSee_44 : decode cX8_waysToSee 44 = .ok (.ifCond .eq 7, 3) := by decide +kernel
theorem dX8_waysToSee_47 : decode cX8_waysToSee 47 = .ok (.iconst 0, 1) := by decide +kernel
theorem dX8_waysToSee_48 : decode cX8_waysToSee 48 = .ok (.goto 11, 3) := by decide +kernel
theorem dX8_waysToSee_51 : decode cX8_waysToSee 51 = .ok (.aload_n 0, 1) := by decide +kernel
theorem dX8_waysToSee_52 : decode cX8_waysToSee 52 = .ok (.iload 6, 2) := by decide +kernel
theorem dX8_waysToSee_54 : decode cX8_waysToSee 54 = .ok (.iload_n 2, 1) := by decide +kernel
theorem dX8_waysToSee_55 : decode cX8_waysToSee 55 = .ok (.iload_n 3, 1) := by decide +kernel
theorem dX8_waysToSee_56 : decode cX8_waysToSee 56 = .ok (.invokevirtual 138, 3) := by decide +kernel
theorem dX8_waysToSee_59 : decode cX8_waysToSee 59 = .ok (.istore 8, 2) := by decide +kernel
theorem dX8_waysToSee_61 : decode cX8_waysToSee 61 = .ok (.lload 4, 2) := by decide +kernel
theorem dX8_waysToSee_63 : decode cX8_waysToSee 63 = .ok (.iload_n 1, 1) := by decide +kernel
theorem dX8_waysToSee_64 : decode cX8_waysToSee 64 = .ok (.iload 6, 2) := by decide +kernel
theorem dX8_waysToSee_66 : decode cX8_waysToSee 66 = .ok (.invokestatic 112, 3) := by decide +kernel
theorem dX8_waysToSee_69 : decode cX8_waysToSee 69 = .ok (.ifCond .eq 9, 3) := by decide +kernel
theorem dX8_waysToSee_72 : decode cX8_waysToSee 72 = .ok (.iload 8, 2) := by decide +kernel
theorem dX8_waysToSee_74 : decode cX8_waysToSee 74 = .ok (.i2l, 1) := by decide +kernel
theorem dX8_waysToSee_75 : decode cX8_waysToSee 75 = .ok (.goto 8, 3) := by decide +kernel
theorem dX8_waysToSee_78 : decode cX8_waysToSee 78 = .ok (.iconst 4, 1) := by decide +kernel
theorem dX8_waysToSee_79 : decode cX8_waysToSee 79 = .ok (.iload 8, 2) := by decide +kernel
theorem dX8_waysToSee_81 : decode cX8_waysToSee 81 = .ok (.isub, 1) := by decide +kernel
theorem dX8_waysToSee_82 : decode cX8_waysToSee 82 = .ok (.i2l, 1) := by decide +kernel
theorem dX8_waysToSee_83 : decode cX8_waysToSee 83 = .ok (.lmul, 1) := by decide +kernel
theorem dX8_waysToSee_84 : decode cX8_waysToSee 84 = .ok (.lstore 4, 2) := by decide +kernel
theorem dX8_waysToSee_86 : decode cX8_waysToSee 86 = .ok (.iinc 6 1, 3) := by decide +kernel
theorem dX8_waysToSee_89 : decode cX8_waysToSee 89 = .ok (.goto (-83), 3) := by decide +kernel
theorem dX8_waysToSee_92 : decode cX8_waysToSee 92 = .ok (.lload 4, 2) := by decide +kernel
theorem dX8_waysToSee_94 : decode cX8_waysToSee 94 = .ok (.lreturn, 1) := by decide +kernel
def L_X8_waysToSee_6 (x1 : Int32) (x2 : Int32) (x3 : Int32) (v_signCount : Int32) (a_signNumbers : Nat → Int32)  : Nat → Int64 → Int32 → Option (Int64)
  | 0, _, _ => none
  | n + 1, x4_6, x6_6 => (if v_signCount ≤ x6_6 then some (x4_6) else (F_X8_hangsOnOther x6_6 a_signNumbers).bind (fun q18 => jn (fun (j0_40 : Int32) => jn (fun (j0_59 : Int32) => (F_X9_holds x1 x6_6).bind (fun q66 => jn (fun (j0_83 : Int64) => L_X8_waysToSee_6 x1 x2 x3 v_signCount a_signNumbers n ((x4_6 * j0_83)) ((x6_6 + 1))) (fun k_83 => (if q66 = 0 then k_83 ((Int32.toInt64 ((4 - j0_59)))) else k_83 ((Int32.toInt64 j0_59)))))) (fun k_59 => (if j0_40 = 0 then (F_X8_ownChance x6_6 x2 x3 a_signNumbers).bind (fun q56 => k_59 q56) else k_59 0))) (fun k_40 => jn (k_40 0) (fun k_39 => (if q18 = 0 then k_39 else (F_X9_holds x1 ((x6_6 - 1))).bind (fun q29 => (if q29 = 0 then k_40 1 else k_39)))))))
def F_X8_waysToSee (x1 : Int32) (x2 : Int32) (x3 : Int32) (v_signCount : Int32) (a_signNumbers : Nat → Int32) : Option (Int64) := L_X8_waysToSee_6 x1 x2 x3 v_signCount a_signNumbers 5000 1 0
theorem hdV_X8_waysToSee : yX8_waysToSee.cls = RX8 ∧ yX8_waysToSee.cls ≠ "java/lang/invoke/MethodHandle" ∧ yX8_waysToSee.cls ≠ "java/lang/invoke/VarHandle" ∧ (parseMethodDescriptor yX8_waysToSee.desc).map (fun d => d.parameters.length) = some 3 := by decide +kernel
set_option maxHeartbeats 4000000 in
set_option maxRecDepth 100000 in
theorem c_X8_waysToSee (l : Launch) (G : GG) (x1 : Int32) (x2 : Int32) (x3 : Int32) (h_this : Nat) (ad_this : Nat → Nat) (v_signCount : Int32) (v_houseCount : Int32) (v_boatCount : Int32) (v_workCount : Int32) (v_turnCost : Int32) (v_boatDayCost : Int32) (a_signNumbers : Nat → Int32) (out : Int64) (hF : F_X8_waysToSee x1 x2 x3 v_signCount a_signNumbers = some out) : CtrJ l yX8_waysToSee (WS yX8_waysToSee cX8_waysToSee 9 (some .long)) { frames := 3, cells := 0, slots := 0, locals := 64 } G [.ref h_this, .int x1, .int x2, .int x3] [(h_this, oX8 ad_this v_signCount v_houseCount v_boatCount v_workCount v_turnCost v_boatDayCost), ((ad_this 1), cI G 16 a_signNumbers)] [(h_this, oX8 ad_this v_signCount v_houseCount v_boatCount v_workCount v_turnCost v_boatDayCost), ((ad_this 1), cI G 16 a_signNumbers)] out := by
  refine startJ (cc := cX8_waysToSee) (maxL := 9) (by decide) rfl (Nat.le_of_ble_eq_true rfl) ?_
  intro p e s m args below meth c A Q hx hb hml hts hown hc hA hret ls H locs hl hW
  have hown : s.vm.findClass RX8 = some m.cls := hown
  have hg : ∀ w ∈ GOODS, w.before _ s = true := fun w h => hts w (List.mem_cons_of_mem _ h)
  have hl : lv_has ls 9 [(0, .ref h_this), (1, .int x1), (2, .int x2), (3, .int x3)] := hl
  rw [F_X8_waysToSee] at hF
  refine lv_lconst (v := 1) hx hb dX8_waysToSee_0 (by decide) ?_
  refine lv_lstore (lv' := [(4, .long 1), (0, .ref h_this), (1, .int x1), (2, .int x2), (3, .int x3)]) hx hb dX8_waysToSee_1 hl (by decide) rfl (fun ls hl => ?_)
  refine lv_iconst (v := 0) hx hb dX8_waysToSee_3 (by decide) ?_
  refine lv_istore (lv' := [(6, .int 0), (4, .long 1), (0, .ref h_this), (1, .int x1), (2, .int x2), (3, .int x3)]) hx hb dX8_waysToSee_4 hl (by decide) rfl (fun ls hl => ?_)
  have L_6 : ∀ (n : Nat) (x4_6 : Int64) (x6_6 : Int32) (ls : Array Slot) (H : Heap) (locs : List Loc), L_X8_waysToSee_6 x1 x2 x3 v_signCount a_signNumbers n x4_6 x6_6 = some out → lv_has ls 9 [(0, .ref h_this), (1, .int x1), (2, .int x2), (3, .int x3), (4, .long x4_6), (6, .int x6_6)] → Wd G A s.heap [(h_this, oX8 ad_this v_signCount v_houseCount v_boatCount v_workCount v_turnCost v_boatDayCost), ((ad_this 1), cI G 16 a_signNumbers)] H locs → W p l e ({ frames := 3, cells := 0, slots := 0, locals := 64 } : Room) s m args below meth c H locs 0 0 Q (F0 m 6 ls []) := by
    intro n
    induction n with
    | zero => intro x4_6 x6_6 ls H locs hF hl hW; have h0 : none = some out := hF; cases h0
    | succ n ih =>
      intro x4_6 x6_6 ls H locs hF hl hW
      rw [L_X8_waysToSee_6] at hF
      refine lv_iload hx hb dX8_waysToSee_6 (lv_at hl 5 rfl) ?_
      refine lv_aload_n hx hb dX8_waysToSee_8 rfl (lv_at hl 0 rfl) ?_
      refine va_get (D := G.1) (ci := 7) (v := .int v_signCount) (C := RX8) (T := TX8) (N := 13) hx hb hg hu_X8 hown hc.1 hW.1 0 rfl rfl 7 (by decide) (hg _ wd_1_76) (fun _ h9 => h9) rfl dX8_waysToSee_9 ?_
      refine lv_icmp_ge (tgt := 92) hx hb dX8_waysToSee_12 (by decide) (fun c_12 => ?_) (fun c_12 => ?_)
      · have hF := ite_t hF c_12
        refine lv_lload hx hb dX8_waysToSee_92 (lv_at hl 4 rfl) ?_
        obtain rfl := Option.some.inj hF
        exact hret _ _ _ _ hW dX8_waysToSee_94
      · have hF := ite_f hF c_12
        refine lv_aload_n hx hb dX8_waysToSee_15 rfl (lv_at hl 0 rfl) ?_
        refine lv_iload hx hb dX8_waysToSee_16 (lv_at hl 5 rfl) ?_
        obtain ⟨q18, c_18, hF⟩ := bd_el hF
        refine wcZ (ws' := [(h_this, oX8 ad_this v_signCount v_houseCount v_boatCount v_workCount v_turnCost v_boatDayCost), ((ad_this 1), cI G 16 a_signNumbers)]) (wc := [(h_this, oX8 ad_this v_signCount v_houseCount v_boatCount v_workCount v_turnCost v_boatDayCost), ((ad_this 1), cI G 16 a_signNumbers)]) (wr := []) (w1 := [(h_this, oX8 ad_this v_signCount v_houseCount v_boatCount v_workCount v_turnCost v_boatDayCost), ((ad_this 1), cI G 16 a_signNumbers)]) (va_runV (As := [.int x6_6]) (rest := []) ⟨hx, hb, hml, hown, hg⟩ (c_X8_hangsOnOther l G x6_6 h_this ad_this v_signCount v_houseCount v_boatCount v_workCount v_turnCost v_boatDayCost a_signNumbers q18 c_18 H.size) (cwV 1 hg (gV wd_3_21 wd_3_23 wd_0_13 wd_1_4 wd_3_24) rfl rfl rfl hdV_X8_hangsOnOther ⟨(Nat.le_of_ble_eq_true rfl), (Nat.le_of_ble_eq_true rfl)⟩) (preV hc hW [0, 1] rfl (by decide) rfl rfl) rfl rfl hl.1 rfl (lv_room (Nat.le_of_ble_eq_true rfl)) dX8_waysToSee_18 ⟨Nat.zero_le _, Nat.zero_le _⟩) hA hW [0, 1] [] [0, 1] rfl rfl (by decide) (by decide) rfl (by decide) (fun z_18 H locs hW => ?_)
        obtain ⟨k_40, e_40, hF⟩ := jn_el hF
        have J_40 : ∀ (j0_40 : Int32) (ls : Array Slot) (H : Heap) (locs : List Loc), k_40 j0_40 = some out → lv_has ls 9 [(0, .ref h_this), (1, .int x1), (2, .int x2), (3, .int x3), (4, .long x4_6), (6, .int x6_6)] → Wd G A s.heap [(h_this, oX8 ad_this v_signCount v_houseCount v_boatCount v_workCount v_turnCost v_boatDayCost), ((ad_this 1), cI G 16 a_signNumbers)] H locs → W p l e ({ frames := 3, cells := 0, slots := 0, locals := 64 } : Room) s m args below meth c H locs 0 0 Q (F0 m 40 ls [.int j0_40]) := by
          intro j0_40 ls H locs hF hl hW
          rw [e_40] at hF
          dsimp only at hF
          refine lv_istore (lv' := [(7, .int j0_40), (0, .ref h_this), (1, .int x1), (2, .int x2), (3, .int x3), (4, .long x4_6), (6, .int x6_6)]) hx hb dX8_waysToSee_40 hl (by decide) rfl (fun ls hl => ?_)
          refine lv_iload hx hb dX8_waysToSee_42 (lv_at hl 0 rfl) ?_
          obtain ⟨k_59, e_59, hF⟩ := jn_el hF
          have J_59 : ∀ (j0_59 : Int32) (ls : Array Slot) (H : Heap) (locs : List Loc), k_59 j0_59 = some out → lv_has ls 9 [(0, .ref h_this), (1, .int x1), (2, .int x2), (3, .int x3), (4, .long x4_6), (6, .int x6_6)] → Wd G A s.heap [(h_this, oX8 ad_this v_signCount v_houseCount v_boatCount v_workCount v_turnCost v_boatDayCost), ((ad_this 1), cI G 16 a_signNumbers)] H locs → W p l e ({ frames := 3, cells := 0, slots := 0, locals := 64 } : Room) s m args below meth c H locs 0 0 Q (F0 m 59 ls [.int j0_59]) := by
            intro j0_59 ls H locs hF hl hW
            rw [e_59] at hF
            dsimp only at hF
            refine lv_istore (lv' := [(8, .int j0_59), (0, .ref h_this), (1, .int x1), (2, .int x2), (3, .int x3), (4, .long x4_6), (6, .int x6_6)]) hx hb dX8_waysToSee_59 hl (by decide) rfl (fun ls hl => ?_)
            refine lv_lload hx hb dX8_waysToSee_61 (lv_at hl 5 rfl) ?_
            refine lv_iload_n hx hb dX8_waysToSee_63 rfl (lv_at hl 2 rfl) ?_
            refine lv_iload hx hb dX8_waysToSee_64 (lv_at hl 6 rfl) ?_
            obtain ⟨q66, c_66, hF⟩ := bd_el hF
            refine wcZ (ws' := [(h_this, oX8 ad_this v_signCount v_houseCount v_boatCount v_workCount v_turnCost v_boatDayCost), ((ad_this 1), cI G 16 a_signNumbers)]) (wc := []) (wr := [(h_this, oX8 ad_this v_signCount v_houseCount v_boatCount v_workCount v_turnCost v_boatDayCost), ((ad_this 1), cI G 16 a_signNumbers)]) (w1 := []) (va_runSN (As := [.int x1, .int x6_6]) (rest := [.long x4_6]) ⟨hx, hb, hml, hown, hg⟩ (c_X9_holds l G x1 x6_6 q66 c_66 H.size) ⟨va_cnB 2 hg (gN wd_2_181) rfl rfl rfl (hc.2 (RX8, 112, yX9_holds) (by decide +kernel)) (hg _ wd_1_1) hdS_X9_holds ⟨(Nat.le_of_ble_eq_true rfl), (Nat.le_of_ble_eq_true rfl)⟩, (hg _ wd_2_180), trivial⟩ (preS hc hW [] rfl (by decide)) rfl rfl hl.1 rfl (lv_room (Nat.le_of_ble_eq_true rfl)) dX8_waysToSee_66 ⟨Nat.zero_le _, Nat.zero_le _⟩) hA hW [] [0, 1] [0, 1] rfl rfl (by decide) (by decide) rfl (by decide) (fun z_66 H locs hW => ?_)
            obtain ⟨k_83, e_83, hF⟩ := jn_el hF
            have J_83 : ∀ (j0_83 : Int64) (ls : Array Slot) (H : Heap) (locs : List Loc), k_83 j0_83 = some out → lv_has ls 9 [(0, .ref h_this), (1, .int x1), (2, .int x2), (3, .int x3), (6, .int x6_6)] → Wd G A s.heap [(h_this, oX8 ad_this v_signCount v_houseCount v_boatCount v_workCount v_turnCost v_boatDayCost), ((ad_this 1), cI G 16 a_signNumbers)] H locs → W p l e ({ frames := 3, cells := 0, slots := 0, locals := 64 } : Room) s m args below meth c H locs 0 0 Q (F0 m 83 ls [.long j0_83, .long x4_6]) := by
              intro j0_83 ls H locs hF hl hW
              rw [e_83] at hF
              dsimp only at hF
              refine lv_lmul hx hb dX8_waysToSee_83 ?_
              refine lv_lstore (lv' := [(4, .long ((x4_6 * j0_83))), (0, .ref h_this), (1, .int x1), (2, .int x2), (3, .int x3), (6, .int x6_6)]) hx hb dX8_waysToSee_84 hl (by decide) rfl (fun ls hl => ?_)
              refine lv_iinc (v := (x6_6 + 1)) (lv' := [(6, .int ((x6_6 + 1))), (4, .long ((x4_6 * j0_83))), (0, .ref h_this), (1, .int x1), (2, .int x2), (3, .int x3)]) hx hb dX8_waysToSee_86 hl (k := 5) rfl rfl (by decide) rfl (fun ls hl => ?_)
              refine lv_goto (tgt := 6) hx hb dX8_waysToSee_89 (by decide) ?_
              exact ih ((x4_6 * j0_83)) ((x6_6 + 1)) _ _ _ hF (lv_sub hl [2, 3, 4, 5, 1, 0] rfl) hW
            refine lv_if_eq (tgt := 78) hx hb dX8_waysToSee_69 (by decide) (fun c_69 => ?_) (fun c_69 => ?_)
            · have hF := ite_t hF c_69
              refine lv_iconst (v := 4) hx hb dX8_waysToSee_78 (by decide) ?_
              refine lv_iload hx hb dX8_waysToSee_79 (lv_at hl 0 rfl) ?_
              refine lv_isub hx hb dX8_waysToSee_81 ?_
              refine lv_i2l (v := (Int32.toInt64 ((4 - j0_59)))) hx hb dX8_waysToSee_82 rfl ?_
              exact J_83 ((Int32.toInt64 ((4 - j0_59)))) _ _ _ hF (lv_sub hl [1, 2, 3, 4, 6] rfl) hW
            · have hF := ite_f hF c_69
              refine lv_iload hx hb dX8_waysToSee_72 (lv_at hl 0 rfl) ?_
              refine lv_i2l (v := (Int32.toInt64 j0_59)) hx hb dX8_waysToSee_74 rfl ?_
              refine lv_goto (tgt := 83) hx hb dX8_waysToSee_75 (by decide) ?_
              exact J_83 ((Int32.toInt64 j0_59)) _ _ _ hF (lv_sub hl [1, 2, 3, 4, 6] rfl) hW
          refine lv_if_eq (tgt := 51) hx hb dX8_waysToSee_44 (by decide) (fun c_44 => ?_) (fun c_44 => ?_)
          · have hF := ite_t hF c_44
            refine lv_aload_n hx hb dX8_waysToSee_51 rfl (lv_at hl 1 rfl) ?_
            refine lv_iload hx hb dX8_waysToSee_52 (lv_at hl 6 rfl) ?_
            refine lv_iload_n hx hb dX8_waysToSee_54 rfl (lv_at hl 3 rfl) ?_
            refine lv_iload_n hx hb dX8_waysToSee_55 rfl (lv_at hl 4 rfl) ?_
            obtain ⟨q56, c_56, hF⟩ := bd_el hF
            refine wcI (ws' := [(h_this, oX8 ad_this v_signCount v_houseCount v_boatCount v_workCount v_turnCost v_boatDayCost), ((ad_this 1), cI G 16 a_signNumbers)]) (wc := [(h_this, oX8 ad_this v_signCount v_houseCount v_boatCount v_workCount v_turnCost v_boatDayCost), ((ad_this 1), cI G 16 a_signNumbers)]) (wr := []) (w1 := [(h_this, oX8 ad_this v_signCount v_houseCount v_boatCount v_workCount v_turnCost v_boatDayCost), ((ad_this 1), cI G 16 a_signNumbers)]) (va_runV (As := [.int x6_6, .int x2, .int x3]) (rest := []) ⟨hx, hb, hml, hown, hg⟩ (c_X8_ownChance l G x6_6 x2 x3 h_this ad_this v_signCount v_houseCount v_boatCount v_workCount v_turnCost v_boatDayCost a_signNumbers q56 c_56 H.size) (cwV 3 hg (gV wd_3_26 wd_3_28 wd_0_14 wd_1_4 wd_3_29) rfl rfl rfl hdV_X8_ownChance ⟨(Nat.le_of_ble_eq_true rfl), (Nat.le_of_ble_eq_true rfl)⟩) (preV hc hW [0, 1] rfl (by decide) rfl rfl) rfl rfl hl.1 rfl (lv_room (Nat.le_of_ble_eq_true rfl)) dX8_waysToSee_56 ⟨Nat.zero_le _, Nat.zero_le _⟩) hA hW [0, 1] [] [0, 1] rfl rfl (by decide) (by decide) rfl (by decide) (fun H locs hW => ?_)
            exact J_59 q56 _ _ _ hF (lv_sub hl [1, 2, 3, 4, 5, 6] rfl) hW
          · have hF := ite_f hF c_44
            refine lv_iconst (v := 0) hx hb dX8_waysToSee_47 (by decide) ?_
            refine lv_goto (tgt := 59) hx hb dX8_waysToSee_48 (by decide) ?_
            exact J_59 0 _ _ _ hF (lv_sub hl [1, 2, 3, 4, 5, 6] rfl) hW
        obtain ⟨k_39, e_39, hF⟩ := jn_el hF
        have J_39 : ∀ (ls : Array Slot) (H : Heap) (locs : List Loc), k_39 = some out → lv_has ls 9 [(0, .ref h_this), (1, .int x1), (2, .int x2), (3, .int x3), (4, .long x4_6), (6, .int x6_6)] → Wd G A s.heap [(h_this, oX8 ad_this v_signCount v_houseCount v_boatCount v_workCount v_turnCost v_boatDayCost), ((ad_this 1), cI G 16 a_signNumbers)] H locs → W p l e ({ frames := 3, cells := 0, slots := 0, locals := 64 } : Room) s m args below meth c H locs 0 0 Q (F0 m 39 ls []) := by
          intro ls H locs hF hl hW
          rw [e_39] at hF
          refine lv_iconst (v := 0) hx hb dX8_waysToSee_39 (by decide) ?_
          exact J_40 0 _ _ _ hF (lv_sub hl [0, 1, 2, 3, 4, 5] rfl) hW
        refine lv_if_eq (tgt := 39) hx hb dX8_waysToSee_21 (by decide) (fun c_21 => ?_) (fun c_21 => ?_)
        · have hF := ite_t hF c_21
          exact J_39 _ _ _ hF (lv_sub hl [0, 1, 2, 3, 4, 5] rfl) hW
        · have hF := ite_f hF c_21
          refine lv_iload_n hx hb dX8_waysToSee_24 rfl (lv_at hl 1 rfl) ?_
          refine lv_iload hx hb dX8_waysToSee_25 (lv_at hl 5 rfl) ?_
          refine lv_iconst (v := 1) hx hb dX8_waysToSee_27 (by decide) ?_
          refine lv_isub hx hb dX8_waysToSee_28 ?_
          obtain ⟨q29, c_29, hF⟩ := bd_el hF
          refine wcZ (ws' := [(h_this, oX8 ad_this v_signCount v_houseCount v_boatCount v_workCount v_turnCost v_boatDayCost), ((ad_this 1), cI G 16 a_signNumbers)]) (wc := []) (wr := [(h_this, oX8 ad_this v_signCount v_houseCount v_boatCount v_workCount v_turnCost v_boatDayCost), ((ad_this 1), cI G 16 a_signNumbers)]) (w1 := []) (va_runSN (As := [.int x1, .int ((x6_6 - 1))]) (rest := []) ⟨hx, hb, hml, hown, hg⟩ (c_X9_holds l G x1 ((x6_6 - 1)) q29 c_29 H.size) ⟨va_cnB 2 hg (gN wd_2_181) rfl rfl rfl (hc.2 (RX8, 112, yX9_holds) (by decide +kernel)) (hg _ wd_1_1) hdS_X9_holds ⟨(Nat.le_of_ble_eq_true rfl), (Nat.le_of_ble_eq_true rfl)⟩, (hg _ wd_2_180), trivial⟩ (preS hc hW [] rfl (by decide)) rfl rfl hl.1 rfl (lv_room (Nat.le_of_ble_eq_true rfl)) dX8_waysToSee_29 ⟨Nat.zero_le _, Nat.zero_le _⟩) hA hW [] [0, 1] [0, 1] rfl rfl (by decide) (by decide) rfl (by decide) (fun z_29 H locs hW => ?_)
          refine lv_if_ne (tgt := 39) hx hb dX8_waysToSee_32 (by decide) (fun c_32 => ?_) (fun c_32 => ?_)
          · have hF := ite_f hF c_32
            exact J_39 _ _ _ hF (lv_sub hl [0, 1, 2, 3, 4, 5] rfl) hW
          · have hF := ite_t hF c_32
            refine lv_iconst (v := 1) hx hb dX8_waysToSee_35 (by decide) ?_
            refine lv_goto (tgt := 40) hx hb dX8_waysToSee_36 (by decide) ?_
            exact J_40 1 _ _ _ hF (lv_sub hl [0, 1, 2, 3, 4, 5] rfl) hW
  exact L_6 5000 1 0 _ _ _ hF (lv_sub hl [2, 3, 4, 5, 1, 0] rfl) hW
theorem dX8_shareOf_0 : decode cX8_shareOf 0 = .ok (.sipush 256, 3) := by decide +kernel
theorem dX8_shareOf_3 : decode cX8_shareOf 3 = .ok (.istore 4, 2) := by decide +kernel
theorem dX8_shareOf_5 : decode cX8_shareOf 5 = .ok (.iconst 0, 1) := by decide +kernel
theorem dX8_shareOf_6 : decode cX8_shareOf 6 = .ok (.istore 5, 2) := by decide +kernel
theorem dX8_shareOf_8 : decode cX8_shareOf 8 = .ok (.iload 5, 2) := by decide +kernel
theorem dX8_shareOf_10 : decode cX8_shareOf 10 = .ok (.iload_n 1, 1) := by decide +kernel
theorem dX8_shareOf_11 : decode cX8_shareOf 11 = .ok (.if_icmp .gt 43, 3) := by decide +kernel
theorem dX8_shareOf_14 : decode cX8_shareOf 14 = .ok (.aload_n 0, 1) := by decide +kernel
theorem dX8_shareOf_15 : decode cX8_shareOf 15 = .ok (.iload 5, 2) := by decide +kernel
theorem dX8_shareOf_17 : decode cX8_shareOf 17 = .ok (.invokevirtual 134, 3) := by decide +kernel
theorem dX8_shareOf_20 : decode cX8_shareOf 20 = .ok (.ifCond .eq 8, 3) := by decide +kernel
theorem dX8_shareOf_23 : decode cX8_shareOf 23 = .ok (.iload 4, 2) := by decide +kernel
theorem dX8_shareOf_25 : decode cX8_shareOf 25 = .ok (.goto 6, 3) := by decide +kernel
theorem dX8_shareOf_28 : decode cX8_shareOf 28 = .ok (.sipush 256, 3) := by decide +kernel
theorem dX8_shareOf_31 : decode cX8_shareOf 31 = .ok (.istore 6, 2) := by decide +kernel
theorem dX8_shareOf_33 : decode cX8_shareOf 33 = .ok (.iload 6, 2) := by decide +kernel
theorem dX8_shareOf_35 : decode cX8_shareOf 35 = .ok (.iconst 4, 1) := by decide +kernel
theorem dX8_shareOf_36 : decode cX8_shareOf 36 = .ok (.idiv, 1) := by decide +kernel
theorem dX8_shareOf_37 : decode cX8_shareOf 37 = .ok (.aload_n 0, 1) := by decide +kernel
theorem dX8_shareOf_38 : decode cX8_shareOf 38 = .ok (.iload 5, 2) := by decide +kernel
theorem dX8_shareOf_40 : decode cX8_shareOf 40 = .ok (.iload_n 2, 1) := by decide +kernel
theorem dX8_shareOf_41 : decode cX8_shareOf 41 = .ok (.iload_n 3, 1) := by decide +kernel
theorem dX8_shareOf_42 : decode cX8_shareOf 42 = .ok (.invokevirtual 138, 3) := by decide +kernel
theorem dX8_shareOf_45 : decode cX8_shareOf 45 = .ok (.imul, 1) := by decide +kernel
theorem dX8_shareOf_46 : decode cX8_shareOf 46 = .ok (.istore 4, 2) := by decide +kernel
theorem dX8_shareOf_48 : decode cX8_shareOf 48 = .ok (.iinc 5 1, 3) := by decide +kernel
theorem dX8_shareOf_51 : decode cX8_shareOf 51 = .ok (.goto (-43), 3) := by decide +kernel
theorem dX8_shareOf_54 : decode cX8_shareOf 54 = .ok (.iload 4, 2) := by decide +kernel
theorem dX8_shareOf_56 : decode cX8_shareOf 56 = .ok (.ireturn, 1) := by decide +kernel
def L_X8_shareOf_8 (x1 : Int32) (x2 : Int32) (x3 : Int32) (a_signNumbers : Nat → Int32)  : Nat → Int32 → Int32 → Option (Int32)
  | 0, _, _ => none
  | n + 1, x4_8, x5_8 => (if x1 < x5_8 then some (x4_8) else (F_X8_hangsOnOther x5_8 a_signNumbers).bind (fun q17 => jn (fun (j0_31 : Int32) => (F_X8_ownChance x5_8 x2 x3 a_signNumbers).bind (fun q42 => L_X8_shareOf_8 x1 x2 x3 a_signNumbers n (((j0_31 / 4) * q42)) ((x5_8 + 1)))) (fun k_31 => (if q17 = 0 then k_31 256 else k_31 x4_8))))
def F_X8_shareOf (x1 : Int32) (x2 : Int32) (x3 : Int32) (a_signNumbers : Nat → Int32) : Option (Int32) := L_X8_shareOf_8 x1 x2 x3 a_signNumbers 5000 256 0
theorem hdV_X8_shareOf : yX8_shareOf.cls = RX8 ∧ yX8_shareOf.cls ≠ "java/lang/invoke/MethodHandle" ∧ yX8_shareOf.cls ≠ "java/lang/invoke/VarHandle" ∧ (parseMethodDescriptor yX8_shareOf.desc).map (fun d => d.parameters.length) = some 3 := by decide +kernel
set_option maxHeartbeats 4000000 in
set_option maxRecDepth 100000 in
theorem c_X8_shareOf (l : Launch) (G : GG) (x1 : Int32) (x2 : Int32) (x3 : Int32) (h_this : Nat) (ad_this : Nat → Nat) (v_signCount : Int32) (v_houseCount : Int32) (v_boatCount : Int32) (v_workCount : Int32) (v_turnCost : Int32) (v_boatDayCost : Int32) (a_signNumbers : Nat → Int32) (out : Int32) (hF : F_X8_shareOf x1 x2 x3 a_signNumbers = some out) : CtrI l yX8_shareOf (WS yX8_shareOf cX8_shareOf 7 (some .int)) { frames := 3, cells := 0, slots := 0, locals := 64 } G [.ref h_this, .int x1, .int x2, .int x3] [(h_this, oX8 ad_this v_signCount v_houseCount v_boatCount v_workCount v_turnCost v_boatDayCost), ((ad_this 1), cI G 16 a_signNumbers)] [(h_this, oX8 ad_this v_signCount v_houseCount v_boatCount v_workCount v_turnCost v_boatDayCost), ((ad_this 1), cI G 16 a_signNumbers)] out := by
  refine startI (cc := cX8_shareOf) (maxL := 7) (by decide) rfl (Nat.le_of_ble_eq_true rfl) ?_
  intro p e s m args below meth c A Q hx hb hml hts hown hc hA hret ls H locs hl hW
  have hown : s.vm.findClass RX8 = some m.cls := hown
  have hg : ∀ w ∈ GOODS, w.before _ s = true := fun w h => hts w (List.mem_cons_of_mem _ h)
  have hl : lv_has ls 7 [(0, .ref h_this), (1, .int x1), (2, .int x2), (3, .int x3)] := hl
  rw [F_X8_shareOf] at hF
  refine lv_sipush (v := 256) hx hb dX8_shareOf_0 (by decide) ?_
  refine lv_istore (lv' := [(4, .int 256), (0, .ref h_this), (1, .int x1), (2, .int x2), (3, .int x3)]) hx hb dX8_shareOf_3 hl (by decide) rfl (fun ls hl => ?_)
  refine lv_iconst (v := 0) hx hb dX8_shareOf_5 (by decide) ?_
  refine lv_istore (lv' := [(5, .int 0), (4, .int 256), (0, .ref h_this), (1, .int x1), (2, .int x2), (3, .int x3)]) hx hb dX8_shareOf_6 hl (by decide) rfl (fun ls hl => ?_)
  have L_8 : ∀ (n : Nat) (x4_8 : Int32) (x5_8 : Int32) (ls : Array Slot) (H : Heap) (locs : List Loc), L_X8_shareOf_8 x1 x2 x3 a_signNumbers n x4_8 x5_8 = some out → lv_has ls 7 [(0, .ref h_this), (1, .int x1), (2, .int x2), (3, .int x3), (4, .int x4_8), (5, .int x5_8)] → Wd G A s.heap [(h_this, oX8 ad_this v_signCount v_houseCount v_boatCount v_workCount v_turnCost v_boatDayCost), ((ad_this 1), cI G 16 a_signNumbers)] H locs → W p l e ({ frames := 3, cells := 0, slots := 0, locals := 64 } : Room) s m args below meth c H locs 0 0 Q (F0 m 8 ls []) := by
    intro n
    induction n with
    | zero => intro x4_8 x5_8 ls H locs hF hl hW; have h0 : none = some out := hF; cases h0
    | succ n ih =>
      intro x4_8 x5_8 ls H locs hF hl hW
      rw [L_X8_shareOf_8] at hF
      refine lv_iload hx hb dX8_shareOf_8 (lv_at hl 5 rfl) ?_
      refine lv_iload_n hx hb dX8_shareOf_10 rfl (lv_at hl 1 rfl) ?_
      refine lv_icmp_gt (tgt := 54) hx hb dX8_shareOf_11 (by decide) (fun c_11 => ?_) (fun c_11 => ?_)
      · have hF := ite_t hF c_11
        refine lv_iload hx hb dX8_shareOf_54 (lv_at hl 4 rfl) ?_
        obtain rfl := Option.some.inj hF
        exact hret _ _ _ _ hW dX8_shareOf_56
      · have hF := ite_f hF c_11
        refine lv_aload_n hx hb dX8_shareOf_14 rfl (lv_at hl 0 rfl) ?_
        refine lv_iload hx hb dX8_shareOf_15 (lv_at hl 5 rfl) ?_
        obtain ⟨q17, c_17, hF⟩ := bd_el hF
        refine wcZ (ws' := [(h_this, oX8 ad_this v_signCount v_houseCount v_boatCount v_workCount v_turnCost v_boatDayCost), ((ad_this 1), cI G 16 a_signNumbers)]) (wc := [(h_this, oX8 ad_this v_signCount v_houseCount v_boatCount v_workCount v_turnCost v_boatDayCost), ((ad_this 1), cI G 16 a_signNumbers)]) (wr := []) (w1 := [(h_this, oX8 ad_this v_signCount v_houseCount v_boatCount v_workCount v_turnCost v_boatDayCost), ((ad_this 1), cI G 16 a_signNumbers)]) (va_runV (As := [.int x5_8]) (rest := []) ⟨hx, hb, hml, hown, hg⟩ (c_X8_hangsOnOther l G x5_8 h_this ad_this v_signCount v_houseCount v_boatCount v_workCount v_turnCost v_boatDayCost a_signNumbers q17 c_17 H.size) (cwV 1 hg (gV wd_3_21 wd_3_23 wd_0_13 wd_1_4 wd_3_24) rfl rfl rfl hdV_X8_hangsOnOther ⟨(Nat.le_of_ble_eq_true rfl), (Nat.le_of_ble_eq_true rfl)⟩) (preV hc hW [0, 1] rfl (by decide) rfl rfl) rfl rfl hl.1 rfl (lv_room (Nat.le_of_ble_eq_true rfl)) dX8_shareOf_17 ⟨Nat.zero_le _, Nat.zero_le _⟩) hA hW [0, 1] [] [0, 1] rfl rfl (by decide) (by decide) rfl (by decide) (fun z_17 H locs hW => ?_)
        obtain ⟨k_31, e_31, hF⟩ := jn_el hF
        have J_31 : ∀ (j0_31 : Int32) (ls : Array Slot) (H : Heap) (locs : List Loc), k_31 j0_31 = some out → lv_has ls 7 [(0, .ref h_this), (1, .int x1), (2, .int x2), (3, .int x3), (5, .int x5_8)] → Wd G A s.heap [(h_this, oX8 ad_this v_signCount v_houseCount v_boatCount v_workCount v_turnCost v_boatDayCost), ((ad_this 1), cI G 16 a_signNumbers)] H locs → W p l e ({ frames := 3, cells := 0, slots := 0, locals := 64 } : Room) s m args below meth c H locs 0 0 Q (F0 m 31 ls [.int j0_31]) := by
          intro j0_31 ls H locs hF hl hW
          rw [e_31] at hF
          dsimp only at hF
          refine lv_istore (lv' := [(6, .int j0_31), (0, .ref h_this), (1, .int x1), (2, .int x2), (3, .int x3), (5, .int x5_8)]) hx hb dX8_shareOf_31 hl (by decide) rfl (fun ls hl => ?_)
          refine lv_iload hx hb dX8_shareOf_33 (lv_at hl 0 rfl) ?_
          refine lv_iconst (v := 4) hx hb dX8_shareOf_35 (by decide) ?_
          refine lv_idiv hx hb dX8_shareOf_36 (by decide) ?_
          refine lv_aload_n hx hb dX8_shareOf_37 rfl (lv_at hl 1 rfl) ?_
          refine lv_iload hx hb dX8_shareOf_38 (lv_at hl 5 rfl) ?_
          refine lv_iload_n hx hb dX8_shareOf_40 rfl (lv_at hl 3 rfl) ?_
          refine lv_iload_n hx hb dX8_shareOf_41 rfl (lv_at hl 4 rfl) ?_
          obtain ⟨q42, c_42, hF⟩ := bd_el hF
          refine wcI (ws' := [(h_this, oX8 ad_this v_signCount v_houseCount v_boatCount v_workCount v_turnCost v_boatDayCost), ((ad_this 1), cI G 16 a_signNumbers)]) (wc := [(h_this, oX8 ad_this v_signCount v_houseCount v_boatCount v_workCount v_turnCost v_boatDayCost), ((ad_this 1), cI G 16 a_signNumbers)]) (wr := []) (w1 := [(h_this, oX8 ad_this v_signCount v_houseCount v_boatCount v_workCount v_turnCost v_boatDayCost), ((ad_this 1), cI G 16 a_signNumbers)]) (va_runV (As := [.int x5_8, .int x2, .int x3]) (rest := [.int ((j0_31 / 4))]) ⟨hx, hb, hml, hown, hg⟩ (c_X8_ownChance l G x5_8 x2 x3 h_this ad_this v_signCount v_houseCount v_boatCount v_workCount v_turnCost v_boatDayCost a_signNumbers q42 c_42 H.size) (cwV 3 hg (gV wd_3_26 wd_3_28 wd_0_14 wd_1_4 wd_3_29) rfl rfl rfl hdV_X8_ownChance ⟨(Nat.le_of_ble_eq_true rfl), (Nat.le_of_ble_eq_true rfl)⟩) (preV hc hW [0, 1] rfl (by decide) rfl rfl) rfl rfl hl.1 rfl (lv_room (Nat.le_of_ble_eq_true rfl)) dX8_shareOf_42 ⟨Nat.zero_le _, Nat.zero_le _⟩) hA hW [0, 1] [] [0, 1] rfl rfl (by decide) (by decide) rfl (by decide) (fun H locs hW => ?_)
          refine lv_imul hx hb dX8_shareOf_45 ?_
          refine lv_istore (lv' := [(4, .int (((j0_31 / 4) * q42))), (6, .int j0_31), (0, .ref h_this), (1, .int x1), (2, .int x2), (3, .int x3), (5, .int x5_8)]) hx hb dX8_shareOf_46 hl (by decide) rfl (fun ls hl => ?_)
          refine lv_iinc (v := (x5_8 + 1)) (lv' := [(5, .int ((x5_8 + 1))), (4, .int (((j0_31 / 4) * q42))), (6, .int j0_31), (0, .ref h_this), (1, .int x1), (2, .int x2), (3, .int x3)]) hx hb dX8_shareOf_48 hl (k := 6) rfl rfl (by decide) rfl (fun ls hl => ?_)
          refine lv_goto (tgt := 8) hx hb dX8_shareOf_51 (by decide) ?_
          exact ih (((j0_31 / 4) * q42)) ((x5_8 + 1)) _ _ _ hF (lv_sub hl [3, 4, 5, 6, 1, 0] rfl) hW
        refine lv_if_eq (tgt := 28) hx hb dX8_shareOf_20 (by decide) (fun c_20 => ?_) (fun c_20 => ?_)
        · have hF := ite_t hF c_20
          refine lv_sipush (v := 256) hx hb dX8_shareOf_28 (by decide) ?_
          exact J_31 256 _ _ _ hF (lv_sub hl [0, 1, 2, 3, 5] rfl) hW
        · have hF := ite_f hF c_20
          refine lv_iload hx hb dX8_shareOf_23 (lv_at hl 4 rfl) ?_
          refine lv_goto (tgt := 31) hx hb dX8_shareOf_25 (by decide) ?_
          exact J_31 x4_8 _ _ _ hF (lv_sub hl [0, 1, 2, 3, 5] rfl) hW
  exact L_8 5000 256 0 _ _ _ hF (lv_sub hl [2, 3, 4, 5, 1, 0] rfl) hW
end
section
theorem dX1_append_0 : decode cX1_append 0 = .ok (.aload_n 0, 1) := by decide +kernel
theorem dX1_append_1 : decode cX1_append 1 = .ok (.getfield 16, 3) := by decide +kernel
theorem dX1_append_4 : decode cX1_append 4 = .ok (.iconst 5, 1) := by decide +kernel
theorem dX1_append_5 : decode cX1_append 5 = .ok (.if_icmp .ge 37, 3) := by decide +kernel
theorem dX1_append_8 : decode cX1_append 8 = .ok (.aload_n 0, 1) := by decide +kernel
theorem dX1_append_9 : decode cX1_append 9 = .ok (.getfield 9, 3) := by decide +kernel
theorem dX1_append_12 : decode cX1_append 12 = .ok (.aload_n 0, 1) := by decide +kernel
theorem dX1_append_13 : decode cX1_append 13 = .ok (.getfield 16, 3) := by decide +kernel
theorem dX1_append_16 : decode cX1_append 16 = .ok (.iload_n 1, 1) := by decide +kernel
theorem dX1_append_17 : decode cX1_append 17 = .ok (.invokestatic 20, 3) := by decide +kernel
theorem dX1_append_20 : decode cX1_append 20 = .ok (.aload_n 0, 1) := by decide +kernel
theorem dX1_append_21 : decode cX1_append 21 = .ok (.getfield 13, 3) := by decide +kernel
theorem dX1_append_24 : decode cX1_append 24 = .ok (.aload_n 0, 1) := by decide +kernel
theorem dX1_append_25 : decode cX1_append 25 = .ok (.getfield 16, 3) := by decide +kernel
theorem dX1_append_28 : decode cX1_append 28 = .ok (.iload_n 2, 1) := by decide +kernel
theorem dX1_append_29 : decode cX1_append 29 = .ok (.invokestatic 20, 3) := by decide +kernel
theorem dX1_append_32 : decode cX1_append 32 = .ok (.aload_n 0, 1) := by decide +kernel
theorem dX1_append_33 : decode cX1_append 33 = .ok (.dup, 1) := by decide +kernel
theorem dX1_append_34 : decode cX1_append 34 = .ok (.getfield 16, 3) := by decide +kernel
theorem dX1_append_37 : decode cX1_append 37 = .ok (.iconst 1, 1) := by decide +kernel
theorem dX1_append_38 : decode cX1_append 38 = .ok (.iadd, 1) := by decide +kernel
theorem dX1_append_39 : decode cX1_append 39 = .ok (.putfield 16, 3) := by decide +kernel
theorem dX1_append_42 : decode cX1_append 42 = .ok (.return_, 1) := by decide +kernel
def F_X1_append (x1 : Int32) (x2 : Int32) (v_days : Int32) (a_signs : Nat → Int32) (a_works : Nat → Int32) : Option (Int32 × (Nat → Int32) × (Nat → Int32)) := (if 5 ≤ v_days then some (v_days, a_signs, a_works) else (F_X4_put v_days x1 5 a_signs).bind (fun q17 => (F_X4_put v_days x2 5 a_works).bind (fun q29 => some ((v_days + 1), q17, q29))))
theorem hdV_X1_append : yX1_append.cls = RX1 ∧ yX1_append.cls ≠ "java/lang/invoke/MethodHandle" ∧ yX1_append.cls ≠ "java/lang/invoke/VarHandle" ∧ (parseMethodDescriptor yX1_append.desc).map (fun d => d.parameters.length) = some 2 := by decide +kernel
set_option maxHeartbeats 4000000 in
set_option maxRecDepth 100000 in
theorem c_X1_append (l : Launch) (G : GG) (x1 : Int32) (x2 : Int32) (h_this : Nat) (ad_this : Nat → Nat) (v_days : Int32) (a_signs : Nat → Int32) (a_works : Nat → Int32) (out : Int32 × (Nat → Int32) × (Nat → Int32)) (hF : F_X1_append x1 x2 v_days a_signs a_works = some out) : CtrV l yX1_append (WS yX1_append cX1_append 3 none) { frames := 1, cells := 0, slots := 0, locals := 22 } G [.ref h_this, .int x1, .int x2] [(h_this, oX1 ad_this v_days), ((ad_this 0), cI G 5 a_signs), ((ad_this 1), cI G 5 a_works)] [(h_this, oX1 ad_this out.1), ((ad_this 0), cI G 5 out.2.1), ((ad_this 1), cI G 5 out.2.2)] := by
  refine startV (cc := cX1_append) (maxL := 3) (by decide) rfl (Nat.le_of_ble_eq_true rfl) ?_
  intro p e s m args below meth c A Q hx hb hml hts hown hc hA hret ls H locs hl hW
  have hown : s.vm.findClass RX1 = some m.cls := hown
  have hg : ∀ w ∈ GOODS, w.before _ s = true := fun w h => hts w (List.mem_cons_of_mem _ h)
  have hl : lv_has ls 3 [(0, .ref h_this), (1, .int x1), (2, .int x2)] := hl
  rw [F_X1_append] at hF
  refine lv_aload_n hx hb dX1_append_0 rfl (lv_at hl 0 rfl) ?_
  refine va_get (D := G.1) (ci := 1) (v := .int v_days) (C := RX1) (T := TX1) (N := 3) hx hb hg hu_X1 hown hc.1 hW.1 0 rfl rfl 2 (by decide) (hg _ wd_1_125) (fun _ h9 => h9) rfl dX1_append_1 ?_
  refine lv_iconst (v := 5) hx hb dX1_append_4 (by decide) ?_
  refine lv_icmp_ge (tgt := 42) hx hb dX1_append_5 (by decide) (fun c_5 => ?_) (fun c_5 => ?_)
  · have hF := ite_t hF c_5
    obtain rfl := Option.some.inj hF
    exact hret _ _ _ _ hW dX1_append_42
  · have hF := ite_f hF c_5
    refine lv_aload_n hx hb dX1_append_8 rfl (lv_at hl 0 rfl) ?_
    refine va_get (D := G.1) (ci := 1) (v := .ref ((ad_this 0))) (C := RX1) (T := TX1) (N := 3) hx hb hg hu_X1 hown hc.1 hW.1 0 rfl rfl 0 (by decide) (hg _ wd_1_123) (fun _ h9 => h9) rfl dX1_append_9 ?_
    refine lv_aload_n hx hb dX1_append_12 rfl (lv_at hl 0 rfl) ?_
    refine va_get (D := G.1) (ci := 1) (v := .int v_days) (C := RX1) (T := TX1) (N := 3) hx hb hg hu_X1 hown hc.1 hW.1 0 rfl rfl 2 (by decide) (hg _ wd_1_125) (fun _ h9 => h9) rfl dX1_append_13 ?_
    refine lv_iload_n hx hb dX1_append_16 rfl (lv_at hl 1 rfl) ?_
    obtain ⟨q17, c_17, hF⟩ := bd_el hF
    refine wcV (ws' := [(h_this, oX1 ad_this v_days), ((ad_this 0), cI G 5 q17), ((ad_this 1), cI G 5 a_works)]) (wc := [((ad_this 0), cI G 5 a_signs)]) (wr := [(h_this, oX1 ad_this v_days), ((ad_this 1), cI G 5 a_works)]) (w1 := [((ad_this 0), cI G 5 q17)]) (va_runS (As := [.ref ((ad_this 0)), .int v_days, .int x1]) (rest := []) ⟨hx, hb, hml, hown, hg⟩ (c_X4_put l G v_days x1 5 ((ad_this 0)) a_signs q17 c_17 H.size) (va_cwS 3 hg (gS wd_2_194 wd_2_17 wd_1_14 wd_2_18) rfl rfl rfl hdS_X4_put ⟨(Nat.le_of_ble_eq_true rfl), (Nat.le_of_ble_eq_true rfl)⟩) (preS hc hW [1] rfl (by decide)) rfl rfl hl.1 rfl (lv_room (Nat.le_of_ble_eq_true rfl)) dX1_append_17 ⟨Nat.zero_le _, Nat.zero_le _⟩) hA hW [1] [0, 2] [0, 2, 1] rfl rfl (by decide) (by decide) rfl (by decide) (fun H locs hW => ?_)
    refine lv_aload_n hx hb dX1_append_20 rfl (lv_at hl 0 rfl) ?_
    refine va_get (D := G.1) (ci := 1) (v := .ref ((ad_this 1))) (C := RX1) (T := TX1) (N := 3) hx hb hg hu_X1 hown hc.1 hW.1 0 rfl rfl 1 (by decide) (hg _ wd_1_124) (fun _ h9 => h9) rfl dX1_append_21 ?_
    refine lv_aload_n hx hb dX1_append_24 rfl (lv_at hl 0 rfl) ?_
    refine va_get (D := G.1) (ci := 1) (v := .int v_days) (C := RX1) (T := TX1) (N := 3) hx hb hg hu_X1 hown hc.1 hW.1 0 rfl rfl 2 (by decide) (hg _ wd_1_125) (fun _ h9 => h9) rfl dX1_append_25 ?_
    refine lv_iload_n hx hb dX1_append_28 rfl (lv_at hl 2 rfl) ?_
    obtain ⟨q29, c_29, hF⟩ := bd_el hF
    refine wcV (ws' := [(h_this, oX1 ad_this v_days), ((ad_this 0), cI G 5 q17), ((ad_this 1), cI G 5 q29)]) (wc := [((ad_this 1), cI G 5 a_works)]) (wr := [(h_this, oX1 ad_this v_days), ((ad_this 0), cI G 5 q17)]) (w1 := [((ad_this 1), cI G 5 q29)]) (va_runS (As := [.ref ((ad_this 1)), .int v_days, .int x2]) (rest := []) ⟨hx, hb, hml, hown, hg⟩ (c_X4_put l G v_days x2 5 ((ad_this 1)) a_works q29 c_29 H.size) (va_cwS 3 hg (gS wd_2_194 wd_2_17 wd_1_14 wd_2_18) rfl rfl rfl hdS_X4_put ⟨(Nat.le_of_ble_eq_true rfl), (Nat.le_of_ble_eq_true rfl)⟩) (preS hc hW [2] rfl (by decide)) rfl rfl hl.1 rfl (lv_room (Nat.le_of_ble_eq_true rfl)) dX1_append_29 ⟨Nat.zero_le _, Nat.zero_le _⟩) hA hW [2] [0, 1] [0, 1, 2] rfl rfl (by decide) (by decide) rfl (by decide) (fun H locs hW => ?_)
    refine lv_aload_n hx hb dX1_append_32 rfl (lv_at hl 0 rfl) ?_
    refine lv_dup hx hb dX1_append_33 rfl ?_
    refine va_get (D := G.1) (ci := 1) (v := .int v_days) (C := RX1) (T := TX1) (N := 3) hx hb hg hu_X1 hown hc.1 hW.1 0 rfl rfl 2 (by decide) (hg _ wd_1_125) (fun _ h9 => h9) rfl dX1_append_34 ?_
    refine lv_iconst (v := 1) hx hb dX1_append_37 (by decide) ?_
    refine lv_iadd hx hb dX1_append_38 ?_
    refine va_put (D := G.1) (ci := 1) (v := .int ((v_days + 1))) (ty := .int) (C := RX1) (T := TX1) (N := 3) hx hb hg hu_X1 tyX1 tyX1_ok nmX1 hown hc.1 hW.1 hW.2.1 hW.2.2 0 rfl rfl 2 (by decide) (hg _ wd_1_125) (fun _ h9 => h9) rfl (by decide +kernel) rfl rfl (Nat.le_of_ble_eq_true rfl) dX1_append_39 (fun H locs hP hD hS => ?_)
    have hW : Wd G A s.heap [(h_this, oX1 ad_this ((v_days + 1))), ((ad_this 0), cI G 5 q17), ((ad_this 1), cI G 5 q29)] H locs := ⟨hP, hD, hS⟩
    obtain rfl := Option.some.inj hF
    exact hret _ _ _ _ hW dX1_append_42
theorem dX1_signsOn_0 : decode cX1_signsOn 0 = .ok (.aload_n 0, 1) := by decide +kernel
theorem dX1_signsOn_1 : decode cX1_signsOn 1 = .ok (.getfield 9, 3) := by decide +kernel
theorem dX1_signsOn_4 : decode cX1_signsOn 4 = .ok (.iload_n 1, 1) := by decide +kernel
theorem dX1_signsOn_5 : decode cX1_signsOn 5 = .ok (.invokestatic 26, 3) := by decide +kernel
theorem dX1_signsOn_8 : decode cX1_signsOn 8 = .ok (.ireturn, 1) := by decide +kernel
def F_X1_signsOn (x1 : Int32) (a_signs : Nat → Int32) : Option (Int32) := (F_X4_at x1 5 a_signs).bind (fun q5 => some (q5))
theorem hdV_X1_signsOn : yX1_signsOn.cls = RX1 ∧ yX1_signsOn.cls ≠ "java/lang/invoke/MethodHandle" ∧ yX1_signsOn.cls ≠ "java/lang/invoke/VarHandle" ∧ (parseMethodDescriptor yX1_signsOn.desc).map (fun d => d.parameters.length) = some 1 := by decide +kernel
set_option maxHeartbeats 4000000 in
set_option maxRecDepth 100000 in
theorem c_X1_signsOn (l : Launch) (G : GG) (x1 : Int32) (h_this : Nat) (ad_this : Nat → Nat) (v_days : Int32) (a_signs : Nat → Int32) (out : Int32) (hF : F_X1_signsOn x1 a_signs = some out) : CtrI l yX1_signsOn (WS yX1_signsOn cX1_signsOn 2 (some .int)) { frames := 1, cells := 0, slots := 0, locals := 21 } G [.ref h_this, .int x1] [(h_this, oX1 ad_this v_days), ((ad_this 0), cI G 5 a_signs)] [(h_this, oX1 ad_this v_days), ((ad_this 0), cI G 5 a_signs)] out := by
  refine startI (cc := cX1_signsOn) (maxL := 2) (by decide) rfl (Nat.le_of_ble_eq_true rfl) ?_
  intro p e s m args below meth c A Q hx hb hml hts hown hc hA hret ls H locs hl hW
  have hown : s.vm.findClass RX1 = some m.cls := hown
  have hg : ∀ w ∈ GOODS, w.before _ s = true := fun w h => hts w (List.mem_cons_of_mem _ h)
  have hl : lv_has ls 2 [(0, .ref h_this), (1, .int x1)] := hl
  rw [F_X1_signsOn] at hF
  refine lv_aload_n hx hb dX1_signsOn_0 rfl (lv_at hl 0 rfl) ?_
  refine va_get (D := G.1) (ci := 1) (v := .ref ((ad_this 0))) (C := RX1) (T := TX1) (N := 3) hx hb hg hu_X1 hown hc.1 hW.1 0 rfl rfl 0 (by decide) (hg _ wd_1_123) (fun _ h9 => h9) rfl dX1_signsOn_1 ?_
  refine lv_iload_n hx hb dX1_signsOn_4 rfl (lv_at hl 1 rfl) ?_
  obtain ⟨q5, c_5, hF⟩ := bd_el hF
  refine wcI (ws' := [(h_this, oX1 ad_this v_days), ((ad_this 0), cI G 5 a_signs)]) (wc := [((ad_this 0), cI G 5 a_signs)]) (wr := [(h_this, oX1 ad_this v_days)]) (w1 := [((ad_this 0), cI G 5 a_signs)]) (va_runS (As := [.ref ((ad_this 0)), .int x1]) (rest := []) ⟨hx, hb, hml, hown, hg⟩ (c_X4_at l G x1 5 ((ad_this 0)) a_signs q5 c_5 H.size) (va_cwS 2 hg (gS wd_2_203 wd_2_37 wd_1_14 wd_2_38) rfl rfl rfl hdS_X4_at ⟨(Nat.le_of_ble_eq_true rfl), (Nat.le_of_ble_eq_true rfl)⟩) (preS hc hW [1] rfl (by decide)) rfl rfl hl.1 rfl (lv_room (Nat.le_of_ble_eq_true rfl)) dX1_signsOn_5 ⟨Nat.zero_le _, Nat.zero_le _⟩) hA hW [1] [0] [0, 1] rfl rfl (by decide) (by decide) rfl (by decide) (fun H locs hW => ?_)
  obtain rfl := Option.some.inj hF
  exact hret _ _ _ _ hW dX1_signsOn_8
theorem dX1_worksOn_0 : decode cX1_worksOn 0 = .ok (.aload_n 0, 1) := by decide +kernel
theorem dX1_worksOn_1 : decode cX1_worksOn 1 = .ok (.getfield 13, 3) := by decide +kernel
theorem dX1_worksOn_4 : decode cX1_worksOn 4 = .ok (.iload_n 1, 1) := by decide +kernel
theorem dX1_worksOn_5 : decode cX1_worksOn 5 = .ok (.invokestatic 26, 3) := by decide +kernel
theorem dX1_worksOn_8 : decode cX1_worksOn 8 = .ok (.ireturn, 1) := by decide +kernel
def F_X1_worksOn (x1 : Int32) (a_works : Nat → Int32) : Option (Int32) := (F_X4_at x1 5 a_works).bind (fun q5 => some (q5))
theorem hdV_X1_worksOn : yX1_worksOn.cls = RX1 ∧ yX1_worksOn.cls ≠ "java/lang/invoke/MethodHandle" ∧ yX1_worksOn.cls ≠ "java/lang/invoke/VarHandle" ∧ (parseMethodDescriptor yX1_worksOn.desc).map (fun d => d.parameters.length) = some 1 := by decide +kernel
set_option maxHeartbeats 4000000 in
set_option maxRecDepth 100000 in
theorem c_X1_worksOn (l : Launch) (G : GG) (x1 : Int32) (h_this : Nat) (ad_this : Nat → Nat) (v_days : Int32) (a_works : Nat → Int32) (out : Int32) (hF : F_X1_worksOn x1 a_works = some out) : CtrI l yX1_worksOn (WS yX1_worksOn cX1_worksOn 2 (some .int)) { frames := 1, cells := 0, slots := 0, locals := 21 } G [.ref h_this, .int x1] [(h_this, oX1 ad_this v_days), ((ad_this 1), cI G 5 a_works)] [(h_this, oX1 ad_this v_days), ((ad_this 1), cI G 5 a_works)] out := by
  refine startI (cc := cX1_worksOn) (maxL := 2) (by decide) rfl (Nat.le_of_ble_eq_true rfl) ?_
  intro p e s m args below meth c A Q hx hb hml hts hown hc hA hret ls H locs hl hW
  have hown : s.vm.findClass RX1 = some m.cls := hown
  have hg : ∀ w ∈ GOODS, w.before _ s = true := fun w h => hts w (List.mem_cons_of_mem _ h)
  have hl : lv_has ls 2 [(0, .ref h_this), (1, .int x1)] := hl
  rw [F_X1_worksOn] at hF
  refine lv_aload_n hx hb dX1_worksOn_0 rfl (lv_at hl 0 rfl) ?_
  refine va_get (D := G.1) (ci := 1) (v := .ref ((ad_this 1))) (C := RX1) (T := TX1) (N := 3) hx hb hg hu_X1 hown hc.1 hW.1 0 rfl rfl 1 (by decide) (hg _ wd_1_124) (fun _ h9 => h9) rfl dX1_worksOn_1 ?_
  refine lv_iload_n hx hb dX1_worksOn_4 rfl (lv_at hl 1 rfl) ?_
  obtain ⟨q5, c_5, hF⟩ := bd_el hF
  refine wcI (ws' := [(h_this, oX1 ad_this v_days), ((ad_this 1), cI G 5 a_works)]) (wc := [((ad_this 1), cI G 5 a_works)]) (wr := [(h_this, oX1 ad_this v_days)]) (w1 := [((ad_this 1), cI G 5 a_works)]) (va_runS (As := [.ref ((ad_this 1)), .int x1]) (rest := []) ⟨hx, hb, hml, hown, hg⟩ (c_X4_at l G x1 5 ((ad_this 1)) a_works q5 c_5 H.size) (va_cwS 2 hg (gS wd_2_203 wd_2_37 wd_1_14 wd_2_38) rfl rfl rfl hdS_X4_at ⟨(Nat.le_of_ble_eq_true rfl), (Nat.le_of_ble_eq_true rfl)⟩) (preS hc hW [1] rfl (by decide)) rfl rfl hl.1 rfl (lv_room (Nat.le_of_ble_eq_true rfl)) dX1_worksOn_5 ⟨Nat.zero_le _, Nat.zero_le _⟩) hA hW [1] [0] [0, 1] rfl rfl (by decide) (by decide) rfl (by decide) (fun H locs hW => ?_)
  obtain rfl := Option.some.inj hF
  exact hret _ _ _ _ hW dX1_worksOn_8
theorem dX1_takeFrom_0 : decode cX1_takeFrom 0 = .ok (.aload_n 0, 1) := by decide +kernel
theorem dX1_takeFrom_1 : decode cX1_takeFrom 1 = .ok (.iconst 0, 1) := by decide +kernel
theorem dX1_takeFrom_2 : decode cX1_takeFrom 2 = .ok (.putfield 16, 3) := by decide +kernel
theorem dX1_takeFrom_5 : decode cX1_takeFrom 5 = .ok (.iconst 0, 1) := by decide +kernel
theorem dX1_takeFrom_6 : decode cX1_takeFrom 6 = .ok (.istore_n 2, 1) := by decide +kernel
theorem dX1_takeFrom_7 : decode cX1_takeFrom 7 = .ok (.iload_n 2, 1) := by decide +kernel
theorem dX1_takeFrom_8 : decode cX1_takeFrom 8 = .ok (.aload_n 1, 1) := by decide +kernel
theorem dX1_takeFrom_9 : decode cX1_takeFrom 9 = .ok (.getfield 16, 3) := by decide +kernel
theorem dX1_takeFrom_12 : decode cX1_takeFrom 12 = .ok (.if_icmp .ge 23, 3) := by decide +kernel
theorem dX1_takeFrom_15 : decode cX1_takeFrom 15 = .ok (.aload_n 0, 1) := by decide +kernel
theorem dX1_takeFrom_16 : decode cX1_takeFrom 16 = .ok (.aload_n 1, 1) := by decide +kernel
theorem dX1_takeFrom_17 : decode cX1_takeFrom 17 = .ok (.iload_n 2, 1) := by decide +kernel
theorem dX1_takeFrom_18 : decode cX1_takeFrom 18 = .ok (.invokevirtual 30, 3) := by decide +kernel
theorem dX1_takeFrom_21 : decode cX1_takeFrom 21 = .ok (.aload_n 1, 1) := by decide +kernel
theorem dX1_takeFrom_22 : decode cX1_takeFrom 22 = .ok (.iload_n 2, 1) := by decide +kernel
theorem dX1_takeFrom_23 : decode cX1_takeFrom 23 = .ok (.invokevirtual 34, 3) := by decide +kernel
theorem dX1_takeFrom_26 : decode cX1_takeFrom 26 = .ok (.invokevirtual 37, 3) := by decide +kernel
theorem dX1_takeFrom_29 : decode cX1_takeFrom 29 = .ok (.iinc 2 1, 3) := by decide +kernel
theorem dX1_takeFrom_32 : decode cX1_takeFrom 32 = .ok (.goto (-25), 3) := by decide +kernel
theorem dX1_takeFrom_35 : decode cX1_takeFrom 35 = .ok (.return_, 1) := by decide +kernel
def L_X1_takeFrom_7 (v_p1_days : Int32) (a_p1_signs : Nat → Int32) (a_p1_works : Nat → Int32)  : Nat → Int32 → Int32 → (Nat → Int32) → (Nat → Int32) → Option (Int32 × (Nat → Int32) × (Nat → Int32))
  | 0, _, _, _, _ => none
  | n + 1, x2_7, v_days_7, a_signs_7, a_works_7 => (if v_p1_days ≤ x2_7 then some (v_days_7, a_signs_7, a_works_7) else (F_X1_signsOn x2_7 a_p1_signs).bind (fun q18 => (F_X1_worksOn x2_7 a_p1_works).bind (fun q23 => (F_X1_append q18 q23 v_days_7 a_signs_7 a_works_7).bind (fun q26 => L_X1_takeFrom_7 v_p1_days a_p1_signs a_p1_works n ((x2_7 + 1)) q26.1 q26.2.1 q26.2.2))))
def F_X1_takeFrom (v_days : Int32) (v_p1_days : Int32) (a_p1_signs : Nat → Int32) (a_p1_works : Nat → Int32) (a_signs : Nat → Int32) (a_works : Nat → Int32) : Option (Int32 × (Nat → Int32) × (Nat → Int32)) := L_X1_takeFrom_7 v_p1_days a_p1_signs a_p1_works 5000 0 0 a_signs a_works
theorem hdV_X1_takeFrom : yX1_takeFrom.cls = RX1 ∧ yX1_takeFrom.cls ≠ "java/lang/invoke/MethodHandle" ∧ yX1_takeFrom.cls ≠ "java/lang/invoke/VarHandle" ∧ (parseMethodDescriptor yX1_takeFrom.desc).map (fun d => d.parameters.length) = some 1 := by decide +kernel
set_option maxHeartbeats 4000000 in
set_option maxRecDepth 100000 in
theorem c_X1_takeFrom (l : Launch) (G : GG) (h_this : Nat) (h_p1 : Nat) (ad_this : Nat → Nat) (ad_p1 : Nat → Nat) (v_days : Int32) (v_p1_days : Int32) (a_p1_signs : Nat → Int32) (a_p1_works : Nat → Int32) (a_signs : Nat → Int32) (a_works : Nat → Int32) (out : Int32 × (Nat → Int32) × (Nat → Int32)) (hF : F_X1_takeFrom v_days v_p1_days a_p1_signs a_p1_works a_signs a_works = some out) : CtrV l yX1_takeFrom (WS yX1_takeFrom cX1_takeFrom 3 none) { frames := 2, cells := 0, slots := 0, locals := 44 } G [.ref h_this, .ref h_p1] [(h_this, oX1 ad_this v_days), (h_p1, oX1 ad_p1 v_p1_days), ((ad_p1 0), cI G 5 a_p1_signs), ((ad_p1 1), cI G 5 a_p1_works), ((ad_this 0), cI G 5 a_signs), ((ad_this 1), cI G 5 a_works)] [(h_this, oX1 ad_this out.1), (h_p1, oX1 ad_p1 v_p1_days), ((ad_p1 0), cI G 5 a_p1_signs), ((ad_p1 1), cI G 5 a_p1_works), ((ad_this 0), cI G 5 out.2.1), ((ad_this 1), cI G 5 out.2.2)] := by
  refine startV (cc := cX1_takeFrom) (maxL := 3) (by decide) rfl (Nat.le_of_ble_eq_true rfl) ?_
  intro p e s m args below meth c A Q hx hb hml hts hown hc hA hret ls H locs hl hW
  have hown : s.vm.findClass RX1 = some m.cls := hown
  have hg : ∀ w ∈ GOODS, w.before _ s = true := fun w h => hts w (List.mem_cons_of_mem _ h)
  have hl : lv_has ls 3 [(0, .ref h_this), (1, .ref h_p1)] := hl
  rw [F_X1_takeFrom] at hF
  refine lv_aload_n hx hb dX1_takeFrom_0 rfl (lv_at hl 0 rfl) ?_
  refine lv_iconst (v := 0) hx hb dX1_takeFrom_1 (by decide) ?_
  refine va_put (D := G.1) (ci := 1) (v := .int 0) (ty := .int) (C := RX1) (T := TX1) (N := 3) hx hb hg hu_X1 tyX1 tyX1_ok nmX1 hown hc.1 hW.1 hW.2.1 hW.2.2 0 rfl rfl 2 (by decide) (hg _ wd_1_125) (fun _ h9 => h9) rfl (by decide +kernel) rfl rfl (Nat.le_of_ble_eq_true rfl) dX1_takeFrom_2 (fun H locs hP hD hS => ?_)
  have hW : Wd G A s.heap [(h_this, oX1 ad_this 0), (h_p1, oX1 ad_p1 v_p1_days), ((ad_p1 0), cI G 5 a_p1_signs), ((ad_p1 1), cI G 5 a_p1_works), ((ad_this 0), cI G 5 a_signs), ((ad_this 1), cI G 5 a_works)] H locs := ⟨hP, hD, hS⟩
  refine lv_iconst (v := 0) hx hb dX1_takeFrom_5 (by decide) ?_
  refine lv_istore_n (lv' := [(2, .int 0), (0, .ref h_this), (1, .ref h_p1)]) hx hb dX1_takeFrom_6 rfl hl (by decide) rfl (fun ls hl => ?_)
  have L_7 : ∀ (n : Nat) (x2_7 : Int32) (v_days_7 : Int32) (a_signs_7 : Nat → Int32) (a_works_7 : Nat → Int32) (ls : Array Slot) (H : Heap) (locs : List Loc), L_X1_takeFrom_7 v_p1_days a_p1_signs a_p1_works n x2_7 v_days_7 a_signs_7 a_works_7 = some out → lv_has ls 3 [(0, .ref h_this), (1, .ref h_p1), (2, .int x2_7)] → Wd G A s.heap [(h_this, oX1 ad_this v_days_7), (h_p1, oX1 ad_p1 v_p1_days), ((ad_p1 0), cI G 5 a_p1_signs), ((ad_p1 1), cI G 5 a_p1_works), ((ad_this 0), cI G 5 a_signs_7), ((ad_this 1), cI G 5 a_works_7)] H locs → W p l e ({ frames := 2, cells := 0, slots := 0, locals := 44 } : Room) s m args below meth c H locs 0 0 Q (F0 m 7 ls []) := by
    intro n
    induction n with
    | zero => intro x2_7 v_days_7 a_signs_7 a_works_7 ls H locs hF hl hW; have h0 : none = some out := hF; cases h0
    | succ n ih =>
      intro x2_7 v_days_7 a_signs_7 a_works_7 ls H locs hF hl hW
      rw [L_X1_takeFrom_7] at hF
      refine lv_iload_n hx hb dX1_takeFrom_7 rfl (lv_at hl 2 rfl) ?_
      refine lv_aload_n hx hb dX1_takeFrom_8 rfl (lv_at hl 1 rfl) ?_
      refine va_get (D := G.1) (ci := 1) (v := .int v_p1_days) (C := RX1) (T := TX1) (N := 3) hx hb hg hu_X1 hown hc.1 hW.1 1 rfl rfl 2 (by decide) (hg _ wd_1_125) (fun _ h9 => h9) rfl dX1_takeFrom_9 ?_
      refine lv_icmp_ge (tgt := 35) hx hb dX1_takeFrom_12 (by decide) (fun c_12 => ?_) (fun c_12 => ?_)
      · have hF := ite_t hF c_12
        obtain rfl := Option.some.inj hF
        exact hret _ _ _ _ hW dX1_takeFrom_35
      · have hF := ite_f hF c_12
        refine lv_aload_n hx hb dX1_takeFrom_15 rfl (lv_at hl 0 rfl) ?_
        refine lv_aload_n hx hb dX1_takeFrom_16 rfl (lv_at hl 1 rfl) ?_
        refine lv_iload_n hx hb dX1_takeFrom_17 rfl (lv_at hl 2 rfl) ?_
        obtain ⟨q18, c_18, hF⟩ := bd_el hF
        refine wcI (ws' := [(h_this, oX1 ad_this v_days_7), (h_p1, oX1 ad_p1 v_p1_days), ((ad_p1 0), cI G 5 a_p1_signs), ((ad_p1 1), cI G 5 a_p1_works), ((ad_this 0), cI G 5 a_signs_7), ((ad_this 1), cI G 5 a_works_7)]) (wc := [(h_p1, oX1 ad_p1 v_p1_days), ((ad_p1 0), cI G 5 a_p1_signs)]) (wr := [(h_this, oX1 ad_this v_days_7), ((ad_p1 1), cI G 5 a_p1_works), ((ad_this 0), cI G 5 a_signs_7), ((ad_this 1), cI G 5 a_works_7)]) (w1 := [(h_p1, oX1 ad_p1 v_p1_days), ((ad_p1 0), cI G 5 a_p1_signs)]) (va_runV (As := [.int x2_7]) (rest := [.ref h_this]) ⟨hx, hb, hml, hown, hg⟩ (c_X1_signsOn l G x2_7 h_p1 ad_p1 v_p1_days a_p1_signs q18 c_18 H.size) (cwV 1 hg (gV wd_4_0 wd_2_200 wd_2_201 wd_1_5 wd_2_202) rfl rfl rfl hdV_X1_signsOn ⟨(Nat.le_of_ble_eq_true rfl), (Nat.le_of_ble_eq_true rfl)⟩) (preV hc hW [1, 2] rfl (by decide) rfl rfl) rfl rfl hl.1 rfl (lv_room (Nat.le_of_ble_eq_true rfl)) dX1_takeFrom_18 ⟨Nat.zero_le _, Nat.zero_le _⟩) hA hW [1, 2] [0, 3, 4, 5] [0, 4, 5, 1, 2, 3] rfl rfl (by decide) (by decide) rfl (by decide) (fun H locs hW => ?_)
        refine lv_aload_n hx hb dX1_takeFrom_21 rfl (lv_at hl 1 rfl) ?_
        refine lv_iload_n hx hb dX1_takeFrom_22 rfl (lv_at hl 2 rfl) ?_
        obtain ⟨q23, c_23, hF⟩ := bd_el hF
        refine wcI (ws' := [(h_this, oX1 ad_this v_days_7), (h_p1, oX1 ad_p1 v_p1_days), ((ad_p1 0), cI G 5 a_p1_signs), ((ad_p1 1), cI G 5 a_p1_works), ((ad_this 0), cI G 5 a_signs_7), ((ad_this 1), cI G 5 a_works_7)]) (wc := [(h_p1, oX1 ad_p1 v_p1_days), ((ad_p1 1), cI G 5 a_p1_works)]) (wr := [(h_this, oX1 ad_this v_days_7), ((ad_p1 0), cI G 5 a_p1_signs), ((ad_this 0), cI G 5 a_signs_7), ((ad_this 1), cI G 5 a_works_7)]) (w1 := [(h_p1, oX1 ad_p1 v_p1_days), ((ad_p1 1), cI G 5 a_p1_works)]) (va_runV (As := [.int x2_7]) (rest := [.int q18, .ref h_this]) ⟨hx, hb, hml, hown, hg⟩ (c_X1_worksOn l G x2_7 h_p1 ad_p1 v_p1_days a_p1_works q23 c_23 H.size) (cwV 1 hg (gV wd_4_1 wd_2_205 wd_2_206 wd_1_5 wd_2_207) rfl rfl rfl hdV_X1_worksOn ⟨(Nat.le_of_ble_eq_true rfl), (Nat.le_of_ble_eq_true rfl)⟩) (preV hc hW [1, 3] rfl (by decide) rfl rfl) rfl rfl hl.1 rfl (lv_room (Nat.le_of_ble_eq_true rfl)) dX1_takeFrom_23 ⟨Nat.zero_le _, Nat.zero_le _⟩) hA hW [1, 3] [0, 2, 4, 5] [0, 4, 1, 5, 2, 3] rfl rfl (by decide) (by decide) rfl (by decide) (fun H locs hW => ?_)
        obtain ⟨q26, c_26, hF⟩ := bd_el hF
        refine wcV (ws' := [(h_this, oX1 ad_this q26.1), (h_p1, oX1 ad_p1 v_p1_days), ((ad_p1 0), cI G 5 a_p1_signs), ((ad_p1 1), cI G 5 a_p1_works), ((ad_this 0), cI G 5 q26.2.1), ((ad_this 1), cI G 5 q26.2.2)]) (wc := [(h_this, oX1 ad_this v_days_7), ((ad_this 0), cI G 5 a_signs_7), ((ad_this 1), cI G 5 a_works_7)]) (wr := [(h_p1, oX1 ad_p1 v_p1_days), ((ad_p1 0), cI G 5 a_p1_signs), ((ad_p1 1), cI G 5 a_p1_works)]) (w1 := [(h_this, oX1 ad_this q26.1), ((ad_this 0), cI G 5 q26.2.1), ((ad_this 1), cI G 5 q26.2.2)]) (va_runV (As := [.int q18, .int q23]) (rest := []) ⟨hx, hb, hml, hown, hg⟩ (c_X1_append l G q18 q23 h_this ad_this v_days_7 a_signs_7 a_works_7 q26 c_26 H.size) (cwV 2 hg (gV wd_4_2 wd_2_191 wd_2_192 wd_1_5 wd_2_193) rfl rfl rfl hdV_X1_append ⟨(Nat.le_of_ble_eq_true rfl), (Nat.le_of_ble_eq_true rfl)⟩) (preV hc hW [0, 4, 5] rfl (by decide) rfl rfl) rfl rfl hl.1 rfl (lv_room (Nat.le_of_ble_eq_true rfl)) dX1_takeFrom_26 ⟨Nat.zero_le _, Nat.zero_le _⟩) hA hW [0, 4, 5] [1, 2, 3] [3, 0, 1, 2, 4, 5] rfl rfl (by decide) (by decide) rfl (by decide) (fun H locs hW => ?_)
        refine lv_iinc (v := (x2_7 + 1)) (lv' := [(2, .int ((x2_7 + 1))), (0, .ref h_this), (1, .ref h_p1)]) hx hb dX1_takeFrom_29 hl (k := 2) rfl rfl (by decide) rfl (fun ls hl => ?_)
        refine lv_goto (tgt := 7) hx hb dX1_takeFrom_32 (by decide) ?_
        exact ih ((x2_7 + 1)) q26.1 q26.2.1 q26.2.2 _ _ _ hF (lv_sub hl [1, 2, 0] rfl) hW
  exact L_7 5000 0 0 a_signs a_works _ _ _ hF (lv_sub hl [1, 2, 0] rfl) hW
end
section
theorem dX5_waysTo_0 : decode cX5_waysTo 0 = .ok (.aload_n 0, 1) := by decide +kernel
theorem dX5_waysTo_1 : decode cX5_waysTo 1 = .ok (.getfield 9, 3) := by decide +kernel
theorem dX5_waysTo_4 : decode cX5_waysTo 4 = .ok (.iload_n 1, 1) := by decide +kernel
theorem dX5_waysTo_5 : decode cX5_waysTo 5 = .ok (.invokestatic 18, 3) := by decide +kernel
theorem dX5_waysTo_8 : decode cX5_waysTo 8 = .ok (.aload_n 0, 1) := by decide +kernel
theorem dX5_waysTo_9 : decode cX5_waysTo 9 = .ok (.getfield 15, 3) := by decide +kernel
theorem dX5_waysTo_12 : decode cX5_waysTo 12 = .ok (.iload_n 1, 1) := by decide +kernel
theorem dX5_waysTo_13 : decode cX5_waysTo 13 = .ok (.invokestatic 18, 3) := by decide +kernel
theorem dX5_waysTo_16 : decode cX5_waysTo 16 = .ok (.ladd, 1) := by decide +kernel
theorem dX5_waysTo_17 : decode cX5_waysTo 17 = .ok (.lreturn, 1) := by decide +kernel
def F_X5_waysTo (x1 : Int32) (a_came : Nat → Int64) (a_stayed : Nat → Int64) : Option (Int64) := (F_X4_longAt x1 3 a_stayed).bind (fun q5 => (F_X4_longAt x1 3 a_came).bind (fun q13 => some ((q5 + q13))))
theorem hdV_X5_waysTo : yX5_waysTo.cls = RX5 ∧ yX5_waysTo.cls ≠ "java/lang/invoke/MethodHandle" ∧ yX5_waysTo.cls ≠ "java/lang/invoke/VarHandle" ∧ (parseMethodDescriptor yX5_waysTo.desc).map (fun d => d.parameters.length) = some 1 := by decide +kernel
set_option maxHeartbeats 4000000 in
set_option maxRecDepth 100000 in
theorem c_X5_waysTo (l : Launch) (G : GG) (x1 : Int32) (h_this : Nat) (ad_this : Nat → Nat) (v_turned : Int64) (a_came : Nat → Int64) (a_stayed : Nat → Int64) (out : Int64) (hF : F_X5_waysTo x1 a_came a_stayed = some out) : CtrJ l yX5_waysTo (WS yX5_waysTo cX5_waysTo 2 (some .long)) { frames := 1, cells := 0, slots := 0, locals := 21 } G [.ref h_this, .int x1] [(h_this, oX5 ad_this v_turned), ((ad_this 1), cJ G 3 a_came), ((ad_this 0), cJ G 3 a_stayed)] [(h_this, oX5 ad_this v_turned), ((ad_this 1), cJ G 3 a_came), ((ad_this 0), cJ G 3 a_stayed)] out := by
  refine startJ (cc := cX5_waysTo) (maxL := 2) (by decide) rfl (Nat.le_of_ble_eq_true rfl) ?_
  intro p e s m args below meth c A Q hx hb hml hts hown hc hA hret ls H locs hl hW
  have hown : s.vm.findClass RX5 = some m.cls := hown
  have hg : ∀ w ∈ GOODS, w.before _ s = true := fun w h => hts w (List.mem_cons_of_mem _ h)
  have hl : lv_has ls 2 [(0, .ref h_this), (1, .int x1)] := hl
  rw [F_X5_waysTo] at hF
  refine lv_aload_n hx hb dX5_waysTo_0 rfl (lv_at hl 0 rfl) ?_
  refine va_get (D := G.1) (ci := 4) (v := .ref ((ad_this 0))) (C := RX5) (T := TX5) (N := 3) hx hb hg hu_X5 hown hc.1 hW.1 0 rfl rfl 0 (by decide) (hg _ wd_1_141) (fun _ h9 => h9) rfl dX5_waysTo_1 ?_
  refine lv_iload_n hx hb dX5_waysTo_4 rfl (lv_at hl 1 rfl) ?_
  obtain ⟨q5, c_5, hF⟩ := bd_el hF
  refine wcJ (ws' := [(h_this, oX5 ad_this v_turned), ((ad_this 1), cJ G 3 a_came), ((ad_this 0), cJ G 3 a_stayed)]) (wc := [((ad_this 0), cJ G 3 a_stayed)]) (wr := [(h_this, oX5 ad_this v_turned), ((ad_this 1), cJ G 3 a_came)]) (w1 := [((ad_this 0), cJ G 3 a_stayed)]) (va_runS (As := [.ref ((ad_this 0)), .int x1]) (rest := []) ⟨hx, hb, hml, hown, hg⟩ (c_X4_longAt l G x1 3 ((ad_this 0)) a_stayed q5 c_5 H.size) (va_cwS 2 hg (gS wd_3_6 wd_3_7 wd_1_14 wd_3_8) rfl rfl rfl hdS_X4_longAt ⟨(Nat.le_of_ble_eq_true rfl), (Nat.le_of_ble_eq_true rfl)⟩) (preS hc hW [2] rfl (by decide)) rfl rfl hl.1 rfl (lv_room (Nat.le_of_ble_eq_true rfl)) dX5_waysTo_5 ⟨Nat.zero_le _, Nat.zero_le _⟩) hA hW [2] [0, 1] [0, 1, 2] rfl rfl (by decide) (by decide) rfl (by decide) (fun H locs hW => ?_)
  refine lv_aload_n hx hb dX5_waysTo_8 rfl (lv_at hl 0 rfl) ?_
  refine va_get (D := G.1) (ci := 4) (v := .ref ((ad_this 1))) (C := RX5) (T := TX5) (N := 3) hx hb hg hu_X5 hown hc.1 hW.1 0 rfl rfl 1 (by decide) (hg _ wd_1_142) (fun _ h9 => h9) rfl dX5_waysTo_9 ?_
  refine lv_iload_n hx hb dX5_waysTo_12 rfl (lv_at hl 1 rfl) ?_
  obtain ⟨q13, c_13, hF⟩ := bd_el hF
  refine wcJ (ws' := [(h_this, oX5 ad_this v_turned), ((ad_this 1), cJ G 3 a_came), ((ad_this 0), cJ G 3 a_stayed)]) (wc := [((ad_this 1), cJ G 3 a_came)]) (wr := [(h_this, oX5 ad_this v_turned), ((ad_this 0), cJ G 3 a_stayed)]) (w1 := [((ad_this 1), cJ G 3 a_came)]) (va_runS (As := [.ref ((ad_this 1)), .int x1]) (rest := [.long q5]) ⟨hx, hb, hml, hown, hg⟩ (c_X4_longAt l G x1 3 ((ad_this 1)) a_came q13 c_13 H.size) (va_cwS 2 hg (gS wd_3_6 wd_3_7 wd_1_14 wd_3_8) rfl rfl rfl hdS_X4_longAt ⟨(Nat.le_of_ble_eq_true rfl), (Nat.le_of_ble_eq_true rfl)⟩) (preS hc hW [1] rfl (by decide)) rfl rfl hl.1 rfl (lv_room (Nat.le_of_ble_eq_true rfl)) dX5_waysTo_13 ⟨Nat.zero_le _, Nat.zero_le _⟩) hA hW [1] [0, 2] [0, 2, 1] rfl rfl (by decide) (by decide) rfl (by decide) (fun H locs hW => ?_)
  refine lv_ladd hx hb dX5_waysTo_16 ?_
  obtain rfl := Option.some.inj hF
  exact hret _ _ _ _ hW dX5_waysTo_17
theorem dX5_total_0 : decode cX5_total 0 = .ok (.lconst 0, 1) := by decide +kernel
theorem dX5_total_1 : decode cX5_total 1 = .ok (.lstore_n 1, 1) := by decide +kernel
theorem dX5_total_2 : decode cX5_total 2 = .ok (.iconst 0, 1) := by decide +kernel
theorem dX5_total_3 : decode cX5_total 3 = .ok (.istore_n 3, 1) := by decide +kernel
theorem dX5_total_4 : decode cX5_total 4 = .ok (.iload_n 3, 1) := by decide +kernel
theorem dX5_total_5 : decode cX5_total 5 = .ok (.iconst 3, 1) := by decide +kernel
theorem dX5_total_6 : decode cX5_total 6 = .ok (.if_icmp .ge 17, 3) := by decide +kernel
theorem dX5_total_9 : decode cX5_total 9 = .ok (.lload_n 1, 1) := by decide +kernel
theorem dX5_total_10 : decode cX5_total 10 = .ok (.aload_n 0, 1) := by decide +kernel
theorem dX5_total_11 : decode cX5_total 11 = .ok (.iload_n 3, 1) := by decide +kernel
theorem dX5_total_12 : decode cX5_total 12 = .ok (.invokevirtual 24, 3) := by decide +kernel
theorem dX5_total_15 : decode cX5_total 15 = .ok (.ladd, 1) := by decide +kernel
theorem dX5_total_16 : decode cX5_total 16 = .ok (.lstore_n 1, 1) := by decide +kernel
theorem dX5_total_17 : decode cX5_total 17 = .ok (.iinc 3 1, 3) := by decide +kernel
theorem dX5_total_20 : decode cX5_total 20 = .ok (.goto (-16), 3) := by decide +kernel
theorem dX5_total_23 : decode cX5_total 23 = .ok (.lload_n 1, 1) := by decide +kernel
theorem dX5_total_24 : decode cX5_total 24 = .ok (.lreturn, 1) := by decide +kernel
def L_X5_total_4 (a_came : Nat → Int64) (a_stayed : Nat → Int64)  : Nat → Int64 → Int32 → Option (Int64)
  | 0, _, _ => none
  | n + 1, x1_4, x3_4 => (if 3 ≤ x3_4 then some (x1_4) else (F_X5_waysTo x3_4 a_came a_stayed).bind (fun q12 => L_X5_total_4 a_came a_stayed n ((x1_4 + q12)) ((x3_4 + 1))))
def F_X5_total (a_came : Nat → Int64) (a_stayed : Nat → Int64) : Option (Int64) := L_X5_total_4 a_came a_stayed 5000 0 0
theorem hdV_X5_total : yX5_total.cls = RX5 ∧ yX5_total.cls ≠ "java/lang/invoke/MethodHandle" ∧ yX5_total.cls ≠ "java/lang/invoke/VarHandle" ∧ (parseMethodDescriptor yX5_total.desc).map (fun d => d.parameters.length) = some 0 := by decide +kernel
set_option maxHeartbeats 4000000 in
set_option maxRecDepth 100000 in
theorem c_X5_total (l : Launch) (G : GG) (h_this : Nat) (ad_this : Nat → Nat) (v_turned : Int64) (a_came : Nat → Int64) (a_stayed : Nat → Int64) (out : Int64) (hF : F_X5_total a_came a_stayed = some out) : CtrJ l yX5_total (WS yX5_total cX5_total 4 (some .long)) { frames := 2, cells := 0, slots := 0, locals := 42 } G [.ref h_this] [(h_this, oX5 ad_this v_turned), ((ad_this 1), cJ G 3 a_came), ((ad_this 0), cJ G 3 a_stayed)] [(h_this, oX5 ad_this v_turned), ((ad_this 1), cJ G 3 a_came), ((ad_this 0), cJ G 3 a_stayed)] out := by
  refine startJ (cc := cX5_total) (maxL := 4) (by decide) rfl (Nat.le_of_ble_eq_true rfl) ?_
  intro p e s m args below meth c A Q hx hb hml hts hown hc hA hret ls H locs hl hW
  have hown : s.vm.findClass RX5 = some m.cls := hown
  have hg : ∀ w ∈ GOODS, w.before _ s = true := fun w h => hts w (List.mem_cons_of_mem _ h)
  have hl : lv_has ls 4 [(0, .ref h_this)] := hl
  rw [F_X5_total] at hF
  refine lv_lconst (v := 0) hx hb dX5_total_0 (by decide) ?_
  refine lv_lstore_n (lv' := [(1, .long 0), (0, .ref h_this)]) hx hb dX5_total_1 rfl hl (by decide) rfl (fun ls hl => ?_)
  refine lv_iconst (v := 0) hx hb dX5_total_2 (by decide) ?_
  refine lv_istore_n (lv' := [(3, .int 0), (1, .long 0), (0, .ref h_this)]) hx hb dX5_total_3 rfl hl (by decide) rfl (fun ls hl => ?_)
  have L_4 : ∀ (n : Nat) (x1_4 : Int64) (x3_4 : Int32) (ls : Array Slot) (H : Heap) (locs : List Loc), L_X5_total_4 a_came a_stayed n x1_4 x3_4 = some out → lv_has ls 4 [(0, .ref h_this), (1, .long x1_4), (3, .int x3_4)] → Wd G A s.heap [(h_this, oX5 ad_this v_turned), ((ad_this 1), cJ G 3 a_came), ((ad_this 0), cJ G 3 a_stayed)] H locs → W p l e ({ frames := 2, cells := 0, slots := 0, locals := 42 } : Room) s m args below meth c H locs 0 0 Q (F0 m 4 ls []) := by
    intro n
    induction n with
    | zero => intro x1_4 x3_4 ls H locs hF hl hW; have h0 : none = some out := hF; cases h0
    | succ n ih =>
      intro x1_4 x3_4 ls H locs hF hl hW
      rw [L_X5_total_4] at hF
      refine lv_iload_n hx hb dX5_total_4 rfl (lv_at hl 2 rfl) ?_
      refine lv_iconst (v := 3) hx hb dX5_total_5 (by decide) ?_
      refine lv_icmp_ge (tgt := 23) hx hb dX5_total_6 (by decide) (fun c_6 => ?_) (fun c_6 => ?_)
      · have hF := ite_t hF c_6
        refine lv_lload_n hx hb dX5_total_23 rfl (lv_at hl 1 rfl) ?_
        obtain rfl := Option.some.inj hF
        exact hret _ _ _ _ hW dX5_total_24
      · have hF := ite_f hF c_6
        refine lv_lload_n hx hb dX5_total_9 rfl (lv_at hl 1 rfl) ?_
        refine lv_aload_n hx hb dX5_total_10 rfl (lv_at hl 0 rfl) ?_
        refine lv_iload_n hx hb dX5_total_11 rfl (lv_at hl 2 rfl) ?_
        obtain ⟨q12, c_12, hF⟩ := bd_el hF
        refine wcJ (ws' := [(h_this, oX5 ad_this v_turned), ((ad_this 1), cJ G 3 a_came), ((ad_this 0), cJ G 3 a_stayed)]) (wc := [(h_this, oX5 ad_this v_turned), ((ad_this 1), cJ G 3 a_came), ((ad_this 0), cJ G 3 a_stayed)]) (wr := []) (w1 := [(h_this, oX5 ad_this v_turned), ((ad_this 1), cJ G 3 a_came), ((ad_this 0), cJ G 3 a_stayed)]) (va_runV (As := [.int x3_4]) (rest := [.long x1_4]) ⟨hx, hb, hml, hown, hg⟩ (c_X5_waysTo l G x3_4 h_this ad_this v_turned a_came a_stayed q12 c_12 H.size) (cwV 1 hg (gV wd_3_2 wd_3_3 wd_3_4 wd_1_6 wd_3_5) rfl rfl rfl hdV_X5_waysTo ⟨(Nat.le_of_ble_eq_true rfl), (Nat.le_of_ble_eq_true rfl)⟩) (preV hc hW [0, 1, 2] rfl (by decide) rfl rfl) rfl rfl hl.1 rfl (lv_room (Nat.le_of_ble_eq_true rfl)) dX5_total_12 ⟨Nat.zero_le _, Nat.zero_le _⟩) hA hW [0, 1, 2] [] [0, 1, 2] rfl rfl (by decide) (by decide) rfl (by decide) (fun H locs hW => ?_)
        refine lv_ladd hx hb dX5_total_15 ?_
        refine lv_lstore_n (lv' := [(1, .long ((x1_4 + q12))), (0, .ref h_this), (3, .int x3_4)]) hx hb dX5_total_16 rfl hl (by decide) rfl (fun ls hl => ?_)
        refine lv_iinc (v := (x3_4 + 1)) (lv' := [(3, .int ((x3_4 + 1))), (1, .long ((x1_4 + q12))), (0, .ref h_this)]) hx hb dX5_total_17 hl (k := 2) rfl rfl (by decide) rfl (fun ls hl => ?_)
        refine lv_goto (tgt := 4) hx hb dX5_total_20 (by decide) ?_
        exact ih ((x1_4 + q12)) ((x3_4 + 1)) _ _ _ hF (lv_sub hl [2, 1, 0] rfl) hW
  exact L_4 5000 0 0 _ _ _ hF (lv_sub hl [2, 1, 0] rfl) hW
theorem dX5_all_0 : decode cX5_all 0 = .ok (.aload_n 0, 1) := by decide +kernel
theorem dX5_all_1 : decode cX5_all 1 = .ok (.invokevirtual 28, 3) := by decide +kernel
theorem dX5_all_4 : decode cX5_all 4 = .ok (.aload_n 0, 1) := by decide +kernel
theorem dX5_all_5 : decode cX5_all 5 = .ok (.getfield 32, 3) := by decide +kernel
theorem dX5_all_8 : decode cX5_all 8 = .ok (.ladd, 1) := by decide +kernel
theorem dX5_all_9 : decode cX5_all 9 = .ok (.lreturn, 1) := by decide +kernel
def F_X5_all (v_turned : Int64) (a_came : Nat → Int64) (a_stayed : Nat → Int64) : Option (Int64) := (F_X5_total a_came a_stayed).bind (fun q1 => some ((q1 + v_turned)))
theorem hdV_X5_all : yX5_all.cls = RX5 ∧ yX5_all.cls ≠ "java/lang/invoke/MethodHandle" ∧ yX5_all.cls ≠ "java/lang/invoke/VarHandle" ∧ (parseMethodDescriptor yX5_all.desc).map (fun d => d.parameters.length) = some 0 := by decide +kernel
set_option maxHeartbeats 4000000 in
set_option maxRecDepth 100000 in
theorem c_X5_all (l : Launch) (G : GG) (h_this : Nat) (ad_this : Nat → Nat) (v_turned : Int64) (a_came : Nat → Int64) (a_stayed : Nat → Int64) (out : Int64) (hF : F_X5_all v_turned a_came a_stayed = some out) : CtrJ l yX5_all (WS yX5_all cX5_all 1 (some .long)) { frames := 3, cells := 0, slots := 0, locals := 65 } G [.ref h_this] [(h_this, oX5 ad_this v_turned), ((ad_this 1), cJ G 3 a_came), ((ad_this 0), cJ G 3 a_stayed)] [(h_this, oX5 ad_this v_turned), ((ad_this 1), cJ G 3 a_came), ((ad_this 0), cJ G 3 a_stayed)] out := by
  refine startJ (cc := cX5_all) (maxL := 1) (by decide) rfl (Nat.le_of_ble_eq_true rfl) ?_
  intro p e s m args below meth c A Q hx hb hml hts hown hc hA hret ls H locs hl hW
  have hown : s.vm.findClass RX5 = some m.cls := hown
  have hg : ∀ w ∈ GOODS, w.before _ s = true := fun w h => hts w (List.mem_cons_of_mem _ h)
  have hl : lv_has ls 1 [(0, .ref h_this)] := hl
  rw [F_X5_all] at hF
  refine lv_aload_n hx hb dX5_all_0 rfl (lv_at hl 0 rfl) ?_
  obtain ⟨q1, c_1, hF⟩ := bd_el hF
  refine wcJ (ws' := [(h_this, oX5 ad_this v_turned), ((ad_this 1), cJ G 3 a_came), ((ad_this 0), cJ G 3 a_stayed)]) (wc := [(h_this, oX5 ad_this v_turned), ((ad_this 1), cJ G 3 a_came), ((ad_this 0), cJ G 3 a_stayed)]) (wr := []) (w1 := [(h_this, oX5 ad_this v_turned), ((ad_this 1), cJ G 3 a_came), ((ad_this 0), cJ G 3 a_stayed)]) (va_runV (As := []) (rest := []) ⟨hx, hb, hml, hown, hg⟩ (c_X5_total l G h_this ad_this v_turned a_came a_stayed q1 c_1 H.size) (cwV 0 hg (gV wd_3_59 wd_3_31 wd_3_32 wd_1_6 wd_3_33) rfl rfl rfl hdV_X5_total ⟨(Nat.le_of_ble_eq_true rfl), (Nat.le_of_ble_eq_true rfl)⟩) (preV hc hW [0, 1, 2] rfl (by decide) rfl rfl) rfl rfl hl.1 rfl (lv_room (Nat.le_of_ble_eq_true rfl)) dX5_all_1 ⟨Nat.zero_le _, Nat.zero_le _⟩) hA hW [0, 1, 2] [] [0, 1, 2] rfl rfl (by decide) (by decide) rfl (by decide) (fun H locs hW => ?_)
  refine lv_aload_n hx hb dX5_all_4 rfl (lv_at hl 0 rfl) ?_
  refine va_get (D := G.1) (ci := 4) (v := .long v_turned) (C := RX5) (T := TX5) (N := 3) hx hb hg hu_X5 hown hc.1 hW.1 0 rfl rfl 2 (by decide) (hg _ wd_1_143) (fun _ h9 => h9) rfl dX5_all_5 ?_
  refine lv_ladd hx hb dX5_all_8 ?_
  obtain rfl := Option.some.inj hF
  exact hret _ _ _ _ hW dX5_all_9
theorem dX5_takeFrom_0 : decode cX5_takeFrom 0 = .ok (.iconst 0, 1) := by decide +kernel
theorem dX5_takeFrom_1 : decode cX5_takeFrom 1 = .ok (.istore_n 2, 1) := by decide +kernel
theorem dX5_takeFrom_2 : decode cX5_takeFrom 2 = .ok (.iload_n 2, 1) := by decide +kernel
theorem dX5_takeFrom_3 : decode cX5_takeFrom 3 = .ok (.iconst 3, 1) := by decide +kernel
theorem dX5_takeFrom_4 : decode cX5_takeFrom 4 = .ok (.if_icmp .ge 31, 3) := by decide +kernel
theorem dX5_takeFrom_7 : decode cX5_takeFrom 7 = .ok (.aload_n 0, 1) := by decide +kernel
theorem dX5_takeFrom_8 : decode cX5_takeFrom 8 = .ok (.getfield 9, 3) := by decide +kernel
theorem dX5_takeFrom_11 : decode cX5_takeFrom 11 = .ok (.iload_n 2, 1) := by decide +kernel
theorem dX5_takeFrom_12 : decode cX5_takeFrom 12 = .ok (.aload_n 1, 1) := by decide +kernel
theorem dX5_takeFrom_13 : decode cX5_takeFrom 13 = .ok (.iload_n 2, 1) := by decide +kernel
theorem dX5_takeFrom_14 : decode cX5_takeFrom 14 = .ok (.invokevirtual 24, 3) := by decide +kernel
theorem dX5_takeFrom_17 : decode cX5_takeFrom 17 = .ok (.invokestatic 36, 3) := by decide +kernel
theorem dX5_takeFrom_20 : decode cX5_takeFrom 20 = .ok (.aload_n 0, 1) := by decide +kernel
theorem dX5_takeFrom_21 : decode cX5_takeFrom 21 = .ok (.getfield 15, 3) := by decide +kernel
theorem dX5_takeFrom_24 : decode cX5_takeFrom 24 = .ok (.iload_n 2, 1) := by decide +kernel
theorem dX5_takeFrom_25 : decode cX5_takeFrom 25 = .ok (.lconst 0, 1) := by decide +kernel
theorem dX5_takeFrom_26 : decode cX5_takeFrom 26 = .ok (.invokestatic 36, 3) := by decide +kernel
theorem dX5_takeFrom_29 : decode cX5_takeFrom 29 = .ok (.iinc 2 1, 3) := by decide +kernel
theorem dX5_takeFrom_32 : decode cX5_takeFrom 32 = .ok (.goto (-30), 3) := by decide +kernel
theorem dX5_takeFrom_35 : decode cX5_takeFrom 35 = .ok (.aload_n 0, 1) := by decide +kernel
theorem dX5_takeFrom_36 : decode cX5_takeFrom 36 = .ok (.aload_n 1, 1) := by decide +kernel
theorem dX5_takeFrom_37 : decode cX5_takeFrom 37 = .ok (.getfield 32, 3) := by decide +kernel
theorem dX5_takeFrom_40 : decode cX5_takeFrom 40 = .ok (.putfield 32, 3) := by decide +kernel
theorem dX5_takeFrom_43 : decode cX5_takeFrom 43 = .ok (.return_, 1) := by decide +kernel
def L_X5_takeFrom_2 (a_p1_came : Nat → Int64) (a_p1_stayed : Nat → Int64) (k_35 : (Nat → Int64) → (Nat → Int64) → Option (Int64 × (Nat → Int64) × (Nat → Int64))) : Nat → Int32 → (Nat → Int64) → (Nat → Int64) → Option (Int64 × (Nat → Int64) × (Nat → Int64))
  | 0, _, _, _ => none
  | n + 1, x2_2, a_came_2, a_stayed_2 => (if 3 ≤ x2_2 then k_35 a_came_2 a_stayed_2 else (F_X5_waysTo x2_2 a_p1_came a_p1_stayed).bind (fun q14 => (F_X4_putLong x2_2 q14 3 a_stayed_2).bind (fun q17 => (F_X4_putLong x2_2 0 3 a_came_2).bind (fun q26 => L_X5_takeFrom_2 a_p1_came a_p1_stayed k_35 n ((x2_2 + 1)) q26 q17))))
def F_X5_takeFrom (v_turned : Int64) (v_p1_turned : Int64) (a_p1_came : Nat → Int64) (a_p1_stayed : Nat → Int64) (a_came : Nat → Int64) (a_stayed : Nat → Int64) : Option (Int64 × (Nat → Int64) × (Nat → Int64)) := jn (fun (a_came_35 : Nat → Int64) (a_stayed_35 : Nat → Int64) => some (v_p1_turned, a_came_35, a_stayed_35)) (fun k_35 => L_X5_takeFrom_2 a_p1_came a_p1_stayed k_35 5000 0 a_came a_stayed)
theorem hdV_X5_takeFrom : yX5_takeFrom.cls = RX5 ∧ yX5_takeFrom.cls ≠ "java/lang/invoke/MethodHandle" ∧ yX5_takeFrom.cls ≠ "java/lang/invoke/VarHandle" ∧ (parseMethodDescriptor yX5_takeFrom.desc).map (fun d => d.parameters.length) = some 1 := by decide +kernel
set_option maxHeartbeats 4000000 in
set_option maxRecDepth 100000 in
theorem c_X5_takeFrom (l : Launch) (G : GG) (h_this : Nat) (h_p1 : Nat) (ad_this : Nat → Nat) (ad_p1 : Nat → Nat) (v_turned : Int64) (v_p1_turned : Int64) (a_p1_came : Nat → Int64) (a_p1_stayed : Nat → Int64) (a_came : Nat → Int64) (a_stayed : Nat → Int64) (out : Int64 × (Nat → Int64) × (Nat → Int64)) (hF : F_X5_takeFrom v_turned v_p1_turned a_p1_came a_p1_stayed a_came a_stayed = some out) : CtrV l yX5_takeFrom (WS yX5_takeFrom cX5_takeFrom 3 none) { frames := 2, cells := 0, slots := 0, locals := 42 } G [.ref h_this, .ref h_p1] [(h_this, oX5 ad_this v_turned), (h_p1, oX5 ad_p1 v_p1_turned), ((ad_p1 1), cJ G 3 a_p1_came), ((ad_p1 0), cJ G 3 a_p1_stayed), ((ad_this 1), cJ G 3 a_came), ((ad_this 0), cJ G 3 a_stayed)] [(h_this, oX5 ad_this out.1), (h_p1, oX5 ad_p1 v_p1_turned), ((ad_p1 1), cJ G 3 a_p1_came), ((ad_p1 0), cJ G 3 a_p1_stayed), ((ad_this 1), cJ G 3 out.2.1), ((ad_this 0), cJ G 3 out.2.2)] := by
  refine startV (cc := cX5_takeFrom) (maxL := 3) (by decide) rfl (Nat.le_of_ble_eq_true rfl) ?_
  intro p e s m args below meth c A Q hx hb hml hts hown hc hA hret ls H locs hl hW
  have hown : s.vm.findClass RX5 = some m.cls := hown
  have hg : ∀ w ∈ GOODS, w.before _ s = true := fun w h => hts w (List.mem_cons_of_mem _ h)
  have hl : lv_has ls 3 [(0, .ref h_this), (1, .ref h_p1)] := hl
  rw [F_X5_takeFrom] at hF
  refine lv_iconst (v := 0) hx hb dX5_takeFrom_0 (by decide) ?_
  refine lv_istore_n (lv' := [(2, .int 0), (0, .ref h_this), (1, .ref h_p1)]) hx hb dX5_takeFrom_1 rfl hl (by decide) rfl (fun ls hl => ?_)
  obtain ⟨k_35, e_35, hF⟩ := jn_el hF
  have J_35 : ∀ (a_came_35 : Nat → Int64) (a_stayed_35 : Nat → Int64) (ls : Array Slot) (H : Heap) (locs : List Loc), k_35 a_came_35 a_stayed_35 = some out → lv_has ls 3 [(0, .ref h_this), (1, .ref h_p1)] → Wd G A s.heap [(h_this, oX5 ad_this v_turned), (h_p1, oX5 ad_p1 v_p1_turned), ((ad_p1 1), cJ G 3 a_p1_came), ((ad_p1 0), cJ G 3 a_p1_stayed), ((ad_this 1), cJ G 3 a_came_35), ((ad_this 0), cJ G 3 a_stayed_35)] H locs → W p l e ({ frames := 2, cells := 0, slots := 0, locals := 42 } : Room) s m args below meth c H locs 0 0 Q (F0 m 35 ls []) := by
    intro a_came_35 a_stayed_35 ls H locs hF hl hW
    rw [e_35] at hF
    dsimp only at hF
    refine lv_aload_n hx hb dX5_takeFrom_35 rfl (lv_at hl 0 rfl) ?_
    refine lv_aload_n hx hb dX5_takeFrom_36 rfl (lv_at hl 1 rfl) ?_
    refine va_get (D := G.1) (ci := 4) (v := .long v_p1_turned) (C := RX5) (T := TX5) (N := 3) hx hb hg hu_X5 hown hc.1 hW.1 1 rfl rfl 2 (by decide) (hg _ wd_1_143) (fun _ h9 => h9) rfl dX5_takeFrom_37 ?_
    refine va_put (D := G.1) (ci := 4) (v := .long v_p1_turned) (ty := .long) (C := RX5) (T := TX5) (N := 3) hx hb hg hu_X5 tyX5 tyX5_ok nmX5 hown hc.1 hW.1 hW.2.1 hW.2.2 0 rfl rfl 2 (by decide) (hg _ wd_1_143) (fun _ h9 => h9) rfl (by decide +kernel) rfl rfl (Nat.le_of_ble_eq_true rfl) dX5_takeFrom_40 (fun H locs hP hD hS => ?_)
    have hW : Wd G A s.heap [(h_this, oX5 ad_this v_p1_turned), (h_p1, oX5 ad_p1 v_p1_turned), ((ad_p1 1), cJ G 3 a_p1_came), ((ad_p1 0), cJ G 3 a_p1_stayed), ((ad_this 1), cJ G 3 a_came_35), ((ad_this 0), cJ G 3 a_stayed_35)] H locs := ⟨hP, hD, hS⟩
    obtain rfl := Option.some.inj hF
    exact hret _ _ _ _ hW dX5_takeFrom_43
  have L_2 : ∀ (n : Nat) (x2_2 : Int32) (a_came_2 : Nat → Int64) (a_stayed_2 : Nat → Int64) (ls : Array Slot) (H : Heap) (locs : List Loc), L_X5_takeFrom_2 a_p1_came a_p1_stayed k_35 n x2_2 a_came_2 a_stayed_2 = some out → lv_has ls 3 [(0, .ref h_this), (1, .ref h_p1), (2, .int x2_2)] → Wd G A s.heap [(h_this, oX5 ad_this v_turned), (h_p1, oX5 ad_p1 v_p1_turned), ((ad_p1 1), cJ G 3 a_p1_came), ((ad_p1 0), cJ G 3 a_p1_stayed), ((ad_this 1), cJ G 3 a_came_2), ((ad_this 0), cJ G 3 a_stayed_2)] H locs → W p l e ({ frames := 2, cells := 0, slots := 0, locals := 42 } : Room) s m args below meth c H locs 0 0 Q (F0 m 2 ls []) := by
    intro n
    induction n with
    | zero => intro x2_2 a_came_2 a_stayed_2 ls H locs hF hl hW; have h0 : none = some out := hF; cases h0
    | succ n ih =>
      intro x2_2 a_came_2 a_stayed_2 ls H locs hF hl hW
      rw [L_X5_takeFrom_2] at hF
      refine lv_iload_n hx hb dX5_takeFrom_2 rfl (lv_at hl 2 rfl) ?_
      refine lv_iconst (v := 3) hx hb dX5_takeFrom_3 (by decide) ?_
      refine lv_icmp_ge (tgt := 35) hx hb dX5_takeFrom_4 (by decide) (fun c_4 => ?_) (fun c_4 => ?_)
      · have hF := ite_t hF c_4
        exact J_35 a_came_2 a_stayed_2 _ _ _ hF (lv_sub hl [0, 1] rfl) hW
      · have hF := ite_f hF c_4
        refine lv_aload_n hx hb dX5_takeFrom_7 rfl (lv_at hl 0 rfl) ?_
        refine va_get (D := G.1) (ci := 4) (v := .ref ((ad_this 0))) (C := RX5) (T := TX5) (N := 3) hx hb hg hu_X5 hown hc.1 hW.1 0 rfl rfl 0 (by decide) (hg _ wd_1_141) (fun _ h9 => h9) rfl dX5_takeFrom_8 ?_
        refine lv_iload_n hx hb dX5_takeFrom_11 rfl (lv_at hl 2 rfl) ?_
        refine lv_aload_n hx hb dX5_takeFrom_12 rfl (lv_at hl 1 rfl) ?_
        refine lv_iload_n hx hb dX5_takeFrom_13 rfl (lv_at hl 2 rfl) ?_
        obtain ⟨q14, c_14, hF⟩ := bd_el hF
        refine wcJ (ws' := [(h_this, oX5 ad_this v_turned), (h_p1, oX5 ad_p1 v_p1_turned), ((ad_p1 1), cJ G 3 a_p1_came), ((ad_p1 0), cJ G 3 a_p1_stayed), ((ad_this 1), cJ G 3 a_came_2), ((ad_this 0), cJ G 3 a_stayed_2)]) (wc := [(h_p1, oX5 ad_p1 v_p1_turned), ((ad_p1 1), cJ G 3 a_p1_came), ((ad_p1 0), cJ G 3 a_p1_stayed)]) (wr := [(h_this, oX5 ad_this v_turned), ((ad_this 1), cJ G 3 a_came_2), ((ad_this 0), cJ G 3 a_stayed_2)]) (w1 := [(h_p1, oX5 ad_p1 v_p1_turned), ((ad_p1 1), cJ G 3 a_p1_came), ((ad_p1 0), cJ G 3 a_p1_stayed)]) (va_runV (As := [.int x2_2]) (rest := [.int x2_2, .ref ((ad_this 0))]) ⟨hx, hb, hml, hown, hg⟩ (c_X5_waysTo l G x2_2 h_p1 ad_p1 v_p1_turned a_p1_came a_p1_stayed q14 c_14 H.size) (cwV 1 hg (gV wd_3_2 wd_3_3 wd_3_4 wd_1_6 wd_3_5) rfl rfl rfl hdV_X5_waysTo ⟨(Nat.le_of_ble_eq_true rfl), (Nat.le_of_ble_eq_true rfl)⟩) (preV hc hW [1, 2, 3] rfl (by decide) rfl rfl) rfl rfl hl.1 rfl (lv_room (Nat.le_of_ble_eq_true rfl)) dX5_takeFrom_14 ⟨Nat.zero_le _, Nat.zero_le _⟩) hA hW [1, 2, 3] [0, 4, 5] [0, 3, 4, 5, 1, 2] rfl rfl (by decide) (by decide) rfl (by decide) (fun H locs hW => ?_)
        obtain ⟨q17, c_17, hF⟩ := bd_el hF
        refine wcV (ws' := [(h_this, oX5 ad_this v_turned), (h_p1, oX5 ad_p1 v_p1_turned), ((ad_p1 1), cJ G 3 a_p1_came), ((ad_p1 0), cJ G 3 a_p1_stayed), ((ad_this 1), cJ G 3 a_came_2), ((ad_this 0), cJ G 3 q17)]) (wc := [((ad_this 0), cJ G 3 a_stayed_2)]) (wr := [(h_this, oX5 ad_this v_turned), (h_p1, oX5 ad_p1 v_p1_turned), ((ad_p1 1), cJ G 3 a_p1_came), ((ad_p1 0), cJ G 3 a_p1_stayed), ((ad_this 1), cJ G 3 a_came_2)]) (w1 := [((ad_this 0), cJ G 3 q17)]) (va_runS (As := [.ref ((ad_this 0)), .int x2_2, .long q14]) (rest := []) ⟨hx, hb, hml, hown, hg⟩ (c_X4_putLong l G x2_2 q14 3 ((ad_this 0)) a_stayed_2 q17 c_17 H.size) (va_cwS 3 hg (gS wd_2_225 wd_2_226 wd_1_14 wd_2_227) rfl rfl rfl hdS_X4_putLong ⟨(Nat.le_of_ble_eq_true rfl), (Nat.le_of_ble_eq_true rfl)⟩) (preS hc hW [5] rfl (by decide)) rfl rfl hl.1 rfl (lv_room (Nat.le_of_ble_eq_true rfl)) dX5_takeFrom_17 ⟨Nat.zero_le _, Nat.zero_le _⟩) hA hW [5] [0, 1, 2, 3, 4] [0, 1, 2, 3, 4, 5] rfl rfl (by decide) (by decide) rfl (by decide) (fun H locs hW => ?_)
        refine lv_aload_n hx hb dX5_takeFrom_20 rfl (lv_at hl 0 rfl) ?_
        refine va_get (D := G.1) (ci := 4) (v := .ref ((ad_this 1))) (C := RX5) (T := TX5) (N := 3) hx hb hg hu_X5 hown hc.1 hW.1 0 rfl rfl 1 (by decide) (hg _ wd_1_142) (fun _ h9 => h9) rfl dX5_takeFrom_21 ?_
        refine lv_iload_n hx hb dX5_takeFrom_24 rfl (lv_at hl 2 rfl) ?_
        refine lv_lconst (v := 0) hx hb dX5_takeFrom_25 (by decide) ?_
        obtain ⟨q26, c_26, hF⟩ := bd_el hF
        refine wcV (ws' := [(h_this, oX5 ad_this v_turned), (h_p1, oX5 ad_p1 v_p1_turned), ((ad_p1 1), cJ G 3 a_p1_came), ((ad_p1 0), cJ G 3 a_p1_stayed), ((ad_this 1), cJ G 3 q26), ((ad_this 0), cJ G 3 q17)]) (wc := [((ad_this 1), cJ G 3 a_came_2)]) (wr := [(h_this, oX5 ad_this v_turned), (h_p1, oX5 ad_p1 v_p1_turned), ((ad_p1 1), cJ G 3 a_p1_came), ((ad_p1 0), cJ G 3 a_p1_stayed), ((ad_this 0), cJ G 3 q17)]) (w1 := [((ad_this 1), cJ G 3 q26)]) (va_runS (As := [.ref ((ad_this 1)), .int x2_2, .long 0]) (rest := []) ⟨hx, hb, hml, hown, hg⟩ (c_X4_putLong l G x2_2 0 3 ((ad_this 1)) a_came_2 q26 c_26 H.size) (va_cwS 3 hg (gS wd_2_225 wd_2_226 wd_1_14 wd_2_227) rfl rfl rfl hdS_X4_putLong ⟨(Nat.le_of_ble_eq_true rfl), (Nat.le_of_ble_eq_true rfl)⟩) (preS hc hW [4] rfl (by decide)) rfl rfl hl.1 rfl (lv_room (Nat.le_of_ble_eq_true rfl)) dX5_takeFrom_26 ⟨Nat.zero_le _, Nat.zero_le _⟩) hA hW [4] [0, 1, 2, 3, 5] [0, 1, 2, 3, 5, 4] rfl rfl (by decide) (by decide) rfl (by decide) (fun H locs hW => ?_)
        refine lv_iinc (v := (x2_2 + 1)) (lv' := [(2, .int ((x2_2 + 1))), (0, .ref h_this), (1, .ref h_p1)]) hx hb dX5_takeFrom_29 hl (k := 2) rfl rfl (by decide) rfl (fun ls hl => ?_)
        refine lv_goto (tgt := 2) hx hb dX5_takeFrom_32 (by decide) ?_
        exact ih ((x2_2 + 1)) q26 q17 _ _ _ hF (lv_sub hl [1, 2, 0] rfl) hW
  exact L_2 5000 0 a_came a_stayed _ _ _ hF (lv_sub hl [1, 2, 0] rfl) hW
theorem dX5_goOn_0 : decode cX5_goOn 0 = .ok (.aload_n 0, 1) := by decide +kernel
theorem dX5_goOn_1 : decode cX5_goOn 1 = .ok (.dup, 1) := by decide +kernel
theorem dX5_goOn_2 : decode cX5_goOn 2 = .ok (.getfield 32, 3) := by decide +kernel
theorem dX5_goOn_5 : decode cX5_goOn 5 = .ok (.ldc2_w 65, 3) := by decide +kernel
theorem dX5_goOn_8 : decode cX5_goOn 8 = .ok (.lmul, 1) := by decide +kernel
theorem dX5_goOn_9 : decode cX5_goOn 9 = .ok (.putfield 32, 3) := by decide +kernel
theorem dX5_goOn_12 : decode cX5_goOn 12 = .ok (.iconst 2, 1) := by decide +kernel
theorem dX5_goOn_13 : decode cX5_goOn 13 = .ok (.istore_n 3, 1) := by decide +kernel
theorem dX5_goOn_14 : decode cX5_goOn 14 = .ok (.iload_n 3, 1) := by decide +kernel
theorem dX5_goOn_15 : decode cX5_goOn 15 = .ok (.ifCond .lt 79, 3) := by decide +kernel
theorem dX5_goOn_18 : decode cX5_goOn 18 = .ok (.aload_n 1, 1) := by decide +kernel
theorem dX5_goOn_19 : decode cX5_goOn 19 = .ok (.iload_n 3, 1) := by decide +kernel
theorem dX5_goOn_20 : decode cX5_goOn 20 = .ok (.iload_n 2, 1) := by decide +kernel
theorem dX5_goOn_21 : decode cX5_goOn 21 = .ok (.invokevirtual 67, 3) := by decide +kernel
theorem dX5_goOn_24 : decode cX5_goOn 24 = .ok (.istore 4, 2) := by decide +kernel
theorem dX5_goOn_26 : decode cX5_goOn 26 = .ok (.aload_n 0, 1) := by decide +kernel
theorem dX5_goOn_27 : decode cX5_goOn 27 = .ok (.iload_n 3, 1) := by decide +kernel
theorem dX5_goOn_28 : decode cX5_goOn 28 = .ok (.invokevirtual 24, 3) := by decide +kernel
theorem dX5_goOn_31 : decode cX5_goOn 31 = .ok (.lstore 5, 2) := by decide +kernel
theorem dX5_goOn_33 : decode cX5_goOn 33 = .ok (.aload_n 0, 1) := by decide +kernel
theorem dX5_goOn_34 : decode cX5_goOn 34 = .ok (.getfield 9, 3) := by decide +kernel
theorem dX5_goOn_37 : decode cX5_goOn 37 = .ok (.iload_n 3, 1) := by decide +kernel
theorem dX5_goOn_38 : decode cX5_goOn 38 = .ok (.lload 5, 2) := by decide +kernel
theorem dX5_goOn_40 : decode cX5_goOn 40 = .ok (.iconst 4, 1) := by decide +kernel
theorem dX5_goOn_41 : decode cX5_goOn 41 = .ok (.iload 4, 2) := by decide +kernel
theorem dX5_goOn_43 : decode cX5_goOn 43 = .ok (.isub, 1) := by decide +kernel
theorem dX5_goOn_44 : decode cX5_goOn 44 = .ok (.i2l, 1) := by decide +kernel
theorem dX5_goOn_45 : decode cX5_goOn 45 = .ok (.lmul, 1) := by decide +kernel
theorem dX5_goOn_46 : decode cX5_goOn 46 = .ok (.invokestatic 36, 3) := by decide +kernel
theorem dX5_goOn_49 : decode cX5_goOn 49 = .ok (.iload_n 3, 1) := by decide +kernel
theorem dX5_goOn_50 : decode cX5_goOn 50 = .ok (.iconst 2, 1) := by decide +kernel
theorem dX5_goOn_51 : decode cX5_goOn 51 = .ok (.if_icmp .ne 21, 3) := by decide +kernel
theorem dX5_goOn_54 : decode cX5_goOn 54 = .ok (.aload_n 0, 1) := by decide +kernel
theorem dX5_goOn_55 : decode cX5_goOn 55 = .ok (.dup, 1) := by decide +kernel
theorem dX5_goOn_56 : decode cX5_goOn 56 = .ok (.getfield 32, 3) := by decide +kernel
theorem dX5_goOn_59 : decode cX5_goOn 59 = .ok (.lload 5, 2) := by decide +kernel
theorem dX5_goOn_61 : decode cX5_goOn 61 = .ok (.iload 4, 2) := by decide +kernel
theorem dX5_goOn_63 : decode cX5_goOn 63 = .ok (.i2l, 1) := by decide +kernel
theorem dX5_goOn_64 : decode cX5_goOn 64 = .ok (.lmul, 1) := by decide +kernel
theorem dX5_goOn_65 : decode cX5_goOn 65 = .ok (.ladd, 1) := by decide +kernel
theorem dX5_goOn_66 : decode cX5_goOn 66 = .ok (.putfield 32, 3) := by decide +kernel
theorem dX5_goOn_69 : decode cX5_goOn 69 = .ok (.goto 19, 3) := by decide +kernel
theorem dX5_goOn_72 : decode cX5_goOn 72 = .ok (.aload_n 0, 1) := by decide +kernel
theorem dX5_goOn_73 : decode cX5_goOn 73 = .ok (.getfield 15, 3) := by decide +kernel
theorem dX5_goOn_76 : decode cX5_goOn 76 = .ok (.iload_n 3, 1) := by decide +kernel
theorem dX5_goOn_77 : decode cX5_goOn 77 = .ok (.iconst 1, 1) := by decide +kernel
theorem dX5_goOn_78 : decode cX5_goOn 78 = .ok (.iadd, 1) := by decide +kernel
theorem dX5_goOn_79 : decode cX5_goOn 79 = .ok (.lload 5, 2) := by decide +kernel
theorem dX5_goOn_81 : decode cX5_goOn 81 = .ok (.iload 4, 2) := by decide +kernel
theorem dX5_goOn_83 : decode cX5_goOn 83 = .ok (.i2l, 1) := by decide +kernel
theorem dX5_goOn_84 : decode cX5_goOn 84 = .ok (.lmul, 1) := by decide +kernel
theorem dX5_goOn_85 : decode cX5_goOn 85 = .ok (.invokestatic 36, 3) := by decide +kernel
theorem dX5_goOn_88 : decode cX5_goOn 88 = .ok (.iinc 3 (-1), 3) := by decide +kernel
theorem dX5_goOn_91 : decode cX5_goOn 91 = .ok (.goto (-77), 3) := by decide +kernel
theorem dX5_goOn_94 : decode cX5_goOn 94 = .ok (.return_, 1) := by decide +kernel
def L_X5_goOn_14 (x2 : Int32) (a_p1_lighter : Nat → Int32)  : Nat → Int32 → Int64 → (Nat → Int64) → (Nat → Int64) → Option (Int64 × (Nat → Int64) × (Nat → Int64))
  | 0, _, _, _, _ => none
  | n + 1, x3_14, v_turned_14, a_came_14, a_stayed_14 => (if x3_14 < 0 then some (v_turned_14, a_came_14, a_stayed_14) else (F_X8_chance x3_14 x2 a_p1_lighter).bind (fun q21 => (F_X5_waysTo x3_14 a_came_14 a_stayed_14).bind (fun q28 => (F_X4_putLong x3_14 ((q28 * (Int32.toInt64 ((4 - q21))))) 3 a_stayed_14).bind (fun q46 => jn (fun (v_turned_88 : Int64) (a_came_88 : Nat → Int64) => L_X5_goOn_14 x2 a_p1_lighter n ((x3_14 + (-1))) v_turned_88 a_came_88 q46) (fun k_88 => (if x3_14 = 2 then k_88 ((v_turned_14 + (q28 * (Int32.toInt64 q21)))) a_came_14 else (F_X4_putLong ((x3_14 + 1)) ((q28 * (Int32.toInt64 q21))) 3 a_came_14).bind (fun q85 => k_88 v_turned_14 q85)))))))
def F_X5_goOn (x2 : Int32) (v_turned : Int64) (a_p1_lighter : Nat → Int32) (a_came : Nat → Int64) (a_stayed : Nat → Int64) : Option (Int64 × (Nat → Int64) × (Nat → Int64)) := L_X5_goOn_14 x2 a_p1_lighter 5000 2 ((v_turned * 4)) a_came a_stayed
theorem hdV_X5_goOn : yX5_goOn.cls = RX5 ∧ yX5_goOn.cls ≠ "java/lang/invoke/MethodHandle" ∧ yX5_goOn.cls ≠ "java/lang/invoke/VarHandle" ∧ (parseMethodDescriptor yX5_goOn.desc).map (fun d => d.parameters.length) = some 2 := by decide +kernel
set_option maxHeartbeats 4000000 in
set_option maxRecDepth 100000 in
theorem c_X5_goOn (l : Launch) (G : GG) (x2 : Int32) (h_this : Nat) (h_p1 : Nat) (ad_this : Nat → Nat) (ad_p1 : Nat → Nat) (v_turned : Int64) (v_p1_signCount : Int32) (v_p1_houseCount : Int32) (v_p1_boatCount : Int32) (v_p1_workCount : Int32) (v_p1_turnCost : Int32) (v_p1_boatDayCost : Int32) (a_p1_lighter : Nat → Int32) (a_came : Nat → Int64) (a_stayed : Nat → Int64) (out : Int64 × (Nat → Int64) × (Nat → Int64)) (hF : F_X5_goOn x2 v_turned a_p1_lighter a_came a_stayed = some out) : CtrV l yX5_goOn (WS yX5_goOn cX5_goOn 7 none) { frames := 2, cells := 0, slots := 0, locals := 46 } G [.ref h_this, .ref h_p1, .int x2] [(h_this, oX5 ad_this v_turned), (h_p1, oX8 ad_p1 v_p1_signCount v_p1_houseCount v_p1_boatCount v_p1_workCount v_p1_turnCost v_p1_boatDayCost), ((ad_p1 0), cI G 3 a_p1_lighter), ((ad_this 1), cJ G 3 a_came), ((ad_this 0), cJ G 3 a_stayed)] [(h_this, oX5 ad_this out.1), (h_p1, oX8 ad_p1 v_p1_signCount v_p1_houseCount v_p1_boatCount v_p1_workCount v_p1_turnCost v_p1_boatDayCost), ((ad_p1 0), cI G 3 a_p1_lighter), ((ad_this 1), cJ G 3 out.2.1), ((ad_this 0), cJ G 3 out.2.2)] := by
  refine startV (cc := cX5_goOn) (maxL := 7) (by decide) rfl (Nat.le_of_ble_eq_true rfl) ?_
  intro p e s m args below meth c A Q hx hb hml hts hown hc hA hret ls H locs hl hW
  have hown : s.vm.findClass RX5 = some m.cls := hown
  have hg : ∀ w ∈ GOODS, w.before _ s = true := fun w h => hts w (List.mem_cons_of_mem _ h)
  have hl : lv_has ls 7 [(0, .ref h_this), (1, .ref h_p1), (2, .int x2)] := hl
  rw [F_X5_goOn] at hF
  refine lv_aload_n hx hb dX5_goOn_0 rfl (lv_at hl 0 rfl) ?_
  refine lv_dup hx hb dX5_goOn_1 rfl ?_
  refine va_get (D := G.1) (ci := 4) (v := .long v_turned) (C := RX5) (T := TX5) (N := 3) hx hb hg hu_X5 hown hc.1 hW.1 0 rfl rfl 2 (by decide) (hg _ wd_1_143) (fun _ h9 => h9) rfl dX5_goOn_2 ?_
  refine lv_ldc2 (v := 4) hx hb hown (hg _ wd_2_234) dX5_goOn_5 ?_
  refine lv_lmul hx hb dX5_goOn_8 ?_
  refine va_put (D := G.1) (ci := 4) (v := .long ((v_turned * 4))) (ty := .long) (C := RX5) (T := TX5) (N := 3) hx hb hg hu_X5 tyX5 tyX5_ok nmX5 hown hc.1 hW.1 hW.2.1 hW.2.2 0 rfl rfl 2 (by decide) (hg _ wd_1_143) (fun _ h9 => h9) rfl (by decide +kernel) rfl rfl (Nat.le_of_ble_eq_true rfl) dX5_goOn_9 (fun H locs hP hD hS => ?_)
  have hW : Wd G A s.heap [(h_this, oX5 ad_this ((v_turned * 4))), (h_p1, oX8 ad_p1 v_p1_signCount v_p1_houseCount v_p1_boatCount v_p1_workCount v_p1_turnCost v_p1_boatDayCost), ((ad_p1 0), cI G 3 a_p1_lighter), ((ad_this 1), cJ G 3 a_came), ((ad_this 0), cJ G 3 a_stayed)] H locs := ⟨hP, hD, hS⟩
  refine lv_iconst (v := 2) hx hb dX5_goOn_12 (by decide) ?_
  refine lv_istore_n (lv' := [(3, .int 2), (0, .ref h_this), (1, .ref h_p1), (2, .int x2)]) hx hb dX5_goOn_13 rfl hl (by decide) rfl (fun ls hl => ?_)
  have L_14 : ∀ (n : Nat) (x3_14 : Int32) (v_turned_14 : Int64) (a_came_14 : Nat → Int64) (a_stayed_14 : Nat → Int64) (ls : Array Slot) (H : Heap) (locs : List Loc), L_X5_goOn_14 x2 a_p1_lighter n x3_14 v_turned_14 a_came_14 a_stayed_14 = some out → lv_has ls 7 [(0, .ref h_this), (1, .ref h_p1), (2, .int x2), (3, .int x3_14)] → Wd G A s.heap [(h_this, oX5 ad_this v_turned_14), (h_p1, oX8 ad_p1 v_p1_signCount v_p1_houseCount v_p1_boatCount v_p1_workCount v_p1_turnCost v_p1_boatDayCost), ((ad_p1 0), cI G 3 a_p1_lighter), ((ad_this 1), cJ G 3 a_came_14), ((ad_this 0), cJ G 3 a_stayed_14)] H locs → W p l e ({ frames := 2, cells := 0, slots := 0, locals := 46 } : Room) s m args below meth c H locs 0 0 Q (F0 m 14 ls []) := by
    intro n
    induction n with
    | zero => intro x3_14 v_turned_14 a_came_14 a_stayed_14 ls H locs hF hl hW; have h0 : none = some out := hF; cases h0
    | succ n ih =>
      intro x3_14 v_turned_14 a_came_14 a_stayed_14 ls H locs hF hl hW
      rw [L_X5_goOn_14] at hF
      refine lv_iload_n hx hb dX5_goOn_14 rfl (lv_at hl 3 rfl) ?_
      refine lv_if_lt (tgt := 94) hx hb dX5_goOn_15 (by decide) (fun c_15 => ?_) (fun c_15 => ?_)
      · have hF := ite_t hF c_15
        obtain rfl := Option.some.inj hF
        exact hret _ _ _ _ hW dX5_goOn_94
      · have hF := ite_f hF c_15
        refine lv_aload_n hx hb dX5_goOn_18 rfl (lv_at hl 1 rfl) ?_
        refine lv_iload_n hx hb dX5_goOn_19 rfl (lv_at hl 3 rfl) ?_
        refine lv_iload_n hx hb dX5_goOn_20 rfl (lv_at hl 2 rfl) ?_
        obtain ⟨q21, c_21, hF⟩ := bd_el hF
        refine wcI (ws' := [(h_this, oX5 ad_this v_turned_14), (h_p1, oX8 ad_p1 v_p1_signCount v_p1_houseCount v_p1_boatCount v_p1_workCount v_p1_turnCost v_p1_boatDayCost), ((ad_p1 0), cI G 3 a_p1_lighter), ((ad_this 1), cJ G 3 a_came_14), ((ad_this 0), cJ G 3 a_stayed_14)]) (wc := [(h_p1, oX8 ad_p1 v_p1_signCount v_p1_houseCount v_p1_boatCount v_p1_workCount v_p1_turnCost v_p1_boatDayCost), ((ad_p1 0), cI G 3 a_p1_lighter)]) (wr := [(h_this, oX5 ad_this v_turned_14), ((ad_this 1), cJ G 3 a_came_14), ((ad_this 0), cJ G 3 a_stayed_14)]) (w1 := [(h_p1, oX8 ad_p1 v_p1_signCount v_p1_houseCount v_p1_boatCount v_p1_workCount v_p1_turnCost v_p1_boatDayCost), ((ad_p1 0), cI G 3 a_p1_lighter)]) (va_runV (As := [.int x3_14, .int x2]) (rest := []) ⟨hx, hb, hml, hown, hg⟩ (c_X8_chance l G x3_14 x2 h_p1 ad_p1 v_p1_signCount v_p1_houseCount v_p1_boatCount v_p1_workCount v_p1_turnCost v_p1_boatDayCost a_p1_lighter q21 c_21 H.size) (cwV 2 hg (gV wd_2_235 wd_2_236 wd_2_237 wd_1_4 wd_2_238) rfl rfl rfl hdV_X8_chance ⟨(Nat.le_of_ble_eq_true rfl), (Nat.le_of_ble_eq_true rfl)⟩) (preV hc hW [1, 2] rfl (by decide) rfl rfl) rfl rfl hl.1 rfl (lv_room (Nat.le_of_ble_eq_true rfl)) dX5_goOn_21 ⟨Nat.zero_le _, Nat.zero_le _⟩) hA hW [1, 2] [0, 3, 4] [0, 3, 4, 1, 2] rfl rfl (by decide) (by decide) rfl (by decide) (fun H locs hW => ?_)
        refine lv_istore (lv' := [(4, .int q21), (0, .ref h_this), (1, .ref h_p1), (2, .int x2), (3, .int x3_14)]) hx hb dX5_goOn_24 hl (by decide) rfl (fun ls hl => ?_)
        refine lv_aload_n hx hb dX5_goOn_26 rfl (lv_at hl 1 rfl) ?_
        refine lv_iload_n hx hb dX5_goOn_27 rfl (lv_at hl 4 rfl) ?_
        obtain ⟨q28, c_28, hF⟩ := bd_el hF
        refine wcJ (ws' := [(h_this, oX5 ad_this v_turned_14), (h_p1, oX8 ad_p1 v_p1_signCount v_p1_houseCount v_p1_boatCount v_p1_workCount v_p1_turnCost v_p1_boatDayCost), ((ad_p1 0), cI G 3 a_p1_lighter), ((ad_this 1), cJ G 3 a_came_14), ((ad_this 0), cJ G 3 a_stayed_14)]) (wc := [(h_this, oX5 ad_this v_turned_14), ((ad_this 1), cJ G 3 a_came_14), ((ad_this 0), cJ G 3 a_stayed_14)]) (wr := [(h_p1, oX8 ad_p1 v_p1_signCount v_p1_houseCount v_p1_boatCount v_p1_workCount v_p1_turnCost v_p1_boatDayCost), ((ad_p1 0), cI G 3 a_p1_lighter)]) (w1 := [(h_this, oX5 ad_this v_turned_14), ((ad_this 1), cJ G 3 a_came_14), ((ad_this 0), cJ G 3 a_stayed_14)]) (va_runV (As := [.int x3_14]) (rest := []) ⟨hx, hb, hml, hown, hg⟩ (c_X5_waysTo l G x3_14 h_this ad_this v_turned_14 a_came_14 a_stayed_14 q28 c_28 H.size) (cwV 1 hg (gV wd_3_2 wd_3_3 wd_3_4 wd_1_6 wd_3_5) rfl rfl rfl hdV_X5_waysTo ⟨(Nat.le_of_ble_eq_true rfl), (Nat.le_of_ble_eq_true rfl)⟩) (preV hc hW [0, 3, 4] rfl (by decide) rfl rfl) rfl rfl hl.1 rfl (lv_room (Nat.le_of_ble_eq_true rfl)) dX5_goOn_28 ⟨Nat.zero_le _, Nat.zero_le _⟩) hA hW [0, 3, 4] [1, 2] [2, 0, 1, 3, 4] rfl rfl (by decide) (by decide) rfl (by decide) (fun H locs hW => ?_)
        refine lv_lstore (lv' := [(5, .long q28), (4, .int q21), (0, .ref h_this), (1, .ref h_p1), (2, .int x2), (3, .int x3_14)]) hx hb dX5_goOn_31 hl (by decide) rfl (fun ls hl => ?_)
        refine lv_aload_n hx hb dX5_goOn_33 rfl (lv_at hl 2 rfl) ?_
        refine va_get (D := G.1) (ci := 4) (v := .ref ((ad_this 0))) (C := RX5) (T := TX5) (N := 3) hx hb hg hu_X5 hown hc.1 hW.1 0 rfl rfl 0 (by decide) (hg _ wd_1_141) (fun _ h9 => h9) rfl dX5_goOn_34 ?_
        refine lv_iload_n hx hb dX5_goOn_37 rfl (lv_at hl 5 rfl) ?_
        refine lv_lload hx hb dX5_goOn_38 (lv_at hl 0 rfl) ?_
        refine lv_iconst (v := 4) hx hb dX5_goOn_40 (by decide) ?_
        refine lv_iload hx hb dX5_goOn_41 (lv_at hl 1 rfl) ?_
        refine lv_isub hx hb dX5_goOn_43 ?_
        refine lv_i2l (v := (Int32.toInt64 ((4 - q21)))) hx hb dX5_goOn_44 rfl ?_
        refine lv_lmul hx hb dX5_goOn_45 ?_
        obtain ⟨q46, c_46, hF⟩ := bd_el hF
        refine wcV (ws' := [(h_this, oX5 ad_this v_turned_14), (h_p1, oX8 ad_p1 v_p1_signCount v_p1_houseCount v_p1_boatCount v_p1_workCount v_p1_turnCost v_p1_boatDayCost), ((ad_p1 0), cI G 3 a_p1_lighter), ((ad_this 1), cJ G 3 a_came_14), ((ad_this 0), cJ G 3 q46)]) (wc := [((ad_this 0), cJ G 3 a_stayed_14)]) (wr := [(h_this, oX5 ad_this v_turned_14), (h_p1, oX8 ad_p1 v_p1_signCount v_p1_houseCount v_p1_boatCount v_p1_workCount v_p1_turnCost v_p1_boatDayCost), ((ad_p1 0), cI G 3 a_p1_lighter), ((ad_this 1), cJ G 3 a_came_14)]) (w1 := [((ad_this 0), cJ G 3 q46)]) (va_runS (As := [.ref ((ad_this 0)), .int x3_14, .long ((q28 * (Int32.toInt64 ((4 - q21)))))]) (rest := []) ⟨hx, hb, hml, hown, hg⟩ (c_X4_putLong l G x3_14 ((q28 * (Int32.toInt64 ((4 - q21))))) 3 ((ad_this 0)) a_stayed_14 q46 c_46 H.size) (va_cwS 3 hg (gS wd_2_225 wd_2_226 wd_1_14 wd_2_227) rfl rfl rfl hdS_X4_putLong ⟨(Nat.le_of_ble_eq_true rfl), (Nat.le_of_ble_eq_true rfl)⟩) (preS hc hW [4] rfl (by decide)) rfl rfl hl.1 rfl (lv_room (Nat.le_of_ble_eq_true rfl)) dX5_goOn_46 ⟨Nat.zero_le _, Nat.zero_le _⟩) hA hW [4] [0, 1, 2, 3] [0, 1, 2, 3, 4] rfl rfl (by decide) (by decide) rfl (by decide) (fun H locs hW => ?_)
        refine lv_iload_n hx hb dX5_goOn_49 rfl (lv_at hl 5 rfl) ?_
        refine lv_iconst (v := 2) hx hb dX5_goOn_50 (by decide) ?_
        obtain ⟨k_88, e_88, hF⟩ := jn_el hF
        have J_88 : ∀ (v_turned_88 : Int64) (a_came_88 : Nat → Int64) (ls : Array Slot) (H : Heap) (locs : List Loc), k_88 v_turned_88 a_came_88 = some out → lv_has ls 7 [(0, .ref h_this), (1, .ref h_p1), (2, .int x2), (3, .int x3_14)] → Wd G A s.heap [(h_this, oX5 ad_this v_turned_88), (h_p1, oX8 ad_p1 v_p1_signCount v_p1_houseCount v_p1_boatCount v_p1_workCount v_p1_turnCost v_p1_boatDayCost), ((ad_p1 0), cI G 3 a_p1_lighter), ((ad_this 1), cJ G 3 a_came_88), ((ad_this 0), cJ G 3 q46)] H locs → W p l e ({ frames := 2, cells := 0, slots := 0, locals := 46 } : Room) s m args below meth c H locs 0 0 Q (F0 m 88 ls []) := by
          intro v_turned_88 a_came_88 ls H locs hF hl hW
          rw [e_88] at hF
          dsimp only at hF
          refine lv_iinc (v := (x3_14 + (-1))) (lv' := [(3, .int ((x3_14 + (-1)))), (0, .ref h_this), (1, .ref h_p1), (2, .int x2)]) hx hb dX5_goOn_88 hl (k := 3) rfl rfl (by decide) rfl (fun ls hl => ?_)
          refine lv_goto (tgt := 14) hx hb dX5_goOn_91 (by decide) ?_
          exact ih ((x3_14 + (-1))) v_turned_88 a_came_88 q46 _ _ _ hF (lv_sub hl [1, 2, 3, 0] rfl) hW
        refine lv_icmp_ne (tgt := 72) hx hb dX5_goOn_51 (by decide) (fun c_51 => ?_) (fun c_51 => ?_)
        · have hF := ite_f hF c_51
          refine lv_aload_n hx hb dX5_goOn_72 rfl (lv_at hl 2 rfl) ?_
          refine va_get (D := G.1) (ci := 4) (v := .ref ((ad_this 1))) (C := RX5) (T := TX5) (N := 3) hx hb hg hu_X5 hown hc.1 hW.1 0 rfl rfl 1 (by decide) (hg _ wd_1_142) (fun _ h9 => h9) rfl dX5_goOn_73 ?_
          refine lv_iload_n hx hb dX5_goOn_76 rfl (lv_at hl 5 rfl) ?_
          refine lv_iconst (v := 1) hx hb dX5_goOn_77 (by decide) ?_
          refine lv_iadd hx hb dX5_goOn_78 ?_
          refine lv_lload hx hb dX5_goOn_79 (lv_at hl 0 rfl) ?_
          refine lv_iload hx hb dX5_goOn_81 (lv_at hl 1 rfl) ?_
          refine lv_i2l (v := (Int32.toInt64 q21)) hx hb dX5_goOn_83 rfl ?_
          refine lv_lmul hx hb dX5_goOn_84 ?_
          obtain ⟨q85, c_85, hF⟩ := bd_el hF
          refine wcV (ws' := [(h_this, oX5 ad_this v_turned_14), (h_p1, oX8 ad_p1 v_p1_signCount v_p1_houseCount v_p1_boatCount v_p1_workCount v_p1_turnCost v_p1_boatDayCost), ((ad_p1 0), cI G 3 a_p1_lighter), ((ad_this 1), cJ G 3 q85), ((ad_this 0), cJ G 3 q46)]) (wc := [((ad_this 1), cJ G 3 a_came_14)]) (wr := [(h_this, oX5 ad_this v_turned_14), (h_p1, oX8 ad_p1 v_p1_signCount v_p1_houseCount v_p1_boatCount v_p1_workCount v_p1_turnCost v_p1_boatDayCost), ((ad_p1 0), cI G 3 a_p1_lighter), ((ad_this 0), cJ G 3 q46)]) (w1 := [((ad_this 1), cJ G 3 q85)]) (va_runS (As := [.ref ((ad_this 1)), .int ((x3_14 + 1)), .long ((q28 * (Int32.toInt64 q21)))]) (rest := []) ⟨hx, hb, hml, hown, hg⟩ (c_X4_putLong l G ((x3_14 + 1)) ((q28 * (Int32.toInt64 q21))) 3 ((ad_this 1)) a_came_14 q85 c_85 H.size) (va_cwS 3 hg (gS wd_2_225 wd_2_226 wd_1_14 wd_2_227) rfl rfl rfl hdS_X4_putLong ⟨(Nat.le_of_ble_eq_true rfl), (Nat.le_of_ble_eq_true rfl)⟩) (preS hc hW [3] rfl (by decide)) rfl rfl hl.1 rfl (lv_room (Nat.le_of_ble_eq_true rfl)) dX5_goOn_85 ⟨Nat.zero_le _, Nat.zero_le _⟩) hA hW [3] [0, 1, 2, 4] [0, 1, 2, 4, 3] rfl rfl (by decide) (by decide) rfl (by decide) (fun H locs hW => ?_)
          exact J_88 v_turned_14 q85 _ _ _ hF (lv_sub hl [2, 3, 4, 5] rfl) hW
        · have hF := ite_t hF c_51
          refine lv_aload_n hx hb dX5_goOn_54 rfl (lv_at hl 2 rfl) ?_
          refine lv_dup hx hb dX5_goOn_55 rfl ?_
          refine va_get (D := G.1) (ci := 4) (v := .long v_turned_14) (C := RX5) (T := TX5) (N := 3) hx hb hg hu_X5 hown hc.1 hW.1 0 rfl rfl 2 (by decide) (hg _ wd_1_143) (fun _ h9 => h9) rfl dX5_goOn_56 ?_
          refine lv_lload hx hb dX5_goOn_59 (lv_at hl 0 rfl) ?_
          refine lv_iload hx hb dX5_goOn_61 (lv_at hl 1 rfl) ?_
          refine lv_i2l (v := (Int32.toInt64 q21)) hx hb dX5_goOn_63 rfl ?_
          refine lv_lmul hx hb dX5_goOn_64 ?_
          refine lv_ladd hx hb dX5_goOn_65 ?_
          refine va_put (D := G.1) (ci := 4) (v := .long ((v_turned_14 + (q28 * (Int32.toInt64 q21))))) (ty := .long) (C := RX5) (T := TX5) (N := 3) hx hb hg hu_X5 tyX5 tyX5_ok nmX5 hown hc.1 hW.1 hW.2.1 hW.2.2 0 rfl rfl 2 (by decide) (hg _ wd_1_143) (fun _ h9 => h9) rfl (by decide +kernel) rfl rfl (Nat.le_of_ble_eq_true rfl) dX5_goOn_66 (fun H locs hP hD hS => ?_)
          have hW : Wd G A s.heap [(h_this, oX5 ad_this ((v_turned_14 + (q28 * (Int32.toInt64 q21))))), (h_p1, oX8 ad_p1 v_p1_signCount v_p1_houseCount v_p1_boatCount v_p1_workCount v_p1_turnCost v_p1_boatDayCost), ((ad_p1 0), cI G 3 a_p1_lighter), ((ad_this 1), cJ G 3 a_came_14), ((ad_this 0), cJ G 3 q46)] H locs := ⟨hP, hD, hS⟩
          refine lv_goto (tgt := 88) hx hb dX5_goOn_69 (by decide) ?_
          exact J_88 ((v_turned_14 + (q28 * (Int32.toInt64 q21)))) a_came_14 _ _ _ hF (lv_sub hl [2, 3, 4, 5] rfl) hW
  exact L_14 5000 2 ((v_turned * 4)) a_came a_stayed _ _ _ hF (lv_sub hl [1, 2, 3, 0] rfl) hW
theorem dX5_lookAt_0 : decode cX5_lookAt 0 = .ok (.iconst 0, 1) := by decide +kernel
theorem dX5_lookAt_1 : decode cX5_lookAt 1 = .ok (.istore_n 3, 1) := by decide +kernel
theorem dX5_lookAt_2 : decode cX5_lookAt 2 = .ok (.iload_n 3, 1) := by decide +kernel
theorem dX5_lookAt_3 : decode cX5_lookAt 3 = .ok (.iconst 3, 1) := by decide +kernel
theorem dX5_lookAt_4 : decode cX5_lookAt 4 = .ok (.if_icmp .ge 67, 3) := by decide +kernel
theorem dX5_lookAt_7 : decode cX5_lookAt 7 = .ok (.iconst 0, 1) := by decide +kernel
theorem dX5_lookAt_8 : decode cX5_lookAt 8 = .ok (.iload_n 3, 1) := by decide +kernel
theorem dX5_lookAt_9 : decode cX5_lookAt 9 = .ok (.iconst 1, 1) := by decide +kernel
theorem dX5_lookAt_10 : decode cX5_lookAt 10 = .ok (.isub, 1) := by decide +kernel
theorem dX5_lookAt_11 : decode cX5_lookAt 11 = .ok (.invokestatic 71, 3) := by decide +kernel
theorem dX5_lookAt_14 : decode cX5_lookAt 14 = .ok (.istore 4, 2) := by decide +kernel
theorem dX5_lookAt_16 : decode cX5_lookAt 16 = .ok (.aload_n 0, 1) := by decide +kernel
theorem dX5_lookAt_17 : decode cX5_lookAt 17 = .ok (.getfield 9, 3) := by decide +kernel
theorem dX5_lookAt_20 : decode cX5_lookAt 20 = .ok (.iload_n 3, 1) := by decide +kernel
theorem dX5_lookAt_21 : decode cX5_lookAt 21 = .ok (.aload_n 0, 1) := by decide +kernel
theorem dX5_lookAt_22 : decode cX5_lookAt 22 = .ok (.getfield 9, 3) := by decide +kernel
theorem dX5_lookAt_25 : decode cX5_lookAt 25 = .ok (.iload_n 3, 1) := by decide +kernel
theorem dX5_lookAt_26 : decode cX5_lookAt 26 = .ok (.invokestatic 18, 3) := by decide +kernel
theorem dX5_lookAt_29 : decode cX5_lookAt 29 = .ok (.aload_n 1, 1) := by decide +kernel
theorem dX5_lookAt_30 : decode cX5_lookAt 30 = .ok (.iload_n 2, 1) := by decide +kernel
theorem dX5_lookAt_31 : decode cX5_lookAt 31 = .ok (.iload_n 3, 1) := by decide +kernel
theorem dX5_lookAt_32 : decode cX5_lookAt 32 = .ok (.iload_n 3, 1) := by decide +kernel
theorem dX5_lookAt_33 : decode cX5_lookAt 33 = .ok (.invokevirtual 76, 3) := by decide +kernel
theorem dX5_lookAt_36 : decode cX5_lookAt 36 = .ok (.lmul, 1) := by decide +kernel
theorem dX5_lookAt_37 : decode cX5_lookAt 37 = .ok (.invokestatic 36, 3) := by decide +kernel
theorem dX5_lookAt_40 : decode cX5_lookAt 40 = .ok (.aload_n 0, 1) := by decide +kernel
theorem dX5_lookAt_41 : decode cX5_lookAt 41 = .ok (.getfield 15, 3) := by decide +kernel
theorem dX5_lookAt_44 : decode cX5_lookAt 44 = .ok (.iload_n 3, 1) := by decide +kernel
theorem dX5_lookAt_45 : decode cX5_lookAt 45 = .ok (.aload_n 0, 1) := by decide +kernel
theorem dX5_lookAt_46 : decode cX5_lookAt 46 = .ok (.getfield 15, 3) := by decide +kernel
theorem dX5_lookAt_49 : decode cX5_lookAt 49 = .ok (.iload_n 3, 1) := by decide +kernel
theorem dX5_lookAt_50 : decode cX5_lookAt 50 = .ok (.invokestatic 18, 3) := by decide +kernel
theorem dX5_lookAt_53 : decode cX5_lookAt 53 = .ok (.aload_n 1, 1) := by decide +kernel
theorem dX5_lookAt_54 : decode cX5_lookAt 54 = .ok (.iload_n 2, 1) := by decide +kernel
theorem dX5_lookAt_55 : decode cX5_lookAt 55 = .ok (.iload 4, 2) := by decide +kernel
theorem dX5_lookAt_57 : decode cX5_lookAt 57 = .ok (.iload_n 3, 1) := by decide +kernel
theorem dX5_lookAt_58 : decode cX5_lookAt 58 = .ok (.invokevirtual 76, 3) := by decide +kernel
theorem dX5_lookAt_61 : decode cX5_lookAt 61 = .ok (.lmul, 1) := by decide +kernel
theorem dX5_lookAt_62 : decode cX5_lookAt 62 = .ok (.invokestatic 36, 3) := by decide +kernel
theorem dX5_lookAt_65 : decode cX5_lookAt 65 = .ok (.iinc 3 1, 3) := by decide +kernel
theorem dX5_lookAt_68 : decode cX5_lookAt 68 = .ok (.goto (-66), 3) := by decide +kernel
theorem dX5_lookAt_71 : decode cX5_lookAt 71 = .ok (.return_, 1) := by decide +kernel
def L_X5_lookAt_2 (x2 : Int32) (v_p1_signCount : Int32) (a_p1_signNumbers : Nat → Int32)  : Nat → Int32 → (Nat → Int64) → (Nat → Int64) → Option ((Nat → Int64) × (Nat → Int64))
  | 0, _, _, _ => none
  | n + 1, x3_2, a_came_2, a_stayed_2 => (if 3 ≤ x3_2 then some (a_came_2, a_stayed_2) else (F_X4_longAt x3_2 3 a_stayed_2).bind (fun q26 => (F_X8_waysToSee x2 x3_2 x3_2 v_p1_signCount a_p1_signNumbers).bind (fun q33 => (F_X4_putLong x3_2 ((q26 * q33)) 3 a_stayed_2).bind (fun q37 => (F_X4_longAt x3_2 3 a_came_2).bind (fun q50 => (F_X8_waysToSee x2 ((if (0 : Int32) < (x3_2 - 1) then (x3_2 - 1) else 0)) x3_2 v_p1_signCount a_p1_signNumbers).bind (fun q58 => (F_X4_putLong x3_2 ((q50 * q58)) 3 a_came_2).bind (fun q62 => L_X5_lookAt_2 x2 v_p1_signCount a_p1_signNumbers n ((x3_2 + 1)) q62 q37)))))))
def F_X5_lookAt (x2 : Int32) (v_p1_signCount : Int32) (a_p1_signNumbers : Nat → Int32) (a_came : Nat → Int64) (a_stayed : Nat → Int64) : Option ((Nat → Int64) × (Nat → Int64)) := L_X5_lookAt_2 x2 v_p1_signCount a_p1_signNumbers 5000 0 a_came a_stayed
theorem hdV_X5_lookAt : yX5_lookAt.cls = RX5 ∧ yX5_lookAt.cls ≠ "java/lang/invoke/MethodHandle" ∧ yX5_lookAt.cls ≠ "java/lang/invoke/VarHandle" ∧ (parseMethodDescriptor yX5_lookAt.desc).map (fun d => d.parameters.length) = some 2 := by decide +kernel
set_option maxHeartbeats 4000000 in
set_option maxRecDepth 100000 in
theorem c_X5_lookAt (l : Launch) (G : GG) (x2 : Int32) (h_this : Nat) (h_p1 : Nat) (ad_this : Nat → Nat) (ad_p1 : Nat → Nat) (v_turned : Int64) (v_p1_signCount : Int32) (v_p1_houseCount : Int32) (v_p1_boatCount : Int32) (v_p1_workCount : Int32) (v_p1_turnCost : Int32) (v_p1_boatDayCost : Int32) (a_p1_signNumbers : Nat → Int32) (a_came : Nat → Int64) (a_stayed : Nat → Int64) (out : (Nat → Int64) × (Nat → Int64)) (hF : F_X5_lookAt x2 v_p1_signCount a_p1_signNumbers a_came a_stayed = some out) : CtrV l yX5_lookAt (WS yX5_lookAt cX5_lookAt 5 none) { frames := 4, cells := 0, slots := 0, locals := 92 } G [.ref h_this, .ref h_p1, .int x2] [(h_this, oX5 ad_this v_turned), (h_p1, oX8 ad_p1 v_p1_signCount v_p1_houseCount v_p1_boatCount v_p1_workCount v_p1_turnCost v_p1_boatDayCost), ((ad_p1 1), cI G 16 a_p1_signNumbers), ((ad_this 1), cJ G 3 a_came), ((ad_this 0), cJ G 3 a_stayed)] [(h_this, oX5 ad_this v_turned), (h_p1, oX8 ad_p1 v_p1_signCount v_p1_houseCount v_p1_boatCount v_p1_workCount v_p1_turnCost v_p1_boatDayCost), ((ad_p1 1), cI G 16 a_p1_signNumbers), ((ad_this 1), cJ G 3 out.1), ((ad_this 0), cJ G 3 out.2)] := by
  refine startV (cc := cX5_lookAt) (maxL := 5) (by decide) rfl (Nat.le_of_ble_eq_true rfl) ?_
  intro p e s m args below meth c A Q hx hb hml hts hown hc hA hret ls H locs hl hW
  have hown : s.vm.findClass RX5 = some m.cls := hown
  have hg : ∀ w ∈ GOODS, w.before _ s = true := fun w h => hts w (List.mem_cons_of_mem _ h)
  have hl : lv_has ls 5 [(0, .ref h_this), (1, .ref h_p1), (2, .int x2)] := hl
  rw [F_X5_lookAt] at hF
  refine lv_iconst (v := 0) hx hb dX5_lookAt_0 (by decide) ?_
  refine lv_istore_n (lv' := [(3, .int 0), (0, .ref h_this), (1, .ref h_p1), (2, .int x2)]) hx hb dX5_lookAt_1 rfl hl (by decide) rfl (fun ls hl => ?_)
  have L_2 : ∀ (n : Nat) (x3_2 : Int32) (a_came_2 : Nat → Int64) (a_stayed_2 : Nat → Int64) (ls : Array Slot) (H : Heap) (locs : List Loc), L_X5_lookAt_2 x2 v_p1_signCount a_p1_signNumbers n x3_2 a_came_2 a_stayed_2 = some out → lv_has ls 5 [(0, .ref h_this), (1, .ref h_p1), (2, .int x2), (3, .int x3_2)] → Wd G A s.heap [(h_this, oX5 ad_this v_turned), (h_p1, oX8 ad_p1 v_p1_signCount v_p1_houseCount v_p1_boatCount v_p1_workCount v_p1_turnCost v_p1_boatDayCost), ((ad_p1 1), cI G 16 a_p1_signNumbers), ((ad_this 1), cJ G 3 a_came_2), ((ad_this 0), cJ G 3 a_stayed_2)] H locs → W p l e ({ frames := 4, cells := 0, slots := 0, locals := 92 } : Room) s m args below meth c H locs 0 0 Q (F0 m 2 ls []) := by
    intro n
    induction n with
    | zero => intro x3_2 a_came_2 a_stayed_2 ls H locs hF hl hW; have h0 : none = some out := hF; cases h0
    | succ n ih =>
      intro x3_2 a_came_2 a_stayed_2 ls H locs hF hl hW
      rw [L_X5_lookAt_2] at hF
      refine lv_iload_n hx hb dX5_lookAt_2 rfl (lv_at hl 3 rfl) ?_
      refine lv_iconst (v := 3) hx hb dX5_lookAt_3 (by decide) ?_
      refine lv_icmp_ge (tgt := 71) hx hb dX5_lookAt_4 (by decide) (fun c_4 => ?_) (fun c_4 => ?_)
      · have hF := ite_t hF c_4
        obtain rfl := Option.some.inj hF
        exact hret _ _ _ _ hW dX5_lookAt_71
      · have hF := ite_f hF c_4
        refine lv_iconst (v := 0) hx hb dX5_lookAt_7 (by decide) ?_
        refine lv_iload_n hx hb dX5_lookAt_8 rfl (lv_at hl 3 rfl) ?_
        refine lv_iconst (v := 1) hx hb dX5_lookAt_9 (by decide) ?_
        refine lv_isub hx hb dX5_lookAt_10 ?_
        refine va_mmax hx hb (hml.trans hl.1.symm) hown (hg _ wd_3_14) (hg _ wd_3_15) (hg _ wd_1_16) (hg _ wd_3_16) (Nat.le_of_ble_eq_true rfl) (Nat.le_of_ble_eq_true rfl) (Nat.zero_le _) (Nat.zero_le _) dX5_lookAt_11 ?_
        refine lv_istore (lv' := [(4, .int ((if (0 : Int32) < (x3_2 - 1) then (x3_2 - 1) else 0))), (0, .ref h_this), (1, .ref h_p1), (2, .int x2), (3, .int x3_2)]) hx hb dX5_lookAt_14 hl (by decide) rfl (fun ls hl => ?_)
        refine lv_aload_n hx hb dX5_lookAt_16 rfl (lv_at hl 1 rfl) ?_
        refine va_get (D := G.1) (ci := 4) (v := .ref ((ad_this 0))) (C := RX5) (T := TX5) (N := 3) hx hb hg hu_X5 hown hc.1 hW.1 0 rfl rfl 0 (by decide) (hg _ wd_1_141) (fun _ h9 => h9) rfl dX5_lookAt_17 ?_
        refine lv_iload_n hx hb dX5_lookAt_20 rfl (lv_at hl 4 rfl) ?_
        refine lv_aload_n hx hb dX5_lookAt_21 rfl (lv_at hl 1 rfl) ?_
        refine va_get (D := G.1) (ci := 4) (v := .ref ((ad_this 0))) (C := RX5) (T := TX5) (N := 3) hx hb hg hu_X5 hown hc.1 hW.1 0 rfl rfl 0 (by decide) (hg _ wd_1_141) (fun _ h9 => h9) rfl dX5_lookAt_22 ?_
        refine lv_iload_n hx hb dX5_lookAt_25 rfl (lv_at hl 4 rfl) ?_
        obtain ⟨q26, c_26, hF⟩ := bd_el hF
        refine wcJ (ws' := [(h_this, oX5 ad_this v_turned), (h_p1, oX8 ad_p1 v_p1_signCount v_p1_houseCount v_p1_boatCount v_p1_workCount v_p1_turnCost v_p1_boatDayCost), ((ad_p1 1), cI G 16 a_p1_signNumbers), ((ad_this 1), cJ G 3 a_came_2), ((ad_this 0), cJ G 3 a_stayed_2)]) (wc := [((ad_this 0), cJ G 3 a_stayed_2)]) (wr := [(h_this, oX5 ad_this v_turned), (h_p1, oX8 ad_p1 v_p1_signCount v_p1_houseCount v_p1_boatCount v_p1_workCount v_p1_turnCost v_p1_boatDayCost), ((ad_p1 1), cI G 16 a_p1_signNumbers), ((ad_this 1), cJ G 3 a_came_2)]) (w1 := [((ad_this 0), cJ G 3 a_stayed_2)]) (va_runS (As := [.ref ((ad_this 0)), .int x3_2]) (rest := [.int x3_2, .ref ((ad_this 0))]) ⟨hx, hb, hml, hown, hg⟩ (c_X4_longAt l G x3_2 3 ((ad_this 0)) a_stayed_2 q26 c_26 H.size) (va_cwS 2 hg (gS wd_3_6 wd_3_7 wd_1_14 wd_3_8) rfl rfl rfl hdS_X4_longAt ⟨(Nat.le_of_ble_eq_true rfl), (Nat.le_of_ble_eq_true rfl)⟩) (preS hc hW [4] rfl (by decide)) rfl rfl hl.1 rfl (lv_room (Nat.le_of_ble_eq_true rfl)) dX5_lookAt_26 ⟨Nat.zero_le _, Nat.zero_le _⟩) hA hW [4] [0, 1, 2, 3] [0, 1, 2, 3, 4] rfl rfl (by decide) (by decide) rfl (by decide) (fun H locs hW => ?_)
        refine lv_aload_n hx hb dX5_lookAt_29 rfl (lv_at hl 2 rfl) ?_
        refine lv_iload_n hx hb dX5_lookAt_30 rfl (lv_at hl 3 rfl) ?_
        refine lv_iload_n hx hb dX5_lookAt_31 rfl (lv_at hl 4 rfl) ?_
        refine lv_iload_n hx hb dX5_lookAt_32 rfl (lv_at hl 4 rfl) ?_
        obtain ⟨q33, c_33, hF⟩ := bd_el hF
        refine wcJ (ws' := [(h_this, oX5 ad_this v_turned), (h_p1, oX8 ad_p1 v_p1_signCount v_p1_houseCount v_p1_boatCount v_p1_workCount v_p1_turnCost v_p1_boatDayCost), ((ad_p1 1), cI G 16 a_p1_signNumbers), ((ad_this 1), cJ G 3 a_came_2), ((ad_this 0), cJ G 3 a_stayed_2)]) (wc := [(h_p1, oX8 ad_p1 v_p1_signCount v_p1_houseCount v_p1_boatCount v_p1_workCount v_p1_turnCost v_p1_boatDayCost), ((ad_p1 1), cI G 16 a_p1_signNumbers)]) (wr := [(h_this, oX5 ad_this v_turned), ((ad_this 1), cJ G 3 a_came_2), ((ad_this 0), cJ G 3 a_stayed_2)]) (w1 := [(h_p1, oX8 ad_p1 v_p1_signCount v_p1_houseCount v_p1_boatCount v_p1_workCount v_p1_turnCost v_p1_boatDayCost), ((ad_p1 1), cI G 16 a_p1_signNumbers)]) (va_runV (As := [.int x2, .int x3_2, .int x3_2]) (rest := [.long q26, .int x3_2, .ref ((ad_this 0))]) ⟨hx, hb, hml, hown, hg⟩ (c_X8_waysToSee l G x2 x3_2 x3_2 h_p1 ad_p1 v_p1_signCount v_p1_houseCount v_p1_boatCount v_p1_workCount v_p1_turnCost v_p1_boatDayCost a_p1_signNumbers q33 c_33 H.size) (cwV 3 hg (gV wd_3_17 wd_3_18 wd_3_19 wd_1_4 wd_3_20) rfl rfl rfl hdV_X8_waysToSee ⟨(Nat.le_of_ble_eq_true rfl), (Nat.le_of_ble_eq_true rfl)⟩) (preV hc hW [1, 2] rfl (by decide) rfl rfl) rfl rfl hl.1 rfl (lv_room (Nat.le_of_ble_eq_true rfl)) dX5_lookAt_33 ⟨Nat.zero_le _, Nat.zero_le _⟩) hA hW [1, 2] [0, 3, 4] [0, 3, 4, 1, 2] rfl rfl (by decide) (by decide) rfl (by decide) (fun H locs hW => ?_)
        refine lv_lmul hx hb dX5_lookAt_36 ?_
        obtain ⟨q37, c_37, hF⟩ := bd_el hF
        refine wcV (ws' := [(h_this, oX5 ad_this v_turned), (h_p1, oX8 ad_p1 v_p1_signCount v_p1_houseCount v_p1_boatCount v_p1_workCount v_p1_turnCost v_p1_boatDayCost), ((ad_p1 1), cI G 16 a_p1_signNumbers), ((ad_this 1), cJ G 3 a_came_2), ((ad_this 0), cJ G 3 q37)]) (wc := [((ad_this 0), cJ G 3 a_stayed_2)]) (wr := [(h_this, oX5 ad_this v_turned), (h_p1, oX8 ad_p1 v_p1_signCount v_p1_houseCount v_p1_boatCount v_p1_workCount v_p1_turnCost v_p1_boatDayCost), ((ad_p1 1), cI G 16 a_p1_signNumbers), ((ad_this 1), cJ G 3 a_came_2)]) (w1 := [((ad_this 0), cJ G 3 q37)]) (va_runS (As := [.ref ((ad_this 0)), .int x3_2, .long ((q26 * q33))]) (rest := []) ⟨hx, hb, hml, hown, hg⟩ (c_X4_putLong l G x3_2 ((q26 * q33)) 3 ((ad_this 0)) a_stayed_2 q37 c_37 H.size) (va_cwS 3 hg (gS wd_2_225 wd_2_226 wd_1_14 wd_2_227) rfl rfl rfl hdS_X4_putLong ⟨(Nat.le_of_ble_eq_true rfl), (Nat.le_of_ble_eq_true rfl)⟩) (preS hc hW [4] rfl (by decide)) rfl rfl hl.1 rfl (lv_room (Nat.le_of_ble_eq_true rfl)) dX5_lookAt_37 ⟨Nat.zero_le _, Nat.zero_le _⟩) hA hW [4] [0, 1, 2, 3] [0, 1, 2, 3, 4] rfl rfl (by decide) (by decide) rfl (by decide) (fun H locs hW => ?_)
        refine lv_aload_n hx hb dX5_lookAt_40 rfl (lv_at hl 1 rfl) ?_
        refine va_get (D := G.1) (ci := 4) (v := .ref ((ad_this 1))) (C := RX5) (T := TX5) (N := 3) hx hb hg hu_X5 hown hc.1 hW.1 0 rfl rfl 1 (by decide) (hg _ wd_1_142) (fun _ h9 => h9) rfl dX5_lookAt_41 ?_
        refine lv_iload_n hx hb dX5_lookAt_44 rfl (lv_at hl 4 rfl) ?_
        refine lv_aload_n hx hb dX5_lookAt_45 rfl (lv_at hl 1 rfl) ?_
        refine va_get (D := G.1) (ci := 4) (v := .ref ((ad_this 1))) (C := RX5) (T := TX5) (N := 3) hx hb hg hu_X5 hown hc.1 hW.1 0 rfl rfl 1 (by decide) (hg _ wd_1_142) (fun _ h9 => h9) rfl dX5_lookAt_46 ?_
        refine lv_iload_n hx hb dX5_lookAt_49 rfl (lv_at hl 4 rfl) ?_
        obtain ⟨q50, c_50, hF⟩ := bd_el hF
        refine wcJ (ws' := [(h_this, oX5 ad_this v_turned), (h_p1, oX8 ad_p1 v_p1_signCount v_p1_houseCount v_p1_boatCount v_p1_workCount v_p1_turnCost v_p1_boatDayCost), ((ad_p1 1), cI G 16 a_p1_signNumbers), ((ad_this 1), cJ G 3 a_came_2), ((ad_this 0), cJ G 3 q37)]) (wc := [((ad_this 1), cJ G 3 a_came_2)]) (wr := [(h_this, oX5 ad_this v_turned), (h_p1, oX8 ad_p1 v_p1_signCount v_p1_houseCount v_p1_boatCount v_p1_workCount v_p1_turnCost v_p1_boatDayCost), ((ad_p1 1), cI G 16 a_p1_signNumbers), ((ad_this 0), cJ G 3 q37)]) (w1 := [((ad_this 1), cJ G 3 a_came_2)]) (va_runS (As := [.ref ((ad_this 1)), .int x3_2]) (rest := [.int x3_2, .ref ((ad_this 1))]) ⟨hx, hb, hml, hown, hg⟩ (c_X4_longAt l G x3_2 3 ((ad_this 1)) a_came_2 q50 c_50 H.size) (va_cwS 2 hg (gS wd_3_6 wd_3_7 wd_1_14 wd_3_8) rfl rfl rfl hdS_X4_longAt ⟨(Nat.le_of_ble_eq_true rfl), (Nat.le_of_ble_eq_true rfl)⟩) (preS hc hW [3] rfl (by decide)) rfl rfl hl.1 rfl (lv_room (Nat.le_of_ble_eq_true rfl)) dX5_lookAt_50 ⟨Nat.zero_le _, Nat.zero_le _⟩) hA hW [3] [0, 1, 2, 4] [0, 1, 2, 4, 3] rfl rfl (by decide) (by decide) rfl (by decide) (fun H locs hW => ?_)
        refine lv_aload_n hx hb dX5_lookAt_53 rfl (lv_at hl 2 rfl) ?_
        refine lv_iload_n hx hb dX5_lookAt_54 rfl (lv_at hl 3 rfl) ?_
        refine lv_iload hx hb dX5_lookAt_55 (lv_at hl 0 rfl) ?_
        refine lv_iload_n hx hb dX5_lookAt_57 rfl (lv_at hl 4 rfl) ?_
        obtain ⟨q58, c_58, hF⟩ := bd_el hF
        refine wcJ (ws' := [(h_this, oX5 ad_this v_turned), (h_p1, oX8 ad_p1 v_p1_signCount v_p1_houseCount v_p1_boatCount v_p1_workCount v_p1_turnCost v_p1_boatDayCost), ((ad_p1 1), cI G 16 a_p1_signNumbers), ((ad_this 1), cJ G 3 a_came_2), ((ad_this 0), cJ G 3 q37)]) (wc := [(h_p1, oX8 ad_p1 v_p1_signCount v_p1_houseCount v_p1_boatCount v_p1_workCount v_p1_turnCost v_p1_boatDayCost), ((ad_p1 1), cI G 16 a_p1_signNumbers)]) (wr := [(h_this, oX5 ad_this v_turned), ((ad_this 1), cJ G 3 a_came_2), ((ad_this 0), cJ G 3 q37)]) (w1 := [(h_p1, oX8 ad_p1 v_p1_signCount v_p1_houseCount v_p1_boatCount v_p1_workCount v_p1_turnCost v_p1_boatDayCost), ((ad_p1 1), cI G 16 a_p1_signNumbers)]) (va_runV (As := [.int x2, .int ((if (0 : Int32) < (x3_2 - 1) then (x3_2 - 1) else 0)), .int x3_2]) (rest := [.long q50, .int x3_2, .ref ((ad_this 1))]) ⟨hx, hb, hml, hown, hg⟩ (c_X8_waysToSee l G x2 ((if (0 : Int32) < (x3_2 - 1) then (x3_2 - 1) else 0)) x3_2 h_p1 ad_p1 v_p1_signCount v_p1_houseCount v_p1_boatCount v_p1_workCount v_p1_turnCost v_p1_boatDayCost a_p1_signNumbers q58 c_58 H.size) (cwV 3 hg (gV wd_3_17 wd_3_18 wd_3_19 wd_1_4 wd_3_20) rfl rfl rfl hdV_X8_waysToSee ⟨(Nat.le_of_ble_eq_true rfl), (Nat.le_of_ble_eq_true rfl)⟩) (preV hc hW [1, 2] rfl (by decide) rfl rfl) rfl rfl hl.1 rfl (lv_room (Nat.le_of_ble_eq_true rfl)) dX5_lookAt_58 ⟨Nat.zero_le _, Nat.zero_le _⟩) hA hW [1, 2] [0, 3, 4] [0, 3, 4, 1, 2] rfl rfl (by decide) (by decide) rfl (by decide) (fun H locs hW => ?_)
        refine lv_lmul hx hb dX5_lookAt_61 ?_
        obtain ⟨q62, c_62, hF⟩ := bd_el hF
        refine wcV (ws' := [(h_this, oX5 ad_this v_turned), (h_p1, oX8 ad_p1 v_p1_signCount v_p1_houseCount v_p1_boatCount v_p1_workCount v_p1_turnCost v_p1_boatDayCost), ((ad_p1 1), cI G 16 a_p1_signNumbers), ((ad_this 1), cJ G 3 q62), ((ad_this 0), cJ G 3 q37)]) (wc := [((ad_this 1), cJ G 3 a_came_2)]) (wr := [(h_this, oX5 ad_this v_turned), (h_p1, oX8 ad_p1 v_p1_signCount v_p1_houseCount v_p1_boatCount v_p1_workCount v_p1_turnCost v_p1_boatDayCost), ((ad_p1 1), cI G 16 a_p1_signNumbers), ((ad_this 0), cJ G 3 q37)]) (w1 := [((ad_this 1), cJ G 3 q62)]) (va_runS (As := [.ref ((ad_this 1)), .int x3_2, .long ((q50 * q58))]) (rest := []) ⟨hx, hb, hml, hown, hg⟩ (c_X4_putLong l G x3_2 ((q50 * q58)) 3 ((ad_this 1)) a_came_2 q62 c_62 H.size) (va_cwS 3 hg (gS wd_2_225 wd_2_226 wd_1_14 wd_2_227) rfl rfl rfl hdS_X4_putLong ⟨(Nat.le_of_ble_eq_true rfl), (Nat.le_of_ble_eq_true rfl)⟩) (preS hc hW [3] rfl (by decide)) rfl rfl hl.1 rfl (lv_room (Nat.le_of_ble_eq_true rfl)) dX5_lookAt_62 ⟨Nat.zero_le _, Nat.zero_le _⟩) hA hW [3] [0, 1, 2, 4] [0, 1, 2, 4, 3] rfl rfl (by decide) (by decide) rfl (by decide) (fun H locs hW => ?_)
        refine lv_iinc (v := (x3_2 + 1)) (lv' := [(3, .int ((x3_2 + 1))), (4, .int ((if (0 : Int32) < (x3_2 - 1) then (x3_2 - 1) else 0))), (0, .ref h_this), (1, .ref h_p1), (2, .int x2)]) hx hb dX5_lookAt_65 hl (k := 4) rfl rfl (by decide) rfl (fun ls hl => ?_)
        refine lv_goto (tgt := 2) hx hb dX5_lookAt_68 (by decide) ?_
        exact ih ((x3_2 + 1)) q62 q37 _ _ _ hF (lv_sub hl [2, 3, 4, 0] rfl) hW
  exact L_2 5000 0 a_came a_stayed _ _ _ hF (lv_sub hl [1, 2, 3, 0] rfl) hW
theorem dX5_passDiary_0 : decode cX5_passDiary 0 = .ok (.iconst 0, 1) := by decide +kernel
theorem dX5_passDiary_1 : decode cX5_passDiary 1 = .ok (.istore 4, 2) := by decide +kernel
theorem dX5_passDiary_3 : decode cX5_passDiary 3 = .ok (.iload 4, 2) := by decide +kernel
theorem dX5_passDiary_5 : decode cX5_passDiary 5 = .ok (.iconst 3, 1) := by decide +kernel
theorem dX5_passDiary_6 : decode cX5_passDiary 6 = .ok (.if_icmp .ge 38, 3) := by decide +kernel
theorem dX5_passDiary_9 : decode cX5_passDiary 9 = .ok (.aload_n 0, 1) := by decide +kernel
theorem dX5_passDiary_10 : decode cX5_passDiary 10 = .ok (.getfield 9, 3) := by decide +kernel
theorem dX5_passDiary_13 : decode cX5_passDiary 13 = .ok (.iload 4, 2) := by decide +kernel
theorem dX5_passDiary_15 : decode cX5_passDiary 15 = .ok (.iload 4, 2) := by decide +kernel
theorem dX5_passDiary_17 : decode cX5_passDiary 17 = .ok (.ifCond .ne 7, 3) := by decide +kernel
theorem dX5_passDiary_20 : decode cX5_passDiary 20 = .ok (.lconst 1, 1) := by decide +kernel
theorem dX5_passDiary_21 : decode cX5_passDiary 21 = .ok (.goto 4, 3) := by decide +kernel
theorem dX5_passDiary_24 : decode cX5_passDiary 24 = .ok (.lconst 0, 1) := by decide +kernel
theorem dX5_passDiary_25 : decode cX5_passDiary 25 = .ok (.invokestatic 36, 3) := by decide +kernel
theorem dX5_passDiary_28 : decode cX5_passDiary 28 = .ok (.aload_n 0, 1) := by decide +kernel
theorem dX5_passDiary_29 : decode cX5_passDiary 29 = .ok (.getfield 15, 3) := by decide +kernel
theorem dX5_passDiary_32 : decode cX5_passDiary 32 = .ok (.iload 4, 2) := by decide +kernel
theorem dX5_passDiary_34 : decode cX5_passDiary 34 = .ok (.lconst 0, 1) := by decide +kernel
theorem dX5_passDiary_35 : decode cX5_passDiary 35 = .ok (.invokestatic 36, 3) := by decide +kernel
theorem dX5_passDiary_38 : decode cX5_passDiary 38 = .ok (.iinc 4 1, 3) := by decide +kernel
theorem dX5_passDiary_41 : decode cX5_passDiary 41 = .ok (.goto (-38), 3) := by decide +kernel
theorem dX5_passDiary_44 : decode cX5_passDiary 44 = .ok (.iconst 0, 1) := by decide +kernel
theorem dX5_passDiary_45 : decode cX5_passDiary 45 = .ok (.istore 4, 2) := by decide +kernel
theorem dX5_passDiary_47 : decode cX5_passDiary 47 = .ok (.iload 4, 2) := by decide +kernel
theorem dX5_passDiary_49 : decode cX5_passDiary 49 = .ok (.aload_n 2, 1) := by decide +kernel
theorem dX5_passDiary_50 : decode cX5_passDiary 50 = .ok (.getfield 40, 3) := by decide +kernel
theorem dX5_passDiary_53 : decode cX5_passDiary 53 = .ok (.if_icmp .ge 41, 3) := by decide +kernel
theorem dX5_passDiary_56 : decode cX5_passDiary 56 = .ok (.aload_n 0, 1) := by decide +kernel
theorem dX5_passDiary_57 : decode cX5_passDiary 57 = .ok (.aload_n 1, 1) := by decide +kernel
theorem dX5_passDiary_58 : decode cX5_passDiary 58 = .ok (.aload_n 1, 1) := by decide +kernel
theorem dX5_passDiary_59 : decode cX5_passDiary 59 = .ok (.aload_n 2, 1) := by decide +kernel
theorem dX5_passDiary_60 : decode cX5_passDiary 60 = .ok (.iload 4, 2) := by decide +kernel
theorem dX5_passDiary_62 : decode cX5_passDiary 62 = .ok (.invokevirtual 46, 3) := by decide +kernel
theorem dX5_passDiary_65 : decode cX5_passDiary 65 = .ok (.invokevirtual 50, 3) := by decide +kernel
theorem dX5_passDiary_68 : decode cX5_passDiary 68 = .ok (.invokevirtual 55, 3) := by decide +kernel
theorem dX5_passDiary_71 : decode cX5_passDiary 71 = .ok (.iload 4, 2) := by decide +kernel
theorem dX5_passDiary_73 : decode cX5_passDiary 73 = .ok (.iload_n 3, 1) := by decide +kernel
theorem dX5_passDiary_74 : decode cX5_passDiary 74 = .ok (.if_icmp .eq 14, 3) := by decide +kernel
theorem dX5_passDiary_77 : decode cX5_passDiary 77 = .ok (.aload_n 0, 1) := by decide +kernel
theorem dX5_passDiary_78 : decode cX5_passDiary 78 = .ok (.aload_n 1, 1) := by decide +kernel
theorem dX5_passDiary_79 : decode cX5_passDiary 79 = .ok (.aload_n 2, 1) := by decide +kernel
theorem dX5_passDiary_80 : decode cX5_passDiary 80 = .ok (.iload 4, 2) := by decide +kernel
theorem dX5_passDiary_82 : decode cX5_passDiary 82 = .ok (.invokevirtual 59, 3) := by decide +kernel
theorem dX5_passDiary_85 : decode cX5_passDiary 85 = .ok (.invokevirtual 62, 3) := by decide +kernel
theorem dX5_passDiary_88 : decode cX5_passDiary 88 = .ok (.iinc 4 1, 3) := by decide +kernel
theorem dX5_passDiary_91 : decode cX5_passDiary 91 = .ok (.goto (-44), 3) := by decide +kernel
theorem dX5_passDiary_94 : decode cX5_passDiary 94 = .ok (.aload_n 0, 1) := by decide +kernel
theorem dX5_passDiary_95 : decode cX5_passDiary 95 = .ok (.lconst 0, 1) := by decide +kernel
theorem dX5_passDiary_96 : decode cX5_passDiary 96 = .ok (.putfield 32, 3) := by decide +kernel
theorem dX5_passDiary_99 : decode cX5_passDiary 99 = .ok (.return_, 1) := by decide +kernel
def L_X5_passDiary_47 (x3 : Int32) (v_p1_signCount : Int32) (v_p1_workCount : Int32) (a_p1_lighter : Nat → Int32) (a_p1_signNumbers : Nat → Int32) (a_p1_workNoise : Nat → Int32) (v_p2_days : Int32) (a_p2_signs : Nat → Int32) (a_p2_works : Nat → Int32) (k_94 : Int64 → (Nat → Int64) → (Nat → Int64) → Option (Int64 × (Nat → Int64) × (Nat → Int64))) : Nat → Int32 → Int64 → (Nat → Int64) → (Nat → Int64) → Option (Int64 × (Nat → Int64) × (Nat → Int64))
  | 0, _, _, _, _ => none
  | n + 1, x4_47, v_turned_47, a_came_47, a_stayed_47 => (if v_p2_days ≤ x4_47 then k_94 v_turned_47 a_came_47 a_stayed_47 else (F_X1_worksOn x4_47 a_p2_works).bind (fun q62 => (F_X8_noiseOf q62 v_p1_workCount a_p1_workNoise).bind (fun q65 => (F_X5_goOn q65 v_turned_47 a_p1_lighter a_came_47 a_stayed_47).bind (fun q68 => jn (fun (a_came_88 : Nat → Int64) (a_stayed_88 : Nat → Int64) => L_X5_passDiary_47 x3 v_p1_signCount v_p1_workCount a_p1_lighter a_p1_signNumbers a_p1_workNoise v_p2_days a_p2_signs a_p2_works k_94 n ((x4_47 + 1)) q68.1 a_came_88 a_stayed_88) (fun k_88 => (if x4_47 = x3 then k_88 q68.2.1 q68.2.2 else (F_X1_signsOn x4_47 a_p2_signs).bind (fun q82 => (F_X5_lookAt q82 v_p1_signCount a_p1_signNumbers q68.2.1 q68.2.2).bind (fun q85 => k_88 q85.1 q85.2))))))))
def L_X5_passDiary_3 (k_44 : (Nat → Int64) → (Nat → Int64) → Option (Int64 × (Nat → Int64) × (Nat → Int64))) : Nat → Int32 → (Nat → Int64) → (Nat → Int64) → Option (Int64 × (Nat → Int64) × (Nat → Int64))
  | 0, _, _, _ => none
  | n + 1, x4_3, a_came_3, a_stayed_3 => (if 3 ≤ x4_3 then k_44 a_came_3 a_stayed_3 else jn (fun (j0_25 : Int64) => (F_X4_putLong x4_3 j0_25 3 a_stayed_3).bind (fun q25 => (F_X4_putLong x4_3 0 3 a_came_3).bind (fun q35 => L_X5_passDiary_3 k_44 n ((x4_3 + 1)) q35 q25))) (fun k_25 => (if x4_3 = 0 then k_25 1 else k_25 0)))
def F_X5_passDiary (x3 : Int32) (v_turned : Int64) (v_p1_signCount : Int32) (v_p1_workCount : Int32) (a_p1_lighter : Nat → Int32) (a_p1_signNumbers : Nat → Int32) (a_p1_workNoise : Nat → Int32) (v_p2_days : Int32) (a_p2_signs : Nat → Int32) (a_p2_works : Nat → Int32) (a_came : Nat → Int64) (a_stayed : Nat → Int64) : Option (Int64 × (Nat → Int64) × (Nat → Int64)) := jn (fun (a_came_44 : Nat → Int64) (a_stayed_44 : Nat → Int64) => jn (fun (v_turned_94 : Int64) (a_came_94 : Nat → Int64) (a_stayed_94 : Nat → Int64) => some (0, a_came_94, a_stayed_94)) (fun k_94 => L_X5_passDiary_47 x3 v_p1_signCount v_p1_workCount a_p1_lighter a_p1_signNumbers a_p1_workNoise v_p2_days a_p2_signs a_p2_works k_94 5000 0 v_turned a_came_44 a_stayed_44)) (fun k_44 => L_X5_passDiary_3 k_44 5000 0 a_came a_stayed)
theorem hdV_X5_passDiary : yX5_passDiary.cls = RX5 ∧ yX5_passDiary.cls ≠ "java/lang/invoke/MethodHandle" ∧ yX5_passDiary.cls ≠ "java/lang/invoke/VarHandle" ∧ (parseMethodDescriptor yX5_passDiary.desc).map (fun d => d.parameters.length) = some 3 := by decide +kernel
set_option maxHeartbeats 4000000 in
set_option maxRecDepth 100000 in
theorem c_X5_passDiary (l : Launch) (G : GG) (x3 : Int32) (h_this : Nat) (h_p1 : Nat) (h_p2 : Nat) (ad_this : Nat → Nat) (ad_p1 : Nat → Nat) (ad_p2 : Nat → Nat) (v_turned : Int64) (v_p1_signCount : Int32) (v_p1_houseCount : Int32) (v_p1_boatCount : Int32) (v_p1_workCount : Int32) (v_p1_turnCost : Int32) (v_p1_boatDayCost : Int32) (a_p1_lighter : Nat → Int32) (a_p1_signNumbers : Nat → Int32) (a_p1_workNoise : Nat → Int32) (v_p2_days : Int32) (a_p2_signs : Nat → Int32) (a_p2_works : Nat → Int32) (a_came : Nat → Int64) (a_stayed : Nat → Int64) (out : Int64 × (Nat → Int64) × (Nat → Int64)) (hF : F_X5_passDiary x3 v_turned v_p1_signCount v_p1_workCount a_p1_lighter a_p1_signNumbers a_p1_workNoise v_p2_days a_p2_signs a_p2_works a_came a_stayed = some out) : CtrV l yX5_passDiary (WS yX5_passDiary cX5_passDiary 5 none) { frames := 5, cells := 0, slots := 0, locals := 116 } G [.ref h_this, .ref h_p1, .ref h_p2, .int x3] [(h_this, oX5 ad_this v_turned), (h_p1, oX8 ad_p1 v_p1_signCount v_p1_houseCount v_p1_boatCount v_p1_workCount v_p1_turnCost v_p1_boatDayCost), ((ad_p1 0), cI G 3 a_p1_lighter), ((ad_p1 1), cI G 16 a_p1_signNumbers), ((ad_p1 5), cI G 5 a_p1_workNoise), (h_p2, oX1 ad_p2 v_p2_days), ((ad_p2 0), cI G 5 a_p2_signs), ((ad_p2 1), cI G 5 a_p2_works), ((ad_this 1), cJ G 3 a_came), ((ad_this 0), cJ G 3 a_stayed)] [(h_this, oX5 ad_this out.1), (h_p1, oX8 ad_p1 v_p1_signCount v_p1_houseCount v_p1_boatCount v_p1_workCount v_p1_turnCost v_p1_boatDayCost), ((ad_p1 0), cI G 3 a_p1_lighter), ((ad_p1 1), cI G 16 a_p1_signNumbers), ((ad_p1 5), cI G 5 a_p1_workNoise), (h_p2, oX1 ad_p2 v_p2_days), ((ad_p2 0), cI G 5 a_p2_signs), ((ad_p2 1), cI G 5 a_p2_works), ((ad_this 1), cJ G 3 out.2.1), ((ad_this 0), cJ G 3 out.2.2)] := by
  refine startV (cc := cX5_passDiary) (maxL := 5) (by decide) rfl (Nat.le_of_ble_eq_true rfl) ?_
  intro p e s m args below meth c A Q hx hb hml hts hown hc hA hret ls H locs hl hW
  have hown : s.vm.findClass RX5 = some m.cls := hown
  have hg : ∀ w ∈ GOODS, w.before _ s = true := fun w h => hts w (List.mem_cons_of_mem _ h)
  have hl : lv_has ls 5 [(0, .ref h_this), (1, .ref h_p1), (2, .ref h_p2), (3, .int x3)] := hl
  rw [F_X5_passDiary] at hF
  refine lv_iconst (v := 0) hx hb dX5_passDiary_0 (by decide) ?_
  refine lv_istore (lv' := [(4, .int 0), (0, .ref h_this), (1, .ref h_p1), (2, .ref h_p2), (3, .int x3)]) hx hb dX5_passDiary_1 hl (by decide) rfl (fun ls hl => ?_)
  obtain ⟨k_44, e_44, hF⟩ := jn_el hF
  have J_44 : ∀ (a_came_44 : Nat → Int64) (a_stayed_44 : Nat → Int64) (ls : Array Slot) (H : Heap) (locs : List Loc), k_44 a_came_44 a_stayed_44 = some out → lv_has ls 5 [(0, .ref h_this), (1, .ref h_p1), (2, .ref h_p2), (3, .int x3)] → Wd G A s.heap [(h_this, oX5 ad_this v_turned), (h_p1, oX8 ad_p1 v_p1_signCount v_p1_houseCount v_p1_boatCount v_p1_workCount v_p1_turnCost v_p1_boatDayCost), ((ad_p1 0), cI G 3 a_p1_lighter), ((ad_p1 1), cI G 16 a_p1_signNumbers), ((ad_p1 5), cI G 5 a_p1_workNoise), (h_p2, oX1 ad_p2 v_p2_days), ((ad_p2 0), cI G 5 a_p2_signs), ((ad_p2 1), cI G 5 a_p2_works), ((ad_this 1), cJ G 3 a_came_44), ((ad_this 0), cJ G 3 a_stayed_44)] H locs → W p l e ({ frames := 5, cells := 0, slots := 0, locals := 116 } : Room) s m args below meth c H locs 0 0 Q (F0 m 44 ls []) := by
    intro a_came_44 a_stayed_44 ls H locs hF hl hW
    rw [e_44] at hF
    dsimp only at hF
    refine lv_iconst (v := 0) hx hb dX5_passDiary_44 (by decide) ?_
    refine lv_istore (lv' := [(4, .int 0), (0, .ref h_this), (1, .ref h_p1), (2, .ref h_p2), (3, .int x3)]) hx hb dX5_passDiary_45 hl (by decide) rfl (fun ls hl => ?_)
    obtain ⟨k_94, e_94, hF⟩ := jn_el hF
    have J_94 : ∀ (v_turned_94 : Int64) (a_came_94 : Nat → Int64) (a_stayed_94 : Nat → Int64) (ls : Array Slot) (H : Heap) (locs : List Loc), k_94 v_turned_94 a_came_94 a_stayed_94 = some out → lv_has ls 5 [(0, .ref h_this)] → Wd G A s.heap [(h_this, oX5 ad_this v_turned_94), (h_p1, oX8 ad_p1 v_p1_signCount v_p1_houseCount v_p1_boatCount v_p1_workCount v_p1_turnCost v_p1_boatDayCost), ((ad_p1 0), cI G 3 a_p1_lighter), ((ad_p1 1), cI G 16 a_p1_signNumbers), ((ad_p1 5), cI G 5 a_p1_workNoise), (h_p2, oX1 ad_p2 v_p2_days), ((ad_p2 0), cI G 5 a_p2_signs), ((ad_p2 1), cI G 5 a_p2_works), ((ad_this 1), cJ G 3 a_came_94), ((ad_this 0), cJ G 3 a_stayed_94)] H locs → W p l e ({ frames := 5, cells := 0, slots := 0, locals := 116 } : Room) s m args below meth c H locs 0 0 Q (F0 m 94 ls []) := by
      intro v_turned_94 a_came_94 a_stayed_94 ls H locs hF hl hW
      rw [e_94] at hF
      dsimp only at hF
      refine lv_aload_n hx hb dX5_passDiary_94 rfl (lv_at hl 0 rfl) ?_
      refine lv_lconst (v := 0) hx hb dX5_passDiary_95 (by decide) ?_
      refine va_put (D := G.1) (ci := 4) (v := .long 0) (ty := .long) (C := RX5) (T := TX5) (N := 3) hx hb hg hu_X5 tyX5 tyX5_ok nmX5 hown hc.1 hW.1 hW.2.1 hW.2.2 0 rfl rfl 2 (by decide) (hg _ wd_1_143) (fun _ h9 => h9) rfl (by decide +kernel) rfl rfl (Nat.le_of_ble_eq_true rfl) dX5_passDiary_96 (fun H locs hP hD hS => ?_)
      have hW : Wd G A s.heap [(h_this, oX5 ad_this 0), (h_p1, oX8 ad_p1 v_p1_signCount v_p1_houseCount v_p1_boatCount v_p1_workCount v_p1_turnCost v_p1_boatDayCost), ((ad_p1 0), cI G 3 a_p1_lighter), ((ad_p1 1), cI G 16 a_p1_signNumbers), ((ad_p1 5), cI G 5 a_p1_workNoise), (h_p2, oX1 ad_p2 v_p2_days), ((ad_p2 0), cI G 5 a_p2_signs), ((ad_p2 1), cI G 5 a_p2_works), ((ad_this 1), cJ G 3 a_came_94), ((ad_this 0), cJ G 3 a_stayed_94)] H locs := ⟨hP, hD, hS⟩
      obtain rfl := Option.some.inj hF
      exact hret _ _ _ _ hW dX5_passDiary_99
    have L_47 : ∀ (n : Nat) (x4_47 : Int32) (v_turned_47 : Int64) (a_came_47 : Nat → Int64) (a_stayed_47 : Nat → Int64) (ls : Array Slot) (H : Heap) (locs : List Loc), L_X5_passDiary_47 x3 v_p1_signCount v_p1_workCount a_p1_lighter a_p1_signNumbers a_p1_workNoise v_p2_days a_p2_signs a_p2_works k_94 n x4_47 v_turned_47 a_came_47 a_stayed_47 = some out → lv_has ls 5 [(0, .ref h_this), (1, .ref h_p1), (2, .ref h_p2), (3, .int x3), (4, .int x4_47)] → Wd G A s.heap [(h_this, oX5 ad_this v_turned_47), (h_p1, oX8 ad_p1 v_p1_signCount v_p1_houseCount v_p1_boatCount v_p1_workCount v_p1_turnCost v_p1_boatDayCost), ((ad_p1 0), cI G 3 a_p1_lighter), ((ad_p1 1), cI G 16 a_p1_signNumbers), ((ad_p1 5), cI G 5 a_p1_workNoise), (h_p2, oX1 ad_p2 v_p2_days), ((ad_p2 0), cI G 5 a_p2_signs), ((ad_p2 1), cI G 5 a_p2_works), ((ad_this 1), cJ G 3 a_came_47), ((ad_this 0), cJ G 3 a_stayed_47)] H locs → W p l e ({ frames := 5, cells := 0, slots := 0, locals := 116 } : Room) s m args below meth c H locs 0 0 Q (F0 m 47 ls []) := by
      intro n
      induction n with
      | zero => intro x4_47 v_turned_47 a_came_47 a_stayed_47 ls H locs hF hl hW; have h0 : none = some out := hF; cases h0
      | succ n ih =>
        intro x4_47 v_turned_47 a_came_47 a_stayed_47 ls H locs hF hl hW
        rw [L_X5_passDiary_47] at hF
        refine lv_iload hx hb dX5_passDiary_47 (lv_at hl 4 rfl) ?_
        refine lv_aload_n hx hb dX5_passDiary_49 rfl (lv_at hl 2 rfl) ?_
        refine va_get (D := G.1) (ci := 1) (v := .int v_p2_days) (C := RX1) (T := TX1) (N := 3) hx hb hg hu_X1 hown hc.1 hW.1 5 rfl rfl 2 (by decide) (hg _ wd_1_127) (fun _ h9 => h9) rfl dX5_passDiary_50 ?_
        refine lv_icmp_ge (tgt := 94) hx hb dX5_passDiary_53 (by decide) (fun c_53 => ?_) (fun c_53 => ?_)
        · have hF := ite_t hF c_53
          exact J_94 v_turned_47 a_came_47 a_stayed_47 _ _ _ hF (lv_sub hl [0] rfl) hW
        · have hF := ite_f hF c_53
          refine lv_aload_n hx hb dX5_passDiary_56 rfl (lv_at hl 0 rfl) ?_
          refine lv_aload_n hx hb dX5_passDiary_57 rfl (lv_at hl 1 rfl) ?_
          refine lv_aload_n hx hb dX5_passDiary_58 rfl (lv_at hl 1 rfl) ?_
          refine lv_aload_n hx hb dX5_passDiary_59 rfl (lv_at hl 2 rfl) ?_
          refine lv_iload hx hb dX5_passDiary_60 (lv_at hl 4 rfl) ?_
          obtain ⟨q62, c_62, hF⟩ := bd_el hF
          refine wcI (ws' := [(h_this, oX5 ad_this v_turned_47), (h_p1, oX8 ad_p1 v_p1_signCount v_p1_houseCount v_p1_boatCount v_p1_workCount v_p1_turnCost v_p1_boatDayCost), ((ad_p1 0), cI G 3 a_p1_lighter), ((ad_p1 1), cI G 16 a_p1_signNumbers), ((ad_p1 5), cI G 5 a_p1_workNoise), (h_p2, oX1 ad_p2 v_p2_days), ((ad_p2 0), cI G 5 a_p2_signs), ((ad_p2 1), cI G 5 a_p2_works), ((ad_this 1), cJ G 3 a_came_47), ((ad_this 0), cJ G 3 a_stayed_47)]) (wc := [(h_p2, oX1 ad_p2 v_p2_days), ((ad_p2 1), cI G 5 a_p2_works)]) (wr := [(h_this, oX5 ad_this v_turned_47), (h_p1, oX8 ad_p1 v_p1_signCount v_p1_houseCount v_p1_boatCount v_p1_workCount v_p1_turnCost v_p1_boatDayCost), ((ad_p1 0), cI G 3 a_p1_lighter), ((ad_p1 1), cI G 16 a_p1_signNumbers), ((ad_p1 5), cI G 5 a_p1_workNoise), ((ad_p2 0), cI G 5 a_p2_signs), ((ad_this 1), cJ G 3 a_came_47), ((ad_this 0), cJ G 3 a_stayed_47)]) (w1 := [(h_p2, oX1 ad_p2 v_p2_days), ((ad_p2 1), cI G 5 a_p2_works)]) (va_runV (As := [.int x4_47]) (rest := [.ref h_p1, .ref h_p1, .ref h_this]) ⟨hx, hb, hml, hown, hg⟩ (c_X1_worksOn l G x4_47 h_p2 ad_p2 v_p2_days a_p2_works q62 c_62 H.size) (cwV 1 hg (gV wd_2_228 wd_2_205 wd_2_206 wd_1_5 wd_2_207) rfl rfl rfl hdV_X1_worksOn ⟨(Nat.le_of_ble_eq_true rfl), (Nat.le_of_ble_eq_true rfl)⟩) (preV hc hW [5, 7] rfl (by decide) rfl rfl) rfl rfl hl.1 rfl (lv_room (Nat.le_of_ble_eq_true rfl)) dX5_passDiary_62 ⟨Nat.zero_le _, Nat.zero_le _⟩) hA hW [5, 7] [0, 1, 2, 3, 4, 6, 8, 9] [0, 1, 2, 3, 4, 8, 5, 9, 6, 7] rfl rfl (by decide) (by decide) rfl (by decide) (fun H locs hW => ?_)
          obtain ⟨q65, c_65, hF⟩ := bd_el hF
          refine wcI (ws' := [(h_this, oX5 ad_this v_turned_47), (h_p1, oX8 ad_p1 v_p1_signCount v_p1_houseCount v_p1_boatCount v_p1_workCount v_p1_turnCost v_p1_boatDayCost), ((ad_p1 0), cI G 3 a_p1_lighter), ((ad_p1 1), cI G 16 a_p1_signNumbers), ((ad_p1 5), cI G 5 a_p1_workNoise), (h_p2, oX1 ad_p2 v_p2_days), ((ad_p2 0), cI G 5 a_p2_signs), ((ad_p2 1), cI G 5 a_p2_works), ((ad_this 1), cJ G 3 a_came_47), ((ad_this 0), cJ G 3 a_stayed_47)]) (wc := [(h_p1, oX8 ad_p1 v_p1_signCount v_p1_houseCount v_p1_boatCount v_p1_workCount v_p1_turnCost v_p1_boatDayCost), ((ad_p1 5), cI G 5 a_p1_workNoise)]) (wr := [(h_this, oX5 ad_this v_turned_47), ((ad_p1 0), cI G 3 a_p1_lighter), ((ad_p1 1), cI G 16 a_p1_signNumbers), (h_p2, oX1 ad_p2 v_p2_days), ((ad_p2 0), cI G 5 a_p2_signs), ((ad_p2 1), cI G 5 a_p2_works), ((ad_this 1), cJ G 3 a_came_47), ((ad_this 0), cJ G 3 a_stayed_47)]) (w1 := [(h_p1, oX8 ad_p1 v_p1_signCount v_p1_houseCount v_p1_boatCount v_p1_workCount v_p1_turnCost v_p1_boatDayCost), ((ad_p1 5), cI G 5 a_p1_workNoise)]) (va_runV (As := [.int q62]) (rest := [.ref h_p1, .ref h_this]) ⟨hx, hb, hml, hown, hg⟩ (c_X8_noiseOf l G q62 h_p1 ad_p1 v_p1_signCount v_p1_houseCount v_p1_boatCount v_p1_workCount v_p1_turnCost v_p1_boatDayCost a_p1_workNoise q65 c_65 H.size) (cwV 1 hg (gV wd_2_229 wd_2_173 wd_2_174 wd_1_4 wd_2_175) rfl rfl rfl hdV_X8_noiseOf ⟨(Nat.le_of_ble_eq_true rfl), (Nat.le_of_ble_eq_true rfl)⟩) (preV hc hW [1, 4] rfl (by decide) rfl rfl) rfl rfl hl.1 rfl (lv_room (Nat.le_of_ble_eq_true rfl)) dX5_passDiary_65 ⟨Nat.zero_le _, Nat.zero_le _⟩) hA hW [1, 4] [0, 2, 3, 5, 6, 7, 8, 9] [0, 8, 1, 2, 9, 3, 4, 5, 6, 7] rfl rfl (by decide) (by decide) rfl (by decide) (fun H locs hW => ?_)
          obtain ⟨q68, c_68, hF⟩ := bd_el hF
          refine wcV (ws' := [(h_this, oX5 ad_this q68.1), (h_p1, oX8 ad_p1 v_p1_signCount v_p1_houseCount v_p1_boatCount v_p1_workCount v_p1_turnCost v_p1_boatDayCost), ((ad_p1 0), cI G 3 a_p1_lighter), ((ad_p1 1), cI G 16 a_p1_signNumbers), ((ad_p1 5), cI G 5 a_p1_workNoise), (h_p2, oX1 ad_p2 v_p2_days), ((ad_p2 0), cI G 5 a_p2_signs), ((ad_p2 1), cI G 5 a_p2_works), ((ad_this 1), cJ G 3 q68.2.1), ((ad_this 0), cJ G 3 q68.2.2)]) (wc := [(h_this, oX5 ad_this v_turned_47), (h_p1, oX8 ad_p1 v_p1_signCount v_p1_houseCount v_p1_boatCount v_p1_workCount v_p1_turnCost v_p1_boatDayCost), ((ad_p1 0), cI G 3 a_p1_lighter), ((ad_this 1), cJ G 3 a_came_47), ((ad_this 0), cJ G 3 a_stayed_47)]) (wr := [((ad_p1 1), cI G 16 a_p1_signNumbers), ((ad_p1 5), cI G 5 a_p1_workNoise), (h_p2, oX1 ad_p2 v_p2_days), ((ad_p2 0), cI G 5 a_p2_signs), ((ad_p2 1), cI G 5 a_p2_works)]) (w1 := [(h_this, oX5 ad_this q68.1), (h_p1, oX8 ad_p1 v_p1_signCount v_p1_houseCount v_p1_boatCount v_p1_workCount v_p1_turnCost v_p1_boatDayCost), ((ad_p1 0), cI G 3 a_p1_lighter), ((ad_this 1), cJ G 3 q68.2.1), ((ad_this 0), cJ G 3 q68.2.2)]) (va_runV (As := [.ref h_p1, .int q65]) (rest := []) ⟨hx, hb, hml, hown, hg⟩ (c_X5_goOn l G q65 h_this h_p1 ad_this ad_p1 v_turned_47 v_p1_signCount v_p1_houseCount v_p1_boatCount v_p1_workCount v_p1_turnCost v_p1_boatDayCost a_p1_lighter a_came_47 a_stayed_47 q68 c_68 H.size) (cwV 2 hg (gV wd_2_230 wd_2_231 wd_2_232 wd_1_6 wd_2_233) rfl rfl rfl hdV_X5_goOn ⟨(Nat.le_of_ble_eq_true rfl), (Nat.le_of_ble_eq_true rfl)⟩) (preV hc hW [0, 1, 2, 8, 9] rfl (by decide) rfl rfl) rfl rfl hl.1 rfl (lv_room (Nat.le_of_ble_eq_true rfl)) dX5_passDiary_68 ⟨Nat.zero_le _, Nat.zero_le _⟩) hA hW [0, 1, 2, 8, 9] [3, 4, 5, 6, 7] [5, 6, 7, 0, 1, 2, 3, 4, 8, 9] rfl rfl (by decide) (by decide) rfl (by decide) (fun H locs hW => ?_)
          refine lv_iload hx hb dX5_passDiary_71 (lv_at hl 4 rfl) ?_
          refine lv_iload_n hx hb dX5_passDiary_73 rfl (lv_at hl 3 rfl) ?_
          obtain ⟨k_88, e_88, hF⟩ := jn_el hF
          have J_88 : ∀ (a_came_88 : Nat → Int64) (a_stayed_88 : Nat → Int64) (ls : Array Slot) (H : Heap) (locs : List Loc), k_88 a_came_88 a_stayed_88 = some out → lv_has ls 5 [(0, .ref h_this), (1, .ref h_p1), (2, .ref h_p2), (3, .int x3), (4, .int x4_47)] → Wd G A s.heap [(h_this, oX5 ad_this q68.1), (h_p1, oX8 ad_p1 v_p1_signCount v_p1_houseCount v_p1_boatCount v_p1_workCount v_p1_turnCost v_p1_boatDayCost), ((ad_p1 0), cI G 3 a_p1_lighter), ((ad_p1 1), cI G 16 a_p1_signNumbers), ((ad_p1 5), cI G 5 a_p1_workNoise), (h_p2, oX1 ad_p2 v_p2_days), ((ad_p2 0), cI G 5 a_p2_signs), ((ad_p2 1), cI G 5 a_p2_works), ((ad_this 1), cJ G 3 a_came_88), ((ad_this 0), cJ G 3 a_stayed_88)] H locs → W p l e ({ frames := 5, cells := 0, slots := 0, locals := 116 } : Room) s m args below meth c H locs 0 0 Q (F0 m 88 ls []) := by
            intro a_came_88 a_stayed_88 ls H locs hF hl hW
            rw [e_88] at hF
            dsimp only at hF
            refine lv_iinc (v := (x4_47 + 1)) (lv' := [(4, .int ((x4_47 + 1))), (0, .ref h_this), (1, .ref h_p1), (2, .ref h_p2), (3, .int x3)]) hx hb dX5_passDiary_88 hl (k := 4) rfl rfl (by decide) rfl (fun ls hl => ?_)
            refine lv_goto (tgt := 47) hx hb dX5_passDiary_91 (by decide) ?_
            exact ih ((x4_47 + 1)) q68.1 a_came_88 a_stayed_88 _ _ _ hF (lv_sub hl [1, 2, 3, 4, 0] rfl) hW
          refine lv_icmp_eq (tgt := 88) hx hb dX5_passDiary_74 (by decide) (fun c_74 => ?_) (fun c_74 => ?_)
          · have hF := ite_t hF c_74
            exact J_88 q68.2.1 q68.2.2 _ _ _ hF (lv_sub hl [0, 1, 2, 3, 4] rfl) hW
          · have hF := ite_f hF c_74
            refine lv_aload_n hx hb dX5_passDiary_77 rfl (lv_at hl 0 rfl) ?_
            refine lv_aload_n hx hb dX5_passDiary_78 rfl (lv_at hl 1 rfl) ?_
            refine lv_aload_n hx hb dX5_passDiary_79 rfl (lv_at hl 2 rfl) ?_
            refine lv_iload hx hb dX5_passDiary_80 (lv_at hl 4 rfl) ?_
            obtain ⟨q82, c_82, hF⟩ := bd_el hF
            refine wcI (ws' := [(h_this, oX5 ad_this q68.1), (h_p1, oX8 ad_p1 v_p1_signCount v_p1_houseCount v_p1_boatCount v_p1_workCount v_p1_turnCost v_p1_boatDayCost), ((ad_p1 0), cI G 3 a_p1_lighter), ((ad_p1 1), cI G 16 a_p1_signNumbers), ((ad_p1 5), cI G 5 a_p1_workNoise), (h_p2, oX1 ad_p2 v_p2_days), ((ad_p2 0), cI G 5 a_p2_signs), ((ad_p2 1), cI G 5 a_p2_works), ((ad_this 1), cJ G 3 q68.2.1), ((ad_this 0), cJ G 3 q68.2.2)]) (wc := [(h_p2, oX1 ad_p2 v_p2_days), ((ad_p2 0), cI G 5 a_p2_signs)]) (wr := [(h_this, oX5 ad_this q68.1), (h_p1, oX8 ad_p1 v_p1_signCount v_p1_houseCount v_p1_boatCount v_p1_workCount v_p1_turnCost v_p1_boatDayCost), ((ad_p1 0), cI G 3 a_p1_lighter), ((ad_p1 1), cI G 16 a_p1_signNumbers), ((ad_p1 5), cI G 5 a_p1_workNoise), ((ad_p2 1), cI G 5 a_p2_works), ((ad_this 1), cJ G 3 q68.2.1), ((ad_this 0), cJ G 3 q68.2.2)]) (w1 := [(h_p2, oX1 ad_p2 v_p2_days), ((ad_p2 0), cI G 5 a_p2_signs)]) (va_runV (As := [.int x4_47]) (rest := [.ref h_p1, .ref h_this]) ⟨hx, hb, hml, hown, hg⟩ (c_X1_signsOn l G x4_47 h_p2 ad_p2 v_p2_days a_p2_signs q82 c_82 H.size) (cwV 1 hg (gV wd_3_9 wd_2_200 wd_2_201 wd_1_5 wd_2_202) rfl rfl rfl hdV_X1_signsOn ⟨(Nat.le_of_ble_eq_true rfl), (Nat.le_of_ble_eq_true rfl)⟩) (preV hc hW [5, 6] rfl (by decide) rfl rfl) rfl rfl hl.1 rfl (lv_room (Nat.le_of_ble_eq_true rfl)) dX5_passDiary_82 ⟨Nat.zero_le _, Nat.zero_le _⟩) hA hW [5, 6] [0, 1, 2, 3, 4, 7, 8, 9] [0, 1, 2, 3, 4, 8, 9, 5, 6, 7] rfl rfl (by decide) (by decide) rfl (by decide) (fun H locs hW => ?_)
            obtain ⟨q85, c_85, hF⟩ := bd_el hF
            refine wcV (ws' := [(h_this, oX5 ad_this q68.1), (h_p1, oX8 ad_p1 v_p1_signCount v_p1_houseCount v_p1_boatCount v_p1_workCount v_p1_turnCost v_p1_boatDayCost), ((ad_p1 0), cI G 3 a_p1_lighter), ((ad_p1 1), cI G 16 a_p1_signNumbers), ((ad_p1 5), cI G 5 a_p1_workNoise), (h_p2, oX1 ad_p2 v_p2_days), ((ad_p2 0), cI G 5 a_p2_signs), ((ad_p2 1), cI G 5 a_p2_works), ((ad_this 1), cJ G 3 q85.1), ((ad_this 0), cJ G 3 q85.2)]) (wc := [(h_this, oX5 ad_this q68.1), (h_p1, oX8 ad_p1 v_p1_signCount v_p1_houseCount v_p1_boatCount v_p1_workCount v_p1_turnCost v_p1_boatDayCost), ((ad_p1 1), cI G 16 a_p1_signNumbers), ((ad_this 1), cJ G 3 q68.2.1), ((ad_this 0), cJ G 3 q68.2.2)]) (wr := [((ad_p1 0), cI G 3 a_p1_lighter), ((ad_p1 5), cI G 5 a_p1_workNoise), (h_p2, oX1 ad_p2 v_p2_days), ((ad_p2 0), cI G 5 a_p2_signs), ((ad_p2 1), cI G 5 a_p2_works)]) (w1 := [(h_this, oX5 ad_this q68.1), (h_p1, oX8 ad_p1 v_p1_signCount v_p1_houseCount v_p1_boatCount v_p1_workCount v_p1_turnCost v_p1_boatDayCost), ((ad_p1 1), cI G 16 a_p1_signNumbers), ((ad_this 1), cJ G 3 q85.1), ((ad_this 0), cJ G 3 q85.2)]) (va_runV (As := [.ref h_p1, .int q82]) (rest := []) ⟨hx, hb, hml, hown, hg⟩ (c_X5_lookAt l G q82 h_this h_p1 ad_this ad_p1 q68.1 v_p1_signCount v_p1_houseCount v_p1_boatCount v_p1_workCount v_p1_turnCost v_p1_boatDayCost a_p1_signNumbers q68.2.1 q68.2.2 q85 c_85 H.size) (cwV 2 hg (gV wd_3_10 wd_3_12 wd_0_12 wd_1_6 wd_3_13) rfl rfl rfl hdV_X5_lookAt ⟨(Nat.le_of_ble_eq_true rfl), (Nat.le_of_ble_eq_true rfl)⟩) (preV hc hW [0, 1, 3, 8, 9] rfl (by decide) rfl rfl) rfl rfl hl.1 rfl (lv_room (Nat.le_of_ble_eq_true rfl)) dX5_passDiary_85 ⟨Nat.zero_le _, Nat.zero_le _⟩) hA hW [0, 1, 3, 8, 9] [2, 4, 5, 6, 7] [5, 6, 0, 7, 1, 2, 3, 4, 8, 9] rfl rfl (by decide) (by decide) rfl (by decide) (fun H locs hW => ?_)
            exact J_88 q85.1 q85.2 _ _ _ hF (lv_sub hl [0, 1, 2, 3, 4] rfl) hW
    exact L_47 5000 0 v_turned a_came_44 a_stayed_44 _ _ _ hF (lv_sub hl [1, 2, 3, 4, 0] rfl) hW
  have L_3 : ∀ (n : Nat) (x4_3 : Int32) (a_came_3 : Nat → Int64) (a_stayed_3 : Nat → Int64) (ls : Array Slot) (H : Heap) (locs : List Loc), L_X5_passDiary_3 k_44 n x4_3 a_came_3 a_stayed_3 = some out → lv_has ls 5 [(0, .ref h_this), (1, .ref h_p1), (2, .ref h_p2), (3, .int x3), (4, .int x4_3)] → Wd G A s.heap [(h_this, oX5 ad_this v_turned), (h_p1, oX8 ad_p1 v_p1_signCount v_p1_houseCount v_p1_boatCount v_p1_workCount v_p1_turnCost v_p1_boatDayCost), ((ad_p1 0), cI G 3 a_p1_lighter), ((ad_p1 1), cI G 16 a_p1_signNumbers), ((ad_p1 5), cI G 5 a_p1_workNoise), (h_p2, oX1 ad_p2 v_p2_days), ((ad_p2 0), cI G 5 a_p2_signs), ((ad_p2 1), cI G 5 a_p2_works), ((ad_this 1), cJ G 3 a_came_3), ((ad_this 0), cJ G 3 a_stayed_3)] H locs → W p l e ({ frames := 5, cells := 0, slots := 0, locals := 116 } : Room) s m args below meth c H locs 0 0 Q (F0 m 3 ls []) := by
    intro n
    induction n with
    | zero => intro x4_3 a_came_3 a_stayed_3 ls H locs hF hl hW; have h0 : none = some out := hF; cases h0
    | succ n ih =>
      intro x4_3 a_came_3 a_stayed_3 ls H locs hF hl hW
      rw [L_X5_passDiary_3] at hF
      refine lv_iload hx hb dX5_passDiary_3 (lv_at hl 4 rfl) ?_
      refine lv_iconst (v := 3) hx hb dX5_passDiary_5 (by decide) ?_
      refine lv_icmp_ge (tgt := 44) hx hb dX5_passDiary_6 (by decide) (fun c_6 => ?_) (fun c_6 => ?_)
      · have hF := ite_t hF c_6
        exact J_44 a_came_3 a_stayed_3 _ _ _ hF (lv_sub hl [0, 1, 2, 3] rfl) hW
      · have hF := ite_f hF c_6
        refine lv_aload_n hx hb dX5_passDiary_9 rfl (lv_at hl 0 rfl) ?_
        refine va_get (D := G.1) (ci := 4) (v := .ref ((ad_this 0))) (C := RX5) (T := TX5) (N := 3) hx hb hg hu_X5 hown hc.1 hW.1 0 rfl rfl 0 (by decide) (hg _ wd_1_141) (fun _ h9 => h9) rfl dX5_passDiary_10 ?_
        refine lv_iload hx hb dX5_passDiary_13 (lv_at hl 4 rfl) ?_
        refine lv_iload hx hb dX5_passDiary_15 (lv_at hl 4 rfl) ?_
        obtain ⟨k_25, e_25, hF⟩ := jn_el hF
        have J_25 : ∀ (j0_25 : Int64) (ls : Array Slot) (H : Heap) (locs : List Loc), k_25 j0_25 = some out → lv_has ls 5 [(0, .ref h_this), (1, .ref h_p1), (2, .ref h_p2), (3, .int x3), (4, .int x4_3)] → Wd G A s.heap [(h_this, oX5 ad_this v_turned), (h_p1, oX8 ad_p1 v_p1_signCount v_p1_houseCount v_p1_boatCount v_p1_workCount v_p1_turnCost v_p1_boatDayCost), ((ad_p1 0), cI G 3 a_p1_lighter), ((ad_p1 1), cI G 16 a_p1_signNumbers), ((ad_p1 5), cI G 5 a_p1_workNoise), (h_p2, oX1 ad_p2 v_p2_days), ((ad_p2 0), cI G 5 a_p2_signs), ((ad_p2 1), cI G 5 a_p2_works), ((ad_this 1), cJ G 3 a_came_3), ((ad_this 0), cJ G 3 a_stayed_3)] H locs → W p l e ({ frames := 5, cells := 0, slots := 0, locals := 116 } : Room) s m args below meth c H locs 0 0 Q (F0 m 25 ls [.long j0_25, .int x4_3, .ref ((ad_this 0))]) := by
          intro j0_25 ls H locs hF hl hW
          rw [e_25] at hF
          dsimp only at hF
          obtain ⟨q25, c_25, hF⟩ := bd_el hF
          refine wcV (ws' := [(h_this, oX5 ad_this v_turned), (h_p1, oX8 ad_p1 v_p1_signCount v_p1_houseCount v_p1_boatCount v_p1_workCount v_p1_turnCost v_p1_boatDayCost), ((ad_p1 0), cI G 3 a_p1_lighter), ((ad_p1 1), cI G 16 a_p1_signNumbers), ((ad_p1 5), cI G 5 a_p1_workNoise), (h_p2, oX1 ad_p2 v_p2_days), ((ad_p2 0), cI G 5 a_p2_signs), ((ad_p2 1), cI G 5 a_p2_works), ((ad_this 1), cJ G 3 a_came_3), ((ad_this 0), cJ G 3 q25)]) (wc := [((ad_this 0), cJ G 3 a_stayed_3)]) (wr := [(h_this, oX5 ad_this v_turned), (h_p1, oX8 ad_p1 v_p1_signCount v_p1_houseCount v_p1_boatCount v_p1_workCount v_p1_turnCost v_p1_boatDayCost), ((ad_p1 0), cI G 3 a_p1_lighter), ((ad_p1 1), cI G 16 a_p1_signNumbers), ((ad_p1 5), cI G 5 a_p1_workNoise), (h_p2, oX1 ad_p2 v_p2_days), ((ad_p2 0), cI G 5 a_p2_signs), ((ad_p2 1), cI G 5 a_p2_works), ((ad_this 1), cJ G 3 a_came_3)]) (w1 := [((ad_this 0), cJ G 3 q25)]) (va_runS (As := [.ref ((ad_this 0)), .int x4_3, .long j0_25]) (rest := []) ⟨hx, hb, hml, hown, hg⟩ (c_X4_putLong l G x4_3 j0_25 3 ((ad_this 0)) a_stayed_3 q25 c_25 H.size) (va_cwS 3 hg (gS wd_2_225 wd_2_226 wd_1_14 wd_2_227) rfl rfl rfl hdS_X4_putLong ⟨(Nat.le_of_ble_eq_true rfl), (Nat.le_of_ble_eq_true rfl)⟩) (preS hc hW [9] rfl (by decide)) rfl rfl hl.1 rfl (lv_room (Nat.le_of_ble_eq_true rfl)) dX5_passDiary_25 ⟨Nat.zero_le _, Nat.zero_le _⟩) hA hW [9] [0, 1, 2, 3, 4, 5, 6, 7, 8] [0, 1, 2, 3, 4, 5, 6, 7, 8, 9] rfl rfl (by decide) (by decide) rfl (by decide) (fun H locs hW => ?_)
          refine lv_aload_n hx hb dX5_passDiary_28 rfl (lv_at hl 0 rfl) ?_
          refine va_get (D := G.1) (ci := 4) (v := .ref ((ad_this 1))) (C := RX5) (T := TX5) (N := 3) hx hb hg hu_X5 hown hc.1 hW.1 0 rfl rfl 1 (by decide) (hg _ wd_1_142) (fun _ h9 => h9) rfl dX5_passDiary_29 ?_
          refine lv_iload hx hb dX5_passDiary_32 (lv_at hl 4 rfl) ?_
          refine lv_lconst (v := 0) hx hb dX5_passDiary_34 (by decide) ?_
          obtain ⟨q35, c_35, hF⟩ := bd_el hF
          refine wcV (ws' := [(h_this, oX5 ad_this v_turned), (h_p1, oX8 ad_p1 v_p1_signCount v_p1_houseCount v_p1_boatCount v_p1_workCount v_p1_turnCost v_p1_boatDayCost), ((ad_p1 0), cI G 3 a_p1_lighter), ((ad_p1 1), cI G 16 a_p1_signNumbers), ((ad_p1 5), cI G 5 a_p1_workNoise), (h_p2, oX1 ad_p2 v_p2_days), ((ad_p2 0), cI G 5 a_p2_signs), ((ad_p2 1), cI G 5 a_p2_works), ((ad_this 1), cJ G 3 q35), ((ad_this 0), cJ G 3 q25)]) (wc := [((ad_this 1), cJ G 3 a_came_3)]) (wr := [(h_this, oX5 ad_this v_turned), (h_p1, oX8 ad_p1 v_p1_signCount v_p1_houseCount v_p1_boatCount v_p1_workCount v_p1_turnCost v_p1_boatDayCost), ((ad_p1 0), cI G 3 a_p1_lighter), ((ad_p1 1), cI G 16 a_p1_signNumbers), ((ad_p1 5), cI G 5 a_p1_workNoise), (h_p2, oX1 ad_p2 v_p2_days), ((ad_p2 0), cI G 5 a_p2_signs), ((ad_p2 1), cI G 5 a_p2_works), ((ad_this 0), cJ G 3 q25)]) (w1 := [((ad_this 1), cJ G 3 q35)]) (va_runS (As := [.ref ((ad_this 1)), .int x4_3, .long 0]) (rest := []) ⟨hx, hb, hml, hown, hg⟩ (c_X4_putLong l G x4_3 0 3 ((ad_this 1)) a_came_3 q35 c_35 H.size) (va_cwS 3 hg (gS wd_2_225 wd_2_226 wd_1_14 wd_2_227) rfl rfl rfl hdS_X4_putLong ⟨(Nat.le_of_ble_eq_true rfl), (Nat.le_of_ble_eq_true rfl)⟩) (preS hc hW [8] rfl (by decide)) rfl rfl hl.1 rfl (lv_room (Nat.le_of_ble_eq_true rfl)) dX5_passDiary_35 ⟨Nat.zero_le _, Nat.zero_le _⟩) hA hW [8] [0, 1, 2, 3, 4, 5, 6, 7, 9] [0, 1, 2, 3, 4, 5, 6, 7, 9, 8] rfl rfl (by decide) (by decide) rfl (by decide) (fun H locs hW => ?_)
          refine lv_iinc (v := (x4_3 + 1)) (lv' := [(4, .int ((x4_3 + 1))), (0, .ref h_this), (1, .ref h_p1), (2, .ref h_p2), (3, .int x3)]) hx hb dX5_passDiary_38 hl (k := 4) rfl rfl (by decide) rfl (fun ls hl => ?_)
          refine lv_goto (tgt := 3) hx hb dX5_passDiary_41 (by decide) ?_
          exact ih ((x4_3 + 1)) q35 q25 _ _ _ hF (lv_sub hl [1, 2, 3, 4, 0] rfl) hW
        refine lv_if_ne (tgt := 24) hx hb dX5_passDiary_17 (by decide) (fun c_17 => ?_) (fun c_17 => ?_)
        · have hF := ite_f hF c_17
          refine lv_lconst (v := 0) hx hb dX5_passDiary_24 (by decide) ?_
          exact J_25 0 _ _ _ hF (lv_sub hl [0, 1, 2, 3, 4] rfl) hW
        · have hF := ite_t hF c_17
          refine lv_lconst (v := 1) hx hb dX5_passDiary_20 (by decide) ?_
          refine lv_goto (tgt := 25) hx hb dX5_passDiary_21 (by decide) ?_
          exact J_25 1 _ _ _ hF (lv_sub hl [0, 1, 2, 3, 4] rfl) hW
  exact L_3 5000 0 a_came a_stayed _ _ _ hF (lv_sub hl [1, 2, 3, 4, 0] rfl) hW
theorem dX5_sightings_0 : decode cX5_sightings 0 = .ok (.lconst 0, 1) := by decide +kernel
theorem dX5_sightings_1 : decode cX5_sightings 1 = .ok (.lstore_n 3, 1) := by decide +kernel
theorem dX5_sightings_2 : decode cX5_sightings 2 = .ok (.iconst 0, 1) := by decide +kernel
theorem dX5_sightings_3 : decode cX5_sightings 3 = .ok (.istore 5, 2) := by decide +kernel
theorem dX5_sightings_5 : decode cX5_sightings 5 = .ok (.iload 5, 2) := by decide +kernel
theorem dX5_sightings_7 : decode cX5_sightings 7 = .ok (.iconst 3, 1) := by decide +kernel
theorem dX5_sightings_8 : decode cX5_sightings 8 = .ok (.if_icmp .ge 65, 3) := by decide +kernel
theorem dX5_sightings_11 : decode cX5_sightings 11 = .ok (.iconst 0, 1) := by decide +kernel
theorem dX5_sightings_12 : decode cX5_sightings 12 = .ok (.iload 5, 2) := by decide +kernel
theorem dX5_sightings_14 : decode cX5_sightings 14 = .ok (.iconst 1, 1) := by decide +kernel
theorem dX5_sightings_15 : decode cX5_sightings 15 = .ok (.isub, 1) := by decide +kernel
theorem dX5_sightings_16 : decode cX5_sightings 16 = .ok (.invokestatic 71, 3) := by decide +kernel
theorem dX5_sightings_19 : decode cX5_sightings 19 = .ok (.istore 6, 2) := by decide +kernel
theorem dX5_sightings_21 : decode cX5_sightings 21 = .ok (.lload_n 3, 1) := by decide +kernel
theorem dX5_sightings_22 : decode cX5_sightings 22 = .ok (.aload_n 0, 1) := by decide +kernel
theorem dX5_sightings_23 : decode cX5_sightings 23 = .ok (.getfield 9, 3) := by decide +kernel
theorem dX5_sightings_26 : decode cX5_sightings 26 = .ok (.iload 5, 2) := by decide +kernel
theorem dX5_sightings_28 : decode cX5_sightings 28 = .ok (.invokestatic 18, 3) := by decide +kernel
theorem dX5_sightings_31 : decode cX5_sightings 31 = .ok (.aload_n 1, 1) := by decide +kernel
theorem dX5_sightings_32 : decode cX5_sightings 32 = .ok (.iload_n 2, 1) := by decide +kernel
theorem dX5_sightings_33 : decode cX5_sightings 33 = .ok (.iload 5, 2) := by decide +kernel
theorem dX5_sightings_35 : decode cX5_sightings 35 = .ok (.iload 5, 2) := by decide +kernel
theorem dX5_sightings_37 : decode cX5_sightings 37 = .ok (.invokevirtual 80, 3) := by decide +kernel
theorem dX5_sightings_40 : decode cX5_sightings 40 = .ok (.i2l, 1) := by decide +kernel
theorem dX5_sightings_41 : decode cX5_sightings 41 = .ok (.lmul, 1) := by decide +kernel
theorem dX5_sightings_42 : decode cX5_sightings 42 = .ok (.ladd, 1) := by decide +kernel
theorem dX5_sightings_43 : decode cX5_sightings 43 = .ok (.lstore_n 3, 1) := by decide +kernel
theorem dX5_sightings_44 : decode cX5_sightings 44 = .ok (.lload_n 3, 1) := by decide +kernel
theorem dX5_sightings_45 : decode cX5_sightings 45 = .ok (.aload_n 0, 1) := by decide +kernel
theorem dX5_sightings_46 : decode cX5_sightings 46 = .ok (.getfield 15, 3) := by decide +kernel
theorem dX5_sightings_49 : decode cX5_sightings 49 = .ok (.iload 5, 2) := by decide +kernel
theorem dX5_sightings_51 : decode cX5_sightings 51 = .ok (.invokestatic 18, 3) := by decide +kernel
theorem dX5_sightings_54 : decode cX5_sightings 54 = .ok (.aload_n 1, 1) := by decide +kernel
theorem dX5_sightings_55 : decode cX5_sightings 55 = .ok (.iload_n 2, 1) := by decide +kernel
theorem dX5_sightings_56 : decode cX5_sightings 56 = .ok (.iload 6, 2) := by decide +kernel
theorem dX5_sightings_58 : decode cX5_sightings 58 = .ok (.iload 5, 2) := by decide +kernel
theorem dX5_sightings_60 : decode cX5_sightings 60 = .ok (.invokevirtual 80, 3) := by decide +kernel
theorem dX5_sightings_63 : decode cX5_sightings 63 = .ok (.i2l, 1) := by decide +kernel
theorem dX5_sightings_64 : decode cX5_sightings 64 = .ok (.lmul, 1) := by decide +kernel
theorem dX5_sightings_65 : decode cX5_sightings 65 = .ok (.ladd, 1) := by decide +kernel
theorem dX5_sightings_66 : decode cX5_sightings 66 = .ok (.lstore_n 3, 1) := by decide +kernel
theorem dX5_sightings_67 : decode cX5_sightings 67 = .ok (.iinc 5 1, 3) := by decide +kernel
theorem dX5_sightings_70 : decode cX5_sightings 70 = .ok (.goto (-65), 3) := by decide +kernel
theorem dX5_sightings_73 : decode cX5_sightings 73 = .ok (.lload_n 3, 1) := by decide +kernel
theorem dX5_sightings_74 : decode cX5_sightings 74 = .ok (.lreturn, 1) := by decide +kernel
def L_X5_sightings_5 (x2 : Int32) (a_p1_signNumbers : Nat → Int32) (a_came : Nat → Int64) (a_stayed : Nat → Int64)  : Nat → Int64 → Int32 → Option (Int64)
  | 0, _, _ => none
  | n + 1, x3_5, x5_5 => (if 3 ≤ x5_5 then some (x3_5) else (F_X4_longAt x5_5 3 a_stayed).bind (fun q28 => (F_X8_shareOf x2 x5_5 x5_5 a_p1_signNumbers).bind (fun q37 => (F_X4_longAt x5_5 3 a_came).bind (fun q51 => (F_X8_shareOf x2 ((if (0 : Int32) < (x5_5 - 1) then (x5_5 - 1) else 0)) x5_5 a_p1_signNumbers).bind (fun q60 => L_X5_sightings_5 x2 a_p1_signNumbers a_came a_stayed n (((x3_5 + (q28 * (Int32.toInt64 q37))) + (q51 * (Int32.toInt64 q60)))) ((x5_5 + 1)))))))
def F_X5_sightings (x2 : Int32) (a_p1_signNumbers : Nat → Int32) (a_came : Nat → Int64) (a_stayed : Nat → Int64) : Option (Int64) := L_X5_sightings_5 x2 a_p1_signNumbers a_came a_stayed 5000 0 0
theorem hdV_X5_sightings : yX5_sightings.cls = RX5 ∧ yX5_sightings.cls ≠ "java/lang/invoke/MethodHandle" ∧ yX5_sightings.cls ≠ "java/lang/invoke/VarHandle" ∧ (parseMethodDescriptor yX5_sightings.desc).map (fun d => d.parameters.length) = some 2 := by decide +kernel
set_option maxHeartbeats 4000000 in
set_option maxRecDepth 100000 in
theorem c_X5_sightings (l : Launch) (G : GG) (x2 : Int32) (h_this : Nat) (h_p1 : Nat) (ad_this : Nat → Nat) (ad_p1 : Nat → Nat) (v_turned : Int64) (v_p1_signCount : Int32) (v_p1_houseCount : Int32) (v_p1_boatCount : Int32) (v_p1_workCount : Int32) (v_p1_turnCost : Int32) (v_p1_boatDayCost : Int32) (a_p1_signNumbers : Nat → Int32) (a_came : Nat → Int64) (a_stayed : Nat → Int64) (out : Int64) (hF : F_X5_sightings x2 a_p1_signNumbers a_came a_stayed = some out) : CtrJ l yX5_sightings (WS yX5_sightings cX5_sightings 7 (some .long)) { frames := 4, cells := 0, slots := 0, locals := 90 } G [.ref h_this, .ref h_p1, .int x2] [(h_this, oX5 ad_this v_turned), (h_p1, oX8 ad_p1 v_p1_signCount v_p1_houseCount v_p1_boatCount v_p1_workCount v_p1_turnCost v_p1_boatDayCost), ((ad_p1 1), cI G 16 a_p1_signNumbers), ((ad_this 1), cJ G 3 a_came), ((ad_this 0), cJ G 3 a_stayed)] [(h_this, oX5 ad_this v_turned), (h_p1, oX8 ad_p1 v_p1_signCount v_p1_houseCount v_p1_boatCount v_p1_workCount v_p1_turnCost v_p1_boatDayCost), ((ad_p1 1), cI G 16 a_p1_signNumbers), ((ad_this 1), cJ G 3 a_came), ((ad_this 0), cJ G 3 a_stayed)] out := by
  refine startJ (cc := cX5_sightings) (maxL := 7) (by decide) rfl (Nat.le_of_ble_eq_true rfl) ?_
  intro p e s m args below meth c A Q hx hb hml hts hown hc hA hret ls H locs hl hW
  have hown : s.vm.findClass RX5 = some m.cls := hown
  have hg : ∀ w ∈ GOODS, w.before _ s = true := fun w h => hts w (List.mem_cons_of_mem _ h)
  have hl : lv_has ls 7 [(0, .ref h_this), (1, .ref h_p1), (2, .int x2)] := hl
  rw [F_X5_sightings] at hF
  refine lv_lconst (v := 0) hx hb dX5_sightings_0 (by decide) ?_
  refine lv_lstore_n (lv' := [(3, .long 0), (0, .ref h_this), (1, .ref h_p1), (2, .int x2)]) hx hb dX5_sightings_1 rfl hl (by decide) rfl (fun ls hl => ?_)
  refine lv_iconst (v := 0) hx hb dX5_sightings_2 (by decide) ?_
  refine lv_istore (lv' := [(5, .int 0), (3, .long 0), (0, .ref h_this), (1, .ref h_p1), (2, .int x2)]) hx hb dX5_sightings_3 hl (by decide) rfl (fun ls hl => ?_)
  have L_5 : ∀ (n : Nat) (x3_5 : Int64) (x5_5 : Int32) (ls : Array Slot) (H : Heap) (locs : List Loc), L_X5_sightings_5 x2 a_p1_signNumbers a_came a_stayed n x3_5 x5_5 = some out → lv_has ls 7 [(0, .ref h_this), (1, .ref h_p1), (2, .int x2), (3, .long x3_5), (5, .int x5_5)] → Wd G A s.heap [(h_this, oX5 ad_this v_turned), (h_p1, oX8 ad_p1 v_p1_signCount v_p1_houseCount v_p1_boatCount v_p1_workCount v_p1_turnCost v_p1_boatDayCost), ((ad_p1 1), cI G 16 a_p1_signNumbers), ((ad_this 1), cJ G 3 a_came), ((ad_this 0), cJ G 3 a_stayed)] H locs → W p l e ({ frames := 4, cells := 0, slots := 0, locals := 90 } : Room) s m args below meth c H locs 0 0 Q (F0 m 5 ls []) := by
    intro n
    induction n with
    | zero => intro x3_5 x5_5 ls H locs hF hl hW; have h0 : none = some out := hF; cases h0
    | succ n ih =>
      intro x3_5 x5_5 ls H locs hF hl hW
      rw [L_X5_sightings_5] at hF
      refine lv_iload hx hb dX5_sightings_5 (lv_at hl 4 rfl) ?_
      refine lv_iconst (v := 3) hx hb dX5_sightings_7 (by decide) ?_
      refine lv_icmp_ge (tgt := 73) hx hb dX5_sightings_8 (by decide) (fun c_8 => ?_) (fun c_8 => ?_)
      · have hF := ite_t hF c_8
        refine lv_lload_n hx hb dX5_sightings_73 rfl (lv_at hl 3 rfl) ?_
        obtain rfl := Option.some.inj hF
        exact hret _ _ _ _ hW dX5_sightings_74
      · have hF := ite_f hF c_8
        refine lv_iconst (v := 0) hx hb dX5_sightings_11 (by decide) ?_
        refine lv_iload hx hb dX5_sightings_12 (lv_at hl 4 rfl) ?_
        refine lv_iconst (v := 1) hx hb dX5_sightings_14 (by decide) ?_
        refine lv_isub hx hb dX5_sightings_15 ?_
        refine va_mmax hx hb (hml.trans hl.1.symm) hown (hg _ wd_3_14) (hg _ wd_3_15) (hg _ wd_1_16) (hg _ wd_3_16) (Nat.le_of_ble_eq_true rfl) (Nat.le_of_ble_eq_true rfl) (Nat.zero_le _) (Nat.zero_le _) dX5_sightings_16 ?_
        refine lv_istore (lv' := [(6, .int ((if (0 : Int32) < (x5_5 - 1) then (x5_5 - 1) else 0))), (0, .ref h_this), (1, .ref h_p1), (2, .int x2), (3, .long x3_5), (5, .int x5_5)]) hx hb dX5_sightings_19 hl (by decide) rfl (fun ls hl => ?_)
        refine lv_lload_n hx hb dX5_sightings_21 rfl (lv_at hl 4 rfl) ?_
        refine lv_aload_n hx hb dX5_sightings_22 rfl (lv_at hl 1 rfl) ?_
        refine va_get (D := G.1) (ci := 4) (v := .ref ((ad_this 0))) (C := RX5) (T := TX5) (N := 3) hx hb hg hu_X5 hown hc.1 hW.1 0 rfl rfl 0 (by decide) (hg _ wd_1_141) (fun _ h9 => h9) rfl dX5_sightings_23 ?_
        refine lv_iload hx hb dX5_sightings_26 (lv_at hl 5 rfl) ?_
        obtain ⟨q28, c_28, hF⟩ := bd_el hF
        refine wcJ (ws' := [(h_this, oX5 ad_this v_turned), (h_p1, oX8 ad_p1 v_p1_signCount v_p1_houseCount v_p1_boatCount v_p1_workCount v_p1_turnCost v_p1_boatDayCost), ((ad_p1 1), cI G 16 a_p1_signNumbers), ((ad_this 1), cJ G 3 a_came), ((ad_this 0), cJ G 3 a_stayed)]) (wc := [((ad_this 0), cJ G 3 a_stayed)]) (wr := [(h_this, oX5 ad_this v_turned), (h_p1, oX8 ad_p1 v_p1_signCount v_p1_houseCount v_p1_boatCount v_p1_workCount v_p1_turnCost v_p1_boatDayCost), ((ad_p1 1), cI G 16 a_p1_signNumbers), ((ad_this 1), cJ G 3 a_came)]) (w1 := [((ad_this 0), cJ G 3 a_stayed)]) (va_runS (As := [.ref ((ad_this 0)), .int x5_5]) (rest := [.long x3_5]) ⟨hx, hb, hml, hown, hg⟩ (c_X4_longAt l G x5_5 3 ((ad_this 0)) a_stayed q28 c_28 H.size) (va_cwS 2 hg (gS wd_3_6 wd_3_7 wd_1_14 wd_3_8) rfl rfl rfl hdS_X4_longAt ⟨(Nat.le_of_ble_eq_true rfl), (Nat.le_of_ble_eq_true rfl)⟩) (preS hc hW [4] rfl (by decide)) rfl rfl hl.1 rfl (lv_room (Nat.le_of_ble_eq_true rfl)) dX5_sightings_28 ⟨Nat.zero_le _, Nat.zero_le _⟩) hA hW [4] [0, 1, 2, 3] [0, 1, 2, 3, 4] rfl rfl (by decide) (by decide) rfl (by decide) (fun H locs hW => ?_)
        refine lv_aload_n hx hb dX5_sightings_31 rfl (lv_at hl 2 rfl) ?_
        refine lv_iload_n hx hb dX5_sightings_32 rfl (lv_at hl 3 rfl) ?_
        refine lv_iload hx hb dX5_sightings_33 (lv_at hl 5 rfl) ?_
        refine lv_iload hx hb dX5_sightings_35 (lv_at hl 5 rfl) ?_
        obtain ⟨q37, c_37, hF⟩ := bd_el hF
        refine wcI (ws' := [(h_this, oX5 ad_this v_turned), (h_p1, oX8 ad_p1 v_p1_signCount v_p1_houseCount v_p1_boatCount v_p1_workCount v_p1_turnCost v_p1_boatDayCost), ((ad_p1 1), cI G 16 a_p1_signNumbers), ((ad_this 1), cJ G 3 a_came), ((ad_this 0), cJ G 3 a_stayed)]) (wc := [(h_p1, oX8 ad_p1 v_p1_signCount v_p1_houseCount v_p1_boatCount v_p1_workCount v_p1_turnCost v_p1_boatDayCost), ((ad_p1 1), cI G 16 a_p1_signNumbers)]) (wr := [(h_this, oX5 ad_this v_turned), ((ad_this 1), cJ G 3 a_came), ((ad_this 0), cJ G 3 a_stayed)]) (w1 := [(h_p1, oX8 ad_p1 v_p1_signCount v_p1_houseCount v_p1_boatCount v_p1_workCount v_p1_turnCost v_p1_boatDayCost), ((ad_p1 1), cI G 16 a_p1_signNumbers)]) (va_runV (As := [.int x2, .int x5_5, .int x5_5]) (rest := [.long q28, .long x3_5]) ⟨hx, hb, hml, hown, hg⟩ (c_X8_shareOf l G x2 x5_5 x5_5 h_p1 ad_p1 v_p1_signCount v_p1_houseCount v_p1_boatCount v_p1_workCount v_p1_turnCost v_p1_boatDayCost a_p1_signNumbers q37 c_37 H.size) (cwV 3 hg (gV wd_3_72 wd_3_73 wd_3_74 wd_1_4 wd_3_75) rfl rfl rfl hdV_X8_shareOf ⟨(Nat.le_of_ble_eq_true rfl), (Nat.le_of_ble_eq_true rfl)⟩) (preV hc hW [1, 2] rfl (by decide) rfl rfl) rfl rfl hl.1 rfl (lv_room (Nat.le_of_ble_eq_true rfl)) dX5_sightings_37 ⟨Nat.zero_le _, Nat.zero_le _⟩) hA hW [1, 2] [0, 3, 4] [0, 3, 4, 1, 2] rfl rfl (by decide) (by decide) rfl (by decide) (fun H locs hW => ?_)
        refine lv_i2l (v := (Int32.toInt64 q37)) hx hb dX5_sightings_40 rfl ?_
        refine lv_lmul hx hb dX5_sightings_41 ?_
        refine lv_ladd hx hb dX5_sightings_42 ?_
        refine lv_lstore_n (lv' := [(3, .long ((x3_5 + (q28 * (Int32.toInt64 q37))))), (6, .int ((if (0 : Int32) < (x5_5 - 1) then (x5_5 - 1) else 0))), (0, .ref h_this), (1, .ref h_p1), (2, .int x2), (5, .int x5_5)]) hx hb dX5_sightings_43 rfl hl (by decide) rfl (fun ls hl => ?_)
        refine lv_lload_n hx hb dX5_sightings_44 rfl (lv_at hl 0 rfl) ?_
        refine lv_aload_n hx hb dX5_sightings_45 rfl (lv_at hl 2 rfl) ?_
        refine va_get (D := G.1) (ci := 4) (v := .ref ((ad_this 1))) (C := RX5) (T := TX5) (N := 3) hx hb hg hu_X5 hown hc.1 hW.1 0 rfl rfl 1 (by decide) (hg _ wd_1_142) (fun _ h9 => h9) rfl dX5_sightings_46 ?_
        refine lv_iload hx hb dX5_sightings_49 (lv_at hl 5 rfl) ?_
        obtain ⟨q51, c_51, hF⟩ := bd_el hF
        refine wcJ (ws' := [(h_this, oX5 ad_this v_turned), (h_p1, oX8 ad_p1 v_p1_signCount v_p1_houseCount v_p1_boatCount v_p1_workCount v_p1_turnCost v_p1_boatDayCost), ((ad_p1 1), cI G 16 a_p1_signNumbers), ((ad_this 1), cJ G 3 a_came), ((ad_this 0), cJ G 3 a_stayed)]) (wc := [((ad_this 1), cJ G 3 a_came)]) (wr := [(h_this, oX5 ad_this v_turned), (h_p1, oX8 ad_p1 v_p1_signCount v_p1_houseCount v_p1_boatCount v_p1_workCount v_p1_turnCost v_p1_boatDayCost), ((ad_p1 1), cI G 16 a_p1_signNumbers), ((ad_this 0), cJ G 3 a_stayed)]) (w1 := [((ad_this 1), cJ G 3 a_came)]) (va_runS (As := [.ref ((ad_this 1)), .int x5_5]) (rest := [.long ((x3_5 + (q28 * (Int32.toInt64 q37))))]) ⟨hx, hb, hml, hown, hg⟩ (c_X4_longAt l G x5_5 3 ((ad_this 1)) a_came q51 c_51 H.size) (va_cwS 2 hg (gS wd_3_6 wd_3_7 wd_1_14 wd_3_8) rfl rfl rfl hdS_X4_longAt ⟨(Nat.le_of_ble_eq_true rfl), (Nat.le_of_ble_eq_true rfl)⟩) (preS hc hW [3] rfl (by decide)) rfl rfl hl.1 rfl (lv_room (Nat.le_of_ble_eq_true rfl)) dX5_sightings_51 ⟨Nat.zero_le _, Nat.zero_le _⟩) hA hW [3] [0, 1, 2, 4] [0, 1, 2, 4, 3] rfl rfl (by decide) (by decide) rfl (by decide) (fun H locs hW => ?_)
        refine lv_aload_n hx hb dX5_sightings_54 rfl (lv_at hl 3 rfl) ?_
        refine lv_iload_n hx hb dX5_sightings_55 rfl (lv_at hl 4 rfl) ?_
        refine lv_iload hx hb dX5_sightings_56 (lv_at hl 1 rfl) ?_
        refine lv_iload hx hb dX5_sightings_58 (lv_at hl 5 rfl) ?_
        obtain ⟨q60, c_60, hF⟩ := bd_el hF
        refine wcI (ws' := [(h_this, oX5 ad_this v_turned), (h_p1, oX8 ad_p1 v_p1_signCount v_p1_houseCount v_p1_boatCount v_p1_workCount v_p1_turnCost v_p1_boatDayCost), ((ad_p1 1), cI G 16 a_p1_signNumbers), ((ad_this 1), cJ G 3 a_came), ((ad_this 0), cJ G 3 a_stayed)]) (wc := [(h_p1, oX8 ad_p1 v_p1_signCount v_p1_houseCount v_p1_boatCount v_p1_workCount v_p1_turnCost v_p1_boatDayCost), ((ad_p1 1), cI G 16 a_p1_signNumbers)]) (wr := [(h_this, oX5 ad_this v_turned), ((ad_this 1), cJ G 3 a_came), ((ad_this 0), cJ G 3 a_stayed)]) (w1 := [(h_p1, oX8 ad_p1 v_p1_signCount v_p1_houseCount v_p1_boatCount v_p1_workCount v_p1_turnCost v_p1_boatDayCost), ((ad_p1 1), cI G 16 a_p1_signNumbers)]) (va_runV (As := [.int x2, .int ((if (0 : Int32) < (x5_5 - 1) then (x5_5 - 1) else 0)), .int x5_5]) (rest := [.long q51, .long ((x3_5 + (q28 * (Int32.toInt64 q37))))]) ⟨hx, hb, hml, hown, hg⟩ (c_X8_shareOf l G x2 ((if (0 : Int32) < (x5_5 - 1) then (x5_5 - 1) else 0)) x5_5 h_p1 ad_p1 v_p1_signCount v_p1_houseCount v_p1_boatCount v_p1_workCount v_p1_turnCost v_p1_boatDayCost a_p1_signNumbers q60 c_60 H.size) (cwV 3 hg (gV wd_3_72 wd_3_73 wd_3_74 wd_1_4 wd_3_75) rfl rfl rfl hdV_X8_shareOf ⟨(Nat.le_of_ble_eq_true rfl), (Nat.le_of_ble_eq_true rfl)⟩) (preV hc hW [1, 2] rfl (by decide) rfl rfl) rfl rfl hl.1 rfl (lv_room (Nat.le_of_ble_eq_true rfl)) dX5_sightings_60 ⟨Nat.zero_le _, Nat.zero_le _⟩) hA hW [1, 2] [0, 3, 4] [0, 3, 4, 1, 2] rfl rfl (by decide) (by decide) rfl (by decide) (fun H locs hW => ?_)
        refine lv_i2l (v := (Int32.toInt64 q60)) hx hb dX5_sightings_63 rfl ?_
        refine lv_lmul hx hb dX5_sightings_64 ?_
        refine lv_ladd hx hb dX5_sightings_65 ?_
        refine lv_lstore_n (lv' := [(3, .long (((x3_5 + (q28 * (Int32.toInt64 q37))) + (q51 * (Int32.toInt64 q60))))), (6, .int ((if (0 : Int32) < (x5_5 - 1) then (x5_5 - 1) else 0))), (0, .ref h_this), (1, .ref h_p1), (2, .int x2), (5, .int x5_5)]) hx hb dX5_sightings_66 rfl hl (by decide) rfl (fun ls hl => ?_)
        refine lv_iinc (v := (x5_5 + 1)) (lv' := [(5, .int ((x5_5 + 1))), (3, .long (((x3_5 + (q28 * (Int32.toInt64 q37))) + (q51 * (Int32.toInt64 q60))))), (6, .int ((if (0 : Int32) < (x5_5 - 1) then (x5_5 - 1) else 0))), (0, .ref h_this), (1, .ref h_p1), (2, .int x2)]) hx hb dX5_sightings_67 hl (k := 5) rfl rfl (by decide) rfl (fun ls hl => ?_)
        refine lv_goto (tgt := 5) hx hb dX5_sightings_70 (by decide) ?_
        exact ih (((x3_5 + (q28 * (Int32.toInt64 q37))) + (q51 * (Int32.toInt64 q60)))) ((x5_5 + 1)) _ _ _ hF (lv_sub hl [3, 4, 5, 1, 0] rfl) hW
  exact L_5 5000 0 0 _ _ _ hF (lv_sub hl [2, 3, 4, 1, 0] rfl) hW
end
section
theorem dX7_append_0 : decode cX7_append 0 = .ok (.aload_n 0, 1) := by decide +kernel
theorem dX7_append_1 : decode cX7_append 1 = .ok (.getfield 21, 3) := by decide +kernel
theorem dX7_append_4 : decode cX7_append 4 = .ok (.bipush 8, 2) := by decide +kernel
theorem dX7_append_6 : decode cX7_append 6 = .ok (.if_icmp .ge 37, 3) := by decide +kernel
theorem dX7_append_9 : decode cX7_append 9 = .ok (.aload_n 0, 1) := by decide +kernel
theorem dX7_append_10 : decode cX7_append 10 = .ok (.getfield 9, 3) := by decide +kernel
theorem dX7_append_13 : decode cX7_append 13 = .ok (.aload_n 0, 1) := by decide +kernel
theorem dX7_append_14 : decode cX7_append 14 = .ok (.getfield 21, 3) := by decide +kernel
theorem dX7_append_17 : decode cX7_append 17 = .ok (.iload_n 1, 1) := by decide +kernel
theorem dX7_append_18 : decode cX7_append 18 = .ok (.invokestatic 25, 3) := by decide +kernel
theorem dX7_append_21 : decode cX7_append 21 = .ok (.aload_n 0, 1) := by decide +kernel
theorem dX7_append_22 : decode cX7_append 22 = .ok (.getfield 13, 3) := by decide +kernel
theorem dX7_append_25 : decode cX7_append 25 = .ok (.aload_n 0, 1) := by decide +kernel
theorem dX7_append_26 : decode cX7_append 26 = .ok (.getfield 21, 3) := by decide +kernel
theorem dX7_append_29 : decode cX7_append 29 = .ok (.iload_n 2, 1) := by decide +kernel
theorem dX7_append_30 : decode cX7_append 30 = .ok (.invokestatic 25, 3) := by decide +kernel
theorem dX7_append_33 : decode cX7_append 33 = .ok (.aload_n 0, 1) := by decide +kernel
theorem dX7_append_34 : decode cX7_append 34 = .ok (.dup, 1) := by decide +kernel
theorem dX7_append_35 : decode cX7_append 35 = .ok (.getfield 21, 3) := by decide +kernel
theorem dX7_append_38 : decode cX7_append 38 = .ok (.iconst 1, 1) := by decide +kernel
theorem dX7_append_39 : decode cX7_append 39 = .ok (.iadd, 1) := by decide +kernel
theorem dX7_append_40 : decode cX7_append 40 = .ok (.putfield 21, 3) := by decide +kernel
theorem dX7_append_43 : decode cX7_append 43 = .ok (.return_, 1) := by decide +kernel
def F_X7_append (x1 : Int32) (x2 : Int32) (v_pairs : Int32) (a_former : Nat → Int32) (a_latter : Nat → Int32) : Option (Int32 × (Nat → Int32) × (Nat → Int32)) := (if 8 ≤ v_pairs then some (v_pairs, a_former, a_latter) else (F_X4_put v_pairs x1 8 a_former).bind (fun q18 => (F_X4_put v_pairs x2 8 a_latter).bind (fun q30 => some ((v_pairs + 1), q18, q30))))
theorem hdV_X7_append : yX7_append.cls = RX7 ∧ yX7_append.cls ≠ "java/lang/invoke/MethodHandle" ∧ yX7_append.cls ≠ "java/lang/invoke/VarHandle" ∧ (parseMethodDescriptor yX7_append.desc).map (fun d => d.parameters.length) = some 2 := by decide +kernel
set_option maxHeartbeats 4000000 in
set_option maxRecDepth 100000 in
theorem c_X7_append (l : Launch) (G : GG) (x1 : Int32) (x2 : Int32) (h_this : Nat) (ad_this : Nat → Nat) (v_pairs : Int32) (a_former : Nat → Int32) (a_latter : Nat → Int32) (out : Int32 × (Nat → Int32) × (Nat → Int32)) (hF : F_X7_append x1 x2 v_pairs a_former a_latter = some out) : CtrV l yX7_append (WS yX7_append cX7_append 3 none) { frames := 1, cells := 0, slots := 0, locals := 22 } G [.ref h_this, .int x1, .int x2] [(h_this, oX7 ad_this v_pairs), ((ad_this 0), cI G 8 a_former), ((ad_this 1), cI G 8 a_latter)] [(h_this, oX7 ad_this out.1), ((ad_this 0), cI G 8 out.2.1), ((ad_this 1), cI G 8 out.2.2)] := by
  refine startV (cc := cX7_append) (maxL := 3) (by decide) rfl (Nat.le_of_ble_eq_true rfl) ?_
  intro p e s m args below meth c A Q hx hb hml hts hown hc hA hret ls H locs hl hW
  have hown : s.vm.findClass RX7 = some m.cls := hown
  have hg : ∀ w ∈ GOODS, w.before _ s = true := fun w h => hts w (List.mem_cons_of_mem _ h)
  have hl : lv_has ls 3 [(0, .ref h_this), (1, .int x1), (2, .int x2)] := hl
  rw [F_X7_append] at hF
  refine lv_aload_n hx hb dX7_append_0 rfl (lv_at hl 0 rfl) ?_
  refine va_get (D := G.1) (ci := 6) (v := .int v_pairs) (C := RX7) (T := TX7) (N := 4) hx hb hg hu_X7 hown hc.1 hW.1 0 rfl rfl 3 (by decide) (hg _ wd_1_162) (fun _ h9 => h9) rfl dX7_append_1 ?_
  refine lv_bipush (v := 8) hx hb dX7_append_4 (by decide) ?_
  refine lv_icmp_ge (tgt := 43) hx hb dX7_append_6 (by decide) (fun c_6 => ?_) (fun c_6 => ?_)
  · have hF := ite_t hF c_6
    obtain rfl := Option.some.inj hF
    exact hret _ _ _ _ hW dX7_append_43
  · have hF := ite_f hF c_6
    refine lv_aload_n hx hb dX7_append_9 rfl (lv_at hl 0 rfl) ?_
    refine va_get (D := G.1) (ci := 6) (v := .ref ((ad_this 0))) (C := RX7) (T := TX7) (N := 4) hx hb hg hu_X7 hown hc.1 hW.1 0 rfl rfl 0 (by decide) (hg _ wd_1_159) (fun _ h9 => h9) rfl dX7_append_10 ?_
    refine lv_aload_n hx hb dX7_append_13 rfl (lv_at hl 0 rfl) ?_
    refine va_get (D := G.1) (ci := 6) (v := .int v_pairs) (C := RX7) (T := TX7) (N := 4) hx hb hg hu_X7 hown hc.1 hW.1 0 rfl rfl 3 (by decide) (hg _ wd_1_162) (fun _ h9 => h9) rfl dX7_append_14 ?_
    refine lv_iload_n hx hb dX7_append_17 rfl (lv_at hl 1 rfl) ?_
    obtain ⟨q18, c_18, hF⟩ := bd_el hF
    refine wcV (ws' := [(h_this, oX7 ad_this v_pairs), ((ad_this 0), cI G 8 q18), ((ad_this 1), cI G 8 a_latter)]) (wc := [((ad_this 0), cI G 8 a_former)]) (wr := [(h_this, oX7 ad_this v_pairs), ((ad_this 1), cI G 8 a_latter)]) (w1 := [((ad_this 0), cI G 8 q18)]) (va_runS (As := [.ref ((ad_this 0)), .int v_pairs, .int x1]) (rest := []) ⟨hx, hb, hml, hown, hg⟩ (c_X4_put l G v_pairs x1 8 ((ad_this 0)) a_former q18 c_18 H.size) (va_cwS 3 hg (gS wd_3_188 wd_2_17 wd_1_14 wd_2_18) rfl rfl rfl hdS_X4_put ⟨(Nat.le_of_ble_eq_true rfl), (Nat.le_of_ble_eq_true rfl)⟩) (preS hc hW [1] rfl (by decide)) rfl rfl hl.1 rfl (lv_room (Nat.le_of_ble_eq_true rfl)) dX7_append_18 ⟨Nat.zero_le _, Nat.zero_le _⟩) hA hW [1] [0, 2] [0, 2, 1] rfl rfl (by decide) (by decide) rfl (by decide) (fun H locs hW => ?_)
    refine lv_aload_n hx hb dX7_append_21 rfl (lv_at hl 0 rfl) ?_
    refine va_get (D := G.1) (ci := 6) (v := .ref ((ad_this 1))) (C := RX7) (T := TX7) (N := 4) hx hb hg hu_X7 hown hc.1 hW.1 0 rfl rfl 1 (by decide) (hg _ wd_1_160) (fun _ h9 => h9) rfl dX7_append_22 ?_
    refine lv_aload_n hx hb dX7_append_25 rfl (lv_at hl 0 rfl) ?_
    refine va_get (D := G.1) (ci := 6) (v := .int v_pairs) (C := RX7) (T := TX7) (N := 4) hx hb hg hu_X7 hown hc.1 hW.1 0 rfl rfl 3 (by decide) (hg _ wd_1_162) (fun _ h9 => h9) rfl dX7_append_26 ?_
    refine lv_iload_n hx hb dX7_append_29 rfl (lv_at hl 2 rfl) ?_
    obtain ⟨q30, c_30, hF⟩ := bd_el hF
    refine wcV (ws' := [(h_this, oX7 ad_this v_pairs), ((ad_this 0), cI G 8 q18), ((ad_this 1), cI G 8 q30)]) (wc := [((ad_this 1), cI G 8 a_latter)]) (wr := [(h_this, oX7 ad_this v_pairs), ((ad_this 0), cI G 8 q18)]) (w1 := [((ad_this 1), cI G 8 q30)]) (va_runS (As := [.ref ((ad_this 1)), .int v_pairs, .int x2]) (rest := []) ⟨hx, hb, hml, hown, hg⟩ (c_X4_put l G v_pairs x2 8 ((ad_this 1)) a_latter q30 c_30 H.size) (va_cwS 3 hg (gS wd_3_188 wd_2_17 wd_1_14 wd_2_18) rfl rfl rfl hdS_X4_put ⟨(Nat.le_of_ble_eq_true rfl), (Nat.le_of_ble_eq_true rfl)⟩) (preS hc hW [2] rfl (by decide)) rfl rfl hl.1 rfl (lv_room (Nat.le_of_ble_eq_true rfl)) dX7_append_30 ⟨Nat.zero_le _, Nat.zero_le _⟩) hA hW [2] [0, 1] [0, 1, 2] rfl rfl (by decide) (by decide) rfl (by decide) (fun H locs hW => ?_)
    refine lv_aload_n hx hb dX7_append_33 rfl (lv_at hl 0 rfl) ?_
    refine lv_dup hx hb dX7_append_34 rfl ?_
    refine va_get (D := G.1) (ci := 6) (v := .int v_pairs) (C := RX7) (T := TX7) (N := 4) hx hb hg hu_X7 hown hc.1 hW.1 0 rfl rfl 3 (by decide) (hg _ wd_1_162) (fun _ h9 => h9) rfl dX7_append_35 ?_
    refine lv_iconst (v := 1) hx hb dX7_append_38 (by decide) ?_
    refine lv_iadd hx hb dX7_append_39 ?_
    refine va_put (D := G.1) (ci := 6) (v := .int ((v_pairs + 1))) (ty := .int) (C := RX7) (T := TX7) (N := 4) hx hb hg hu_X7 tyX7 tyX7_ok nmX7 hown hc.1 hW.1 hW.2.1 hW.2.2 0 rfl rfl 3 (by decide) (hg _ wd_1_162) (fun _ h9 => h9) rfl (by decide +kernel) rfl rfl (Nat.le_of_ble_eq_true rfl) dX7_append_40 (fun H locs hP hD hS => ?_)
    have hW : Wd G A s.heap [(h_this, oX7 ad_this ((v_pairs + 1))), ((ad_this 0), cI G 8 q18), ((ad_this 1), cI G 8 q30)] H locs := ⟨hP, hD, hS⟩
    obtain rfl := Option.some.inj hF
    exact hret _ _ _ _ hW dX7_append_43
theorem dX7_toldAheadOf_0 : decode cX7_toldAheadOf 0 = .ok (.iconst 0, 1) := by decide +kernel
theorem dX7_toldAheadOf_1 : decode cX7_toldAheadOf 1 = .ok (.istore_n 2, 1) := by decide +kernel
theorem dX7_toldAheadOf_2 : decode cX7_toldAheadOf 2 = .ok (.iconst 0, 1) := by decide +kernel
theorem dX7_toldAheadOf_3 : decode cX7_toldAheadOf 3 = .ok (.istore_n 3, 1) := by decide +kernel
theorem dX7_toldAheadOf_4 : decode cX7_toldAheadOf 4 = .ok (.iload_n 3, 1) := by decide +kernel
theorem dX7_toldAheadOf_5 : decode cX7_toldAheadOf 5 = .ok (.aload_n 0, 1) := by decide +kernel
theorem dX7_toldAheadOf_6 : decode cX7_toldAheadOf 6 = .ok (.getfield 21, 3) := by decide +kernel
theorem dX7_toldAheadOf_9 : decode cX7_toldAheadOf 9 = .ok (.if_icmp .ge 34, 3) := by decide +kernel
theorem dX7_toldAheadOf_12 : decode cX7_toldAheadOf 12 = .ok (.aload_n 0, 1) := by decide +kernel
theorem dX7_toldAheadOf_13 : decode cX7_toldAheadOf 13 = .ok (.getfield 13, 3) := by decide +kernel
theorem dX7_toldAheadOf_16 : decode cX7_toldAheadOf 16 = .ok (.iload_n 3, 1) := by decide +kernel
theorem dX7_toldAheadOf_17 : decode cX7_toldAheadOf 17 = .ok (.invokestatic 31, 3) := by decide +kernel
theorem dX7_toldAheadOf_20 : decode cX7_toldAheadOf 20 = .ok (.iload_n 1, 1) := by decide +kernel
theorem dX7_toldAheadOf_21 : decode cX7_toldAheadOf 21 = .ok (.if_icmp .ne 16, 3) := by decide +kernel
theorem dX7_toldAheadOf_24 : decode cX7_toldAheadOf 24 = .ok (.iload_n 2, 1) := by decide +kernel
theorem dX7_toldAheadOf_25 : decode cX7_toldAheadOf 25 = .ok (.iconst 1, 1) := by decide +kernel
theorem dX7_toldAheadOf_26 : decode cX7_toldAheadOf 26 = .ok (.aload_n 0, 1) := by decide +kernel
theorem dX7_toldAheadOf_27 : decode cX7_toldAheadOf 27 = .ok (.getfield 9, 3) := by decide +kernel
theorem dX7_toldAheadOf_30 : decode cX7_toldAheadOf 30 = .ok (.iload_n 3, 1) := by decide +kernel
theorem dX7_toldAheadOf_31 : decode cX7_toldAheadOf 31 = .ok (.invokestatic 31, 3) := by decide +kernel
theorem dX7_toldAheadOf_34 : decode cX7_toldAheadOf 34 = .ok (.ishl, 1) := by decide +kernel
theorem dX7_toldAheadOf_35 : decode cX7_toldAheadOf 35 = .ok (.ior, 1) := by decide +kernel
theorem dX7_toldAheadOf_36 : decode cX7_toldAheadOf 36 = .ok (.istore_n 2, 1) := by decide +kernel
theorem dX7_toldAheadOf_37 : decode cX7_toldAheadOf 37 = .ok (.iinc 3 1, 3) := by decide +kernel
theorem dX7_toldAheadOf_40 : decode cX7_toldAheadOf 40 = .ok (.goto (-36), 3) := by decide +kernel
theorem dX7_toldAheadOf_43 : decode cX7_toldAheadOf 43 = .ok (.iload_n 2, 1) := by decide +kernel
theorem dX7_toldAheadOf_44 : decode cX7_toldAheadOf 44 = .ok (.ireturn, 1) := by decide +kernel
def L_X7_toldAheadOf_4 (x1 : Int32) (v_pairs : Int32) (a_former : Nat → Int32) (a_latter : Nat → Int32)  : Nat → Int32 → Int32 → Option (Int32)
  | 0, _, _ => none
  | n + 1, x2_4, x3_4 => (if v_pairs ≤ x3_4 then some (x2_4) else (F_X4_at x3_4 8 a_latter).bind (fun q17 => jn (fun (x2_37 : Int32) => L_X7_toldAheadOf_4 x1 v_pairs a_former a_latter n x2_37 ((x3_4 + 1))) (fun k_37 => (if q17 = x1 then (F_X4_at x3_4 8 a_former).bind (fun q31 => k_37 ((x2_4 ||| ((1 : Int32) <<< (q31 &&& 31))))) else k_37 x2_4))))
def F_X7_toldAheadOf (x1 : Int32) (v_pairs : Int32) (a_former : Nat → Int32) (a_latter : Nat → Int32) : Option (Int32) := L_X7_toldAheadOf_4 x1 v_pairs a_former a_latter 5000 0 0
theorem hdV_X7_toldAheadOf : yX7_toldAheadOf.cls = RX7 ∧ yX7_toldAheadOf.cls ≠ "java/lang/invoke/MethodHandle" ∧ yX7_toldAheadOf.cls ≠ "java/lang/invoke/VarHandle" ∧ (parseMethodDescriptor yX7_toldAheadOf.desc).map (fun d => d.parameters.length) = some 1 := by decide +kernel
set_option maxHeartbeats 4000000 in
set_option maxRecDepth 100000 in
theorem c_X7_toldAheadOf (l : Launch) (G : GG) (x1 : Int32) (h_this : Nat) (ad_this : Nat → Nat) (v_pairs : Int32) (a_former : Nat → Int32) (a_latter : Nat → Int32) (out : Int32) (hF : F_X7_toldAheadOf x1 v_pairs a_former a_latter = some out) : CtrI l yX7_toldAheadOf (WS yX7_toldAheadOf cX7_toldAheadOf 4 (some .int)) { frames := 1, cells := 0, slots := 0, locals := 21 } G [.ref h_this, .int x1] [(h_this, oX7 ad_this v_pairs), ((ad_this 0), cI G 8 a_former), ((ad_this 1), cI G 8 a_latter)] [(h_this, oX7 ad_this v_pairs), ((ad_this 0), cI G 8 a_former), ((ad_this 1), cI G 8 a_latter)] out := by
  refine startI (cc := cX7_toldAheadOf) (maxL := 4) (by decide) rfl (Nat.le_of_ble_eq_true rfl) ?_
  intro p e s m args below meth c A Q hx hb hml hts hown hc hA hret ls H locs hl hW
  have hown : s.vm.findClass RX7 = some m.cls := hown
  have hg : ∀ w ∈ GOODS, w.before _ s = true := fun w h => hts w (List.mem_cons_of_mem _ h)
  have hl : lv_has ls 4 [(0, .ref h_this), (1, .int x1)] := hl
  rw [F_X7_toldAheadOf] at hF
  refine lv_iconst (v := 0) hx hb dX7_toldAheadOf_0 (by decide) ?_
  refine lv_istore_n (lv' := [(2, .int 0), (0, .ref h_this), (1, .int x1)]) hx hb dX7_toldAheadOf_1 rfl hl (by decide) rfl (fun ls hl => ?_)
  refine lv_iconst (v := 0) hx hb dX7_toldAheadOf_2 (by decide) ?_
  refine lv_istore_n (lv' := [(3, .int 0), (2, .int 0), (0, .ref h_this), (1, .int x1)]) hx hb dX7_toldAheadOf_3 rfl hl (by decide) rfl (fun ls hl => ?_)
  have L_4 : ∀ (n : Nat) (x2_4 : Int32) (x3_4 : Int32) (ls : Array Slot) (H : Heap) (locs : List Loc), L_X7_toldAheadOf_4 x1 v_pairs a_former a_latter n x2_4 x3_4 = some out → lv_has ls 4 [(0, .ref h_this), (1, .int x1), (2, .int x2_4), (3, .int x3_4)] → Wd G A s.heap [(h_this, oX7 ad_this v_pairs), ((ad_this 0), cI G 8 a_former), ((ad_this 1), cI G 8 a_latter)] H locs → W p l e ({ frames := 1, cells := 0, slots := 0, locals := 21 } : Room) s m args below meth c H locs 0 0 Q (F0 m 4 ls []) := by
    intro n
    induction n with
    | zero => intro x2_4 x3_4 ls H locs hF hl hW; have h0 : none = some out := hF; cases h0
    | succ n ih =>
      intro x2_4 x3_4 ls H locs hF hl hW
      rw [L_X7_toldAheadOf_4] at hF
      refine lv_iload_n hx hb dX7_toldAheadOf_4 rfl (lv_at hl 3 rfl) ?_
      refine lv_aload_n hx hb dX7_toldAheadOf_5 rfl (lv_at hl 0 rfl) ?_
      refine va_get (D := G.1) (ci := 6) (v := .int v_pairs) (C := RX7) (T := TX7) (N := 4) hx hb hg hu_X7 hown hc.1 hW.1 0 rfl rfl 3 (by decide) (hg _ wd_1_162) (fun _ h9 => h9) rfl dX7_toldAheadOf_6 ?_
      refine lv_icmp_ge (tgt := 43) hx hb dX7_toldAheadOf_9 (by decide) (fun c_9 => ?_) (fun c_9 => ?_)
      · have hF := ite_t hF c_9
        refine lv_iload_n hx hb dX7_toldAheadOf_43 rfl (lv_at hl 2 rfl) ?_
        obtain rfl := Option.some.inj hF
        exact hret _ _ _ _ hW dX7_toldAheadOf_44
      · have hF := ite_f hF c_9
        refine lv_aload_n hx hb dX7_toldAheadOf_12 rfl (lv_at hl 0 rfl) ?_
        refine va_get (D := G.1) (ci := 6) (v := .ref ((ad_this 1))) (C := RX7) (T := TX7) (N := 4) hx hb hg hu_X7 hown hc.1 hW.1 0 rfl rfl 1 (by decide) (hg _ wd_1_160) (fun _ h9 => h9) rfl dX7_toldAheadOf_13 ?_
        refine lv_iload_n hx hb dX7_toldAheadOf_16 rfl (lv_at hl 3 rfl) ?_
        obtain ⟨q17, c_17, hF⟩ := bd_el hF
        refine wcI (ws' := [(h_this, oX7 ad_this v_pairs), ((ad_this 0), cI G 8 a_former), ((ad_this 1), cI G 8 a_latter)]) (wc := [((ad_this 1), cI G 8 a_latter)]) (wr := [(h_this, oX7 ad_this v_pairs), ((ad_this 0), cI G 8 a_former)]) (w1 := [((ad_this 1), cI G 8 a_latter)]) (va_runS (As := [.ref ((ad_this 1)), .int x3_4]) (rest := []) ⟨hx, hb, hml, hown, hg⟩ (c_X4_at l G x3_4 8 ((ad_this 1)) a_latter q17 c_17 H.size) (va_cwS 2 hg (gS wd_3_207 wd_2_37 wd_1_14 wd_2_38) rfl rfl rfl hdS_X4_at ⟨(Nat.le_of_ble_eq_true rfl), (Nat.le_of_ble_eq_true rfl)⟩) (preS hc hW [2] rfl (by decide)) rfl rfl hl.1 rfl (lv_room (Nat.le_of_ble_eq_true rfl)) dX7_toldAheadOf_17 ⟨Nat.zero_le _, Nat.zero_le _⟩) hA hW [2] [0, 1] [0, 1, 2] rfl rfl (by decide) (by decide) rfl (by decide) (fun H locs hW => ?_)
        refine lv_iload_n hx hb dX7_toldAheadOf_20 rfl (lv_at hl 1 rfl) ?_
        obtain ⟨k_37, e_37, hF⟩ := jn_el hF
        have J_37 : ∀ (x2_37 : Int32) (ls : Array Slot) (H : Heap) (locs : List Loc), k_37 x2_37 = some out → lv_has ls 4 [(0, .ref h_this), (1, .int x1), (2, .int x2_37), (3, .int x3_4)] → Wd G A s.heap [(h_this, oX7 ad_this v_pairs), ((ad_this 0), cI G 8 a_former), ((ad_this 1), cI G 8 a_latter)] H locs → W p l e ({ frames := 1, cells := 0, slots := 0, locals := 21 } : Room) s m args below meth c H locs 0 0 Q (F0 m 37 ls []) := by
          intro x2_37 ls H locs hF hl hW
          rw [e_37] at hF
          dsimp only at hF
          refine lv_iinc (v := (x3_4 + 1)) (lv' := [(3, .int ((x3_4 + 1))), (0, .ref h_this), (1, .int x1), (2, .int x2_37)]) hx hb dX7_toldAheadOf_37 hl (k := 3) rfl rfl (by decide) rfl (fun ls hl => ?_)
          refine lv_goto (tgt := 4) hx hb dX7_toldAheadOf_40 (by decide) ?_
          exact ih x2_37 ((x3_4 + 1)) _ _ _ hF (lv_sub hl [1, 2, 3, 0] rfl) hW
        refine lv_icmp_ne (tgt := 37) hx hb dX7_toldAheadOf_21 (by decide) (fun c_21 => ?_) (fun c_21 => ?_)
        · have hF := ite_f hF c_21
          exact J_37 x2_4 _ _ _ hF (lv_sub hl [0, 1, 2, 3] rfl) hW
        · have hF := ite_t hF c_21
          refine lv_iload_n hx hb dX7_toldAheadOf_24 rfl (lv_at hl 2 rfl) ?_
          refine lv_iconst (v := 1) hx hb dX7_toldAheadOf_25 (by decide) ?_
          refine lv_aload_n hx hb dX7_toldAheadOf_26 rfl (lv_at hl 0 rfl) ?_
          refine va_get (D := G.1) (ci := 6) (v := .ref ((ad_this 0))) (C := RX7) (T := TX7) (N := 4) hx hb hg hu_X7 hown hc.1 hW.1 0 rfl rfl 0 (by decide) (hg _ wd_1_159) (fun _ h9 => h9) rfl dX7_toldAheadOf_27 ?_
          refine lv_iload_n hx hb dX7_toldAheadOf_30 rfl (lv_at hl 3 rfl) ?_
          obtain ⟨q31, c_31, hF⟩ := bd_el hF
          refine wcI (ws' := [(h_this, oX7 ad_this v_pairs), ((ad_this 0), cI G 8 a_former), ((ad_this 1), cI G 8 a_latter)]) (wc := [((ad_this 0), cI G 8 a_former)]) (wr := [(h_this, oX7 ad_this v_pairs), ((ad_this 1), cI G 8 a_latter)]) (w1 := [((ad_this 0), cI G 8 a_former)]) (va_runS (As := [.ref ((ad_this 0)), .int x3_4]) (rest := [.int 1, .int x2_4]) ⟨hx, hb, hml, hown, hg⟩ (c_X4_at l G x3_4 8 ((ad_this 0)) a_former q31 c_31 H.size) (va_cwS 2 hg (gS wd_3_207 wd_2_37 wd_1_14 wd_2_38) rfl rfl rfl hdS_X4_at ⟨(Nat.le_of_ble_eq_true rfl), (Nat.le_of_ble_eq_true rfl)⟩) (preS hc hW [1] rfl (by decide)) rfl rfl hl.1 rfl (lv_room (Nat.le_of_ble_eq_true rfl)) dX7_toldAheadOf_31 ⟨Nat.zero_le _, Nat.zero_le _⟩) hA hW [1] [0, 2] [0, 2, 1] rfl rfl (by decide) (by decide) rfl (by decide) (fun H locs hW => ?_)
          refine lv_ishl hx hb dX7_toldAheadOf_34 ?_
          refine lv_ior hx hb dX7_toldAheadOf_35 ?_
          refine lv_istore_n (lv' := [(2, .int ((x2_4 ||| ((1 : Int32) <<< (q31 &&& 31))))), (0, .ref h_this), (1, .int x1), (3, .int x3_4)]) hx hb dX7_toldAheadOf_36 rfl hl (by decide) rfl (fun ls hl => ?_)
          exact J_37 ((x2_4 ||| ((1 : Int32) <<< (q31 &&& 31)))) _ _ _ hF (lv_sub hl [1, 2, 0, 3] rfl) hW
  exact L_4 5000 0 0 _ _ _ hF (lv_sub hl [2, 3, 1, 0] rfl) hW
theorem dX7_withNoneAhead_0 : decode cX7_withNoneAhead 0 = .ok (.iconst 0, 1) := by decide +kernel
theorem dX7_withNoneAhead_1 : decode cX7_withNoneAhead 1 = .ok (.istore_n 2, 1) := by decide +kernel
theorem dX7_withNoneAhead_2 : decode cX7_withNoneAhead 2 = .ok (.iconst 0, 1) := by decide +kernel
theorem dX7_withNoneAhead_3 : decode cX7_withNoneAhead 3 = .ok (.istore_n 3, 1) := by decide +kernel
theorem dX7_withNoneAhead_4 : decode cX7_withNoneAhead 4 = .ok (.iload_n 3, 1) := by decide +kernel
theorem dX7_withNoneAhead_5 : decode cX7_withNoneAhead 5 = .ok (.iload_n 1, 1) := by decide +kernel
theorem dX7_withNoneAhead_6 : decode cX7_withNoneAhead 6 = .ok (.if_icmp .ge 23, 3) := by decide +kernel
theorem dX7_withNoneAhead_9 : decode cX7_withNoneAhead 9 = .ok (.aload_n 0, 1) := by decide +kernel
theorem dX7_withNoneAhead_10 : decode cX7_withNoneAhead 10 = .ok (.iload_n 3, 1) := by decide +kernel
theorem dX7_withNoneAhead_11 : decode cX7_withNoneAhead 11 = .ok (.invokevirtual 35, 3) := by decide +kernel
theorem dX7_withNoneAhead_14 : decode cX7_withNoneAhead 14 = .ok (.ifCond .ne 9, 3) := by decide +kernel
theorem dX7_withNoneAhead_17 : decode cX7_withNoneAhead 17 = .ok (.iload_n 2, 1) := by decide +kernel
theorem dX7_withNoneAhead_18 : decode cX7_withNoneAhead 18 = .ok (.iconst 1, 1) := by decide +kernel
theorem dX7_withNoneAhead_19 : decode cX7_withNoneAhead 19 = .ok (.iload_n 3, 1) := by decide +kernel
theorem dX7_withNoneAhead_20 : decode cX7_withNoneAhead 20 = .ok (.ishl, 1) := by decide +kernel
theorem dX7_withNoneAhead_21 : decode cX7_withNoneAhead 21 = .ok (.ior, 1) := by decide +kernel
theorem dX7_withNoneAhead_22 : decode cX7_withNoneAhead 22 = .ok (.istore_n 2, 1) := by decide +kernel
theorem dX7_withNoneAhead_23 : decode cX7_withNoneAhead 23 = .ok (.iinc 3 1, 3) := by decide +kernel
theorem dX7_withNoneAhead_26 : decode cX7_withNoneAhead 26 = .ok (.goto (-22), 3) := by decide +kernel
theorem dX7_withNoneAhead_29 : decode cX7_withNoneAhead 29 = .ok (.iload_n 2, 1) := by decide +kernel
theorem dX7_withNoneAhead_30 : decode cX7_withNoneAhead 30 = .ok (.ireturn, 1) := by decide +kernel
def L_X7_withNoneAhead_4 (x1 : Int32) (v_pairs : Int32) (a_former : Nat → Int32) (a_latter : Nat → Int32)  : Nat → Int32 → Int32 → Option (Int32)
  | 0, _, _ => none
  | n + 1, x2_4, x3_4 => (if x1 ≤ x3_4 then some (x2_4) else (F_X7_toldAheadOf x3_4 v_pairs a_former a_latter).bind (fun q11 => jn (fun (x2_23 : Int32) => L_X7_withNoneAhead_4 x1 v_pairs a_former a_latter n x2_23 ((x3_4 + 1))) (fun k_23 => (if q11 = 0 then k_23 ((x2_4 ||| ((1 : Int32) <<< (x3_4 &&& 31)))) else k_23 x2_4))))
def F_X7_withNoneAhead (x1 : Int32) (v_pairs : Int32) (a_former : Nat → Int32) (a_latter : Nat → Int32) : Option (Int32) := L_X7_withNoneAhead_4 x1 v_pairs a_former a_latter 5000 0 0
theorem hdV_X7_withNoneAhead : yX7_withNoneAhead.cls = RX7 ∧ yX7_withNoneAhead.cls ≠ "java/lang/invoke/MethodHandle" ∧ yX7_withNoneAhead.cls ≠ "java/lang/invoke/VarHandle" ∧ (parseMethodDescriptor yX7_withNoneAhead.desc).map (fun d => d.parameters.length) = some 1 := by decide +kernel
set_option maxHeartbeats 4000000 in
set_option maxRecDepth 100000 in
theorem c_X7_withNoneAhead (l : Launch) (G : GG) (x1 : Int32) (h_this : Nat) (ad_this : Nat → Nat) (v_pairs : Int32) (a_former : Nat → Int32) (a_latter : Nat → Int32) (out : Int32) (hF : F_X7_withNoneAhead x1 v_pairs a_former a_latter = some out) : CtrI l yX7_withNoneAhead (WS yX7_withNoneAhead cX7_withNoneAhead 4 (some .int)) { frames := 2, cells := 0, slots := 0, locals := 44 } G [.ref h_this, .int x1] [(h_this, oX7 ad_this v_pairs), ((ad_this 0), cI G 8 a_former), ((ad_this 1), cI G 8 a_latter)] [(h_this, oX7 ad_this v_pairs), ((ad_this 0), cI G 8 a_former), ((ad_this 1), cI G 8 a_latter)] out := by
  refine startI (cc := cX7_withNoneAhead) (maxL := 4) (by decide) rfl (Nat.le_of_ble_eq_true rfl) ?_
  intro p e s m args below meth c A Q hx hb hml hts hown hc hA hret ls H locs hl hW
  have hown : s.vm.findClass RX7 = some m.cls := hown
  have hg : ∀ w ∈ GOODS, w.before _ s = true := fun w h => hts w (List.mem_cons_of_mem _ h)
  have hl : lv_has ls 4 [(0, .ref h_this), (1, .int x1)] := hl
  rw [F_X7_withNoneAhead] at hF
  refine lv_iconst (v := 0) hx hb dX7_withNoneAhead_0 (by decide) ?_
  refine lv_istore_n (lv' := [(2, .int 0), (0, .ref h_this), (1, .int x1)]) hx hb dX7_withNoneAhead_1 rfl hl (by decide) rfl (fun ls hl => ?_)
  refine lv_iconst (v := 0) hx hb dX7_withNoneAhead_2 (by decide) ?_
  refine lv_istore_n (lv' := [(3, .int 0), (2, .int 0), (0, .ref h_this), (1, .int x1)]) hx hb dX7_withNoneAhead_3 rfl hl (by decide) rfl (fun ls hl => ?_)
  have L_4 : ∀ (n : Nat) (x2_4 : Int32) (x3_4 : Int32) (ls : Array Slot) (H : Heap) (locs : List Loc), L_X7_withNoneAhead_4 x1 v_pairs a_former a_latter n x2_4 x3_4 = some out → lv_has ls 4 [(0, .ref h_this), (1, .int x1), (2, .int x2_4), (3, .int x3_4)] → Wd G A s.heap [(h_this, oX7 ad_this v_pairs), ((ad_this 0), cI G 8 a_former), ((ad_this 1), cI G 8 a_latter)] H locs → W p l e ({ frames := 2, cells := 0, slots := 0, locals := 44 } : Room) s m args below meth c H locs 0 0 Q (F0 m 4 ls []) := by
    intro n
    induction n with
    | zero => intro x2_4 x3_4 ls H locs hF hl hW; have h0 : none = some out := hF; cases h0
    | succ n ih =>
      intro x2_4 x3_4 ls H locs hF hl hW
      rw [L_X7_withNoneAhead_4] at hF
      refine lv_iload_n hx hb dX7_withNoneAhead_4 rfl (lv_at hl 3 rfl) ?_
      refine lv_iload_n hx hb dX7_withNoneAhead_5 rfl (lv_at hl 1 rfl) ?_
      refine lv_icmp_ge (tgt := 29) hx hb dX7_withNoneAhead_6 (by decide) (fun c_6 => ?_) (fun c_6 => ?_)
      · have hF := ite_t hF c_6
        refine lv_iload_n hx hb dX7_withNoneAhead_29 rfl (lv_at hl 2 rfl) ?_
        obtain rfl := Option.some.inj hF
        exact hret _ _ _ _ hW dX7_withNoneAhead_30
      · have hF := ite_f hF c_6
        refine lv_aload_n hx hb dX7_withNoneAhead_9 rfl (lv_at hl 0 rfl) ?_
        refine lv_iload_n hx hb dX7_withNoneAhead_10 rfl (lv_at hl 3 rfl) ?_
        obtain ⟨q11, c_11, hF⟩ := bd_el hF
        refine wcI (ws' := [(h_this, oX7 ad_this v_pairs), ((ad_this 0), cI G 8 a_former), ((ad_this 1), cI G 8 a_latter)]) (wc := [(h_this, oX7 ad_this v_pairs), ((ad_this 0), cI G 8 a_former), ((ad_this 1), cI G 8 a_latter)]) (wr := []) (w1 := [(h_this, oX7 ad_this v_pairs), ((ad_this 0), cI G 8 a_former), ((ad_this 1), cI G 8 a_latter)]) (va_runV (As := [.int x3_4]) (rest := []) ⟨hx, hb, hml, hown, hg⟩ (c_X7_toldAheadOf l G x3_4 h_this ad_this v_pairs a_former a_latter q11 c_11 H.size) (cwV 1 hg (gV wd_3_203 wd_3_205 wd_0_22 wd_1_7 wd_3_206) rfl rfl rfl hdV_X7_toldAheadOf ⟨(Nat.le_of_ble_eq_true rfl), (Nat.le_of_ble_eq_true rfl)⟩) (preV hc hW [0, 1, 2] rfl (by decide) rfl rfl) rfl rfl hl.1 rfl (lv_room (Nat.le_of_ble_eq_true rfl)) dX7_withNoneAhead_11 ⟨Nat.zero_le _, Nat.zero_le _⟩) hA hW [0, 1, 2] [] [0, 1, 2] rfl rfl (by decide) (by decide) rfl (by decide) (fun H locs hW => ?_)
        obtain ⟨k_23, e_23, hF⟩ := jn_el hF
        have J_23 : ∀ (x2_23 : Int32) (ls : Array Slot) (H : Heap) (locs : List Loc), k_23 x2_23 = some out → lv_has ls 4 [(0, .ref h_this), (1, .int x1), (2, .int x2_23), (3, .int x3_4)] → Wd G A s.heap [(h_this, oX7 ad_this v_pairs), ((ad_this 0), cI G 8 a_former), ((ad_this 1), cI G 8 a_latter)] H locs → W p l e ({ frames := 2, cells := 0, slots := 0, locals := 44 } : Room) s m args below meth c H locs 0 0 Q (F0 m 23 ls []) := by
          intro x2_23 ls H locs hF hl hW
          rw [e_23] at hF
          dsimp only at hF
          refine lv_iinc (v := (x3_4 + 1)) (lv' := [(3, .int ((x3_4 + 1))), (0, .ref h_this), (1, .int x1), (2, .int x2_23)]) hx hb dX7_withNoneAhead_23 hl (k := 3) rfl rfl (by decide) rfl (fun ls hl => ?_)
          refine lv_goto (tgt := 4) hx hb dX7_withNoneAhead_26 (by decide) ?_
          exact ih x2_23 ((x3_4 + 1)) _ _ _ hF (lv_sub hl [1, 2, 3, 0] rfl) hW
        refine lv_if_ne (tgt := 23) hx hb dX7_withNoneAhead_14 (by decide) (fun c_14 => ?_) (fun c_14 => ?_)
        · have hF := ite_f hF c_14
          exact J_23 x2_4 _ _ _ hF (lv_sub hl [0, 1, 2, 3] rfl) hW
        · have hF := ite_t hF c_14
          refine lv_iload_n hx hb dX7_withNoneAhead_17 rfl (lv_at hl 2 rfl) ?_
          refine lv_iconst (v := 1) hx hb dX7_withNoneAhead_18 (by decide) ?_
          refine lv_iload_n hx hb dX7_withNoneAhead_19 rfl (lv_at hl 3 rfl) ?_
          refine lv_ishl hx hb dX7_withNoneAhead_20 ?_
          refine lv_ior hx hb dX7_withNoneAhead_21 ?_
          refine lv_istore_n (lv' := [(2, .int ((x2_4 ||| ((1 : Int32) <<< (x3_4 &&& 31))))), (0, .ref h_this), (1, .int x1), (3, .int x3_4)]) hx hb dX7_withNoneAhead_22 rfl hl (by decide) rfl (fun ls hl => ?_)
          exact J_23 ((x2_4 ||| ((1 : Int32) <<< (x3_4 &&& 31)))) _ _ _ hF (lv_sub hl [1, 2, 0, 3] rfl) hW
  exact L_4 5000 0 0 _ _ _ hF (lv_sub hl [2, 3, 1, 0] rfl) hW
theorem dX7_ordersOf_0 : decode cX7_ordersOf 0 = .ok (.iconst 0, 1) := by decide +kernel
theorem dX7_ordersOf_1 : decode cX7_ordersOf 1 = .ok (.istore_n 2, 1) := by decide +kernel
theorem dX7_ordersOf_2 : decode cX7_ordersOf 2 = .ok (.iload_n 2, 1) := by decide +kernel
theorem dX7_ordersOf_3 : decode cX7_ordersOf 3 = .ok (.iload_n 1, 1) := by decide +kernel
theorem dX7_ordersOf_4 : decode cX7_ordersOf 4 = .ok (.invokestatic 39, 3) := by decide +kernel
theorem dX7_ordersOf_7 : decode cX7_ordersOf 7 = .ok (.if_icmp .ge 26, 3) := by decide +kernel
theorem dX7_ordersOf_10 : decode cX7_ordersOf 10 = .ok (.aload_n 0, 1) := by decide +kernel
theorem dX7_ordersOf_11 : decode cX7_ordersOf 11 = .ok (.getfield 18, 3) := by decide +kernel
theorem dX7_ordersOf_14 : decode cX7_ordersOf 14 = .ok (.iload_n 2, 1) := by decide +kernel
theorem dX7_ordersOf_15 : decode cX7_ordersOf 15 = .ok (.iload_n 2, 1) := by decide +kernel
theorem dX7_ordersOf_16 : decode cX7_ordersOf 16 = .ok (.ifCond .ne 7, 3) := by decide +kernel
theorem dX7_ordersOf_19 : decode cX7_ordersOf 19 = .ok (.iconst 1, 1) := by decide +kernel
theorem dX7_ordersOf_20 : decode cX7_ordersOf 20 = .ok (.goto 4, 3) := by decide +kernel
theorem dX7_ordersOf_23 : decode cX7_ordersOf 23 = .ok (.iconst 0, 1) := by decide +kernel
theorem dX7_ordersOf_24 : decode cX7_ordersOf 24 = .ok (.invokestatic 25, 3) := by decide +kernel
theorem dX7_ordersOf_27 : decode cX7_ordersOf 27 = .ok (.iinc 2 1, 3) := by decide +kernel
theorem dX7_ordersOf_30 : decode cX7_ordersOf 30 = .ok (.goto (-28), 3) := by decide +kernel
theorem dX7_ordersOf_33 : decode cX7_ordersOf 33 = .ok (.iconst 0, 1) := by decide +kernel
theorem dX7_ordersOf_34 : decode cX7_ordersOf 34 = .ok (.istore_n 2, 1) := by decide +kernel
theorem dX7_ordersOf_35 : decode cX7_ordersOf 35 = .ok (.iload_n 2, 1) := by decide +kernel
theorem dX7_ordersOf_36 : decode cX7_ordersOf 36 = .ok (.iload_n 1, 1) := by decide +kernel
theorem dX7_ordersOf_37 : decode cX7_ordersOf 37 = .ok (.invokestatic 39, 3) := by decide +kernel
theorem dX7_ordersOf_40 : decode cX7_ordersOf 40 = .ok (.if_icmp .ge 87, 3) := by decide +kernel
theorem dX7_ordersOf_43 : decode cX7_ordersOf 43 = .ok (.iconst 0, 1) := by decide +kernel
theorem dX7_ordersOf_44 : decode cX7_ordersOf 44 = .ok (.istore_n 3, 1) := by decide +kernel
theorem dX7_ordersOf_45 : decode cX7_ordersOf 45 = .ok (.iload_n 3, 1) := by decide +kernel
theorem dX7_ordersOf_46 : decode cX7_ordersOf 46 = .ok (.iload_n 1, 1) := by decide +kernel
theorem dX7_ordersOf_47 : decode cX7_ordersOf 47 = .ok (.if_icmp .ge 74, 3) := by decide +kernel
theorem dX7_ordersOf_50 : decode cX7_ordersOf 50 = .ok (.iload_n 2, 1) := by decide +kernel
theorem dX7_ordersOf_51 : decode cX7_ordersOf 51 = .ok (.iload_n 3, 1) := by decide +kernel
theorem dX7_ordersOf_52 : decode cX7_ordersOf 52 = .ok (.invokestatic 44, 3) := by decide +kernel
theorem dX7_ordersOf_55 : decode cX7_ordersOf 55 = .ok (.ifCond .ne 19, 3) := by decide +kernel
theorem dX7_ordersOf_58 : decode cX7_ordersOf 58 = .ok (.aload_n 0, 1) := by decide +kernel
theorem dX7_ordersOf_59 : decode cX7_ordersOf 59 = .ok (.iload_n 3, 1) := by decide +kernel
theorem dX7_ordersOf_60 : decode cX7_ordersOf 60 = .ok (.invokevirtual 35, 3) := by decide +kernel
theorem dX7_ordersOf_63 : decode cX7_ordersOf 63 = .ok (.iload_n 2, 1) := by decide +kernel
theorem dX7_ordersOf_64 : decode cX7_ordersOf 64 = .ok (.iconst (-1), 1) := by decide +kernel
theorem dX7_ordersOf_65 : decode cX7_ordersOf 65 = .ok (.ixor, 1) := by decide +kernel
theorem dX7_ordersOf_66 : decode cX7_ordersOf 66 = .ok (.iand, 1) := by decide +kernel
theorem dX7_ordersOf_67 : decode cX7_ordersOf 67 = .ok (.ifCond .ne 7, 3) := by decide +kernel
theorem dX7_ordersOf_70 : decode cX7_ordersOf 70 = .ok (.iconst 1, 1) := by decide +kernel
theorem dX7_ordersOf_71 : decode cX7_ordersOf 71 = .ok (.goto 4, 3) := by decide +kernel
theorem dX7_ordersOf_74 : decode cX7_ordersOf 74 = .ok (.iconst 0, 1) := by decide +kernel
theorem dX7_ordersOf_75 : decode cX7_ordersOf 75 = .ok (.istore 4, 2) := by decide +kernel
theorem dX7_ordersOf_77 : decode cX7_ordersOf 77 = .ok (.iload 4, 2) := by decide +kernel
theorem dX7_ordersOf_79 : decode cX7_ordersOf 79 = .ok (.ifCond .eq 36, 3) := by decide +kernel
theorem dX7_ordersOf_82 : decode cX7_ordersOf 82 = .ok (.aload_n 0, 1) := by decide +kernel
theorem dX7_ordersOf_83 : decode cX7_ordersOf 83 = .ok (.getfield 18, 3) := by decide +kernel
theorem dX7_ordersOf_86 : decode cX7_ordersOf 86 = .ok (.iload_n 2, 1) := by decide +kernel
theorem dX7_ordersOf_87 : decode cX7_ordersOf 87 = .ok (.iconst 1, 1) := by decide +kernel
theorem dX7_ordersOf_88 : decode cX7_ordersOf 88 = .ok (.iload_n 3, 1) := by decide +kernel
theorem dX7_ordersOf_89 : decode cX7_ordersOf 89 = .ok (.ishl, 1) := by decide +kernel
theorem dX7_ordersOf_90 : decode cX7_ordersOf 90 = .ok (.ior, 1) := by decide +kernel
theorem dX7_ordersOf_91 : decode cX7_ordersOf 91 = .ok (.aload_n 0, 1) := by decide +kernel
theorem dX7_ordersOf_92 : decode cX7_ordersOf 92 = .ok (.getfield 18, 3) := by decide +kernel
theorem dX7_ordersOf_95 : decode cX7_ordersOf 95 = .ok (.iload_n 2, 1) := by decide +kernel
theorem dX7_ordersOf_96 : decode cX7_ordersOf 96 = .ok (.iconst 1, 1) := by decide +kernel
theorem dX7_ordersOf_97 : decode cX7_ordersOf 97 = .ok (.iload_n 3, 1) := by decide +kernel
theorem dX7_ordersOf_98 : decode cX7_ordersOf 98 = .ok (.ishl, 1) := by decide +kernel
theorem dX7_ordersOf_99 : decode cX7_ordersOf 99 = .ok (.ior, 1) := by decide +kernel
theorem dX7_ordersOf_100 : decode cX7_ordersOf 100 = .ok (.invokestatic 31, 3) := by decide +kernel
theorem dX7_ordersOf_103 : decode cX7_ordersOf 103 = .ok (.aload_n 0, 1) := by decide +kernel
theorem dX7_ordersOf_104 : decode cX7_ordersOf 104 = .ok (.getfield 18, 3) := by decide +kernel
theorem dX7_ordersOf_107 : decode cX7_ordersOf 107 = .ok (.iload_n 2, 1) := by decide +kernel
theorem dX7_ordersOf_108 : decode cX7_ordersOf 108 = .ok (.invokestatic 31, 3) := by decide +kernel
theorem dX7_ordersOf_111 : decode cX7_ordersOf 111 = .ok (.iadd, 1) := by decide +kernel
theorem dX7_ordersOf_112 : decode cX7_ordersOf 112 = .ok (.invokestatic 25, 3) := by decide +kernel
theorem dX7_ordersOf_115 : decode cX7_ordersOf 115 = .ok (.iinc 3 1, 3) := by decide +kernel
theorem dX7_ordersOf_118 : decode cX7_ordersOf 118 = .ok (.goto (-73), 3) := by decide +kernel
theorem dX7_ordersOf_121 : decode cX7_ordersOf 121 = .ok (.iinc 2 1, 3) := by decide +kernel
theorem dX7_ordersOf_124 : decode cX7_ordersOf 124 = .ok (.goto (-89), 3) := by decide +kernel
theorem dX7_ordersOf_127 : decode cX7_ordersOf 127 = .ok (.aload_n 0, 1) := by decide +kernel
theorem dX7_ordersOf_128 : decode cX7_ordersOf 128 = .ok (.getfield 18, 3) := by decide +kernel
theorem dX7_ordersOf_131 : decode cX7_ordersOf 131 = .ok (.iload_n 1, 1) := by decide +kernel
theorem dX7_ordersOf_132 : decode cX7_ordersOf 132 = .ok (.invokestatic 39, 3) := by decide +kernel
theorem dX7_ordersOf_135 : decode cX7_ordersOf 135 = .ok (.iconst 1, 1) := by decide +kernel
theorem dX7_ordersOf_136 : decode cX7_ordersOf 136 = .ok (.isub, 1) := by decide +kernel
theorem dX7_ordersOf_137 : decode cX7_ordersOf 137 = .ok (.invokestatic 31, 3) := by decide +kernel
theorem dX7_ordersOf_140 : decode cX7_ordersOf 140 = .ok (.ireturn, 1) := by decide +kernel
def L_X7_ordersOf_45 (x1 : Int32) (v_pairs : Int32) (a_former : Nat → Int32) (a_latter : Nat → Int32) (x2_35 : Int32) (k_121 : (Nat → Int32) → Option (Int32 × (Nat → Int32))) : Nat → Int32 → (Nat → Int32) → Option (Int32 × (Nat → Int32))
  | 0, _, _ => none
  | n + 1, x3_45, a_orderings_45 => (if x1 ≤ x3_45 then k_121 a_orderings_45 else (F_X9_holds x2_35 x3_45).bind (fun q52 => jn (fun (j0_75 : Int32) => jn (fun (a_orderings_115 : Nat → Int32) => L_X7_ordersOf_45 x1 v_pairs a_former a_latter x2_35 k_121 n ((x3_45 + 1)) a_orderings_115) (fun k_115 => (if j0_75 = 0 then k_115 a_orderings_45 else (F_X4_at ((x2_35 ||| ((1 : Int32) <<< (x3_45 &&& 31)))) 16 a_orderings_45).bind (fun q100 => (F_X4_at x2_35 16 a_orderings_45).bind (fun q108 => (F_X4_put ((x2_35 ||| ((1 : Int32) <<< (x3_45 &&& 31)))) ((q100 + q108)) 16 a_orderings_45).bind (fun q112 => k_115 q112)))))) (fun k_75 => jn (k_75 0) (fun k_74 => (if q52 = 0 then (F_X7_toldAheadOf x3_45 v_pairs a_former a_latter).bind (fun q60 => (if (q60 &&& (x2_35 ^^^ (-1))) = 0 then k_75 1 else k_74)) else k_74)))))
def L_X7_ordersOf_35 (x1 : Int32) (v_pairs : Int32) (a_former : Nat → Int32) (a_latter : Nat → Int32) (k_127 : (Nat → Int32) → Option (Int32 × (Nat → Int32))) : Nat → Int32 → (Nat → Int32) → Option (Int32 × (Nat → Int32))
  | 0, _, _ => none
  | n + 1, x2_35, a_orderings_35 => (F_X9_setsOf x1).bind (fun q37 => (if q37 ≤ x2_35 then k_127 a_orderings_35 else jn (fun (a_orderings_121 : Nat → Int32) => L_X7_ordersOf_35 x1 v_pairs a_former a_latter k_127 n ((x2_35 + 1)) a_orderings_121) (fun k_121 => L_X7_ordersOf_45 x1 v_pairs a_former a_latter x2_35 k_121 5000 0 a_orderings_35)))
def L_X7_ordersOf_2 (x1 : Int32) (k_33 : (Nat → Int32) → Option (Int32 × (Nat → Int32))) : Nat → Int32 → (Nat → Int32) → Option (Int32 × (Nat → Int32))
  | 0, _, _ => none
  | n + 1, x2_2, a_orderings_2 => (F_X9_setsOf x1).bind (fun q4 => (if q4 ≤ x2_2 then k_33 a_orderings_2 else jn (fun (j0_24 : Int32) => (F_X4_put x2_2 j0_24 16 a_orderings_2).bind (fun q24 => L_X7_ordersOf_2 x1 k_33 n ((x2_2 + 1)) q24)) (fun k_24 => (if x2_2 = 0 then k_24 1 else k_24 0))))
def F_X7_ordersOf (x1 : Int32) (v_pairs : Int32) (a_former : Nat → Int32) (a_latter : Nat → Int32) (a_orderings : Nat → Int32) : Option (Int32 × (Nat → Int32)) := jn (fun (a_orderings_33 : Nat → Int32) => jn (fun (a_orderings_127 : Nat → Int32) => (F_X9_setsOf x1).bind (fun q132 => (F_X4_at ((q132 - 1)) 16 a_orderings_127).bind (fun q137 => some (q137, a_orderings_127)))) (fun k_127 => L_X7_ordersOf_35 x1 v_pairs a_former a_latter k_127 5000 0 a_orderings_33)) (fun k_33 => L_X7_ordersOf_2 x1 k_33 5000 0 a_orderings)
theorem hdV_X7_ordersOf : yX7_ordersOf.cls = RX7 ∧ yX7_ordersOf.cls ≠ "java/lang/invoke/MethodHandle" ∧ yX7_ordersOf.cls ≠ "java/lang/invoke/VarHandle" ∧ (parseMethodDescriptor yX7_ordersOf.desc).map (fun d => d.parameters.length) = some 1 := by decide +kernel
set_option maxHeartbeats 4000000 in
set_option maxRecDepth 100000 in
theorem c_X7_ordersOf (l : Launch) (G : GG) (x1 : Int32) (h_this : Nat) (ad_this : Nat → Nat) (v_pairs : Int32) (a_former : Nat → Int32) (a_latter : Nat → Int32) (a_orderings : Nat → Int32) (out : Int32 × (Nat → Int32)) (hF : F_X7_ordersOf x1 v_pairs a_former a_latter a_orderings = some out) : CtrI l yX7_ordersOf (WS yX7_ordersOf cX7_ordersOf 5 (some .int)) { frames := 2, cells := 0, slots := 0, locals := 44 } G [.ref h_this, .int x1] [(h_this, oX7 ad_this v_pairs), ((ad_this 0), cI G 8 a_former), ((ad_this 1), cI G 8 a_latter), ((ad_this 2), cI G 16 a_orderings)] [(h_this, oX7 ad_this v_pairs), ((ad_this 0), cI G 8 a_former), ((ad_this 1), cI G 8 a_latter), ((ad_this 2), cI G 16 out.2)] out.1 := by
  refine startI (cc := cX7_ordersOf) (maxL := 5) (by decide) rfl (Nat.le_of_ble_eq_true rfl) ?_
  intro p e s m args below meth c A Q hx hb hml hts hown hc hA hret ls H locs hl hW
  have hown : s.vm.findClass RX7 = some m.cls := hown
  have hg : ∀ w ∈ GOODS, w.before _ s = true := fun w h => hts w (List.mem_cons_of_mem _ h)
  have hl : lv_has ls 5 [(0, .ref h_this), (1, .int x1)] := hl
  rw [F_X7_ordersOf] at hF
  refine lv_iconst (v := 0) hx hb dX7_ordersOf_0 (by decide) ?_
  refine lv_istore_n (lv' := [(2, .int 0), (0, .ref h_this), (1, .int x1)]) hx hb dX7_ordersOf_1 rfl hl (by decide) rfl (fun ls hl => ?_)
  obtain ⟨k_33, e_33, hF⟩ := jn_el hF
  have J_33 : ∀ (a_orderings_33 : Nat → Int32) (ls : Array Slot) (H : Heap) (locs : List Loc), k_33 a_orderings_33 = some out → lv_has ls 5 [(0, .ref h_this), (1, .int x1)] → Wd G A s.heap [(h_this, oX7 ad_this v_pairs), ((ad_this 0), cI G 8 a_former), ((ad_this 1), cI G 8 a_latter), ((ad_this 2), cI G 16 a_orderings_33)] H locs → W p l e ({ frames := 2, cells := 0, slots := 0, locals := 44 } : Room) s m args below meth c H locs 0 0 Q (F0 m 33 ls []) := by
    intro a_orderings_33 ls H locs hF hl hW
    rw [e_33] at hF
    dsimp only at hF
    refine lv_iconst (v := 0) hx hb dX7_ordersOf_33 (by decide) ?_
    refine lv_istore_n (lv' := [(2, .int 0), (0, .ref h_this), (1, .int x1)]) hx hb dX7_ordersOf_34 rfl hl (by decide) rfl (fun ls hl => ?_)
    obtain ⟨k_127, e_127, hF⟩ := jn_el hF
    have J_127 : ∀ (a_orderings_127 : Nat → Int32) (ls : Array Slot) (H : Heap) (locs : List Loc), k_127 a_orderings_127 = some out → lv_has ls 5 [(0, .ref h_this), (1, .int x1)] → Wd G A s.heap [(h_this, oX7 ad_this v_pairs), ((ad_this 0), cI G 8 a_former), ((ad_this 1), cI G 8 a_latter), ((ad_this 2), cI G 16 a_orderings_127)] H locs → W p l e ({ frames := 2, cells := 0, slots := 0, locals := 44 } : Room) s m args below meth c H locs 0 0 Q (F0 m 127 ls []) := by
      intro a_orderings_127 ls H locs hF hl hW
      rw [e_127] at hF
      dsimp only at hF
      refine lv_aload_n hx hb dX7_ordersOf_127 rfl (lv_at hl 0 rfl) ?_
      refine va_get (D := G.1) (ci := 6) (v := .ref ((ad_this 2))) (C := RX7) (T := TX7) (N := 4) hx hb hg hu_X7 hown hc.1 hW.1 0 rfl rfl 2 (by decide) (hg _ wd_1_161) (fun _ h9 => h9) rfl dX7_ordersOf_128 ?_
      refine lv_iload_n hx hb dX7_ordersOf_131 rfl (lv_at hl 1 rfl) ?_
      obtain ⟨q132, c_132, hF⟩ := bd_el hF
      refine wcI (ws' := [(h_this, oX7 ad_this v_pairs), ((ad_this 0), cI G 8 a_former), ((ad_this 1), cI G 8 a_latter), ((ad_this 2), cI G 16 a_orderings_127)]) (wc := []) (wr := [(h_this, oX7 ad_this v_pairs), ((ad_this 0), cI G 8 a_former), ((ad_this 1), cI G 8 a_latter), ((ad_this 2), cI G 16 a_orderings_127)]) (w1 := []) (va_runSN (As := [.int x1]) (rest := [.ref ((ad_this 2))]) ⟨hx, hb, hml, hown, hg⟩ (c_X9_setsOf l G x1 q132 c_132 H.size) ⟨va_cnB 1 hg (gN wd_2_171) rfl rfl rfl (hc.2 (RX7, 39, yX9_setsOf) (by decide +kernel)) (hg _ wd_1_1) hdS_X9_setsOf ⟨(Nat.le_of_ble_eq_true rfl), (Nat.le_of_ble_eq_true rfl)⟩, (hg _ wd_2_170), trivial⟩ (preS hc hW [] rfl (by decide)) rfl rfl hl.1 rfl (lv_room (Nat.le_of_ble_eq_true rfl)) dX7_ordersOf_132 ⟨Nat.zero_le _, Nat.zero_le _⟩) hA hW [] [0, 1, 2, 3] [0, 1, 2, 3] rfl rfl (by decide) (by decide) rfl (by decide) (fun H locs hW => ?_)
      refine lv_iconst (v := 1) hx hb dX7_ordersOf_135 (by decide) ?_
      refine lv_isub hx hb dX7_ordersOf_136 ?_
      obtain ⟨q137, c_137, hF⟩ := bd_el hF
      refine wcI (ws' := [(h_this, oX7 ad_this v_pairs), ((ad_this 0), cI G 8 a_former), ((ad_this 1), cI G 8 a_latter), ((ad_this 2), cI G 16 a_orderings_127)]) (wc := [((ad_this 2), cI G 16 a_orderings_127)]) (wr := [(h_this, oX7 ad_this v_pairs), ((ad_this 0), cI G 8 a_former), ((ad_this 1), cI G 8 a_latter)]) (w1 := [((ad_this 2), cI G 16 a_orderings_127)]) (va_runS (As := [.ref ((ad_this 2)), .int ((q132 - 1))]) (rest := []) ⟨hx, hb, hml, hown, hg⟩ (c_X4_at l G ((q132 - 1)) 16 ((ad_this 2)) a_orderings_127 q137 c_137 H.size) (va_cwS 2 hg (gS wd_3_207 wd_2_37 wd_1_14 wd_2_38) rfl rfl rfl hdS_X4_at ⟨(Nat.le_of_ble_eq_true rfl), (Nat.le_of_ble_eq_true rfl)⟩) (preS hc hW [3] rfl (by decide)) rfl rfl hl.1 rfl (lv_room (Nat.le_of_ble_eq_true rfl)) dX7_ordersOf_137 ⟨Nat.zero_le _, Nat.zero_le _⟩) hA hW [3] [0, 1, 2] [0, 1, 2, 3] rfl rfl (by decide) (by decide) rfl (by decide) (fun H locs hW => ?_)
      obtain rfl := Option.some.inj hF
      exact hret _ _ _ _ hW dX7_ordersOf_140
    have L_35 : ∀ (n : Nat) (x2_35 : Int32) (a_orderings_35 : Nat → Int32) (ls : Array Slot) (H : Heap) (locs : List Loc), L_X7_ordersOf_35 x1 v_pairs a_former a_latter k_127 n x2_35 a_orderings_35 = some out → lv_has ls 5 [(0, .ref h_this), (1, .int x1), (2, .int x2_35)] → Wd G A s.heap [(h_this, oX7 ad_this v_pairs), ((ad_this 0), cI G 8 a_former), ((ad_this 1), cI G 8 a_latter), ((ad_this 2), cI G 16 a_orderings_35)] H locs → W p l e ({ frames := 2, cells := 0, slots := 0, locals := 44 } : Room) s m args below meth c H locs 0 0 Q (F0 m 35 ls []) := by
      intro n
      induction n with
      | zero => intro x2_35 a_orderings_35 ls H locs hF hl hW; have h0 : none = some out := hF; cases h0
      | succ n ih =>
        intro x2_35 a_orderings_35 ls H locs hF hl hW
        rw [L_X7_ordersOf_35] at hF
        refine lv_iload_n hx hb dX7_ordersOf_35 rfl (lv_at hl 2 rfl) ?_
        refine lv_iload_n hx hb dX7_ordersOf_36 rfl (lv_at hl 1 rfl) ?_
        obtain ⟨q37, c_37, hF⟩ := bd_el hF
        refine wcI (ws' := [(h_this, oX7 ad_this v_pairs), ((ad_this 0), cI G 8 a_former), ((ad_this 1), cI G 8 a_latter), ((ad_this 2), cI G 16 a_orderings_35)]) (wc := []) (wr := [(h_this, oX7 ad_this v_pairs), ((ad_this 0), cI G 8 a_former), ((ad_this 1), cI G 8 a_latter), ((ad_this 2), cI G 16 a_orderings_35)]) (w1 := []) (va_runSN (As := [.int x1]) (rest := [.int x2_35]) ⟨hx, hb, hml, hown, hg⟩ (c_X9_setsOf l G x1 q37 c_37 H.size) ⟨va_cnB 1 hg (gN wd_2_171) rfl rfl rfl (hc.2 (RX7, 39, yX9_setsOf) (by decide +kernel)) (hg _ wd_1_1) hdS_X9_setsOf ⟨(Nat.le_of_ble_eq_true rfl), (Nat.le_of_ble_eq_true rfl)⟩, (hg _ wd_2_170), trivial⟩ (preS hc hW [] rfl (by decide)) rfl rfl hl.1 rfl (lv_room (Nat.le_of_ble_eq_true rfl)) dX7_ordersOf_37 ⟨Nat.zero_le _, Nat.zero_le _⟩) hA hW [] [0, 1, 2, 3] [0, 1, 2, 3] rfl rfl (by decide) (by decide) rfl (by decide) (fun H locs hW => ?_)
        refine lv_icmp_ge (tgt := 127) hx hb dX7_ordersOf_40 (by decide) (fun c_40 => ?_) (fun c_40 => ?_)
        · have hF := ite_t hF c_40
          exact J_127 a_orderings_35 _ _ _ hF (lv_sub hl [0, 1] rfl) hW
        · have hF := ite_f hF c_40
          refine lv_iconst (v := 0) hx hb dX7_ordersOf_43 (by decide) ?_
          refine lv_istore_n (lv' := [(3, .int 0), (0, .ref h_this), (1, .int x1), (2, .int x2_35)]) hx hb dX7_ordersOf_44 rfl hl (by decide) rfl (fun ls hl => ?_)
          obtain ⟨k_121, e_121, hF⟩ := jn_el hF
          have J_121 : ∀ (a_orderings_121 : Nat → Int32) (ls : Array Slot) (H : Heap) (locs : List Loc), k_121 a_orderings_121 = some out → lv_has ls 5 [(0, .ref h_this), (1, .int x1), (2, .int x2_35)] → Wd G A s.heap [(h_this, oX7 ad_this v_pairs), ((ad_this 0), cI G 8 a_former), ((ad_this 1), cI G 8 a_latter), ((ad_this 2), cI G 16 a_orderings_121)] H locs → W p l e ({ frames := 2, cells := 0, slots := 0, locals := 44 } : Room) s m args below meth c H locs 0 0 Q (F0 m 121 ls []) := by
            intro a_orderings_121 ls H locs hF hl hW
            rw [e_121] at hF
            dsimp only at hF
            refine lv_iinc (v := (x2_35 + 1)) (lv' := [(2, .int ((x2_35 + 1))), (0, .ref h_this), (1, .int x1)]) hx hb dX7_ordersOf_121 hl (k := 2) rfl rfl (by decide) rfl (fun ls hl => ?_)
            refine lv_goto (tgt := 35) hx hb dX7_ordersOf_124 (by decide) ?_
            exact ih ((x2_35 + 1)) a_orderings_121 _ _ _ hF (lv_sub hl [1, 2, 0] rfl) hW
          have L_45 : ∀ (n : Nat) (x3_45 : Int32) (a_orderings_45 : Nat → Int32) (ls : Array Slot) (H : Heap) (locs : List Loc), L_X7_ordersOf_45 x1 v_pairs a_former a_latter x2_35 k_121 n x3_45 a_orderings_45 = some out → lv_has ls 5 [(0, .ref h_this), (1, .int x1), (2, .int x2_35), (3, .int x3_45)] → Wd G A s.heap [(h_this, oX7 ad_this v_pairs), ((ad_this 0), cI G 8 a_former), ((ad_this 1), cI G 8 a_latter), ((ad_this 2), cI G 16 a_orderings_45)] H locs → W p l e ({ frames := 2, cells := 0, slots := 0, locals := 44 } : Room) s m args below meth c H locs 0 0 Q (F0 m 45 ls []) := by
            intro n
            induction n with
            | zero => intro x3_45 a_orderings_45 ls H locs hF hl hW; have h0 : none = some out := hF; cases h0
            | succ n ih =>
              intro x3_45 a_orderings_45 ls H locs hF hl hW
              rw [L_X7_ordersOf_45] at hF
              refine lv_iload_n hx hb dX7_ordersOf_45 rfl (lv_at hl 3 rfl) ?_
              refine lv_iload_n hx hb dX7_ordersOf_46 rfl (lv_at hl 1 rfl) ?_
              refine lv_icmp_ge (tgt := 121) hx hb dX7_ordersOf_47 (by decide) (fun c_47 => ?_) (fun c_47 => ?_)
              · have hF := ite_t hF c_47
                exact J_121 a_orderings_45 _ _ _ hF (lv_sub hl [0, 1, 2] rfl) hW
              · have hF := ite_f hF c_47
                refine lv_iload_n hx hb dX7_ordersOf_50 rfl (lv_at hl 2 rfl) ?_
                refine lv_iload_n hx hb dX7_ordersOf_51 rfl (lv_at hl 3 rfl) ?_
                obtain ⟨q52, c_52, hF⟩ := bd_el hF
                refine wcZ (ws' := [(h_this, oX7 ad_this v_pairs), ((ad_this 0), cI G 8 a_former), ((ad_this 1), cI G 8 a_latter), ((ad_this 2), cI G 16 a_orderings_45)]) (wc := []) (wr := [(h_this, oX7 ad_this v_pairs), ((ad_this 0), cI G 8 a_former), ((ad_this 1), cI G 8 a_latter), ((ad_this 2), cI G 16 a_orderings_45)]) (w1 := []) (va_runSN (As := [.int x2_35, .int x3_45]) (rest := []) ⟨hx, hb, hml, hown, hg⟩ (c_X9_holds l G x2_35 x3_45 q52 c_52 H.size) ⟨va_cnB 2 hg (gN wd_2_181) rfl rfl rfl (hc.2 (RX7, 44, yX9_holds) (by decide +kernel)) (hg _ wd_1_1) hdS_X9_holds ⟨(Nat.le_of_ble_eq_true rfl), (Nat.le_of_ble_eq_true rfl)⟩, (hg _ wd_2_180), trivial⟩ (preS hc hW [] rfl (by decide)) rfl rfl hl.1 rfl (lv_room (Nat.le_of_ble_eq_true rfl)) dX7_ordersOf_52 ⟨Nat.zero_le _, Nat.zero_le _⟩) hA hW [] [0, 1, 2, 3] [0, 1, 2, 3] rfl rfl (by decide) (by decide) rfl (by decide) (fun z_52 H locs hW => ?_)
                obtain ⟨k_75, e_75, hF⟩ := jn_el hF
                have J_75 : ∀ (j0_75 : Int32) (ls : Array Slot) (H : Heap) (locs : List Loc), k_75 j0_75 = some out → lv_has ls 5 [(0, .ref h_this), (1, .int x1), (2, .int x2_35), (3, .int x3_45)] → Wd G A s.heap [(h_this, oX7 ad_this v_pairs), ((ad_this 0), cI G 8 a_former), ((ad_this 1), cI G 8 a_latter), ((ad_this 2), cI G 16 a_orderings_45)] H locs → W p l e ({ frames := 2, cells := 0, slots := 0, locals := 44 } : Room) s m args below meth c H locs 0 0 Q (F0 m 75 ls [.int j0_75]) := by
                  intro j0_75 ls H locs hF hl hW
                  rw [e_75] at hF
                  dsimp only at hF
                  refine lv_istore (lv' := [(4, .int j0_75), (0, .ref h_this), (1, .int x1), (2, .int x2_35), (3, .int x3_45)]) hx hb dX7_ordersOf_75 hl (by decide) rfl (fun ls hl => ?_)
                  refine lv_iload hx hb dX7_ordersOf_77 (lv_at hl 0 rfl) ?_
                  obtain ⟨k_115, e_115, hF⟩ := jn_el hF
                  have J_115 : ∀ (a_orderings_115 : Nat → Int32) (ls : Array Slot) (H : Heap) (locs : List Loc), k_115 a_orderings_115 = some out → lv_has ls 5 [(0, .ref h_this), (1, .int x1), (2, .int x2_35), (3, .int x3_45)] → Wd G A s.heap [(h_this, oX7 ad_this v_pairs), ((ad_this 0), cI G 8 a_former), ((ad_this 1), cI G 8 a_latter), ((ad_this 2), cI G 16 a_orderings_115)] H locs → W p l e ({ frames := 2, cells := 0, slots := 0, locals := 44 } : Room) s m args below meth c H locs 0 0 Q (F0 m 115 ls []) := by
                    intro a_orderings_115 ls H locs hF hl hW
                    rw [e_115] at hF
                    dsimp only at hF
                    refine lv_iinc (v := (x3_45 + 1)) (lv' := [(3, .int ((x3_45 + 1))), (0, .ref h_this), (1, .int x1), (2, .int x2_35)]) hx hb dX7_ordersOf_115 hl (k := 3) rfl rfl (by decide) rfl (fun ls hl => ?_)
                    refine lv_goto (tgt := 45) hx hb dX7_ordersOf_118 (by decide) ?_
                    exact ih ((x3_45 + 1)) a_orderings_115 _ _ _ hF (lv_sub hl [1, 2, 3, 0] rfl) hW
                  refine lv_if_eq (tgt := 115) hx hb dX7_ordersOf_79 (by decide) (fun c_79 => ?_) (fun c_79 => ?_)
                  · have hF := ite_t hF c_79
                    exact J_115 a_orderings_45 _ _ _ hF (lv_sub hl [1, 2, 3, 4] rfl) hW
                  · have hF := ite_f hF c_79
                    refine lv_aload_n hx hb dX7_ordersOf_82 rfl (lv_at hl 1 rfl) ?_
                    refine va_get (D := G.1) (ci := 6) (v := .ref ((ad_this 2))) (C := RX7) (T := TX7) (N := 4) hx hb hg hu_X7 hown hc.1 hW.1 0 rfl rfl 2 (by decide) (hg _ wd_1_161) (fun _ h9 => h9) rfl dX7_ordersOf_83 ?_
                    refine lv_iload_n hx hb dX7_ordersOf_86 rfl (lv_at hl 3 rfl) ?_
                    refine lv_iconst (v := 1) hx hb dX7_ordersOf_87 (by decide) ?_
                    refine lv_iload_n hx hb dX7_ordersOf_88 rfl (lv_at hl 4 rfl) ?_
                    refine lv_ishl hx hb dX7_ordersOf_89 ?_
                    refine lv_ior hx hb dX7_ordersOf_90 ?_
                    refine lv_aload_n hx hb dX7_ordersOf_91 rfl (lv_at hl 1 rfl) ?_
                    refine va_get (D := G.1) (ci := 6) (v := .ref ((ad_this 2))) (C := RX7) (T := TX7) (N := 4) hx hb hg hu_X7 hown hc.1 hW.1 0 rfl rfl 2 (by decide) (hg _ wd_1_161) (fun _ h9 => h9) rfl dX7_ordersOf_92 ?_
                    refine lv_iload_n hx hb dX7_ordersOf_95 rfl (lv_at hl 3 rfl) ?_
                    refine lv_iconst (v := 1) hx hb dX7_ordersOf_96 (by decide) ?_
                    refine lv_iload_n hx hb dX7_ordersOf_97 rfl (lv_at hl 4 rfl) ?_
                    refine lv_ishl hx hb dX7_ordersOf_98 ?_
                    refine lv_ior hx hb dX7_ordersOf_99 ?_
                    obtain ⟨q100, c_100, hF⟩ := bd_el hF
                    refine wcI (ws' := [(h_this, oX7 ad_this v_pairs), ((ad_this 0), cI G 8 a_former), ((ad_this 1), cI G 8 a_latter), ((ad_this 2), cI G 16 a_orderings_45)]) (wc := [((ad_this 2), cI G 16 a_orderings_45)]) (wr := [(h_this, oX7 ad_this v_pairs), ((ad_this 0), cI G 8 a_former), ((ad_this 1), cI G 8 a_latter)]) (w1 := [((ad_this 2), cI G 16 a_orderings_45)]) (va_runS (As := [.ref ((ad_this 2)), .int ((x2_35 ||| ((1 : Int32) <<< (x3_45 &&& 31))))]) (rest := [.int ((x2_35 ||| ((1 : Int32) <<< (x3_45 &&& 31)))), .ref ((ad_this 2))]) ⟨hx, hb, hml, hown, hg⟩ (c_X4_at l G ((x2_35 ||| ((1 : Int32) <<< (x3_45 &&& 31)))) 16 ((ad_this 2)) a_orderings_45 q100 c_100 H.size) (va_cwS 2 hg (gS wd_3_207 wd_2_37 wd_1_14 wd_2_38) rfl rfl rfl hdS_X4_at ⟨(Nat.le_of_ble_eq_true rfl), (Nat.le_of_ble_eq_true rfl)⟩) (preS hc hW [3] rfl (by decide)) rfl rfl hl.1 rfl (lv_room (Nat.le_of_ble_eq_true rfl)) dX7_ordersOf_100 ⟨Nat.zero_le _, Nat.zero_le _⟩) hA hW [3] [0, 1, 2] [0, 1, 2, 3] rfl rfl (by decide) (by decide) rfl (by decide) (fun H locs hW => ?_)
                    refine lv_aload_n hx hb dX7_ordersOf_103 rfl (lv_at hl 1 rfl) ?_
                    refine va_get (D := G.1) (ci := 6) (v := .ref ((ad_this 2))) (C := RX7) (T := TX7) (N := 4) hx hb hg hu_X7 hown hc.1 hW.1 0 rfl rfl 2 (by decide) (hg _ wd_1_161) (fun _ h9 => h9) rfl dX7_ordersOf_104 ?_
                    refine lv_iload_n hx hb dX7_ordersOf_107 rfl (lv_at hl 3 rfl) ?_
                    obtain ⟨q108, c_108, hF⟩ := bd_el hF
                    refine wcI (ws' := [(h_this, oX7 ad_this v_pairs), ((ad_this 0), cI G 8 a_former), ((ad_this 1), cI G 8 a_latter), ((ad_this 2), cI G 16 a_orderings_45)]) (wc := [((ad_this 2), cI G 16 a_orderings_45)]) (wr := [(h_this, oX7 ad_this v_pairs), ((ad_this 0), cI G 8 a_former), ((ad_this 1), cI G 8 a_latter)]) (w1 := [((ad_this 2), cI G 16 a_orderings_45)]) (va_runS (As := [.ref ((ad_this 2)), .int x2_35]) (rest := [.int q100, .int ((x2_35 ||| ((1 : Int32) <<< (x3_45 &&& 31)))), .ref ((ad_this 2))]) ⟨hx, hb, hml, hown, hg⟩ (c_X4_at l G x2_35 16 ((ad_this 2)) a_orderings_45 q108 c_108 H.size) (va_cwS 2 hg (gS wd_3_207 wd_2_37 wd_1_14 wd_2_38) rfl rfl rfl hdS_X4_at ⟨(Nat.le_of_ble_eq_true rfl), (Nat.le_of_ble_eq_true rfl)⟩) (preS hc hW [3] rfl (by decide)) rfl rfl hl.1 rfl (lv_room (Nat.le_of_ble_eq_true rfl)) dX7_ordersOf_108 ⟨Nat.zero_le _, Nat.zero_le _⟩) hA hW [3] [0, 1, 2] [0, 1, 2, 3] rfl rfl (by decide) (by decide) rfl (by decide) (fun H locs hW => ?_)
                    refine lv_iadd hx hb dX7_ordersOf_111 ?_
                    obtain ⟨q112, c_112, hF⟩ := bd_el hF
                    refine wcV (ws' := [(h_this, oX7 ad_this v_pairs), ((ad_this 0), cI G 8 a_former), ((ad_this 1), cI G 8 a_latter), ((ad_this 2), cI G 16 q112)]) (wc := [((ad_this 2), cI G 16 a_orderings_45)]) (wr := [(h_this, oX7 ad_this v_pairs), ((ad_this 0), cI G 8 a_former), ((ad_this 1), cI G 8 a_latter)]) (w1 := [((ad_this 2), cI G 16 q112)]) (va_runS (As := [.ref ((ad_this 2)), .int ((x2_35 ||| ((1 : Int32) <<< (x3_45 &&& 31)))), .int ((q100 + q108))]) (rest := []) ⟨hx, hb, hml, hown, hg⟩ (c_X4_put l G ((x2_35 ||| ((1 : Int32) <<< (x3_45 &&& 31)))) ((q100 + q108)) 16 ((ad_this 2)) a_orderings_45 q112 c_112 H.size) (va_cwS 3 hg (gS wd_3_188 wd_2_17 wd_1_14 wd_2_18) rfl rfl rfl hdS_X4_put ⟨(Nat.le_of_ble_eq_true rfl), (Nat.le_of_ble_eq_true rfl)⟩) (preS hc hW [3] rfl (by decide)) rfl rfl hl.1 rfl (lv_room (Nat.le_of_ble_eq_true rfl)) dX7_ordersOf_112 ⟨Nat.zero_le _, Nat.zero_le _⟩) hA hW [3] [0, 1, 2] [0, 1, 2, 3] rfl rfl (by decide) (by decide) rfl (by decide) (fun H locs hW => ?_)
                    exact J_115 q112 _ _ _ hF (lv_sub hl [1, 2, 3, 4] rfl) hW
                obtain ⟨k_74, e_74, hF⟩ := jn_el hF
                have J_74 : ∀ (ls : Array Slot) (H : Heap) (locs : List Loc), k_74 = some out → lv_has ls 5 [(0, .ref h_this), (1, .int x1), (2, .int x2_35), (3, .int x3_45)] → Wd G A s.heap [(h_this, oX7 ad_this v_pairs), ((ad_this 0), cI G 8 a_former), ((ad_this 1), cI G 8 a_latter), ((ad_this 2), cI G 16 a_orderings_45)] H locs → W p l e ({ frames := 2, cells := 0, slots := 0, locals := 44 } : Room) s m args below meth c H locs 0 0 Q (F0 m 74 ls []) := by
                  intro ls H locs hF hl hW
                  rw [e_74] at hF
                  refine lv_iconst (v := 0) hx hb dX7_ordersOf_74 (by decide) ?_
                  exact J_75 0 _ _ _ hF (lv_sub hl [0, 1, 2, 3] rfl) hW
                refine lv_if_ne (tgt := 74) hx hb dX7_ordersOf_55 (by decide) (fun c_55 => ?_) (fun c_55 => ?_)
                · have hF := ite_f hF c_55
                  exact J_74 _ _ _ hF (lv_sub hl [0, 1, 2, 3] rfl) hW
                · have hF := ite_t hF c_55
                  refine lv_aload_n hx hb dX7_ordersOf_58 rfl (lv_at hl 0 rfl) ?_
                  refine lv_iload_n hx hb dX7_ordersOf_59 rfl (lv_at hl 3 rfl) ?_
                  obtain ⟨q60, c_60, hF⟩ := bd_el hF
                  refine wcI (ws' := [(h_this, oX7 ad_this v_pairs), ((ad_this 0), cI G 8 a_former), ((ad_this 1), cI G 8 a_latter), ((ad_this 2), cI G 16 a_orderings_45)]) (wc := [(h_this, oX7 ad_this v_pairs), ((ad_this 0), cI G 8 a_former), ((ad_this 1), cI G 8 a_latter)]) (wr := [((ad_this 2), cI G 16 a_orderings_45)]) (w1 := [(h_this, oX7 ad_this v_pairs), ((ad_this 0), cI G 8 a_former), ((ad_this 1), cI G 8 a_latter)]) (va_runV (As := [.int x3_45]) (rest := []) ⟨hx, hb, hml, hown, hg⟩ (c_X7_toldAheadOf l G x3_45 h_this ad_this v_pairs a_former a_latter q60 c_60 H.size) (cwV 1 hg (gV wd_3_203 wd_3_205 wd_0_22 wd_1_7 wd_3_206) rfl rfl rfl hdV_X7_toldAheadOf ⟨(Nat.le_of_ble_eq_true rfl), (Nat.le_of_ble_eq_true rfl)⟩) (preV hc hW [0, 1, 2] rfl (by decide) rfl rfl) rfl rfl hl.1 rfl (lv_room (Nat.le_of_ble_eq_true rfl)) dX7_ordersOf_60 ⟨Nat.zero_le _, Nat.zero_le _⟩) hA hW [0, 1, 2] [3] [1, 2, 3, 0] rfl rfl (by decide) (by decide) rfl (by decide) (fun H locs hW => ?_)
                  refine lv_iload_n hx hb dX7_ordersOf_63 rfl (lv_at hl 2 rfl) ?_
                  refine lv_iconst (v := (-1)) hx hb dX7_ordersOf_64 (by decide) ?_
                  refine lv_ixor hx hb dX7_ordersOf_65 ?_
                  refine lv_iand hx hb dX7_ordersOf_66 ?_
                  refine lv_if_ne (tgt := 74) hx hb dX7_ordersOf_67 (by decide) (fun c_67 => ?_) (fun c_67 => ?_)
                  · have hF := ite_f hF c_67
                    exact J_74 _ _ _ hF (lv_sub hl [0, 1, 2, 3] rfl) hW
                  · have hF := ite_t hF c_67
                    refine lv_iconst (v := 1) hx hb dX7_ordersOf_70 (by decide) ?_
                    refine lv_goto (tgt := 75) hx hb dX7_ordersOf_71 (by decide) ?_
                    exact J_75 1 _ _ _ hF (lv_sub hl [0, 1, 2, 3] rfl) hW
          exact L_45 5000 0 a_orderings_35 _ _ _ hF (lv_sub hl [1, 2, 3, 0] rfl) hW
    exact L_35 5000 0 a_orderings_33 _ _ _ hF (lv_sub hl [1, 2, 0] rfl) hW
  have L_2 : ∀ (n : Nat) (x2_2 : Int32) (a_orderings_2 : Nat → Int32) (ls : Array Slot) (H : Heap) (locs : List Loc), L_X7_ordersOf_2 x1 k_33 n x2_2 a_orderings_2 = some out → lv_has ls 5 [(0, .ref h_this), (1, .int x1), (2, .int x2_2)] → Wd G A s.heap [(h_this, oX7 ad_this v_pairs), ((ad_this 0), cI G 8 a_former), ((ad_this 1), cI G 8 a_latter), ((ad_this 2), cI G 16 a_orderings_2)] H locs → W p l e ({ frames := 2, cells := 0, slots := 0, locals := 44 } : Room) s m args below meth c H locs 0 0 Q (F0 m 2 ls []) := by
    intro n
    induction n with
    | zero => intro x2_2 a_orderings_2 ls H locs hF hl hW; have h0 : none = some out := hF; cases h0
    | succ n ih =>
      intro x2_2 a_orderings_2 ls H locs hF hl hW
      rw [L_X7_ordersOf_2] at hF
      refine lv_iload_n hx hb dX7_ordersOf_2 rfl (lv_at hl 2 rfl) ?_
      refine lv_iload_n hx hb dX7_ordersOf_3 rfl (lv_at hl 1 rfl) ?_
      obtain ⟨q4, c_4, hF⟩ := bd_el hF
      refine wcI (ws' := [(h_this, oX7 ad_this v_pairs), ((ad_this 0), cI G 8 a_former), ((ad_this 1), cI G 8 a_latter), ((ad_this 2), cI G 16 a_orderings_2)]) (wc := []) (wr := [(h_this, oX7 ad_this v_pairs), ((ad_this 0), cI G 8 a_former), ((ad_this 1), cI G 8 a_latter), ((ad_this 2), cI G 16 a_orderings_2)]) (w1 := []) (va_runSN (As := [.int x1]) (rest := [.int x2_2]) ⟨hx, hb, hml, hown, hg⟩ (c_X9_setsOf l G x1 q4 c_4 H.size) ⟨va_cnB 1 hg (gN wd_2_171) rfl rfl rfl (hc.2 (RX7, 39, yX9_setsOf) (by decide +kernel)) (hg _ wd_1_1) hdS_X9_setsOf ⟨(Nat.le_of_ble_eq_true rfl), (Nat.le_of_ble_eq_true rfl)⟩, (hg _ wd_2_170), trivial⟩ (preS hc hW [] rfl (by decide)) rfl rfl hl.1 rfl (lv_room (Nat.le_of_ble_eq_true rfl)) dX7_ordersOf_4 ⟨Nat.zero_le _, Nat.zero_le _⟩) hA hW [] [0, 1, 2, 3] [0, 1, 2, 3] rfl rfl (by decide) (by decide) rfl (by decide) (fun H locs hW => ?_)
      refine lv_icmp_ge (tgt := 33) hx hb dX7_ordersOf_7 (by decide) (fun c_7 => ?_) (fun c_7 => ?_)
      · have hF := ite_t hF c_7
        exact J_33 a_orderings_2 _ _ _ hF (lv_sub hl [0, 1] rfl) hW
      · have hF := ite_f hF c_7
        refine lv_aload_n hx hb dX7_ordersOf_10 rfl (lv_at hl 0 rfl) ?_
        refine va_get (D := G.1) (ci := 6) (v := .ref ((ad_this 2))) (C := RX7) (T := TX7) (N := 4) hx hb hg hu_X7 hown hc.1 hW.1 0 rfl rfl 2 (by decide) (hg _ wd_1_161) (fun _ h9 => h9) rfl dX7_ordersOf_11 ?_
        refine lv_iload_n hx hb dX7_ordersOf_14 rfl (lv_at hl 2 rfl) ?_
        refine lv_iload_n hx hb dX7_ordersOf_15 rfl (lv_at hl 2 rfl) ?_
        obtain ⟨k_24, e_24, hF⟩ := jn_el hF
        have J_24 : ∀ (j0_24 : Int32) (ls : Array Slot) (H : Heap) (locs : List Loc), k_24 j0_24 = some out → lv_has ls 5 [(0, .ref h_this), (1, .int x1), (2, .int x2_2)] → Wd G A s.heap [(h_this, oX7 ad_this v_pairs), ((ad_this 0), cI G 8 a_former), ((ad_this 1), cI G 8 a_latter), ((ad_this 2), cI G 16 a_orderings_2)] H locs → W p l e ({ frames := 2, cells := 0, slots := 0, locals := 44 } : Room) s m args below meth c H locs 0 0 Q (F0 m 24 ls [.int j0_24, .int x2_2, .ref ((ad_this 2))]) := by
          intro j0_24 ls H locs hF hl hW
          rw [e_24] at hF
          dsimp only at hF
          obtain ⟨q24, c_24, hF⟩ := bd_el hF
          refine wcV (ws' := [(h_this, oX7 ad_this v_pairs), ((ad_this 0), cI G 8 a_former), ((ad_this 1), cI G 8 a_latter), ((ad_this 2), cI G 16 q24)]) (wc := [((ad_this 2), cI G 16 a_orderings_2)]) (wr := [(h_this, oX7 ad_this v_pairs), ((ad_this 0), cI G 8 a_former), ((ad_this 1), cI G 8 a_latter)]) (w1 := [((ad_this 2), cI G 16 q24)]) (va_runS (As := [.ref ((ad_this 2)), .int x2_2, .int j0_24]) (rest := []) ⟨hx, hb, hml, hown, hg⟩ (c_X4_put l G x2_2 j0_24 16 ((ad_this 2)) a_orderings_2 q24 c_24 H.size) (va_cwS 3 hg (gS wd_3_188 wd_2_17 wd_1_14 wd_2_18) rfl rfl rfl hdS_X4_put ⟨(Nat.le_of_ble_eq_true rfl), (Nat.le_of_ble_eq_true rfl)⟩) (preS hc hW [3] rfl (by decide)) rfl rfl hl.1 rfl (lv_room (Nat.le_of_ble_eq_true rfl)) dX7_ordersOf_24 ⟨Nat.zero_le _, Nat.zero_le _⟩) hA hW [3] [0, 1, 2] [0, 1, 2, 3] rfl rfl (by decide) (by decide) rfl (by decide) (fun H locs hW => ?_)
          refine lv_iinc (v := (x2_2 + 1)) (lv' := [(2, .int ((x2_2 + 1))), (0, .ref h_this), (1, .int x1)]) hx hb dX7_ordersOf_27 hl (k := 2) rfl rfl (by decide) rfl (fun ls hl => ?_)
          refine lv_goto (tgt := 2) hx hb dX7_ordersOf_30 (by decide) ?_
          exact ih ((x2_2 + 1)) q24 _ _ _ hF (lv_sub hl [1, 2, 0] rfl) hW
        refine lv_if_ne (tgt := 23) hx hb dX7_ordersOf_16 (by decide) (fun c_16 => ?_) (fun c_16 => ?_)
        · have hF := ite_f hF c_16
          refine lv_iconst (v := 0) hx hb dX7_ordersOf_23 (by decide) ?_
          exact J_24 0 _ _ _ hF (lv_sub hl [0, 1, 2] rfl) hW
        · have hF := ite_t hF c_16
          refine lv_iconst (v := 1) hx hb dX7_ordersOf_19 (by decide) ?_
          refine lv_goto (tgt := 24) hx hb dX7_ordersOf_20 (by decide) ?_
          exact J_24 1 _ _ _ hF (lv_sub hl [0, 1, 2] rfl) hW
  exact L_2 5000 0 a_orderings _ _ _ hF (lv_sub hl [1, 2, 0] rfl) hW
end
